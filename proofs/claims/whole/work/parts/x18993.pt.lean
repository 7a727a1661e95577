/-! THE CATCHING CALL; ALL INSTRUCTIONS APART -/
section PT
variable {p : Program} {l : Launch} {e : Env} {R : Room} {s : State} {m : MethodId} {args : Array Value} {below : List Frame} {meth : Method} {c : Code} {H : Heap} {locs : List Loc} {cells slots : Nat} {Q : State → Prop}
variable {cc : ByteArray} {o pc pc1 : Nat} {D : va_G} {ty : Nat → ClassId} {ad : Nat → Nat} {A : Nat → Prop} {ls : Array Slot} {E : xE}
set_option maxHeartbeats 4000000 in
theorem s_op66 {pr : Bool} {a : List Nat} {pcs : List Nat} {init : Bool} {ret : Option FieldType} {st st' : List Value} {M M' : xM} (hst : l.stackTraces = false) (hck : ∀ r ∈ xRT, xok r = true) (hE2 : E.2 = xTX) (X : xCtx p s m args c cc o D ty) (hml : c.maxLocals = ls.size) (hE : xEV E ad A s s.heap) (hrel : xrelO cc pcs o init ret pc pc1 66 a = true) (hp : xhO pr 66 a E st M = some (st', M'))
    (hW : xAt D ty ad A M s.heap H locs) (hA : ∀ q, s.heap.size ≤ q → A q) (hok : xokS1 (mS M).length st) (hwt : xwt st ≤ 9) (hF : 40 ≤ R.frames) (hLo : 2000 ≤ R.locals) (hRc : cells + xcs M' ≤ R.cells + xcs M) (hRs : slots + xss M' ≤ R.slots + xss M)
    (k : xCont p l e R s m args below meth c cells slots Q D ty ad A ls pc1 M st' M') : W p l e R s m args below meth c H locs cells slots Q (F0 m pc ls (st.map (xval ad))) := by
  generalize hop : 66 = op at hrel hp
  unfold xhO at hp
  split at hp
  case h_18 =>
    rename_i ox p3 p2 p1 p0 cx r F I G J P Q0 S
    split at hp
    · rename_i hi
      obtain ⟨hpr, hcx, hox, hg0, hg9⟩ := hi
      simp only [xrelO, Bool.and_eq_true, decide_eq_true_eq] at hrel
      obtain ⟨ho, hdx⟩ := hrel
      subst ho
      obtain ⟨hd, rfl⟩ := xdec_spec hdx
      have hM' : ∃ J', M' = (xu F 999 0 (F 999 0 + 1), I, G, J', P, Q0, S) ∧ st' = .int (rlV (xrests p0 p1 p2 p3)) :: r ∧ rlM F I G J P Q0 S ox (xrests p0 p1 p2 p3) = (F, I, G, J', P, Q0, S) := by
        cases hz : xrests p0 p1 p2 p3 with
        | none =>
          rw [hz] at hp
          cases hp
          exact ⟨J, rfl, rfl, rfl⟩
        | some v =>
          rw [hz] at hp
          cases hp
          exact ⟨xv J ox 0 v.toInt64, rfl, rfl, rfl⟩
      obtain ⟨J', rfl, rfl, hJ⟩ := hM'
      have hM := rl_met (l := l) (D := D) (ty := ty) (ad := ad) (E := E) (cx := cx) (ox := ox) (p0 := p0) (p1 := p1) (p2 := p2) (p3 := p3) hst hE2 hck H.size hW.2.2.2 hcx hox
      rw [hJ] at hM
      have hgh : (F 999 0 + 1).toNatClampNeg = (F 999 0).toNatClampNeg + 1 := by
        obtain ⟨j, hj, e1⟩ := nI_of (x := F 999 0) (by grind)
        rw [e1] at hg9 ⊢
        have h2 : j < 900 := (nI_ltI (b := 900) hj (by omega)).mp hg9
        rw [nI_1, nI_clamp hj, nI_clamp (by omega)]
      have hxg : xgh (xu F 999 0 (F 999 0 + 1), I, G, J', P, Q0, S) = (F 999 0).toNatClampNeg + 1 := by
        show (xu F 999 0 (F 999 0 + 1) 999 0).toNatClampNeg = _
        unfold xu
        rw [if_pos ⟨rfl, rfl⟩]
        exact hgh
      have hc1 : xcs (xu F 999 0 (F 999 0 + 1), I, G, J', P, Q0, S) = xcs (F, I, G, J, P, Q0, S) + 4 := by
        unfold xcs
        rw [hxg]
        show S.length + 4 * ((F 999 0).toNatClampNeg + 1) = S.length + 4 * (F 999 0).toNatClampNeg + 4
        omega
      have hs1 : xss (xu F 999 0 (F 999 0 + 1), I, G, J', P, Q0, S) = xss (F, I, G, J, P, Q0, S) + 64 := by
        unfold xss
        rw [hxg]
        show xsz S + 64 * ((F 999 0).toNatClampNeg + 1) = xsz S + 64 * (F 999 0).toNatClampNeg + 64
        omega
      rw [hc1] at hRc
      rw [hs1] at hRs
      have hwr : xwt r ≤ 3 := by
        have e6 : xwt (.ref ox :: .int p3 :: .int p2 :: .int p1 :: .int p0 :: .ref cx :: r) = 1 + (1 + (1 + (1 + (1 + (1 + xwt r))))) := rfl
        omega
      have hokr : xokS1 S.length r := fun v hv => hok v (List.mem_cons_of_mem _ (List.mem_cons_of_mem _ (List.mem_cons_of_mem _ (List.mem_cons_of_mem _ (List.mem_cons_of_mem _ (List.mem_cons_of_mem _ hv))))))
      have hts := X.2.2.2.1
      have hG : GoodIn xGW (va_wsS (xRn 15) 168 yL_rests (.codeWith yL_rests cL_rests 7 (some .int) rlH :: xGW)) := by
        intro w hw
        unfold va_wsS at hw
        rcases List.mem_append.mp hw with h | h
        · have h1 : w = .methodLink (xRn 15) 168 yL_rests ∨ w = .static yL_rests ∨ w = .initialized yL_rests.cls := by simpa using h
          rcases h1 with rfl | rfl | rfl
          · exact ⟨xGW_in (by decide +kernel) rfl, good_of_word rfl⟩
          · exact ⟨xGW_in (by decide +kernel) rfl, good_of_word rfl⟩
          · exact ⟨xGW_in (by decide +kernel) rfl, good_of_word rfl⟩
        · rcases List.mem_cons.mp h with rfl | h
          · exact ⟨xGW_in (by decide +kernel) rfl, good_of_word rfl⟩
          · exact ⟨h, good_of_word (List.mem_filter.mp h).2⟩
      have cw := vx_cwSW (R := R) (own := xRn 15) (index := 168) (y := yL_rests) (bytes := cL_rests) (maxL := 7) (ret := some .int) (hh := rlH) (ws := .codeWith yL_rests cL_rests 7 (some .int) rlH :: xGW) (rm := rlRoom) (mc := 4) (ms := 64) 6 hts hG rfl rfl rfl ⟨by decide, by decide, by decide +kernel⟩ ⟨by show 30 + 1 ≤ R.frames; omega, by show 8 + (7 + 11) + 1200 ≤ R.locals; omega⟩
      have hpre := xPre (as := [.ref cx, .int p0, .int p1, .int p2, .int p3, .ref ox]) X hE hW
      have hrun := vx_runSW (e := e) (R := R) (below := below) (meth := meth) (locs := locs) (cells := cells) (slots := slots) (As := ([.ref cx, .int p0, .int p1, .int p2, .int p3, .ref ox] : List Value).map (xval ad)) (rest := r.map (xval ad)) (g := F0 m pc ls ((.ref ox :: .int p3 :: .int p2 :: .int p1 :: .int p0 :: .ref cx :: r).map (xval ad))) ⟨X.1, X.2.1, hml, X.2.2.1, hts⟩ hM cw ⟨xPc_blind, hpre⟩ rfl rfl rfl rfl (by rw [xwt_map]; show 2 * 0 + _ ≤ 8; omega) hd ⟨by omega, by omega⟩
      refine s_callgo hrun hW hA (fun H1 locs1 ad' hW1 hag hokv => ?_)
      have hlen : S.length ≤ 950 := hW.2.2.2.1
      have hW2 : xAt D ty ad' A (xu F 999 0 (F 999 0 + 1), I, G, J', P, Q0, S) s.heap H1 locs1 := by
        have ew := xwld_F (ty := ty) (ad := ad') (F := F) (F' := xu F 999 0 (F 999 0 + 1)) (I := I) (G := G) (J := J') (P := P) (Q0 := Q0) (S := S) (fun c hc => xu_other (by omega))
        obtain ⟨q1, q2, q3, q4⟩ := hW1
        exact ⟨by rw [ew]; exact q1, by rw [ew]; exact q2, q3, q4⟩
      have hk := k H1 locs1 ad' (cells + 4) (slots + 64) hW2 hag (by rw [hc1]; omega) (by rw [hs1]; omega) ⟨[], by show S = S ++ []; rw [List.append_nil]⟩ (fun v hv => by
        rcases List.mem_cons.mp hv with rfl | h
        · exact xok1_int
        · exact hokr v h)
      have e3 : (Value.int (rlV (xrests p0 p1 p2 p3)) :: r).map (xval ad') = .int (rlV (xrests p0 p1 p2 p3)) :: r.map (xval ad) := by
        rw [List.map_cons, xvals_ag hag hokr]
        rfl
      rw [e3] at hk
      exact hk
    · cases hp
  all_goals (try (cases hop; done))
  all_goals (cases hp)
end PT
theorem xPrim_T (l : Launch) (hst : l.stackTraces = false) (hck : ∀ r ∈ xRT, xok r = true) : xPrim l true := by
  intro p e R s m args below meth c H locs cells slots Q cc o pc pc1 D ty ad A ls E op a pcs init ret st st' M M' hap hE2 X hml hE hrel hp hW hA hok hwt hF hLo hc hs hRc hRs k
  have hF : 40 ≤ R.frames := hF
  have hLo : 2000 ≤ R.locals := hLo
  unfold xapart at hap
  rcases hap with rfl | rfl | rfl | rfl | rfl
  · exact s_ops (Or.inl rfl) X hml hE hrel hp hW hok hwt (by omega) (by omega) hc hs k
  · exact s_ops (Or.inr (Or.inl rfl)) X hml hE hrel hp hW hok hwt (by omega) (by omega) hc hs k
  · exact s_ops (Or.inr (Or.inr rfl)) X hml hE hrel hp hW hok hwt (by omega) (by omega) hc hs k
  · exact s_op66 hst hck hE2 X hml hE hrel hp hW hA hok (by omega) hF hLo hRc hRs k
  · exact s_op53 X hE hrel hp hW hA hok hRc hRs k
theorem flags_st {l : Launch} (h : l.flags = flags0) : l.stackTraces = false := by
  unfold Launch.stackTraces
  rw [h]
  decide
