/-! RESTS OF THE LAW: it catches -/
def rlM (F : Nat → Nat → Int32) (I : Nat → Int32 → Int32) (G : Nat → Nat → Int64) (J : Nat → Int32 → Int64) (P : Nat → Nat → Option Nat) (Q : Nat → Int32 → Option Nat) (S : List (Nat × Int32)) (o : Nat) (z : Option Int32) : xM := match z with
  | none => (F, I, G, J, P, Q, S)
  | some v => (F, I, G, xv J o 0 v.toInt64, P, Q, S)
def rlV (z : Option Int32) : Int32 := match z with
  | none => 1
  | some _ => 0
def rlRoom : Room := { frames := 30, cells := 4, slots := 64, locals := 1200 }
def rlH : List (Nat × Nat × Nat × Nat) := [(0, 14, 17, 13)]
def rlE : ExceptionTableEntry := ⟨0, 14, 17, 13⟩
section RL1
variable {p : Program} {l : Launch} {e : Env} {R : Room} {s : State} {m : MethodId} {args : Array Value} {below : List Frame} {meth : Method} {c : Code} {H : Heap} {locs : List Loc} {cells slots : Nat} {Q : State → Prop}
variable {cc : ByteArray} {o pc pc1 nL : Nat} {D : va_G} {ty : Nat → ClassId} {ad ad' : Nat → Nat} {A : Nat → Prop} {ls : Array Slot} {E : xE} {M M1 : xM} {p0 p1 p2 p3 : Int32}
theorem xAt_back {t T' st₀ : State} {L : List Loc} (h0 : st₀.heap = H) (e1 : T'.heap = t.heap) (hW : xAt D ty ad A M s.heap H locs) (hA : ∀ q, s.heap.size ≤ q → A q) (hP1 : va_P D vwCl (xwld ty ad' M1) t.heap) (hD1 : va_D (va_A (xwld ty ad M) H.size) (xwld ty ad' M1)) (hwf1 : xwf M1) (hF : va_F (va_A (xwld ty ad M) H.size) st₀ t) (hL : ∀ q ∈ L, va_A (xwld ty ad M) H.size q.base) : xAt D ty ad' A M1 s.heap T'.heap (locs ++ L) := by
  obtain ⟨hP, hD, hS, hwf⟩ := hW
  obtain ⟨hz, hk⟩ := hF
  rw [h0] at hz hk
  have hAA : ∀ q, va_A (xwld ty ad M) H.size q → A q := by
    intro q hq
    rcases hq with ⟨k, e0, h⟩ | h
    · exact hD.2 k _ h
    · exact hA q (Nat.le_trans hS.1 h)
  exact ⟨by rw [e1]; exact hP1, hD1.weaken (fun k q _ h => hAA q.1 h), ⟨Nat.le_trans hS.1 (by rw [e1]; exact hz), fun q h1 h2 => by rw [e1, hk q (Nat.lt_of_lt_of_le h1 hS.1) (fun z => h2 (hAA q z))]; exact hS.2.1 q h1 h2, fun q hq => by
    rcases List.mem_append.mp hq with h | h
    · exact hS.2.2 q h
    · exact hAA _ (hL q h)⟩, hwf1⟩
theorem s_callgoX {mc ms : Nat} {arr : Array Value} {st0 rest : List Value} (hr : vx_Run p l e R s m args below meth c H locs cells slots mc ms (F0 m pc ls st0) rest (rsQc D ty ad M H.size p0 p1 p2 p3 arr) (rsXc D ty ad M H.size p0 p1 p2 p3) (va_A (xwld ty ad M) H.size)) (hW : xAt D ty ad A M s.heap H locs) (hA : ∀ q, s.heap.size ≤ q → A q)
    (kk : ∀ (v : Int32) (H1 : Heap) (locs1 : List Loc) (ad' : Nat → Nat), xrests p0 p1 p2 p3 = some v → xAt D ty ad' A M s.heap H1 locs1 → xagree (mS M).length ad ad' → W p l e R s m args below meth c H1 locs1 (cells + mc) (slots + ms) Q (F0 m (pc + 3) ls (.int v :: rest)))
    (kx : ∀ (q : Nat) (ce : Cell) (H1 : Heap) (locs1 : List Loc) (ad' : Nat → Nat), xrests p0 p1 p2 p3 = none → xAt D ty ad' A M s.heap H1 locs1 → xagree (mS M).length ad ad' → H1[q]? = some ce → ce.vm = .none → s.vm.findClass rsNS = some ce.cls → vx_W p l e R s m args below meth c H1 locs1 (cells + mc) (slots + ms) Q (F0 m pc ls rest) q) : W p l e R s m args below meth c H locs cells slots Q (F0 m pc ls st0) := by
  intro T hT X
  rcases hr T hT X with ⟨v, st₀, t, T', L, h0, X', hL, e1, e2, ⟨v1, hn, ⟨⟨ad', hv, hag, hP1, hD1, hwf1, hokv⟩, hF⟩⟩, st⟩ | ⟨q, st₀, t, T', L, E9, ce, h0, X', hL, e1, e2, ⟨hE9, hn, ⟨⟨ad', hv, hag, hP1, hD1, hwf1, hokv⟩, hF⟩⟩, hce, hcv, hcl, st⟩
  · cases hv
    obtain ⟨t2, a1, b1⟩ := kk v1 T'.heap (locs ++ L) ad' hn (xAt_back h0 e1 hW hA hP1 hD1 hwf1 hF hL) hag T' rfl X'
    exact ⟨t2, st t2 a1, b1⟩
  · subst hE9
    obtain ⟨t2, a1, b1⟩ := kx q ce T'.heap (locs ++ L) ad' hn (xAt_back h0 e1 hW hA hP1 hD1 hwf1 hF hL) hag (by rw [e1]; exact hce) hcv hcl T' rfl X'
    exact ⟨t2, st.trans a1, b1⟩
set_option maxHeartbeats 4000000 in
theorem rl_met {cx ox : Nat} {F : Nat → Nat → Int32} {I : Nat → Int32 → Int32} {G : Nat → Nat → Int64} {J : Nat → Int32 → Int64} {P : Nat → Nat → Option Nat} {Q0 : Nat → Int32 → Option Nat} {S : List (Nat × Int32)} (hst : l.stackTraces = false) (hE2 : E.2 = xTX) (hck : ∀ r ∈ xRT, xok r = true) (sz : Nat) (hwf : xwf (F, I, G, J, P, Q0, S)) (hcx : xis S cx 21 = true) (hox : xin S ox 1 0 = true) :
    Met l yL_rests (.codeWith yL_rests cL_rests 7 (some .int) rlH :: xGW) rlRoom (xPc D ty ad E (F, I, G, J, P, Q0, S) sz [.ref cx, .int p0, .int p1, .int p2, .int p3, .ref ox]) (xQc D ty ad (F, I, G, J, P, Q0, S) (rlM F I G J P Q0 S ox (xrests p0 p1 p2 p3)) sz (some (.int (rlV (xrests p0 p1 p2 p3))))) 4 64 (va_A (xwld ty ad (F, I, G, J, P, Q0, S)) sz) := by
  refine va_MetW (cc := cL_rests) (maxL := 7) (ret := some .int) (hh := rlH) (by decide +kernel) rfl ?_
  intro p e s m argz below meth c s₁ B hml hv
  obtain ⟨rfl, hsz, hP, hK, hD0, hEV⟩ := hv
  have hts0 := atoms_spec (ws := .codeWith yL_rests cL_rests 7 (some .int) rlH :: xGW) B.pre
  have hts : ∀ w ∈ xGW, w.before _ s = true := fun w hw => hts0 w (List.mem_cons_of_mem _ hw)
  have htab := vx_table (x := yL_rests) B (hts0 _ List.mem_cons_self)
  have hown : s.vm.findClass (xRn 15) = some m.cls := findClass_of_methodNamed B.named
  have hlocks := B.notSynchronized
  have hret := B.returns
  subst hsz
  have hD := hD0.self (sz := s.heap.size)
  generalize harg : (([.ref cx, .int p0, .int p1, .int p2, .int p3, .ref ox] : List Value).map (xval ad)) = av at *
  have hX : xCtx p s m av.toArray c cL_rests 15 D ty := ⟨B.exec, B.bytes, hown, hts, hK⟩
  have hA : ∀ q : Nat, s.heap.size ≤ q → va_A (xwld ty ad (F, I, G, J, P, Q0, S)) s.heap.size q := fun q h => Or.inr h
  have hl0 := lv_entry av (n := 7) (by rw [← harg]; exact Nat.le_of_ble_eq_true rfl)
  rw [lg_entry_eq]
  generalize (lg_sl av ++ List.replicate (7 - (lg_sl av).length) Slot.unset).toArray = ls at hl0 ⊢
  have hl0 : lv_has ls 7 [(0, .ref (ad cx)), (1, .int p0), (2, .int p1), (3, .int p2), (4, .int p3), (5, .ref (ad ox))] := by rw [← harg] at hl0; exact hl0
  have hx := B.exec
  have hb := B.bytes
  have hW0 : xAt D ty ad (va_A (xwld ty ad (F, I, G, J, P, Q0, S)) s.heap.size) (F, I, G, J, P, Q0, S) s.heap s.heap [] := ⟨hP, hD, va_S.rf, hwf⟩
  obtain ⟨nn, hnn⟩ := xis_spec hcx
  obtain ⟨no, hno, -, -⟩ := xin_spec hox
  have hoxl : ox < S.length := (List.getElem?_eq_some_iff.mp hno).1
  have hat := xwld_at (ty := ty) (ad := ad) (M := (F, I, G, J, P, Q0, S)) hnn
  rw [show (21, nn) = (10 + 11, nn) from rfl, xcell_obj] at hat
  have hrecv := va_recv hK hW0.1 (xcl_at (ci := 11) (by decide)) hat
  have cw := callB_of (R := rlRoom) (own := xRn 15) (index := 7) 4 hts (j_good (y := yX11_rests) (b := cX11_rests) (n := 7) (ret := some .int) (by decide +kernel)) (ws := .code yX11_rests cX11_rests 7 (some .int) :: xGW) (rm := rsRoom) (mc := 1) (ms := 6) rfl rfl rfl (hts _ (xGW_in (w := .initialized yX11_rests.cls) (by decide +kernel) rfl)) (hts _ (xGW_in (w := .methodLink (xRn 15) 7 yX11_rests) (by decide +kernel) rfl)) ⟨by decide, by decide, by decide +kernel⟩ ⟨by decide, by decide⟩
  have hM := rs_met (l := l) (D := D) (ty := ty) (ad0 := ad) (E := E) (cx := cx) (p0 := p0) (p1 := p1) (p2 := p2) (p3 := p3) hst hE2 hck s.heap.size hwf
  have hpre := xPre (as := [.ref cx, .int p0, .int p1, .int p2, .int p3]) hX hEV hW0
  refine lv_aload hx hb dL_rests_0 (lv_at hl0 5 rfl) ?_
  refine lv_iconst hx hb (v := 0) dL_rests_2 rfl ?_
  refine lv_aload_n hx hb dL_rests_3 rfl (lv_at hl0 0 rfl) ?_
  refine lv_iload_n hx hb dL_rests_4 rfl (lv_at hl0 1 rfl) ?_
  refine lv_iload_n hx hb dL_rests_5 rfl (lv_at hl0 2 rfl) ?_
  refine lv_iload_n hx hb dL_rests_6 rfl (lv_at hl0 3 rfl) ?_
  refine lv_iload hx hb dL_rests_7 (lv_at hl0 4 rfl) ?_
  have hrun := vx_runV (e := e) (R := rlRoom) (below := below) (meth := meth) (locs := []) (cells := 0) (slots := 0) (C := RX11) (b := ad cx) (As := [.int p0, .int p1, .int p2, .int p3]) (rest := [.int 0, .ref (ad ox)]) (g := F0 m 9 ls [.int p3, .int p2, .int p1, .int p0, .ref (ad cx), .int 0, .ref (ad ox)]) ⟨hx, hb, hml, hown, hts⟩ hM ⟨cw, hts _ (xGW_in (w := .instanceMethod yX11_rests) (by decide +kernel) rfl), hts _ (xGW_in (w := .selects RX11 yX11_rests yX11_rests) (by decide +kernel) rfl)⟩ ⟨xPc_blind, hrecv, hpre⟩ rfl rfl hl0.1 rfl (by show 2 * 0 + (1 + (1 + 0)) ≤ 8; decide) dL_rests_9 ⟨by decide, by decide⟩
  refine s_callgoX hrun hW0 hA (fun v H1 locs1 ad1 hn hW1 hag => ?_) (fun q ce H1 locs1 ad1 hn hW1 hag hce hcv hcl => ?_)
  · rw [hn]
    have eo : ad ox = ad1 ox := (hag ox (Or.inl hoxl)).symm
    refine lv_i2l hx hb (v := v.toInt64) dL_rests_12 rfl ?_
    have hp : xhI .lastore E [.long v.toInt64, .int 0, .ref ox] (F, I, G, J, P, Q0, S) = some ([], (F, I, G, xv J ox 0 v.toInt64, P, Q0, S)) := by
      show (if xin S ox 1 0 then _ else _) = _
      rw [if_pos hox]
    have key := s_hI (p := p) (l := l) (e := e) (R := rlRoom) (below := below) (meth := meth) (cells := 0 + 1) (slots := 0 + 6) (Q := MQ below (xQc D ty ad (F, I, G, J, P, Q0, S) (rlM F I G J P Q0 S ox (some v)) s.heap.size (some (.int (rlV (some v))))) av.toArray s 4 64 (va_A (xwld ty ad (F, I, G, J, P, Q0, S)) s.heap.size)) (ls := ls) (pc := 13) (pc1 := 14) hX (xEV_ag hag hEV).1.1 (ins := .lastore) (by decide +kernel) hp hW1 (fun w hw => by
        simp at hw
        rcases hw with rfl | rfl | rfl
        · exact xok1_long
        · exact xok1_int
        · intro j hj
          cases hj
          exact Or.inl hoxl) (fun H2 locs2 hW2 _ _ => by
        refine lv_goto hx hb (tgt := 21) dL_rests_14 (by decide) ?_
        refine lv_iconst hx hb (v := 0) dL_rests_21 rfl ?_
        refine W.widen (k := 4) (n := 64) (by decide) (by decide) ?_
        exact W.iret hx hb hret (fun t ht _ => ⟨⟨ad1, rfl, hag, by rw [ht]; exact hW2.1, hW2.2.1, hW2.2.2.2, fun w hw => by cases hw; exact xok1_int⟩, hW2.2.2.1.F ht⟩) hW2.2.2.1.2.2 dL_rests_22 hlocks)
    rw [eo]
    exact key
  · rw [hn]
    have hz := hEV.1.2.2
    refine vx_catch (own := xRn 15) (name := rsNS) hown [] rlE [] htab (fun z hz => by cases hz) (by decide) (by decide) (hts _ (xGW_in (w := .classLink (xRn 15) 13 rsNS) (by decide +kernel) rfl)) (va_tabs (xTl_on (.castable rsNS rsNS) (by decide +kernel)) rfl (hz.2.2.2.2.2.2.2 (.castable rsNS rsNS) (by decide +kernel))) hce hcv hcl ?_
    refine lv_astore hx hb dL_rests_17 hl0 (by decide) rfl (fun ls hl => ?_)
    refine lv_iconst hx hb (v := 1) dL_rests_19 rfl ?_
    refine W.widen (k := 4) (n := 64) (by decide) (by decide) ?_
    exact W.iret hx hb hret (fun t ht _ => ⟨⟨ad1, rfl, hag, by rw [ht]; exact hW1.1, hW1.2.1, hW1.2.2.2, fun w hw => by cases hw; exact xok1_int⟩, hW1.2.2.1.F ht⟩) hW1.2.2.1.2.2 dL_rests_20 hlocks
theorem xwld_F {F F' : Nat → Nat → Int32} {I : Nat → Int32 → Int32} {G : Nat → Nat → Int64} {J : Nat → Int32 → Int64} {P : Nat → Nat → Option Nat} {Q0 : Nat → Int32 → Option Nat} {S : List (Nat × Int32)} (h : ∀ c, c < S.length → F' c = F c) : xwld ty ad (F', I, G, J, P, Q0, S) = xwld ty ad (F, I, G, J, P, Q0, S) := by
  apply List.ext_getElem?
  intro b
  rw [xwld_get, xwld_get]
  show (S[b]?).map _ = (S[b]?).map _
  cases hh : S[b]? with
  | none => rfl
  | some sh =>
    have hb : b < S.length := (List.getElem?_eq_some_iff.mp hh).1
    simp only [Option.map_some]
    exact congrArg (fun z => some (ad b, z)) (xcell_objF (h b hb) rfl rfl)
end RL1
