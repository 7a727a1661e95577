/-! RESTS OF THE CLASS, AT THE MACHINE: it returns, or throws -/
def rsNS : String := "java/util/NoSuchElementException"
abbrev rsN1 : String := "java/lang/RuntimeException"
abbrev rsN2 : String := "java/lang/Exception"
abbrev rsNm : List String := [rsN1, rsN2]
def rsQc (D : va_G) (ty : Nat → ClassId) (ad : Nat → Nat) (M : xM) (sz : Nat) (p0 p1 p2 p3 : Int32) : Array Value → State → Outcome → State → Prop := fun a st o t => ∃ v, xrests p0 p1 p2 p3 = some v ∧ xQc D ty ad M M sz (some (.int v)) a st o t
def rsXc (D : va_G) (ty : Nat → ClassId) (ad : Nat → Nat) (M : xM) (sz : Nat) (p0 p1 p2 p3 : Int32) : String → State → State → Prop := fun E st t => E = rsNS ∧ xrests p0 p1 p2 p3 = none ∧ xQc D ty ad M M sz none #[] st (.returned none) t
def rsRoom : Room := { frames := 20, cells := 1, slots := 6, locals := 700 }
def rsRx : ByteArray := prog_30_method_4_code
abbrev rsAt : List Cond := rqAt RX11 286 rsNS 13 rsRx rsNm
theorem rs_x0 : decode rsRx 0 = .ok (.aload_n 0, 1) := by decide +kernel
theorem rs_x1 : decode rsRx 1 = .ok (.aload_n 1, 1) := by decide +kernel
theorem rs_x2 : decode rsRx 2 = .ok (.invokespecial 13, 3) := by decide +kernel
theorem rs_x5 : decode rsRx 5 = .ok (.return_, 1) := by decide +kernel
theorem rs_good : ∀ w ∈ Cond.classLink RX11 282 rsNS :: Cond.initialized rsNS :: rsAt, vx_ot w = true := by decide +kernel
theorem rs_at1 : ∀ w ∈ rsAt.filter goodWord, w ∈ lw_tbl := by decide +kernel
theorem rs_at2 : ∀ w ∈ rsAt.filter (fun w => !goodWord w), w ∈ xTl := by decide +kernel
section RS
variable {p : Program} {l : Launch} {e : Env} {R : Room} {s : State} {m : MethodId} {args : Array Value} {below : List Frame} {meth : Method} {c : Code} {H : Heap} {locs : List Loc} {cells slots : Nat} {Q : State → Prop}
variable {cc : ByteArray} {o pc nL : Nat} {D : va_G} {ty : Nat → ClassId} {ad ad0 : Nat → Nat} {A0 : Nat → Prop} {ls : Array Slot} {E : xE} {M : xM} {p0 p1 p2 p3 : Int32}
/-- a call of a static method that changes nothing -/
theorem rs_call {kk d : Nat} {r : xReal} {as : List Value} {v : Int32} (hd : d ≤ 1) (X : xCtx p s m args c cc o D ty) (hml : c.maxLocals = nL) (hls : ls.size = nL) (hck : ∀ r ∈ xRT, xok r = true) (hE2 : E.2 = xTX) (hr : xRT[kk]? = some r) (hk : xanyC xCl cc o pc (pc + 3) kk 0 .invokestatic = true) (hq : A (false, E.1) d (rArgs r, rMaxL r, rK r) as M (.int v))
    (hW : xAt D ty ad A0 M s.heap H locs) (hA : ∀ q, s.heap.size ≤ q → A0 q) (hE : xEV E ad A0 s s.heap) (hok : xokS1 (mS M).length as) (hlen : as.length = rArgs r) (hwa : xwt as ≤ rMaxL r) (hf : 14 ≤ R.frames) (hlo : 580 ≤ R.locals) (hce : cells ≤ R.cells) (hsl : slots ≤ R.slots)
    (kgo : ∀ (H1 : Heap) (locs1 : List Loc) (ad' : Nat → Nat), xAt D ty ad' A0 M s.heap H1 locs1 → xagree (mS M).length ad ad' → W p l e R s m args below meth c H1 locs1 cells slots Q (F0 m (pc + 3) ls [.int v])) : W p l e R s m args below meth c H locs cells slots Q (F0 m pc ls (as.reverse.map (xval ad))) := by
  obtain ⟨n, w, M1, hrun, rfl, rfl⟩ := hq
  have e2 : E = (E.1, xTX) := by rw [← hE2]
  have hrun2 : xrun xMT false E n d (rK r) 0 (xent as (rMaxL r)) [] M1 = some (some (.int v), M1) := by
    rw [e2]
    exact hrun
  have key := xcall_ok (Q := Q) (below := below) (meth := meth) (cells := cells) (slots := slots) (R := R) (locs := locs) (ls := ls) (pcs := []) (init := false) (ret := none) (ai := .inr (.inr (40, [kk]))) (rest := []) hck (xwalk_F hE2 hck n) X hml hls hk rfl hr hrun2 hW hA hE hok hlen (by decide) hwa rfl (by show d + 1 + 12 ≤ R.frames; omega) (by show 40 * (d + 1) + 500 ≤ R.locals; omega) (by omega) (by omega)
    (fun _ H1 locs1 ad' h1 h2 _ => by
      rw [Nat.sub_self, Nat.sub_self, Nat.add_zero, Nat.add_zero]
      exact kgo H1 locs1 ad' h1 h2)
  rw [List.append_nil] at key
  exact key
/-- the throw -/
theorem rs_throw {t is : Nat} (X : xCtx p s m args c cX11_rests 11 D ty) (hl : l.stackTraces = false) (hE : xEV E ad (va_A (xwld ty ad0 M) s.heap.size) s s.heap) (hq : ((11, is), t) ∈ xSl) (hag : xagree (mS M).length ad0 ad) (hW : xAt D ty ad (va_A (xwld ty ad0 M) s.heap.size) M s.heap H locs) (hsize : ls.size = c.maxLocals)
    (d0 : decode cX11_rests pc = .ok (.new 282, 3)) (d3 : decode cX11_rests (pc + 3) = .ok (.dup, 1)) (d4 : decode cX11_rests (pc + 4) = .ok (.ldc_w is, 3)) (d7 : decode cX11_rests (pc + 7) = .ok (.invokespecial 286, 3)) (d10 : decode cX11_rests (pc + 10) = .ok (.athrow, 1)) (htab : ∀ x ∈ c.exceptionTable.toList, False) (hlocks : meth.locks = false) (hn : xrests p0 p1 p2 p3 = none) :
    W p l e rsRoom s m args below meth c H locs 0 0 (vx_MQ below (rsQc D ty ad0 M s.heap.size p0 p1 p2 p3) (rsXc D ty ad0 M s.heap.size p0 p1 p2 p3) args s 1 6 (va_A (xwld ty ad0 M) s.heap.size)) (F0 m pc ls []) := by
  obtain ⟨hx, hb, hown, hts, hK⟩ := X
  obtain ⟨hP, hD, hS, hwf⟩ := hW
  have hz := hE.1.2.2
  have k1 : (Cond.classLink RX11 282 rsNS).before args s = true := hts _ (xGW_in (by decide +kernel) rfl)
  have k2 : (Cond.initialized rsNS).before args s = true := hts _ (xGW_in (by decide +kernel) rfl)
  have k3 : vk_R RX11 is (xTs.getD t "") (ad (xSTR + t)) s := hE.2.2.2.2.2 ((11, is), t) hq
  have k7 : ∀ w ∈ xTl, w.before args s = true := fun w hw => va_tabs (xTl_on w hw) rfl (hz.2.2.2.2.2.2.2 w hw)
  have k4 : ∀ w ∈ rsAt, w.before args s = true := vx_hat (fun w hw => hts w (xGW_in (rs_at1 w hw) (List.mem_filter.mp hw).2)) rs_at2 k7
  have k5 : vx_Zq Bundle.tN "UNASSIGNED_STACK" Bundle.steD (va_A (xwld ty ad0 M) s.heap.size) s s.heap := hz.2.2.2.2.2.1
  have k6 : vx_Zq Bundle.tN "SUPPRESSED_SENTINEL" Bundle.listD (va_A (xwld ty ad0 M) s.heap.size) s s.heap := hz.2.2.2.2.2.2.1
  have hown2 : s.vm.findClass RX11 = some m.cls := hown
  have kf : Bundle.fit rsNS = true := by decide +kernel
  have kg : ∀ n ∈ rsNm, Bundle.fit n = true := by decide +kernel
  have kh : ∀ x ∈ c.exceptionTable.toList, covers x (pc + 10) = false := fun x hx2 => (htab x hx2).elim
  refine rq_throw (rx := rsRx) (own := RX11) (cls := rsNS) (Y0 := rsN1) (r := [rsN2]) (ik := 282) (ic := 286) (ix := 13) (is := is) (A := va_A (xwld ty ad0 M) s.heap.size) hx hb hl rs_x0 rs_x1 rs_x2 rs_x5 hown2 kf kg k1 k2 k3 k4 rs_good k5 k6 hS hsize d0 d3 d4 d7 d10 kh (by decide) (by decide) (by decide) (by decide) hlocks (fun t9 h1 h2 h3 => ?_) hS.2.2 (by decide) (by decide)
  exact ⟨rfl, hn, ⟨ad, rfl, hag, hP.kept (fun k q hk => h3 _ (hP k q hk).lt), hD, hwf, fun w hw => by cases hw⟩, ⟨Nat.le_trans hS.1 h2, fun q h4 h5 => (h3 q (Nat.lt_of_lt_of_le h4 hS.1)).trans (hS.2.1 q h4 h5)⟩⟩
/-- the return -/
theorem rs_ret {v : Int32} (X : xCtx p s m args c cX11_rests 11 D ty) (hr : meth.sig.returnType = some .int) (hag : xagree (mS M).length ad0 ad) (hW : xAt D ty ad (va_A (xwld ty ad0 M) s.heap.size) M s.heap H locs) (hd : decode cX11_rests pc = .ok (.ireturn, 1)) (hlocks : meth.locks = false) (hn : xrests p0 p1 p2 p3 = some v) :
    W p l e rsRoom s m args below meth c H locs 0 0 (vx_MQ below (rsQc D ty ad0 M s.heap.size p0 p1 p2 p3) (rsXc D ty ad0 M s.heap.size p0 p1 p2 p3) args s 1 6 (va_A (xwld ty ad0 M) s.heap.size)) (F0 m pc ls [.int v]) := by
  obtain ⟨hx, hb, hown, hts, hK⟩ := X
  obtain ⟨hP, hD, hS, hwf⟩ := hW
  refine W.widen (k := 1) (n := 6) (by decide) (by decide) ?_
  exact vx_ret (W.iret hx hb hr (fun t ht _ => ⟨v, hn, ⟨ad, rfl, hag, by rw [ht]; exact hP, hD, hwf, fun w hw => by cases hw; exact xok1_int⟩, hS.F ht⟩) hS.2.2 hd hlocks)
set_option maxHeartbeats 4000000 in
theorem rs_met {cx : Nat} (hst : l.stackTraces = false) (hE2 : E.2 = xTX) (hck : ∀ r ∈ xRT, xok r = true) (sz : Nat) (hwf : xwf M) :
    vx_Met l yX11_rests (.code yX11_rests cX11_rests 7 (some .int) :: xGW) rsRoom (xPc D ty ad0 E M sz [.ref cx, .int p0, .int p1, .int p2, .int p3]) (rsQc D ty ad0 M sz p0 p1 p2 p3) (rsXc D ty ad0 M sz p0 p1 p2 p3) 1 6 (va_A (xwld ty ad0 M) sz) := by
  refine vx_ofW (cc := cX11_rests) (maxL := 7) (ret := some .int) (by decide +kernel) rfl ?_
  intro p e s m argz below meth c s₁ B hml htab hv
  obtain ⟨rfl, hsz, hP, hK, hD0, hEV⟩ := hv
  have hts := atoms_spec (ws := .code yX11_rests cX11_rests 7 (some .int) :: xGW) B.pre
  have hown : s.vm.findClass (xRn 11) = some m.cls := findClass_of_methodNamed B.named
  have hlocks := B.notSynchronized
  have hret := B.returns
  subst hsz
  have hD := hD0.self (sz := s.heap.size)
  generalize harg : (([.ref cx, .int p0, .int p1, .int p2, .int p3] : List Value).map (xval ad0)) = av at *
  have hX : xCtx p s m av.toArray c cX11_rests 11 D ty := ⟨B.exec, B.bytes, hown, fun w hw => hts w (List.mem_cons_of_mem _ hw), hK⟩
  have hA : ∀ q : Nat, s.heap.size ≤ q → va_A (xwld ty ad0 M) s.heap.size q := fun q h => Or.inr h
  have hl0 := lv_entry av (n := 7) (by rw [← harg]; exact Nat.le_of_ble_eq_true rfl)
  rw [lg_entry_eq]
  generalize (lg_sl av ++ List.replicate (7 - (lg_sl av).length) Slot.unset).toArray = ls at hl0 ⊢
  have hl0 : lv_has ls 7 [(0, .ref (ad0 cx)), (1, .int p0), (2, .int p1), (3, .int p2), (4, .int p3)] := by rw [← harg] at hl0; exact hl0
  have hx := B.exec
  have hb := B.bytes
  have hW0 : xAt D ty ad0 (va_A (xwld ty ad0 M) s.heap.size) M s.heap s.heap [] := ⟨hP, hD, va_S.rf, hwf⟩
  have hints : ∀ x y z : Int32, xokS1 (mS M).length [.int x, .int y, .int z] := fun x y z v hv => by
    simp at hv
    rcases hv with rfl | rfl | rfl <;> exact xok1_int
  have hints4 : ∀ x y z w : Int32, xokS1 (mS M).length [.int x, .int y, .int z, .int w] := fun x y z w v hv => by
    simp at hv
    rcases hv with rfl | rfl | rfl | rfl <;> exact xok1_int
  have ht0 : ∀ (ad : Nat → Nat) (H : Heap) (locs : List Loc), xagree (mS M).length ad0 ad → xAt D ty ad (va_A (xwld ty ad0 M) s.heap.size) M s.heap H locs → xrests p0 p1 p2 p3 = none → W p l e rsRoom s m av.toArray below meth c H locs 0 0 (vx_MQ below (rsQc D ty ad0 M s.heap.size p0 p1 p2 p3) (rsXc D ty ad0 M s.heap.size p0 p1 p2 p3) av.toArray s 1 6 (va_A (xwld ty ad0 M) s.heap.size)) (F0 m 30 ls []) :=
    fun ad H locs hag hW hn => rs_throw (t := 25) (is := 284) hX hst (xEV_ag hag hEV) (by decide +kernel) hag hW (hl0.1.trans hml.symm) dX11_rests_30 dX11_rests_33 dX11_rests_34 dX11_rests_37 dX11_rests_40 htab hlocks hn
  have key : (0 ≤ p0 ∧ p0 ≤ 9) ∧ (0 ≤ p1 ∧ p1 ≤ 9) ∧ (0 ≤ p2 ∧ p2 ≤ 9) → ∀ (k i cn : Nat) (ad : Nat → Nat) (H : Heap) (locs : List Loc) (ls : Array Slot), i + k = 4 → cn ≤ i → xagree (mS M).length ad0 ad → xAt D ty ad (va_A (xwld ty ad0 M) s.heap.size) M s.heap H locs → lv_has ls 7 [(6, .int (nI i)), (5, .int (nI cn)), (1, .int p0), (2, .int p1), (3, .int p2), (4, .int p3)] → rsL p3 ((rs4 p0 p1 p2).drop i) i cn = rsL p3 (rs4 p0 p1 p2) 0 0 →
      W p l e rsRoom s m av.toArray below meth c H locs 0 0 (vx_MQ below (rsQc D ty ad0 M s.heap.size p0 p1 p2 p3) (rsXc D ty ad0 M s.heap.size p0 p1 p2 p3) av.toArray s 1 6 (va_A (xwld ty ad0 M) s.heap.size)) (F0 m 47 ls []) := by
    intro hin k
    have hres := rs_in (u := p3) hin
    induction k with
    | zero =>
      intro i cn ad H locs ls hi hcn hag hW hl hq
      have hi4 : i = 4 := by omega
      subst hi4
      have hq : Sum.inr cn = rsL p3 (rs4 p0 p1 p2) 0 0 := hq
      rw [← hq] at hres
      refine lv_iload hx hb dX11_rests_47 (lv_at hl 0 rfl) ?_
      refine lv_iconst hx hb (v := nI 4) dX11_rests_49 rfl ?_
      refine lv_icmp_ge hx hb (tgt := 83) dX11_rests_50 (by decide) (fun _ => ?_) (fun h => absurd (Int32.le_refl _) h)
      refine lv_iload hx hb dX11_rests_83 (lv_at hl 5 rfl) ?_
      refine lv_iconst hx hb (v := -1) dX11_rests_85 rfl ?_
      refine lv_icmp_eq hx hb (tgt := 100) dX11_rests_86 (by decide) (fun hu => ?_) (fun hu => ?_)
      · refine lv_iload hx hb dX11_rests_100 (lv_at hl 1 rfl) ?_
        refine rs_ret hX hret hag hW dX11_rests_102 hlocks ?_
        rw [← hres]
        exact if_pos hu
      · refine rs_throw (t := 26) (is := 293) hX hst (xEV_ag hag hEV) (by decide +kernel) hag hW (hl.1.trans hml.symm) dX11_rests_89 dX11_rests_92 dX11_rests_93 dX11_rests_96 dX11_rests_99 htab hlocks ?_
        rw [← hres]
        exact if_neg hu
    | succ k ih =>
      intro i cn ad H locs ls hi hcn hag hW hl hq
      have hi4 : i < 4 := by omega
      rw [rs4_drop hi4] at hq
      refine lv_iload hx hb dX11_rests_47 (lv_at hl 0 rfl) ?_
      refine lv_iconst hx hb (v := nI 4) dX11_rests_49 rfl ?_
      refine lv_icmp_ge hx hb (tgt := 83) dX11_rests_50 (by decide) (fun h => absurd h (nI_ge hi4 (by decide))) (fun _ => ?_)
      refine lv_iload_n hx hb dX11_rests_53 rfl (lv_at hl 2 rfl) ?_
      refine lv_iload_n hx hb dX11_rests_54 rfl (lv_at hl 3 rfl) ?_
      refine lv_iload_n hx hb dX11_rests_55 rfl (lv_at hl 4 rfl) ?_
      refine lv_iload hx hb dX11_rests_56 (lv_at hl 0 rfl) ?_
      refine rs_call (kk := n_X11_isRest) (r := r_X11_isRest) (as := [.int p0, .int p1, .int p2, .int (nI i)]) (Nat.le_refl 1) hX hml hl.1 hck hE2 rfl (by decide +kernel) c_isRest hW hA (xEV_ag hag hEV) (hints4 _ _ _ _) rfl (Nat.le_of_ble_eq_true rfl) (by decide) (by decide) (by decide) (by decide) (fun H1 locs1 ad1 hW1 hag1 => ?_)
      have hag2 : xagree (mS M).length ad0 ad1 := fun j hj => (hag1 j hj).trans (hag j hj)
      generalize hb2 : rsQ p0 p1 p2 (nI i >>> (1 &&& 31)) (nI i &&& 1) = bq at hq ⊢
      cases bq with
      | false =>
        refine lv_if_eq hx hb (tgt := 77) dX11_rests_61 (by decide) (fun _ => ?_) (fun h => absurd rfl h)
        refine lv_iinc hx hb dX11_rests_77 hl (k := 0) rfl (show nI i + Int32.ofInt 1 = nI (i + 1) from nI_1 i) (by decide) rfl (fun ls hl => ?_)
        refine lv_goto hx hb (tgt := 47) dX11_rests_80 (by decide) ?_
        exact ih (i + 1) cn ad1 H1 locs1 ls (by omega) (by omega) hag2 hW1 hl hq
      | true =>
        have hq : (if nI cn = p3 then Sum.inl i else rsL p3 ((rs4 p0 p1 p2).drop (i + 1)) (i + 1) (cn + 1)) = rsL p3 (rs4 p0 p1 p2) 0 0 := hq
        refine lv_if_eq hx hb (tgt := 77) dX11_rests_61 (by decide) (fun h => absurd h (by decide)) (fun _ => ?_)
        refine lv_iload hx hb dX11_rests_64 (lv_at hl 1 rfl) ?_
        refine lv_iload hx hb dX11_rests_66 (lv_at hl 5 rfl) ?_
        refine lv_icmp_ne hx hb (tgt := 74) dX11_rests_68 (by decide) (fun hu => ?_) (fun hu => ?_)
        · rw [if_neg hu] at hq
          refine lv_iinc hx hb dX11_rests_74 hl (k := 1) rfl (show nI cn + Int32.ofInt 1 = nI (cn + 1) from nI_1 cn) (by decide) rfl (fun ls hl => ?_)
          refine lv_iinc hx hb dX11_rests_77 hl (k := 1) rfl (show nI i + Int32.ofInt 1 = nI (i + 1) from nI_1 i) (by decide) rfl (fun ls hl => ?_)
          refine lv_goto hx hb (tgt := 47) dX11_rests_80 (by decide) ?_
          exact ih (i + 1) (cn + 1) ad1 H1 locs1 ls (by omega) (by omega) hag2 hW1 hl hq
        · rw [if_pos hu] at hq
          refine lv_iload hx hb dX11_rests_71 (lv_at hl 0 rfl) ?_
          refine rs_ret hX hret hag2 hW1 dX11_rests_73 hlocks ?_
          rw [← hres, ← hq]
          rfl
  have b0 : ∀ x : Int32, bI (decide (0 ≤ x ∧ x ≤ 9)) = 0 → ¬ (0 ≤ x ∧ x ≤ 9) := fun x h h2 => by
    rw [decide_eq_true h2] at h
    exact absurd h (by decide)
  have b1 : ∀ x : Int32, ¬ bI (decide (0 ≤ x ∧ x ≤ 9)) = 0 → (0 ≤ x ∧ x ≤ 9) := fun x h => by
    by_cases h2 : 0 ≤ x ∧ x ≤ 9
    · exact h2
    · rw [decide_eq_false h2] at h
      exact absurd rfl h
  refine lv_iload_n hx hb dX11_rests_0 rfl (lv_at hl0 1 rfl) ?_
  refine lv_iconst hx hb (v := 0) dX11_rests_1 rfl ?_
  refine lv_bipush hx hb (v := 9) dX11_rests_2 rfl ?_
  refine rs_call (kk := n_X11_isWithin) (r := r_X11_isWithin) (as := [.int p0, .int 0, .int 9]) (Nat.zero_le 1) hX hml hl0.1 hck hE2 rfl (by decide +kernel) c_within hW0 hA hEV (hints _ _ _) rfl (Nat.le_of_ble_eq_true rfl) (by decide) (by decide) (by decide) (by decide) (fun H1 locs1 ad1 hW1 hag1 => ?_)
  refine lv_if_eq hx hb (tgt := 30) dX11_rests_7 (by decide) (fun h => ht0 ad1 H1 locs1 hag1 hW1 (rs_out (fun z => b0 _ h z.1))) (fun hh0 => ?_)
  refine lv_iload_n hx hb dX11_rests_10 rfl (lv_at hl0 2 rfl) ?_
  refine lv_iconst hx hb (v := 0) dX11_rests_11 rfl ?_
  refine lv_bipush hx hb (v := 9) dX11_rests_12 rfl ?_
  refine rs_call (kk := n_X11_isWithin) (r := r_X11_isWithin) (as := [.int p1, .int 0, .int 9]) (Nat.zero_le 1) hX hml hl0.1 hck hE2 rfl (by decide +kernel) c_within hW1 hA (xEV_ag hag1 hEV) (hints _ _ _) rfl (Nat.le_of_ble_eq_true rfl) (by decide) (by decide) (by decide) (by decide) (fun H2 locs2 ad2 hW2 hag2 => ?_)
  have hag2 : xagree (mS M).length ad0 ad2 := fun j hj => (hag2 j hj).trans (hag1 j hj)
  refine lv_if_eq hx hb (tgt := 30) dX11_rests_17 (by decide) (fun h => ht0 ad2 H2 locs2 hag2 hW2 (rs_out (fun z => b0 _ h z.2.1))) (fun hh1 => ?_)
  refine lv_iload_n hx hb dX11_rests_20 rfl (lv_at hl0 3 rfl) ?_
  refine lv_iconst hx hb (v := 0) dX11_rests_21 rfl ?_
  refine lv_bipush hx hb (v := 9) dX11_rests_22 rfl ?_
  refine rs_call (kk := n_X11_isWithin) (r := r_X11_isWithin) (as := [.int p2, .int 0, .int 9]) (Nat.zero_le 1) hX hml hl0.1 hck hE2 rfl (by decide +kernel) c_within hW2 hA (xEV_ag hag2 hEV) (hints _ _ _) rfl (Nat.le_of_ble_eq_true rfl) (by decide) (by decide) (by decide) (by decide) (fun H3 locs3 ad3 hW3 hag3 => ?_)
  have hag3 : xagree (mS M).length ad0 ad3 := fun j hj => (hag3 j hj).trans (hag2 j hj)
  refine lv_if_ne hx hb (tgt := 41) dX11_rests_27 (by decide) (fun hh2 => ?_) (fun h => ht0 ad3 H3 locs3 hag3 hW3 (rs_out (fun z => b0 _ h z.2.2)))
  refine lv_iconst hx hb (v := 0) dX11_rests_41 rfl ?_
  refine lv_istore hx hb dX11_rests_42 hl0 (by decide) rfl (fun ls hl => ?_)
  refine lv_iconst hx hb (v := 0) dX11_rests_44 rfl ?_
  refine lv_istore hx hb dX11_rests_45 hl (by decide) rfl (fun ls hl => ?_)
  exact key ⟨b1 _ hh0, b1 _ hh1, b1 _ hh2⟩ 4 0 0 ad3 H3 locs3 ls rfl (Nat.le_refl 0) hag3 hW3 (lv_sub hl [0, 1, 3, 4, 5, 6] rfl) rfl
end RS
