set_option maxRecDepth 8000 in
theorem room_le {a d b R : Nat} (h : a ≤ 20) (h2 : 40 * (d + 1) + b ≤ R) : 8 + (a + 11) + (40 * d + b) ≤ R := by omega
set_option maxHeartbeats 4000000 in
theorem xcall_ok {l : Launch} {pr : Bool} {E : xE} (hck : ∀ r ∈ xRT, xok r = true) {n : Nat} (ih : xWalk l pr E n) {p : Program} {e : Env} {R : Room} {s : State} {m : MethodId} {args : Array Value} {below : List Frame} {meth : Method} {c : Code} {H : Heap} {locs : List Loc} {cells slots : Nat} {Q : State → Prop} {cc : ByteArray} {o pc pc1 : Nat} {D : va_G} {ty : Nat → ClassId} {ad : Nat → Nat} {A : Nat → Prop} {ls : Array Slot} {pcs : List Nat} {init : Bool} {ret : Option FieldType} {ai : xA} {kk : Nat} {rc : Option Nat} {r : xReal} {d nL : Nat} {as rest : List Value} {M M1 : xM} {v : Option Value}
    (X : xCtx p s m args c cc o D ty) (hml : c.maxLocals = nL) (hls : ls.size = nL) (hrel : xrel cc pcs o init ret pc pc1 ai = true) (hc : xcallee ai = some (kk, rc)) (hr : xRT[kk]? = some r) (hrun : xrun xMT pr E n d (rK r) 0 (xent as (rMaxL r)) [] M = some (v, M1)) (hW : xAt D ty ad A M s.heap H locs) (hA : ∀ q, s.heap.size ≤ q → A q) (hE : xEV E ad A s s.heap)
    (hok : xokS1 (mS M).length as) (hlen : as.length = rArgs r) (hwt : xwt rest ≤ 8) (hwa : xwt as ≤ rMaxL r) (hrv : xrecv rc as M = true) (hf : d + 1 + xB pr ≤ R.frames) (hlo : 40 * (d + 1) + xBL pr ≤ R.locals) (hce : cells + xcs M1 ≤ R.cells + xcs M) (hsl : slots + xss M1 ≤ R.slots + xss M)
    (kgo : pc1 = pc + 3 → ∀ (H1 : Heap) (locs1 : List Loc) (ad' : Nat → Nat), xAt D ty ad' A M1 s.heap H1 locs1 → xagree (mS M).length ad ad' → (∀ w, v = some w → xok1 (mS M1).length w) → W p l e R s m args below meth c H1 locs1 (cells + (xcs M1 - xcs M)) (slots + (xss M1 - xss M)) Q (F0 m (pc + 3) ls ((v.map (xval ad')).toList ++ rest.map (xval ad)))) :
    W p l e R s m args below meth c H locs cells slots Q (F0 m pc ls ((as.reverse ++ rest).map (xval ad))) := by
  have hrm : r ∈ xRT := List.mem_of_getElem? hr
  obtain ⟨hpl, hmh, hvh, hpn, hro, hrn, hri, hra, hrl, hrv2⟩ := xRT_md hrm
  have hmw := (xRT_in r hrm).1
  have hg := xrun_mono2 _ _ _ _ _ _ _ _ _ hW.2.2.2.1 hrun
  have hM := met_of_walk ih hck hrm (D := D) (ty := ty) (ad := ad) H.size hrun hW.2.2.2 hok hwa
  have hfix : CallFix p m c cc nL s args xGW (xRn o) := ⟨X.1, X.2.1, hml, X.2.2.1, X.2.2.2.1⟩
  have hwB : ∀ w ∈ xMw r, w.before args s = true := fun w hw => by
    have h1 := hmw w hw
    refine X.2.2.2.1 _ (xGW_in h1 ?_)
    unfold xMw at hw
    rcases List.mem_cons.mp hw with rfl | hw
    · rfl
    · rcases List.mem_cons.mp hw with rfl | hw
      · rfl
      · split at hw
        · simp at hw; subst hw; rfl
        · split at hw
          · simp at hw; rcases hw with rfl | rfl <;> rfl
          · simp at hw; subst hw; rfl
  have hini : (Cond.initialized (rY r).cls).before args s = true := hwB _ (by unfold xMw; simp)
  have hRoom : (xRoom pr d (xcs M1 - xcs M) (xss M1 - xss M)).frames + 1 ≤ R.frames ∧ 8 + (rMaxL r + 11) + (xRoom pr d (xcs M1 - xcs M) (xss M1 - xss M)).locals ≤ R.locals := by
    refine ⟨?_, ?_⟩
    · show d + xB pr + 1 ≤ R.frames
      omega
    · exact room_le hrl hlo
  have hfit : cells + (xcs M1 - xcs M) ≤ R.cells ∧ slots + (xss M1 - xss M) ≤ R.slots := ⟨by omega, by omega⟩
  have hwr : 2 * (F0 m pc ls ((as.reverse ++ rest).map (xval ad))).monitorRoom + ((rest.map (xval ad)).map fun v => v.category).sum ≤ 8 := by
    rw [xwt_map]
    show 2 * 0 + _ ≤ 8
    omega
  have hst : (as.reverse ++ rest).map (xval ad) = (as.map (xval ad)).reverse ++ rest.map (xval ad) := by rw [List.map_append, List.map_reverse]
  have hpre := xPre (as := as) X hE hW
  unfold xcallee at hc
  split at hc
  · cases hc
    have hrel : xanyC xCl cc o pc pc1 kk 0 .invokestatic = true := hrel
    obtain ⟨idx, hm, hd, hpc⟩ := xanyC_spec hrel
    have hk0 := xCl_kind hm hr
    have hlink : (Cond.methodLink (xRn o) idx (rY r)).before args s = true := by
      have h1 := X.2.2.2.1 _ (xGW_in (xCl_in _ hm) rfl)
      unfold xCw at h1
      rwa [xYn_at hr] at h1
    have hstat : (Cond.static (rY r)).before args s = true := hwB _ (by unfold xMw; rw [if_pos hk0]; simp)
    rw [if_pos hk0, Nat.sub_zero] at hpn
    have cw := callB_of (R := R) (own := xRn o) (index := idx) (rArgs r) X.2.2.2.1 (xGW_good r hmw) (ws := xWsY r) (rm := xRoom pr d (xcs M1 - xcs M) (xss M1 - xss M)) (mc := xcs M1 - xcs M) (ms := xss M1 - xss M) rfl rfl rfl hini hlink ⟨hmh, hvh, hpn⟩ hRoom
    refine s_callgo (va_runS (As := as.map (xval ad)) (rest := rest.map (xval ad)) hfix hM ⟨cw, hstat⟩ ⟨xPc_blind, hpre⟩ rfl (by rw [List.length_map, hlen]) hls hst hwr hd hfit) hW hA (kgo hpc)
  · cases hc
    rename_i ci
    obtain ⟨cx, as0, rfl⟩ : ∃ cx as0, as = .ref cx :: as0 := by
      unfold xrecv at hrv
      split at hrv
      · rename_i h1; cases h1
      · rename_i h1; cases h1; exact ⟨_, _, rfl⟩
      · cases hrv
    have hrv3 : xis (mS M) cx (10 + ci) = true := hrv
    simp only [xrel, xrelO, Bool.and_eq_true, decide_eq_true_eq, Bool.or_eq_true] at hrel
    obtain ⟨hci, hcn, hrel⟩ := hrel
    rw [xYn_at hr] at hcn
    obtain ⟨nn, hnn⟩ := xis_spec hrv3
    have hat := xwld_at (ty := ty) (ad := ad) hnn
    rw [xcell_obj] at hat
    have hrecv := va_recv X.2.2.2.2 hW.1 (xcl_at hci) hat
    have hlen0 : (as0.map (xval ad)).length = rArgs r - 1 := by rw [List.length_map, ← hlen]; simp
    have hst0 : ((Value.ref cx :: as0).reverse ++ rest).map (xval ad) = (as0.map (xval ad)).reverse ++ .ref (ad cx) :: rest.map (xval ad) := by
      rw [List.reverse_cons, List.append_assoc, List.map_append, List.map_reverse]
      rfl
    rcases hrel with (h | h) | h
    · obtain ⟨idx, hm, hd, hpc⟩ := xanyC_spec h
      have hk0 := xCl_kind hm hr
      have hlink : (Cond.methodLink (xRn o) idx (rY r)).before args s = true := by
        have h1 := X.2.2.2.1 _ (xGW_in (xCl_in _ hm) rfl)
        unfold xCw at h1
        rwa [xYn_at hr] at h1
      rw [if_neg (by omega)] at hpn
      have cw := callB_of (R := R) (own := xRn o) (index := idx) (rArgs r - 1) X.2.2.2.1 (xGW_good r hmw) (ws := xWsY r) (rm := xRoom pr d (xcs M1 - xcs M) (xss M1 - xss M)) (mc := xcs M1 - xcs M) (ms := xss M1 - xss M) rfl rfl rfl hini hlink ⟨hmh, hvh, hpn⟩ hRoom
      have h2 : (Cond.instanceMethod (rY r)).before args s = true := hwB _ (by unfold xMw; rw [if_neg (by omega), if_pos hk0]; simp)
      have h3 : (Cond.selects (rY r).cls (rY r) (rY r)).before args s = true := hwB _ (by unfold xMw; rw [if_neg (by omega), if_pos hk0]; simp)
      refine s_callgo (va_runV (C := (rY r).cls) (b := ad cx) (As := as0.map (xval ad)) (rest := rest.map (xval ad)) hfix hM ⟨cw, h2, h3⟩ ⟨xPc_blind, by rw [← hcn]; exact hrecv, hpre⟩ rfl hlen0 hls hst0 hwr hd hfit) hW hA (kgo hpc)
    · obtain ⟨idx, hm, hd, hpc⟩ := xanyC_spec h
      have hk0 := xCl_kind hm hr
      have hlink : (Cond.methodLink (xRn o) idx (rY r)).before args s = true := by
        have h1 := X.2.2.2.1 _ (xGW_in (xCl_in _ hm) rfl)
        unfold xCw at h1
        rwa [xYn_at hr] at h1
      rw [if_neg (by omega)] at hpn
      have hn0 := hrv2 hk0
      have cw := callB_of (R := R) (own := xRn o) (index := idx) (rArgs r - 1) X.2.2.2.1 (xGW_good r hmw) (ws := xWsY r) (rm := xRoom pr d (xcs M1 - xcs M) (xss M1 - xss M)) (mc := xcs M1 - xcs M) (ms := xss M1 - xss M) rfl rfl rfl hini hlink ⟨hmh, hvh, hpn⟩ hRoom
      rw [hn0] at cw
      have h2 : (Cond.instanceMethod (rY r)).before args s = true := hwB _ (by unfold xMw; rw [if_neg (by omega), if_neg (by omega)]; simp)
      refine s_callgo (va_runI (b := ad cx) (As := as0.map (xval ad)) (rest := rest.map (xval ad)) hfix hM ⟨cw, by rw [← hri]; exact hk0, h2⟩ ⟨xPc_blind, hpre⟩ rfl hlen0 hls hst0 hwr hd hfit) hW hA (kgo hpc)
    · obtain ⟨idx, hm, hd, hpc⟩ := xanyC_spec h
      have hk0 := xNl_kind hm hr
      have hlink : va_Nw (.methodLinkNest (xRn o) idx (rY r) "NutmegSeats") s := by
        have h1 := hE.2.1 _ hm
        unfold xCn at h1
        rwa [xYn_at hr] at h1
      rw [if_neg (by omega)] at hpn
      have hn0 := hrv2 hk0
      have cw := va_cnB (R := R) (own := xRn o) (index := idx) (rArgs r - 1) X.2.2.2.1 (xGW_good r hmw) (ws := xWsY r) (rm := xRoom pr d (xcs M1 - xcs M) (xss M1 - xss M)) (mc := xcs M1 - xcs M) (ms := xss M1 - xss M) rfl rfl rfl hlink hini ⟨hmh, hvh, hpn⟩ hRoom
      rw [hn0] at cw
      have h2 : (Cond.instanceMethod (rY r)).before args s = true := hwB _ (by unfold xMw; rw [if_neg (by omega), if_neg (by omega)]; simp)
      refine s_callgo (va_runIN (b := ad cx) (As := as0.map (xval ad)) (rest := rest.map (xval ad)) hfix hM ⟨cw, by rw [← hri]; exact hk0, h2⟩ ⟨xPc_blind, hpre⟩ rfl hlen0 hls hst0 hwr hd hfit) hW hA (kgo hpc)
  · cases hc
set_option maxHeartbeats 4000000 in
theorem xwalk_succ {l : Launch} {pr : Bool} {E : xE} (hpr : xPrim l pr) (hE2 : E.2 = xTX) (hck : ∀ r ∈ xRT, xok r = true) {n : Nat} (ih : xWalk l pr E n) : xWalk l pr E (n + 1) := by
  intro p e R s m args below meth c H locs cells slots Q cc o D ty ad A ls pcs init ret K0 d ix nL L st M M' v X hml hrelK hin hrun hW hA hE hokL hokS hl hLn hRf hRl hRc hRs K
  obtain ⟨hB1, hB2⟩ := xB_le pr
  unfold xrun at hrun
  cases hk : K0[ix]? with
  | none => rw [hk] at hrun; cases hrun
  | some ai =>
    rw [hk] at hrun
    dsimp only at hrun
    have hr := hrelK ix ai hk
    cases hx : xret ai st with
    | some w =>
      rw [hx] at hrun
      cases hrun
      obtain ⟨hst, hro⟩ := xret_ok hx hr
      rw [hst]
      exact K H locs ad ls _ cells slots hW (fun _ _ => rfl) rfl rfl hro (fun w hw => hokS w (by rw [hst, hw]; simp))
    | none =>
      rw [hx] at hrun
      dsimp only at hrun
      cases hc : xcallee ai with
      | some kr =>
        obtain ⟨kk, rc⟩ := kr
        rw [hc] at hrun
        dsimp only at hrun
        cases d with
        | zero => simp at hrun
        | succ d' =>
          cases hq : xMT[kk]? with
          | none => rw [hq] at hrun; simp at hrun
          | some q =>
            rw [hq] at hrun
            dsimp only at hrun
            split at hrun
            · rename_i hcond
              obtain ⟨c1, c2, c3, c4⟩ := hcond
              have hq2 := hq
              rw [xMT_eq, List.getElem?_map] at hq2
              cases hrr : xRT[kk]? with
              | none => rw [hrr] at hq2; cases hq2
              | some r =>
                rw [hrr] at hq2
                simp only [Option.map_some, Option.some.injEq] at hq2
                subst hq2
                dsimp only at hrun c1 c2 c3 c4
                cases hr1 : xrun xMT pr E n d' (rK r) 0 (xent (st.take (rArgs r)).reverse (rMaxL r)) [] M with
                | none => rw [hr1] at hrun; cases hrun
                | some rm =>
                  obtain ⟨v1, M1⟩ := rm
                  rw [hr1] at hrun
                  dsimp only at hrun
                  have g1 := xrun_grow _ _ _ _ _ _ _ _ _ hr1
                  have g2 := xrun_grow _ _ _ _ _ _ _ _ _ hrun
                  have l1 := xgrow_len g1
                  have m1 := xrun_mono2 _ _ _ _ _ _ _ _ _ hW.2.2.2.1 hr1
                  have m2 := xrun_mono2 _ _ _ _ _ _ _ _ _ m1.2.2 hrun
                  have hst : st = ((st.take (rArgs r)).reverse).reverse ++ st.drop (rArgs r) := by rw [List.reverse_reverse, List.take_append_drop]
                  have hoka : xokS1 (mS M).length (st.take (rArgs r)).reverse := fun w hw => hokS w (List.mem_of_mem_take (List.mem_reverse.mp hw))
                  have hokd : xokS1 (mS M).length (st.drop (rArgs r)) := fun w hw => hokS w (List.mem_of_mem_drop hw)
                  have key := xcall_ok (Q := Q) (below := below) (meth := meth) (cells := cells) (slots := slots) (R := R) (locs := locs) (ls := ls) hck ih X hml hl.1 hr hc hrr hr1 hW hA hE hoka (by rw [List.length_reverse, List.length_take]; omega) c2 c3 c4 (by omega) hRl (by omega) (by omega) (fun hpc H1 locs1 ad' hW1 hag hokv => by
                    have hokr : xokS1 (mS M1).length (v1.toList ++ st.drop (rArgs r)) := fun w hw => by
                      rcases List.mem_append.mp hw with h | h
                      · exact hokv w (by cases v1 with
                          | none => cases h
                          | some z => simp at h; rw [h])
                      · exact xok1_mono l1.1 (hokd w h)
                    have e1 : (v1.map (xval ad')).toList ++ (st.drop (rArgs r)).map (xval ad) = (v1.toList ++ st.drop (rArgs r)).map (xval ad') := by
                      rw [List.map_append, xvals_ag hag hokd]
                      cases v1 <;> rfl
                    rw [e1, ← hpc]
                    exact ih p e R s m args below meth c H1 locs1 _ _ Q cc o D ty ad' A ls pcs init ret K0 (d' + 1) (ix + 1) nL L _ M1 M' v X hml hrelK hin hrun hW1 hA (xEV_ag hag hE) (xokL_mono l1.1 hokL) hokr (xlv_ag hag hokL hl) hLn hRf hRl (by omega) (by omega)
                      (fun H2 locs2 ad2 ls2 pc2 cells2 slots2 hW2 hag2 hc2 hs2 hret2 hok2 => K H2 locs2 ad2 ls2 pc2 cells2 slots2 hW2 (fun j hj => (hag2 j (by rcases hj with h | h; exact Or.inl (Nat.lt_of_lt_of_le h l1.1); exact Or.inr h)).trans (hag j hj)) (by omega) (by omega) hret2 hok2))
                  rw [← hst] at key
                  exact key
            · cases hrun
      | none =>
        rw [hc] at hrun
        dsimp only at hrun
        cases hs : xstep pr E ai ix L st M with
        | none => rw [hs] at hrun; cases hrun
        | some c' =>
          obtain ⟨ix', L', st', M1⟩ := c'
          rw [hs] at hrun
          dsimp only at hrun
          have n1 := xstep_mono2 hW.2.2.2.1 hs
          have m2 := xrun_mono2 _ _ _ _ _ _ _ _ _ n1.2.2 hrun
          unfold xstep at hs
          split at hs
          · rename_i v0
            cases hs
            refine s_const X hE.2.2.2.2.2 hr ?_
            exact ih p e R s m args below meth c H locs cells slots Q cc o D ty ad A ls pcs init ret K0 d (ix + 1) nL L (v0 :: st) M M' v X hml hrelK hin hrun hW hA hE hokL (xokS_cons.mpr ⟨xrelV_ok hr, hokS⟩) hl hLn hRf hRl hRc hRs K
          · rename_i ins
            have hrP : xrelP cc (pcs.getD ix 0) (pcs.getD (ix + 1) 0) ins = true := by
              unfold xrel at hr
              split at hr
              · rename_i h; cases h
              · rename_i h; cases h
              · rename_i h; cases h; exact (Bool.and_eq_true_iff.mp hr).2
              · rename_i h; cases h; exact (Bool.and_eq_true_iff.mp hr).2
              · rename_i h; cases h; exact (Bool.and_eq_true_iff.mp hr).2
              · rename_i h; cases h; exact hr
            split at hs
            · rename_i L1 st1 hp
              cases hs
              obtain ⟨o1, o2⟩ := xpure_ok hp hokL hokS
              exact s_pure X.1 X.2.1 hrP hp hl hLn (fun ls' h1 h2 => ih p e R s m args below meth c H locs cells slots Q cc o D ty ad A ls' pcs init ret K0 d (ix + 1) nL _ _ M M' v X hml hrelK hin hrun hW hA hE o1 o2 h1 h2 hRf hRl hRc hRs K)
            · split at hs
              · rename_i st1 M2 hp
                cases hs
                have hS := xhI_grow hp
                have hG := xhI_gh hp
                have hcs : xcs M1 = xcs M := by unfold xcs; rw [hS, hG]
                have hss : xss M1 = xss M := by unfold xss; rw [hS, hG]
                refine s_hI X hE.1.1 hrP hp hW hokS (fun H1 locs1 hW1 hS1 hok1 => ?_)
                exact ih p e R s m args below meth c H1 locs1 cells slots Q cc o D ty ad A ls pcs init ret K0 d (ix + 1) nL L _ M1 M' v X hml hrelK hin hrun hW1 hA hE (by rw [hS]; exact hokL) (by rw [hS]; exact hok1) hl hLn hRf hRl (by rw [hcs]; exact hRc) (by rw [hss]; exact hRs) (by rw [hcs, hss, hS]; exact K)
              · cases hs
          · rename_i op a
            have hrO : xrelO cc pcs o init ret (pcs.getD ix 0) (pcs.getD (ix + 1) 0) op a = true := hr
            split at hs
            · rename_i t st1 hp
              cases hs
              have hrJ : xrelJ cc pcs (pcs.getD ix 0) (pcs.getD (ix + 1) 0) op a = true := by
                unfold xjmp at hp
                unfold xrelO at hrO
                split at hp
                all_goals (try (cases hp; done))
                all_goals exact hrO
              exact s_jmp X.1 X.2.1 hrJ rfl hp (ih p e R s m args below meth c H locs cells slots Q cc o D ty ad A ls pcs init ret K0 d _ nL L _ M M' v X hml hrelK hin hrun hW hA hE hokL (xjmp_ok hp hokS) hl hLn hRf hRl hRc hRs K)
            · split at hs
              · rename_i L1 hp
                cases hs
                exact s_inc X.1 X.2.1 hrO hp hl hLn (fun ls' h1 h2 => ih p e R s m args below meth c H locs cells slots Q cc o D ty ad A ls' pcs init ret K0 d (ix + 1) nL _ st M M' v X hml hrelK hin hrun hW hA hE (xinc_ok hp hokL) hokS h1 h2 hRf hRl hRc hRs K)
              · split at hs
                · rename_i hwt
                  split at hs
                  · rename_i st1 M2 hp
                    cases hs
                    have g1 := xhO_grow hp
                    have l1 := xgrow_len g1
                    have kc : xCont p l e R s m args below meth c cells slots Q D ty ad A ls (pcs.getD (ix + 1) 0) M st' M1 := by
                      intro H1 locs1 ad' cells' slots' hW1 hag hc1 hs1 hgr hok1
                      exact ih p e R s m args below meth c H1 locs1 cells' slots' Q cc o D ty ad' A ls pcs init ret K0 d (ix + 1) nL L _ M1 M' v X hml hrelK hin hrun hW1 hA (xEV_ag hag hE) (xokL_mono l1.1 hokL) hok1 (xlv_ag hag hokL hl) hLn hRf hRl (by omega) (by omega)
                        (fun H2 locs2 ad2 ls2 pc2 cells2 slots2 hW2 hag2 hc2 hs2 hret2 hok2 => K H2 locs2 ad2 ls2 pc2 cells2 slots2 hW2 (fun j hj => (hag2 j (by rcases hj with h | h; exact Or.inl (Nat.lt_of_lt_of_le h l1.1); exact Or.inr h)).trans (hag j hj)) (by omega) (by omega) hret2 hok2)
                    by_cases hap : xapart op
                    · exact hpr p e R s m args below meth c H locs cells slots Q cc o _ _ D ty ad A ls E op a pcs init ret st st' M M1 hap hE2 X (hml.trans hl.1.symm) hE hrO hp hW hA hokS hwt (by omega) (by omega) (by omega) (by omega) (by omega) (by omega) kc
                    · exact s_hO X (hml.trans hl.1.symm) hin hE hrO hp (fun h => hap (by unfold xapart; rcases h with h | h | h | h <;> simp [h])) (fun h => hap (by unfold xapart; simp [h])) hW hA hokS hwt ⟨by omega, by omega, by omega, by omega⟩ ⟨by omega, by omega⟩ kc
                  · cases hs
                · cases hs
theorem xwalk_all {l : Launch} {pr : Bool} {E : xE} (hpr : xPrim l pr) (hE2 : E.2 = xTX) (hck : ∀ r ∈ xRT, xok r = true) : ∀ n : Nat, xWalk l pr E n
  | 0 => by
    intro p e R s m args below meth c H locs cells slots Q cc o D ty ad A ls pcs init ret K0 d ix nL L st M M' v X hml hrelK hin hrun
    simp [xrun] at hrun
  | n + 1 => xwalk_succ hpr hE2 hck (xwalk_all hpr hE2 hck n)
