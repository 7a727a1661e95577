/-! THE CALLS OF TEXTS: length, charAt, indexOf -/
section TX
variable {p : Program} {l : Launch} {e : Env} {R : Room} {s : State} {m : MethodId} {args : Array Value} {below : List Frame} {meth : Method} {c : Code} {H : Heap} {locs : List Loc} {cells slots : Nat} {Q : State → Prop}
variable {cc : ByteArray} {o pc pc1 : Nat} {D : va_G} {ty : Nat → ClassId} {ad : Nat → Nat} {A : Nat → Prop} {ls : Array Slot} {E : xE}
theorem s_txt {kk n f k : Nat} {y : MethodName} {b0 : ByteArray} {ret : Option FieldType} {j : Nat} {tx : List Nat} {as : List Value} {x : Int32} {r : List Value} {M : xM} (X : xCtx p s m args c cc o D ty) (hml : c.maxLocals = ls.size) (hE : xEV E ad A s s.heap) (hW : xAt D ty ad A M s.heap H locs) (hj : xSTR ≤ j) (ht : E.2[j - xSTR]? = some tx)
    (hl : xany3 xGl cc o pc pc1 kk .invokevirtual = true) (hy : xGm kk = y) (hM : ∀ d, ((∀ j, tx.getD j 0 < 128) ∧ tx.length < 1000) → jMet l y b0 n ret f k (ad j) d tx (.ref (ad j) :: as) (some (.int x)))
    (w : Cond.instanceMethod y ∈ lw_tbl ∧ Cond.selects "java/lang/String" y y ∈ lw_tbl ∧ Cond.code y b0 n ret ∈ lw_tbl ∧ Cond.initialized y.cls ∈ lw_tbl) (hd : y.cls ≠ "java/lang/invoke/MethodHandle" ∧ y.cls ≠ "java/lang/invoke/VarHandle" ∧ (parseMethodDescriptor y.desc).map (fun d => d.parameters.length) = some as.length)
    (hR : f + 1 ≤ R.frames ∧ 8 + (n + 11) + k ≤ R.locals) (hc : cells ≤ R.cells ∧ slots ≤ R.slots) (hwt : xwt r ≤ 8)
    (k2 : W p l e R s m args below meth c H locs cells slots Q (F0 m pc1 ls (.int x :: r.map (xval ad)))) : W p l e R s m args below meth c H locs cells slots Q (F0 m pc ls (as.reverse ++ .ref (ad j) :: r.map (xval ad))) := by
  obtain ⟨hx, hb, hown, hts, hK⟩ := X
  obtain ⟨idx, hm, hdg, rfl⟩ := xany3_spec hl
  obtain ⟨d, hT⟩ := txS.of (hE.1.2.kept hW.2.2.1.2.1) ht
  rw [show xSTR + (j - xSTR) = j by omega] at hT
  have w1 : Cond.methodLink (xRn o) idx y ∈ lw_tbl := by
    have h1 := xGl_in _ hm
    unfold xGw at h1
    rwa [hy] at h1
  exact j_callV (as := as) (rest := r.map (xval ad)) hx hb hml rfl hown hts (hM d hT.2.2.2.2.1) hT ⟨w1, w⟩ hd hR hc (by rw [xwt_map]; exact hwt) hdg k2
theorem xCont.re {x y : Int32} {r : List Value} {M M' : xM} (e1 : x = y) (k : xCont p l e R s m args below meth c cells slots Q D ty ad A ls pc1 M (.int x :: r) M') : xCont p l e R s m args below meth c cells slots Q D ty ad A ls pc1 M (.int y :: r) M' := e1 ▸ k
set_option maxHeartbeats 4000000 in
theorem s_ops {pr : Bool} {op : Nat} {a : List Nat} {pcs : List Nat} {init : Bool} {ret : Option FieldType} {st st' : List Value} {M M' : xM} (hop : op = 63 ∨ op = 64 ∨ op = 65) (X : xCtx p s m args c cc o D ty) (hml : c.maxLocals = ls.size) (hE : xEV E ad A s s.heap) (hrel : xrelO cc pcs o init ret pc pc1 op a = true) (hp : xhO pr op a E st M = some (st', M'))
    (hW : xAt D ty ad A M s.heap H locs) (hok : xokS1 (mS M).length st) (hwt : xwt st ≤ 9 ∨ op < 60) (hF : 12 ≤ R.frames) (hLo : 500 ≤ R.locals) (hc : cells ≤ R.cells) (hs : slots ≤ R.slots)
    (k : xCont p l e R s m args below meth c cells slots Q D ty ad A ls pc1 M st' M') : W p l e R s m args below meth c H locs cells slots Q (F0 m pc ls (st.map (xval ad))) := by
  unfold xhO at hp
  split at hp
  case h_15 =>
    rename_i M j r
    split at hp
    · rename_i hj
      split at hp
      · rename_i tx ht
        cases hp
        have hr : ∀ v ∈ r, xok1 _ v := fun v hv => hok v (List.mem_cons_of_mem _ hv)
        have h8 : xwt r ≤ 8 := by
          have e1 : xwt (.ref j :: r) = 1 + xwt r := rfl
          omega
        refine s_txt (as := []) (y := yJ0_length_8abf5) (f := 1) (k := 24) X hml hE hW hj ht hrel rfl (fun d h5 => jm_length) ⟨by decide +kernel, by decide +kernel, by decide +kernel, by decide +kernel⟩ ⟨by decide, by decide, by show _ = some 0; decide +kernel⟩ ⟨by omega, by omega⟩ ⟨hc, hs⟩ h8 ?_
        exact xCont.same k rfl rfl hW (fun v hv => by
          rcases List.mem_cons.mp hv with rfl | h
          · exact xok1_int
          · exact hr v h)
      · cases hp
    · cases hp
  case h_16 =>
    rename_i M i j r
    split at hp
    · rename_i hj
      split at hp
      · rename_i tx ht
        split at hp
        · rename_i ch hch
          cases hp
          have hr : ∀ v ∈ r, xok1 _ v := fun v hv => hok v (List.mem_cons_of_mem _ (List.mem_cons_of_mem _ hv))
          have h8 : xwt r ≤ 8 := by
            have e1 : xwt (.int i :: .ref j :: r) = 1 + (1 + xwt r) := rfl
            omega
          obtain ⟨q, hq, rfl⟩ := nI_of (x := i) (by grind)
          rw [nI_clamp hq] at hch
          have hqt : q < tx.length := (List.getElem?_eq_some_iff.mp hch).1
          have e2 : tx.getD q 0 = ch := by rw [List.getD_eq_getElem?_getD, hch]; rfl
          subst e2
          refine s_txt (as := [.int (nI q)]) (y := yJ0_charAt_5068e) (f := 3) (k := 72) X hml hE hW hj.1 ht hrel rfl (fun d h5 => jm_charAt hqt h5) ⟨by decide +kernel, by decide +kernel, by decide +kernel, by decide +kernel⟩ ⟨by decide, by decide, by show _ = some 1; decide +kernel⟩ ⟨by omega, by omega⟩ ⟨hc, hs⟩ h8 ?_
          exact xCont.same k rfl rfl hW (fun v hv => by
            rcases List.mem_cons.mp hv with rfl | h
            · exact xok1_int
            · exact hr v h)
        · cases hp
      · cases hp
    · cases hp
  case h_17 =>
    rename_i M ch j r
    split at hp
    · rename_i hj
      split at hp
      · rename_i tx ht
        cases hp
        have hr : ∀ v ∈ r, xok1 _ v := fun v hv => hok v (List.mem_cons_of_mem _ (List.mem_cons_of_mem _ hv))
        have h8 : xwt r ≤ 8 := by
          have e1 : xwt (.int ch :: .ref j :: r) = 1 + (1 + xwt r) := rfl
          omega
        have k := xCont.re (y := jxF ch tx 0) (by exact jxF_find tx 0) k
        refine s_txt (as := [.int ch]) (y := yJ0_indexOf_0f7a4) (f := 3) (k := 100) X hml hE hW hj ht hrel rfl (fun d h5 => jm_ix h5) ⟨by decide +kernel, by decide +kernel, by decide +kernel, by decide +kernel⟩ ⟨by decide, by decide, by show _ = some 1; decide +kernel⟩ ⟨by omega, by omega⟩ ⟨hc, hs⟩ h8 ?_
        exact xCont.same k rfl rfl hW (fun v hv => by
          rcases List.mem_cons.mp hv with rfl | h
          · exact xok1_int
          · exact hr v h)
      · cases hp
    · cases hp
  all_goals (try (rcases hop with h | h | h <;> cases h; done))
  all_goals (cases hp)
end TX
