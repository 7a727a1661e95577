/-! THE LAW'S START OUT OF THE WALK -/
section ST
variable {p : Program} {e : Env} {s : State} {m : MethodId} {args : Array Value} {below : List Frame} {meth : Method} {c : Code} {U : State}
theorem arrT_of {cA comp : ClassId} {k : Class} {ty : FieldType} (h1 : U.vm.classes[cA]? = some k) (h2 : k.kind = .array comp ty) : ArrOfT U cA ty := fun n z => ⟨fun k h => (by cases h), k, h1, comp, h2⟩
theorem ty_obj {C : String} (h : (Cond.arrayOver (.object C)).before args s = true) : ∃ cA, ArrOfT s cA (.object C) ∧ va_RA s cA (.object C) := by
  obtain ⟨comp, c, k, h1, h2, h3, h4, h5⟩ := Cond.arrayOver_spec h
  exact ⟨c, arrT_of h3 h4, k, comp, h3, h4, h1, h5⟩
theorem ty_arr {t : FieldType} (h : (Cond.arrayOver (.array t)).before args s = true) : ∃ cA, ArrOfT s cA (.array t) ∧ va_RA s cA (.array t) := by
  obtain ⟨comp, c, k, h1, h2, h3, h4, h5⟩ := arrayOverA_spec h
  exact ⟨c, arrT_of h3 h4, h5⟩
theorem ty_prim {t : FieldType} (h : (Cond.arrayClass t).before args s = true) : ∃ cA, ArrOfT s cA t ∧ s.vm.findClass ("[" ++ t.toString) = some cA := by
  obtain ⟨cA, kA, comp, h1, h2, h3⟩ := Cond.arrayClass_spec h
  exact ⟨cA, arrT_of h2 h3, h1⟩
theorem tys_all (hts : ∀ w ∈ lw_tbl, w.before args s = true) : ∃ ty : Nat → ClassId, ∀ (k : Nat) (q : ClassId × FieldType), (xTys ty)[k]? = some q → ArrOfT s q.1 q.2 ∧ va_RA s q.1 q.2 := by
  obtain ⟨t0, a0, b0⟩ := ty_prim (hts (.arrayClass .int) (by decide +kernel))
  obtain ⟨t1, a1, b1⟩ := ty_prim (hts (.arrayClass .long) (by decide +kernel))
  obtain ⟨t2, a2, b2⟩ := ty_prim (hts (.arrayClass .char) (by decide +kernel))
  obtain ⟨t3, a3, b3⟩ := ty_prim (hts (.arrayClass .boolean) (by decide +kernel))
  obtain ⟨t4, a4, b4⟩ := ty_obj (hts (.arrayOver (.object "NutmegSeats$Scene")) (by decide +kernel))
  obtain ⟨t5, a5, b5⟩ := ty_obj (hts (.arrayOver (.object "NutmegSeats$Seen")) (by decide +kernel))
  obtain ⟨t6, a6, b6⟩ := ty_arr (hts (.arrayOver (.array .int)) (by decide +kernel))
  refine ⟨fun k => if k = 0 then t0 else if k = 1 then t1 else if k = 2 then t2 else if k = 3 then t3 else if k = 4 then t4 else if k = 5 then t5 else t6, ?_⟩
  intro k q hq
  match k, hq with
  | 0, hq => cases hq; exact ⟨a0, b0⟩
  | 1, hq => cases hq; exact ⟨a1, b1⟩
  | 2, hq => cases hq; exact ⟨a2, b2⟩
  | 3, hq => cases hq; exact ⟨a3, b3⟩
  | 4, hq => cases hq; exact ⟨a4, b4⟩
  | 5, hq => cases hq; exact ⟨a5, b5⟩
  | 6, hq => cases hq; exact ⟨a6, b6⟩
  | k + 7, hq => cases hq
theorem cls_all (hts : ∀ w ∈ lw_tbl, w.before args s = true) : ∃ D : va_G, ∀ (k : Nat) (q : vw_C), vwCl[k]? = some q → u_Kn s q.1 q.2.1 q.2.2 (D.1 k) (D.2 k) := by
  obtain ⟨c0, i0, k0⟩ := u_known (C := RX0) (T := TX0) (N := 2) (n := 2) hts lay_X0 (hts (.instantiable RX0 2) (by decide +kernel))
  obtain ⟨c1, i1, k1⟩ := u_known (C := RX1) (T := TX1) (N := 4) (n := 4) hts lay_X1 (hts (.instantiable RX1 4) (by decide +kernel))
  obtain ⟨c2, i2, k2⟩ := u_known (C := RX2) (T := TX2) (N := 12) (n := 12) hts lay_X2 (hts (.instantiable RX2 12) (by decide +kernel))
  obtain ⟨c3, i3, k3⟩ := u_known (C := RX3) (T := TX3) (N := 2) (n := 2) hts lay_X3 (hts (.instantiable RX3 2) (by decide +kernel))
  obtain ⟨c4, i4, k4⟩ := u_known (C := RX4) (T := TX4) (N := 3) (n := 3) hts lay_X4 (hts (.instantiable RX4 3) (by decide +kernel))
  obtain ⟨c5, i5, k5⟩ := u_known (C := RX5) (T := TX5) (N := 6) (n := 6) hts lay_X5 (hts (.instantiable RX5 6) (by decide +kernel))
  obtain ⟨c6, i6, k6⟩ := u_known (C := RX6) (T := TX6) (N := 7) (n := 7) hts lay_X6 (hts (.instantiable RX6 7) (by decide +kernel))
  obtain ⟨c7, i7, k7⟩ := u_known (C := RX7) (T := TX7) (N := 4) (n := 4) hts lay_X7 (hts (.instantiable RX7 4) (by decide +kernel))
  obtain ⟨c8, i8, k8⟩ := u_known (C := RX8) (T := TX8) (N := 3) (n := 3) hts lay_X8 (hts (.instantiable RX8 3) (by decide +kernel))
  obtain ⟨c9, i9, k9⟩ := u_known (C := RX9) (T := TX9) (N := 2) (n := 2) hts lay_X9 (hts (.instantiable RX9 2) (by decide +kernel))
  obtain ⟨c10, i10, k10⟩ := u_known (C := RX10) (T := TX10) (N := 7) (n := 7) hts lay_X10 (hts (.instantiable RX10 7) (by decide +kernel))
  obtain ⟨c11, i11, k11⟩ := u_known (C := RX11) (T := TX11) (N := 11) (n := 11) hts lay_X11 (hts (.instantiable RX11 11) (by decide +kernel))
  obtain ⟨c12, i12, k12⟩ := u_known (C := RX12) (T := TX12) (N := 35) (n := 35) hts lay_X12 (hts (.instantiable RX12 35) (by decide +kernel))
  refine ⟨(fun k => if k = 0 then c0 else if k = 1 then c1 else if k = 2 then c2 else if k = 3 then c3 else if k = 4 then c4 else if k = 5 then c5 else if k = 6 then c6 else if k = 7 then c7 else if k = 8 then c8 else if k = 9 then c9 else if k = 10 then c10 else if k = 11 then c11 else c12, fun k => if k = 0 then i0 else if k = 1 then i1 else if k = 2 then i2 else if k = 3 then i3 else if k = 4 then i4 else if k = 5 then i5 else if k = 6 then i6 else if k = 7 then i7 else if k = 8 then i8 else if k = 9 then i9 else if k = 10 then i10 else if k = 11 then i11 else i12), ?_⟩
  intro k q hq
  match k, hq with
  | 0, hq => cases hq; exact k0
  | 1, hq => cases hq; exact k1
  | 2, hq => cases hq; exact k2
  | 3, hq => cases hq; exact k3
  | 4, hq => cases hq; exact k4
  | 5, hq => cases hq; exact k5
  | 6, hq => cases hq; exact k6
  | 7, hq => cases hq; exact k7
  | 8, hq => cases hq; exact k8
  | 9, hq => cases hq; exact k9
  | 10, hq => cases hq; exact k10
  | 11, hq => cases hq; exact k11
  | 12, hq => cases hq; exact k12
  | k + 13, hq => cases hq
def lawLs : xL := [some (.ref 2000), none, none, none, none, none, none]
def xM0 : xM := (fun _ _ => 0, fun _ _ => 0, fun _ _ => 0, fun _ _ => 0, fun _ _ => none, fun _ _ => none, [])
set_option maxHeartbeats 4000000 in
theorem law_start (l : Launch) (hpr : xPrim l true) (hck : ∀ r ∈ xRT, xok r = true) (hlaw : ∀ (ix : Nat) (ai : xA), K_L_law[ix]? = some ai → xrel cL_law P_L_law 15 false (some .boolean) (P_L_law.getD ix 0) (P_L_law.getD (ix + 1) 0) ai = true) {b L : Nat} {xs : Nat → Int32} (hL : L ≤ 3584) (C0 : lw_At p s m meth c b L xs) {ad : Nat → Nat} (had : ad xSCR = b) (hstr : ∀ q ∈ xSl, vk_R (xRn q.1.1) q.1.2 (xTs.getD q.2 "") (ad (xSTR + q.2)) s) (hsx : xSx ((nI L, fun i => xs i.toNatClampNeg), xTX) ad (fun q => s.heap.size ≤ q) s s.heap) {n : Nat} {M' : xM} (hrun : xrun xMT true ((nI L, fun i => xs i.toNatClampNeg), xTX) n 60 K_L_law 0 lawLs [] xM0 = some (some (.int 1), M')) (h1 : xcs M' ≤ 601024) (h2 : xss M' ≤ 7293034) : W p l e room_1 s m #[Value.ref b] below meth c s.heap [] 0 0 (lw_Z below #[Value.ref b] s) (entryFrame m ([Value.ref b] : List Value).toArray 7) := by
  obtain ⟨hx, hb, hr, hml, hown, hts, hX, hbl, hlocks, hgv⟩ := id C0
  obtain ⟨D, hD⟩ := cls_all hts
  obtain ⟨ty, hty⟩ := tys_all hts
  have hl := lv_entry ([.ref b]) (n := 7) (Nat.le_of_ble_eq_true rfl)
  rw [lg_entry_eq]
  generalize (lg_sl ([.ref b]) ++ List.replicate (7 - (lg_sl ([.ref b])).length) Slot.unset).toArray = ls at hl ⊢
  have hl : lv_has ls 7 [(0, .ref b)] := hl
  have hE : xEV ((nI L, fun i => xs i.toNatClampNeg), xTX) ad (fun q => s.heap.size ≤ q) s s.heap := by
    refine ⟨⟨⟨L, xs, by rw [had]; exact hX, by rw [had]; exact hbl, by rw [had]; exact Nat.not_le.mpr hbl, by omega, rfl, fun j hj => ?_⟩, hsx⟩, fun q hq => ?_, va_AO.of (hts _ (by decide +kernel)), va_AO.of (hts _ (by decide +kernel)), ?_, hstr⟩
    · show xs j = xs (nI j).toNatClampNeg
      rw [nI_clamp (by omega)]
    · exact va_tabs (rfl : (xCn q).onTables = true) rfl (hts _ (xNl_in q hq))
    · exact over_moved (Vm.Alike.refl s.vm) (hts (.arrayOver (.array .int)) (by decide +kernel))
  have hp0 : P_L_law.getD 0 0 = 0 := rfl
  have hw0 : xwld ty ad xM0 = [] := rfl
  have key := xwalk_all hpr rfl hck n p e room_1 s m #[Value.ref b] below meth c s.heap [] 0 0 (lw_Z below #[Value.ref b] s) cL_law 15 D ty ad (fun q => s.heap.size ≤ q) ls P_L_law false (some .boolean) K_L_law 60 0 7 lawLs [] xM0 M' (some (.int 1))
    ⟨hx, hb, hown, fun w hw => hts w (List.mem_filter.mp hw).1, hD, hty⟩ hml hlaw (fun h => by cases h) hrun
    ⟨fun k q h => (by rw [hw0] at h; cases h), ⟨fun i j p q h => (by rw [hw0] at h; cases h), fun k q h => (by rw [hw0] at h; cases h)⟩, va_S.rf, ⟨Nat.zero_le _, fun c k j h => (by cases h), fun c i j h => (by cases h), fun c sh h => (by cases h)⟩⟩ (fun q h => h) hE
    (fun i v hv => by
      match i, hv with
      | 0, hv => cases hv; exact fun j hj => by cases hj; exact Or.inr (Nat.le_refl _)
      | 1, hv => cases hv
      | 2, hv => cases hv
      | 3, hv => cases hv
      | 4, hv => cases hv
      | 5, hv => cases hv
      | 6, hv => cases hv
      | i + 7, hv => cases hv)
    (fun v hv => by cases hv) (by
      have : xlv ad lawLs = [(0, .ref (ad xSCR))] := rfl
      rw [this, had]
      exact hl) rfl (by decide) (by decide) (by show 0 + xcs M' ≤ 601024 + xcs xM0; omega) (by show 0 + xss M' ≤ 7293034 + xss xM0; omega)
    (fun H1 locs1 ad' ls' pc' cells' slots' hW1 hag hc1 hs1 hret hokv => by
      have e1 : xcs xM0 = 0 := rfl
      have e2 : xss xM0 = 0 := rfl
      rw [e1] at hc1
      rw [e2] at hs1
      obtain ⟨hd, t, ht, hn⟩ := hret
      refine va_forget (fun q hq => hW1.2.2.1.2.2 q hq) ?_
      refine W.widen (k := 601024) (n := 7293034) (by omega) (by omega) ?_
      exact lw_ret hx hb hr hlocks hd)
  rw [hp0] at key
  exact key
end ST
