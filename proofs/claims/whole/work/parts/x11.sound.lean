/-! WHAT THE PLAIN MACHINE COMPUTES THE JVM DOES. First the instructions without a heap. -/
def xval (ad : Nat → Nat) (v : Value) : Value := match v with
  | .ref j => .ref (ad j)
  | v => v
theorem xval_cat (ad : Nat → Nat) (v : Value) : (xval ad v).category = v.category := by cases v <;> rfl
def xlv (ad : Nat → Nat) (L : xL) : List (Nat × Value) := L.zipIdx.filterMap (fun q => q.1.map (fun v => (q.2, xval ad v)))
theorem xlv_mem {ad : Nat → Nat} {L : xL} {i : Nat} {w : Value} : (i, w) ∈ xlv ad L ↔ ∃ v, L[i]? = some (some v) ∧ w = xval ad v := by
  unfold xlv
  rw [List.mem_filterMap]
  constructor
  · rintro ⟨⟨o, j⟩, h1, h2⟩
    cases o with
    | none => cases h2
    | some v =>
      simp only [Option.map_some, Option.some.injEq, Prod.mk.injEq] at h2
      obtain ⟨rfl, rfl⟩ := h2
      exact ⟨v, List.mem_zipIdx_iff_getElem?.mp h1, rfl⟩
  · rintro ⟨v, h1, rfl⟩
    exact ⟨(some v, i), List.mem_zipIdx_iff_getElem?.mpr h1, rfl⟩
theorem xlv_at {ad : Nat → Nat} {ls : Array Slot} {nL : Nat} {L : xL} (h : lv_has ls nL (xlv ad L)) {i : Nat} {v : Value} (hk : L[i]? = some (some v)) : ls[i]? = some (.val (xval ad v)) := h.2.2 (i, xval ad v) (xlv_mem.mpr ⟨v, hk, rfl⟩)
theorem lv_weak {ls : Array Slot} {nL : Nat} {l l' : List (Nat × Value)} (h : lv_has ls nL l) (hs : ∀ q ∈ l', q ∈ l) : lv_has ls nL l' := ⟨h.1, h.2.1, fun q hq => h.2.2 q (hs q hq)⟩
theorem xset_sub {ad : Nat → Nat} {L : xL} {i : Nat} {v : Value} : ∀ q ∈ xlv ad (xset L i v), q ∈ (i, xval ad v) :: (xlv ad L).filter (fun q => !(q.1 == i) && !(q.1 + 1 == i && q.2.category == 2)) := by
  rintro ⟨j, w⟩ hq
  obtain ⟨w0, h1, rfl⟩ := xlv_mem.mp hq
  rcases xset_get h1 with ⟨rfl, rfl⟩ | ⟨h2, h3, h4⟩
  · exact List.mem_cons_self
  · refine List.mem_cons_of_mem _ (List.mem_filter.mpr ⟨xlv_mem.mpr ⟨w0, h3, rfl⟩, ?_⟩)
    have h5 : ¬ (j + 1 = i ∧ (xval ad w0).category = 2) := by rw [xval_cat]; exact h4
    simp only [Bool.and_eq_true, Bool.not_eq_true', beq_eq_false_iff_ne, Bool.and_eq_false_iff]
    refine ⟨h2, ?_⟩
    by_cases hj : j + 1 = i
    · exact Or.inr (fun q => h5 ⟨hj, q⟩)
    · exact Or.inl hj
theorem xset2_sub {ad : Nat → Nat} {L : xL} {i : Nat} {v : Value} : ∀ q ∈ xlv ad (xset2 L i v), q ∈ (i, xval ad v) :: (xlv ad L).filter (fun q => !(q.1 == i) && (!(q.1 == i + 1) && !(q.1 + 1 == i && q.2.category == 2))) := by
  rintro ⟨j, w⟩ hq
  obtain ⟨w0, h1, rfl⟩ := xlv_mem.mp hq
  unfold xset2 at h1
  have hj : j ≠ i + 1 := by
    intro e
    subst e
    rw [List.getElem?_set, if_pos rfl] at h1
    split at h1 <;> simp at h1
  rw [List.getElem?_set_ne (fun e => hj e.symm)] at h1
  rcases xset_get h1 with ⟨rfl, rfl⟩ | ⟨h2, h3, h4⟩
  · exact List.mem_cons_self
  · refine List.mem_cons_of_mem _ (List.mem_filter.mpr ⟨xlv_mem.mpr ⟨w0, h3, rfl⟩, ?_⟩)
    have h5 : ¬ (j + 1 = i ∧ (xval ad w0).category = 2) := by rw [xval_cat]; exact h4
    simp only [Bool.and_eq_true, Bool.not_eq_true', beq_eq_false_iff_ne, Bool.and_eq_false_iff]
    refine ⟨h2, hj, ?_⟩
    by_cases hj : j + 1 = i
    · exact Or.inr (fun q => h5 ⟨hj, q⟩)
    · exact Or.inl hj
section SP
variable {p : Program} {l : Launch} {e : Env} {R : Room} {s : State} {m : MethodId} {args : Array Value} {below : List Frame} {meth : Method} {c : Code} {H : Heap} {locs : List Loc} {cells slots : Nat} {Q : State → Prop}
set_option maxHeartbeats 4000000 in
theorem s_pure {cc : ByteArray} {pc pc1 nL : Nat} {ls : Array Slot} {ad : Nat → Nat} {ins : Instr} {L L' : xL} {st st' : List Value} (hx : p.tables.exec = Jvm.exec) (hb : c.code = cc) (hrel : xrelP cc pc pc1 ins = true) (hp : xpure ins L st = some (L', st')) (hl : lv_has ls nL (xlv ad L)) (hn : L.length = nL)
    (k : ∀ ls', lv_has ls' nL (xlv ad L') → L'.length = nL → W p l e R s m args below meth c H locs cells slots Q (F0 m pc1 ls' (st'.map (xval ad)))) : W p l e R s m args below meth c H locs cells slots Q (F0 m pc ls (st.map (xval ad))) := by
  unfold xpure at hp
  split at hp
  case h_1 =>
    split at hp
    · rename_i hi
      cases hp
      have hv := xlv_at hl hi
      rcases Bool.or_eq_true_iff.mp hrel with h1 | h1
      · split at h1
        · obtain ⟨hd, rfl⟩ := xdec_spec h1
          exact lv_iload_n hx hb hd rfl hv (k _ hl hn)
        · cases h1
      · obtain ⟨hd, rfl⟩ := xdec_spec h1
        exact lv_iload hx hb hd hv (k _ hl hn)
    · cases hp
  case h_2 =>
    split at hp
    · rename_i hi
      cases hp
      have hv := xlv_at hl hi
      rcases Bool.or_eq_true_iff.mp hrel with h1 | h1
      · split at h1
        · obtain ⟨hd, rfl⟩ := xdec_spec h1
          exact lv_lload_n hx hb hd rfl hv (k _ hl hn)
        · cases h1
      · obtain ⟨hd, rfl⟩ := xdec_spec h1
        exact lv_lload hx hb hd hv (k _ hl hn)
    · cases hp
  case h_3 =>
    split at hp
    · rename_i hi
      cases hp
      have hv := xlv_at hl hi
      rcases Bool.or_eq_true_iff.mp hrel with h1 | h1
      · split at h1
        · obtain ⟨hd, rfl⟩ := xdec_spec h1
          exact lv_aload_n hx hb hd rfl hv (k _ hl hn)
        · cases h1
      · obtain ⟨hd, rfl⟩ := xdec_spec h1
        exact lv_aload hx hb hd hv (k _ hl hn)
    · cases hp
  case h_4 =>
    split at hp
    · rename_i hi
      cases hp
      rw [hn] at hi
      rcases Bool.or_eq_true_iff.mp hrel with h1 | h1
      · split at h1
        · obtain ⟨hd, rfl⟩ := xdec_spec h1
          exact lv_istore_n hx hb hd rfl hl hi rfl (fun ls' h' => k _ (lv_weak h' xset_sub) ((xset_len _ _ _).trans hn))
        · cases h1
      · obtain ⟨hd, rfl⟩ := xdec_spec h1
        exact lv_istore hx hb hd hl hi rfl (fun ls' h' => k _ (lv_weak h' xset_sub) ((xset_len _ _ _).trans hn))
    · cases hp
  case h_5 =>
    split at hp
    · rename_i hi
      cases hp
      rw [hn] at hi
      rcases Bool.or_eq_true_iff.mp hrel with h1 | h1
      · split at h1
        · obtain ⟨hd, rfl⟩ := xdec_spec h1
          exact lv_astore_n hx hb hd rfl hl hi rfl (fun ls' h' => k _ (lv_weak h' xset_sub) ((xset_len _ _ _).trans hn))
        · cases h1
      · obtain ⟨hd, rfl⟩ := xdec_spec h1
        exact lv_astore hx hb hd hl hi rfl (fun ls' h' => k _ (lv_weak h' xset_sub) ((xset_len _ _ _).trans hn))
    · cases hp
  case h_6 =>
    split at hp
    · rename_i hi
      cases hp
      rw [hn] at hi
      rcases Bool.or_eq_true_iff.mp hrel with h1 | h1
      · split at h1
        · obtain ⟨hd, rfl⟩ := xdec_spec h1
          exact lv_lstore_n hx hb hd rfl hl hi rfl (fun ls' h' => k _ (lv_weak h' xset2_sub) (by unfold xset2; rw [List.length_set, xset_len]; exact hn))
        · cases h1
      · obtain ⟨hd, rfl⟩ := xdec_spec h1
        exact lv_lstore hx hb hd hl hi rfl (fun ls' h' => k _ (lv_weak h' xset2_sub) (by unfold xset2; rw [List.length_set, xset_len]; exact hn))
    · cases hp
  case h_7 =>
    cases hp
    obtain ⟨hd, rfl⟩ := xdec_spec (n := 1) hrel
    exact lv_iadd hx hb hd (k _ hl hn)
  case h_8 =>
    cases hp
    obtain ⟨hd, rfl⟩ := xdec_spec (n := 1) hrel
    exact lv_isub hx hb hd (k _ hl hn)
  case h_9 =>
    cases hp
    obtain ⟨hd, rfl⟩ := xdec_spec (n := 1) hrel
    exact lv_imul hx hb hd (k _ hl hn)
  case h_10 =>
    cases hp
    obtain ⟨hd, rfl⟩ := xdec_spec (n := 1) hrel
    exact lv_iand hx hb hd (k _ hl hn)
  case h_11 =>
    cases hp
    obtain ⟨hd, rfl⟩ := xdec_spec (n := 1) hrel
    exact lv_ior hx hb hd (k _ hl hn)
  case h_12 =>
    cases hp
    obtain ⟨hd, rfl⟩ := xdec_spec (n := 1) hrel
    exact lv_ixor hx hb hd (k _ hl hn)
  case h_13 =>
    split at hp
    · cases hp
    · rename_i hne
      cases hp
      obtain ⟨hd, rfl⟩ := xdec_spec (n := 1) hrel
      exact lv_idiv hx hb hd hne (k _ hl hn)
  case h_14 =>
    split at hp
    · cases hp
    · rename_i hne
      cases hp
      obtain ⟨hd, rfl⟩ := xdec_spec (n := 1) hrel
      exact lv_irem hx hb hd hne (k _ hl hn)
  case h_15 =>
    cases hp
    obtain ⟨hd, rfl⟩ := xdec_spec (n := 1) hrel
    exact lv_ineg hx hb hd (k _ hl hn)
  case h_16 =>
    cases hp
    obtain ⟨hd, rfl⟩ := xdec_spec (n := 1) hrel
    exact lv_ishl hx hb hd (k _ hl hn)
  case h_17 =>
    cases hp
    obtain ⟨hd, rfl⟩ := xdec_spec (n := 1) hrel
    exact lv_ishr hx hb hd (k _ hl hn)
  case h_18 =>
    cases hp
    obtain ⟨hd, rfl⟩ := xdec_spec (n := 1) hrel
    exact lv_iushr hx hb hd rfl (k _ hl hn)
  case h_19 =>
    cases hp
    obtain ⟨hd, rfl⟩ := xdec_spec (n := 1) hrel
    exact lv_i2l hx hb hd rfl (k _ hl hn)
  case h_20 =>
    cases hp
    obtain ⟨hd, rfl⟩ := xdec_spec (n := 1) hrel
    exact lv_i2c hx hb hd rfl (k _ hl hn)
  case h_21 =>
    cases hp
    obtain ⟨hd, rfl⟩ := xdec_spec (n := 1) hrel
    exact lv_l2i hx hb hd rfl (k _ hl hn)
  case h_22 =>
    cases hp
    obtain ⟨hd, rfl⟩ := xdec_spec (n := 1) hrel
    exact lv_ladd hx hb hd (k _ hl hn)
  case h_23 =>
    cases hp
    obtain ⟨hd, rfl⟩ := xdec_spec (n := 1) hrel
    exact lv_lsub hx hb hd (k _ hl hn)
  case h_24 =>
    cases hp
    obtain ⟨hd, rfl⟩ := xdec_spec (n := 1) hrel
    exact lv_lmul hx hb hd (k _ hl hn)
  case h_25 =>
    cases hp
    obtain ⟨hd, rfl⟩ := xdec_spec (n := 1) hrel
    exact lv_land hx hb hd (k _ hl hn)
  case h_26 =>
    cases hp
    obtain ⟨hd, rfl⟩ := xdec_spec (n := 1) hrel
    exact lv_lor hx hb hd (k _ hl hn)
  case h_27 =>
    split at hp
    · cases hp
    · rename_i hne
      cases hp
      obtain ⟨hd, rfl⟩ := xdec_spec (n := 1) hrel
      exact lv_ldiv hx hb hd hne (k _ hl hn)
  case h_28 =>
    split at hp
    · cases hp
    · rename_i hne
      cases hp
      obtain ⟨hd, rfl⟩ := xdec_spec (n := 1) hrel
      exact lv_lrem hx hb hd hne (k _ hl hn)
  case h_29 =>
    cases hp
    obtain ⟨hd, rfl⟩ := xdec_spec (n := 1) hrel
    exact lv_lshl hx hb hd rfl (k _ hl hn)
  case h_30 =>
    cases hp
    obtain ⟨hd, rfl⟩ := xdec_spec (n := 1) hrel
    exact lv_lshr hx hb hd rfl (k _ hl hn)
  case h_31 =>
    cases hp
    obtain ⟨hd, rfl⟩ := xdec_spec (n := 1) hrel
    exact lv_lushr hx hb hd rfl (k _ hl hn)
  case h_32 =>
    cases hp
    obtain ⟨hd, rfl⟩ := xdec_spec (n := 1) hrel
    exact W.lcmp hx hb hd (k _ hl hn)
  case h_33 =>
    cases hp
    obtain ⟨hd, rfl⟩ := xdec_spec (n := 1) hrel
    exact lv_dup hx hb hd rfl (k _ hl hn)
  case h_34 =>
    cases hp
    obtain ⟨hd, rfl⟩ := xdec_spec (n := 1) hrel
    exact lv_dup hx hb hd rfl (k _ hl hn)
  case h_35 =>
    cases hp
    obtain ⟨hd, rfl⟩ := xdec_spec (n := 1) hrel
    exact lv_pop hx hb hd rfl (k _ hl hn)
  case h_36 =>
    cases hp
    obtain ⟨hd, rfl⟩ := xdec_spec (n := 1) hrel
    exact lv_dup2_11 hx hb hd rfl rfl (k _ hl hn)
  case h_37 => cases hp
set_option maxHeartbeats 4000000 in
theorem s_jmp {cc : ByteArray} {pcs : List Nat} {pc pc1 ix t op : Nat} {a : List Nat} {ls : Array Slot} {ad : Nat → Nat} {st st' : List Value} (hx : p.tables.exec = Jvm.exec) (hb : c.code = cc) (hrel : xrelJ cc pcs pc pc1 op a = true) (hpc : pc1 = pcs.getD (ix + 1) 0) (hp : xjmp op a ix st = some (t, st'))
    (k : W p l e R s m args below meth c H locs cells slots Q (F0 m (pcs.getD t 0) ls (st'.map (xval ad)))) : W p l e R s m args below meth c H locs cells slots Q (F0 m pc ls (st.map (xval ad))) := by
  unfold xjmp at hp
  split at hp
  case h_1 =>
    cases hp
    obtain ⟨hd, rfl⟩ := xdec_spec hrel
    exact lv_goto hx hb hd (by omega) k
  case h_2 =>
    rename_i tt x r
    cases hp
    obtain ⟨hd, hd2⟩ := xdec_spec hrel
    refine lv_if_eq (tgt := pcs.getD tt 0) hx hb hd (by omega) (fun h => ?_) (fun h => ?_)
    · rw [if_pos h] at k
      exact k
    · first | rw [if_neg h] at k | rw [if_neg (fun q => q h)] at k
      rw [← hd2, hpc]
      exact k
  case h_3 =>
    rename_i tt x r
    cases hp
    obtain ⟨hd, hd2⟩ := xdec_spec hrel
    refine lv_if_ne (tgt := pcs.getD tt 0) hx hb hd (by omega) (fun h => ?_) (fun h => ?_)
    · rw [if_pos h] at k
      exact k
    · first | rw [if_neg h] at k | rw [if_neg (fun q => q h)] at k
      rw [← hd2, hpc]
      exact k
  case h_4 =>
    rename_i tt x r
    cases hp
    obtain ⟨hd, hd2⟩ := xdec_spec hrel
    refine lv_if_lt (tgt := pcs.getD tt 0) hx hb hd (by omega) (fun h => ?_) (fun h => ?_)
    · rw [if_pos h] at k
      exact k
    · first | rw [if_neg h] at k | rw [if_neg (fun q => q h)] at k
      rw [← hd2, hpc]
      exact k
  case h_5 =>
    rename_i tt x r
    cases hp
    obtain ⟨hd, hd2⟩ := xdec_spec hrel
    refine lv_if_ge (tgt := pcs.getD tt 0) hx hb hd (by omega) (fun h => ?_) (fun h => ?_)
    · rw [if_pos h] at k
      exact k
    · first | rw [if_neg h] at k | rw [if_neg (fun q => q h)] at k
      rw [← hd2, hpc]
      exact k
  case h_6 =>
    rename_i tt x r
    cases hp
    obtain ⟨hd, hd2⟩ := xdec_spec hrel
    refine lv_if_gt (tgt := pcs.getD tt 0) hx hb hd (by omega) (fun h => ?_) (fun h => ?_)
    · rw [if_pos h] at k
      exact k
    · first | rw [if_neg h] at k | rw [if_neg (fun q => q h)] at k
      rw [← hd2, hpc]
      exact k
  case h_7 =>
    rename_i tt x r
    cases hp
    obtain ⟨hd, hd2⟩ := xdec_spec hrel
    refine lv_if_le (tgt := pcs.getD tt 0) hx hb hd (by omega) (fun h => ?_) (fun h => ?_)
    · rw [if_pos h] at k
      exact k
    · first | rw [if_neg h] at k | rw [if_neg (fun q => q h)] at k
      rw [← hd2, hpc]
      exact k
  case h_8 =>
    rename_i tt y x r
    cases hp
    obtain ⟨hd, hd2⟩ := xdec_spec hrel
    refine lv_icmp_eq (tgt := pcs.getD tt 0) hx hb hd (by omega) (fun h => ?_) (fun h => ?_)
    · rw [if_pos h] at k
      exact k
    · first | rw [if_neg h] at k | rw [if_neg (fun q => q h)] at k
      rw [← hd2, hpc]
      exact k
  case h_9 =>
    rename_i tt y x r
    cases hp
    obtain ⟨hd, hd2⟩ := xdec_spec hrel
    refine lv_icmp_ne (tgt := pcs.getD tt 0) hx hb hd (by omega) (fun h => ?_) (fun h => ?_)
    · rw [if_pos h] at k
      exact k
    · first | rw [if_neg h] at k | rw [if_neg (fun q => q h)] at k
      rw [← hd2, hpc]
      exact k
  case h_10 =>
    rename_i tt y x r
    cases hp
    obtain ⟨hd, hd2⟩ := xdec_spec hrel
    refine lv_icmp_lt (tgt := pcs.getD tt 0) hx hb hd (by omega) (fun h => ?_) (fun h => ?_)
    · rw [if_pos h] at k
      exact k
    · first | rw [if_neg h] at k | rw [if_neg (fun q => q h)] at k
      rw [← hd2, hpc]
      exact k
  case h_11 =>
    rename_i tt y x r
    cases hp
    obtain ⟨hd, hd2⟩ := xdec_spec hrel
    refine lv_icmp_ge (tgt := pcs.getD tt 0) hx hb hd (by omega) (fun h => ?_) (fun h => ?_)
    · rw [if_pos h] at k
      exact k
    · first | rw [if_neg h] at k | rw [if_neg (fun q => q h)] at k
      rw [← hd2, hpc]
      exact k
  case h_12 =>
    rename_i tt y x r
    cases hp
    obtain ⟨hd, hd2⟩ := xdec_spec hrel
    refine lv_icmp_gt (tgt := pcs.getD tt 0) hx hb hd (by omega) (fun h => ?_) (fun h => ?_)
    · rw [if_pos h] at k
      exact k
    · first | rw [if_neg h] at k | rw [if_neg (fun q => q h)] at k
      rw [← hd2, hpc]
      exact k
  case h_13 =>
    rename_i tt y x r
    cases hp
    obtain ⟨hd, hd2⟩ := xdec_spec hrel
    refine lv_icmp_le (tgt := pcs.getD tt 0) hx hb hd (by omega) (fun h => ?_) (fun h => ?_)
    · rw [if_pos h] at k
      exact k
    · first | rw [if_neg h] at k | rw [if_neg (fun q => q h)] at k
      rw [← hd2, hpc]
      exact k
  case h_14 =>
    rename_i lo dd ts x r
    cases hp
    obtain ⟨hd, hd2⟩ := xdec_spec hrel
    unfold xswi at k
    by_cases h1 : x.toInt < (lo : Int) - 100
    · rw [if_pos h1] at k
      exact lv_tableOut hx hb hd (Or.inl h1) (by omega) k
    · rw [if_neg h1] at k
      by_cases h2 : (lo : Int) - 100 + ts.length - 1 < x.toInt
      · have e1 : ts.getD (x.toInt - ((lo : Int) - 100)).toNat dd = dd := by rw [List.getD_eq_getElem?_getD, List.getElem?_eq_none (by omega)]; rfl
        rw [e1] at k
        exact lv_tableOut hx hb hd (Or.inr h2) (by omega) k
      · have hlt : (x.toInt - ((lo : Int) - 100)).toNat < ts.length := by omega
        have e1 : ts.getD (x.toInt - ((lo : Int) - 100)).toNat dd = ts[(x.toInt - ((lo : Int) - 100)).toNat]'hlt := by rw [List.getD_eq_getElem?_getD, List.getElem?_eq_getElem hlt]; rfl
        rw [e1] at k
        refine lv_tableIn (off := (pcs.getD (ts[(x.toInt - ((lo : Int) - 100)).toNat]'hlt) 0 : Int) - pc) hx hb hd h1 h2 ?_ (by omega) k
        rw [List.getElem?_toArray, List.getElem?_map, List.getElem?_eq_getElem hlt]
        rfl
  case h_15 => cases hp
end SP
