/-! CONSTANTS, COUNTERS, THE RESOLVED INSTRUCTIONS -/
def xEV (E : xE) (ad : Nat → Nat) (A : Nat → Prop) (U : State) (H : Heap) : Prop :=
  (xScr E (ad xSCR) A U H ∧ xSx E ad A U H) ∧ (∀ q ∈ xNl, va_Nw (xCn q) U) ∧ va_AO (xR 6) U ∧ va_AO (xR 7) U ∧ va_AOA .int U ∧ (∀ q ∈ xSl, vk_R (xRn q.1.1) q.1.2 (xTs.getD q.2 "") (ad (xSTR + q.2)) U)
section SC
variable {p : Program} {l : Launch} {e : Env} {R : Room} {s : State} {m : MethodId} {args : Array Value} {below : List Frame} {meth : Method} {c : Code} {H : Heap} {locs : List Loc} {cells slots : Nat} {Q : State → Prop}
variable {cc : ByteArray} {o pc pc1 : Nat} {D : va_G} {ty : Nat → ClassId} {ad : Nat → Nat} {A : Nat → Prop} {ls : Array Slot} {E : xE}
theorem s_const {v : Value} {st : List Value} (X : xCtx p s m args c cc o D ty) (hE : ∀ q ∈ xSl, vk_R (xRn q.1.1) q.1.2 (xTs.getD q.2 "") (ad (xSTR + q.2)) s) (hrel : xrelV cc o pc pc1 v = true)
    (k : W p l e R s m args below meth c H locs cells slots Q (F0 m pc1 ls (xval ad v :: st))) : W p l e R s m args below meth c H locs cells slots Q (F0 m pc ls st) := by
  obtain ⟨hx, hb, hown, hts, hK⟩ := X
  cases v with
  | int v =>
    rcases Bool.or_eq_true_iff.mp hrel with h | h
    · rcases Bool.or_eq_true_iff.mp h with h | h
      · rcases Bool.or_eq_true_iff.mp h with h | h
        · obtain ⟨hd, rfl⟩ := xdec_spec h
          exact lv_iconst hx hb hd (Int32.ofInt_toInt v) k
        · rw [Bool.and_eq_true] at h
          obtain ⟨hd, rfl⟩ := xdec_spec h.2
          exact lv_bipush hx hb hd (of_decide_eq_true h.1) k
      · rw [Bool.and_eq_true] at h
        obtain ⟨hd, rfl⟩ := xdec_spec h.2
        exact lv_sipush hx hb hd (of_decide_eq_true h.1) k
    · obtain ⟨⟨⟨a, idx⟩, v2⟩, hm, h2⟩ := List.any_eq_true.mp h
      simp only [Bool.and_eq_true, beq_iff_eq, decide_eq_true_eq, Bool.or_eq_true] at h2
      obtain ⟨rfl, rfl, h3 | h3⟩ := h2
      · obtain ⟨hd, rfl⟩ := xdec_spec h3
        exact lv_ldc (own := xRn a) hx hb hown (hts _ (xGW_in (xKl_in _ hm) rfl)) hd k
      · obtain ⟨hd, rfl⟩ := xdec_spec h3
        exact lv_ldcw (own := xRn a) hx hb hown (hts _ (xGW_in (xKl_in _ hm) rfl)) hd k
  | long v =>
    rcases Bool.or_eq_true_iff.mp hrel with h | h
    · rcases Bool.or_eq_true_iff.mp h with h | h
      · rw [Bool.and_eq_true] at h
        obtain ⟨hd, rfl⟩ := xdec_spec h.2
        exact lv_lconst hx hb hd (of_decide_eq_true h.1).symm k
      · rw [Bool.and_eq_true] at h
        obtain ⟨hd, rfl⟩ := xdec_spec h.2
        exact lv_lconst hx hb hd (of_decide_eq_true h.1).symm k
    · obtain ⟨⟨⟨a, idx⟩, v2⟩, hm, h2⟩ := List.any_eq_true.mp h
      simp only [Bool.and_eq_true, beq_iff_eq, decide_eq_true_eq] at h2
      obtain ⟨rfl, rfl, h3⟩ := h2
      obtain ⟨hd, rfl⟩ := xdec_spec h3
      exact lv_ldc2 (own := xRn a) hx hb hown (hts _ (xGW_in (xJl_in _ hm) rfl)) hd k
  | ref j =>
    obtain ⟨⟨⟨a, idx⟩, t⟩, hm, h2⟩ := List.any_eq_true.mp hrel
    simp only [Bool.and_eq_true, beq_iff_eq] at h2
    obtain ⟨rfl, rfl, h3⟩ := h2
    obtain ⟨hd, rfl⟩ := xdec_spec h3
    have hZ : vk_R (xRn a) idx (xTs.getD t "") (ad (xSTR + t)) s := hE ((a, idx), t) hm
    generalize xTs.getD t "" = tx at hZ
    generalize hj : xSTR + t = jj at hZ k
    have k' : W p l e R s m args below meth c H locs cells slots Q (F0 m (pc + 2) ls (.ref (ad jj) :: st)) := k
    exact va_ldcS (own := xRn a) (q := ad jj) hx hb hown hZ hd k'
  | _ => cases hrel
theorem s_inc {op : Nat} {a : List Nat} {nL : Nat} {L L' : xL} {st : List Value} {pcs : List Nat} {init : Bool} {ret : Option FieldType} (hx : p.tables.exec = Jvm.exec) (hb : c.code = cc) (hrel : xrelO cc pcs o init ret pc pc1 op a = true) (hp : xinc op a L = some L') (hl : lv_has ls nL (xlv ad L)) (hn : L.length = nL)
    (k : ∀ ls', lv_has ls' nL (xlv ad L') → L'.length = nL → W p l e R s m args below meth c H locs cells slots Q (F0 m pc1 ls' st)) : W p l e R s m args below meth c H locs cells slots Q (F0 m pc ls st) := by
  have core : ∀ (i : Nat) (x : Int32) (n : Int), xdec cc pc (.iinc i n) 3 pc1 = true → L[i]? = some (some (.int x)) → L' = L.set i (some (.int (x + Int32.ofInt n))) → W p l e R s m args below meth c H locs cells slots Q (F0 m pc ls st) := by
    intro i x n h3 hi e1
    obtain ⟨hd, rfl⟩ := xdec_spec h3
    have hil : i < nL := by rw [← hn]; exact (List.getElem?_eq_some_iff.mp hi).1
    obtain ⟨j, hj⟩ := List.getElem?_of_mem (xlv_mem (ad := ad).mpr ⟨_, hi, rfl⟩)
    refine lv_iinc hx hb hd hl (k := j) hj rfl hil rfl (fun ls' h' => k ls' (lv_weak h' ?_) (by rw [e1, List.length_set]; exact hn))
    rintro ⟨b, w⟩ hq
    obtain ⟨w0, h1, rfl⟩ := xlv_mem.mp hq
    rw [e1, List.getElem?_set] at h1
    split at h1
    · rename_i hb2
      rw [if_pos (by rw [hn]; exact hil)] at h1
      simp at h1
      subst hb2
      rw [← h1]
      exact List.mem_cons_self
    · rename_i hb2
      refine List.mem_cons_of_mem _ (List.mem_filter.mpr ⟨xlv_mem.mpr ⟨w0, h1, rfl⟩, ?_⟩)
      simp only [Bool.and_eq_true, Bool.not_eq_true', beq_eq_false_iff_ne, Bool.and_eq_false_iff]
      refine ⟨fun e => hb2 e.symm, ?_⟩
      by_cases hj2 : b + 1 = i
      · right
        intro hc2
        have h5 := hl.2.1.1 b _ (xlv_at hl h1) hc2
        have h6 := xlv_at hl hi
        rw [← hj2] at h6
        rw [h6] at h5
        cases h5
      · exact Or.inl hj2
  unfold xinc at hp
  split at hp
  · rename_i i
    split at hp
    · rename_i x hi
      cases hp
      exact core i x 1 hrel hi rfl
    · cases hp
  · rename_i i
    split at hp
    · rename_i x hi
      cases hp
      exact core i x (-1) hrel hi rfl
    · cases hp
  · rename_i i
    split at hp
    · rename_i x hi
      cases hp
      exact core i x (-8) hrel hi rfl
    · cases hp
  · rename_i i
    split at hp
    · rename_i x hi
      cases hp
      exact core i x 7 hrel hi rfl
    · cases hp
  · cases hp
end SC
