/-! THE WALK: what the plain machine computes, the JVM does; by its fuel -/
def xagree (n : Nat) (ad ad' : Nat → Nat) : Prop := ∀ j, (j < n ∨ 1000 ≤ j) → ad' j = ad j
theorem xval_ag {n : Nat} {ad ad' : Nat → Nat} {v : Value} (ha : xagree n ad ad') (h : xok1 n v) : xval ad' v = xval ad v := by
  cases v with
  | ref j => exact congrArg Value.ref (ha j (by rcases h j rfl with h | h; exact Or.inl h; exact Or.inr (Nat.le_trans (by decide) h)))
  | _ => rfl
theorem xvals_ag {n : Nat} {ad ad' : Nat → Nat} {st : List Value} (ha : xagree n ad ad') (h : xokS1 n st) : st.map (xval ad') = st.map (xval ad) := List.map_congr_left fun v hv => xval_ag ha (h v hv)
theorem xlv_ag {n : Nat} {ad ad' : Nat → Nat} {L : xL} (ha : xagree n ad ad') (h : xokL1 n L) {ls : Array Slot} {nL : Nat} (hl : lv_has ls nL (xlv ad L)) : lv_has ls nL (xlv ad' L) := by
  refine lv_weak hl ?_
  rintro ⟨i, w⟩ hq
  obtain ⟨v, h1, rfl⟩ := xlv_mem.mp hq
  exact xlv_mem.mpr ⟨v, h1, xval_ag ha (h i v h1)⟩
theorem xok1_mono {n n' : Nat} {v : Value} (hn : n ≤ n') (h : xok1 n v) : xok1 n' v := fun j hj => by
  rcases h j hj with h | h
  · exact Or.inl (Nat.lt_of_lt_of_le h hn)
  · exact Or.inr h
theorem xokS_mono {n n' : Nat} {st : List Value} (hn : n ≤ n') (h : xokS1 n st) : xokS1 n' st := fun v hv => xok1_mono hn (h v hv)
theorem xokL_mono {n n' : Nat} {L : xL} (hn : n ≤ n') (h : xokL1 n L) : xokL1 n' L := fun i v hv => xok1_mono hn (h i v hv)
theorem xset_ok {n : Nat} {L : xL} {i : Nat} {v : Value} (h : xokL1 n L) (hv : xok1 n v) : xokL1 n (xset L i v) := fun j w hw => by
  rcases xset_get hw with ⟨-, rfl⟩ | ⟨-, h1, -⟩
  · exact hv
  · exact h j w h1
theorem xset2_ok {n : Nat} {L : xL} {i : Nat} {v : Value} (h : xokL1 n L) (hv : xok1 n v) : xokL1 n (xset2 L i v) := fun j w hw => by
  unfold xset2 at hw
  rw [List.getElem?_set] at hw
  split at hw
  · split at hw <;> simp at hw
  · exact xset_ok h hv j w hw
theorem xokS_cons {n : Nat} {v : Value} {st : List Value} : xokS1 n (v :: st) ↔ xok1 n v ∧ xokS1 n st := by
  unfold xokS1
  simp
theorem xok1_i {n : Nat} {x : Int32} : xok1 n (.int x) ↔ True := iff_true_intro xok1_int
theorem xok1_l {n : Nat} {x : Int64} : xok1 n (.long x) ↔ True := iff_true_intro xok1_long
set_option maxHeartbeats 4000000 in
theorem xpure_ok {n : Nat} {ins : Instr} {L L' : xL} {st st' : List Value} (hp : xpure ins L st = some (L', st')) (hL : xokL1 n L) (hS : xokS1 n st) : xokL1 n L' ∧ xokS1 n st' := by
  unfold xpure at hp
  split at hp
  all_goals (try (cases hp; done))
  all_goals (try (split at hp))
  all_goals (try (cases hp; done))
  all_goals cases hp
  all_goals simp only [xokS_cons, xok1_i, xok1_l, true_and] at hS ⊢
  all_goals first
    | exact ⟨hL, hS⟩
    | exact ⟨hL, hS.1, hS⟩
    | exact ⟨hL, hS.2⟩
    | exact ⟨hL, hS.1, hS.1, hS.2⟩
    | exact ⟨xset_ok hL xok1_int, hS⟩
    | exact ⟨xset2_ok hL xok1_long, hS⟩
    | exact ⟨xset_ok hL hS.1, hS.2⟩
    | (rename_i h; exact ⟨hL, hL _ _ h, hS⟩)
theorem xjmp_ok {n op ix t : Nat} {a : List Nat} {st st' : List Value} (hp : xjmp op a ix st = some (t, st')) (hS : xokS1 n st) : xokS1 n st' := by
  unfold xjmp at hp
  split at hp
  all_goals (try (cases hp; done))
  all_goals cases hp
  all_goals (try simp only [xokS_cons, xok1_i, xok1_l, true_and] at hS)
  all_goals exact hS
theorem xinc_ok {n op : Nat} {a : List Nat} {L L' : xL} (hp : xinc op a L = some L') (hL : xokL1 n L) : xokL1 n L' := by
  have core : ∀ (i : Nat) (x : Int32), xokL1 n (L.set i (some (.int x))) := fun i x j w hw => by
    rw [List.getElem?_set] at hw
    split at hw
    · split at hw
      · simp at hw; rw [← hw]; exact xok1_int
      · cases hw
    · exact hL j w hw
  unfold xinc at hp
  split at hp
  all_goals (try (cases hp; done))
  all_goals (split at hp)
  all_goals (try (cases hp; done))
  all_goals (cases hp; exact core _ _)
def xretOK (cc : ByteArray) (ret : Option FieldType) (pc : Nat) (v : Option Value) : Prop := match v with
  | none => ret = none ∧ decode cc pc = .ok (.return_, 1)
  | some (.int x) => decode cc pc = .ok (.ireturn, 1) ∧ ∃ t, ret = some t ∧ narrow t (.int x) = .int x
  | some (.long _) => ret = some .long ∧ decode cc pc = .ok (.lreturn, 1)
  | _ => False
theorem xret_ok {cc : ByteArray} {pcs : List Nat} {o pc pc1 : Nat} {init : Bool} {ret : Option FieldType} {ai : xA} {st : List Value} {v : Option Value} (h : xret ai st = some v) (hrel : xrel cc pcs o init ret pc pc1 ai = true) : st = v.toList ∧ xretOK cc ret pc v := by
  unfold xret at h
  split at h
  · cases h
    simp only [xrel, Bool.and_eq_true, decide_eq_true_eq] at hrel
    exact ⟨rfl, hrel.1, (xdec_spec hrel.2).1⟩
  · cases h
    simp only [xrel, Bool.and_eq_true, decide_eq_true_eq] at hrel
    exact ⟨rfl, (xdec_spec hrel.2).1, .int, hrel.1, rfl⟩
  · cases h
    simp only [xrel, Bool.and_eq_true, decide_eq_true_eq] at hrel
    exact ⟨rfl, hrel.1, (xdec_spec hrel.2).1⟩
  · split at h
    · rename_i x hx
      cases h
      simp only [xrel, xrelO, Bool.and_eq_true, decide_eq_true_eq] at hrel
      exact ⟨rfl, (xdec_spec hrel.2).1, .boolean, hrel.1, by rcases hx with rfl | rfl <;> rfl⟩
    · cases h
  · split at h
    · rename_i x hx
      cases h
      simp only [xrel, xrelO, Bool.and_eq_true, decide_eq_true_eq] at hrel
      refine ⟨rfl, (xdec_spec hrel.2).1, .char, hrel.1, ?_⟩
      obtain ⟨j, hj, rfl⟩ := nI_of (x := x) (by grind)
      exact (pk_charN ((nI_ltI (b := 65536) hj (by omega)).mp hx.2)).1
    · cases h
  · cases h
theorem xrelV_ok {n : Nat} {cc : ByteArray} {o pc pc1 : Nat} {v : Value} (h : xrelV cc o pc pc1 v = true) : xok1 n v := by
  cases v with
  | ref j =>
    obtain ⟨⟨⟨a, idx⟩, t⟩, hm, h2⟩ := List.any_eq_true.mp h
    simp only [Bool.and_eq_true, beq_iff_eq] at h2
    intro k hk
    cases hk
    right
    rw [← h2.2.1]
    unfold xSTR
    exact Nat.le_trans (by decide) (Nat.le_add_right 3000 t)
  | _ => intro k hk; cases hk
