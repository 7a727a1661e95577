/-! THE WALK: what the plain machine computes, the JVM does; by its fuel -/
def xagree (n : Nat) (ad ad' : Nat → Nat) : Prop := ∀ j, (j < n ∨ 1000 ≤ j) → ad' j = ad j
theorem xval_ag {n : Nat} {ad ad' : Nat → Nat} {v : Value} (ha : xagree n ad ad') (h : xok1 n v) : xval ad' v = xval ad v := by
  cases v with
  | ref j => exact congrArg Value.ref (ha j (by rcases h j rfl with h | h; exact Or.inl h; exact Or.inr (Nat.le_trans (by decide) h)))
  | _ => rfl
theorem xvals_ag {n : Nat} {ad ad' : Nat → Nat} {st : List Value} (ha : xagree n ad ad') (h : xokS1 n st) : st.map (xval ad') = st.map (xval ad) := List.map_congr_left fun v hv => xval_ag ha (h v hv)
theorem xlv_ag {n : Nat} {ad ad' : Nat → Nat} {L : xL} (ha : xagree n ad ad') (h : xokL1 n L) {ls : Array Slot} {nL : Nat} (hl : lv_has ls nL (xlv ad L)) : lv_has ls nL (xlv ad' L) := by
  refine lv_weak hl ?_
  rintro ⟨i, w⟩ hq
  obtain ⟨v, h1, rfl⟩ := xlv_mem.mp hq
  exact xlv_mem.mpr ⟨v, h1, xval_ag ha (h i v h1)⟩
theorem xok1_mono {n n' : Nat} {v : Value} (hn : n ≤ n') (h : xok1 n v) : xok1 n' v := fun j hj => by
  rcases h j hj with h | h
  · exact Or.inl (Nat.lt_of_lt_of_le h hn)
  · exact Or.inr h
theorem xokS_mono {n n' : Nat} {st : List Value} (hn : n ≤ n') (h : xokS1 n st) : xokS1 n' st := fun v hv => xok1_mono hn (h v hv)
theorem xokL_mono {n n' : Nat} {L : xL} (hn : n ≤ n') (h : xokL1 n L) : xokL1 n' L := fun i v hv => xok1_mono hn (h i v hv)
theorem xset_ok {n : Nat} {L : xL} {i : Nat} {v : Value} (h : xokL1 n L) (hv : xok1 n v) : xokL1 n (xset L i v) := fun j w hw => by
  rcases xset_get hw with ⟨-, rfl⟩ | ⟨-, h1, -⟩
  · exact hv
  · exact h j w h1
theorem xset2_ok {n : Nat} {L : xL} {i : Nat} {v : Value} (h : xokL1 n L) (hv : xok1 n v) : xokL1 n (xset2 L i v) := fun j w hw => by
  unfold xset2 at hw
  rw [List.getElem?_set] at hw
  split at hw
  · split at hw <;> simp at hw
  · exact xset_ok h hv j w hw
theorem xokS_cons {n : Nat} {v : Value} {st : List Value} : xokS1 n (v :: st) ↔ xok1 n v ∧ xokS1 n st := by
  unfold xokS1
  simp
theorem xok1_i {n : Nat} {x : Int32} : xok1 n (.int x) ↔ True := iff_true_intro xok1_int
theorem xok1_l {n : Nat} {x : Int64} : xok1 n (.long x) ↔ True := iff_true_intro xok1_long
set_option maxHeartbeats 4000000 in
theorem xpure_ok {n : Nat} {ins : Instr} {L L' : xL} {st st' : List Value} (hp : xpure ins L st = some (L', st')) (hL : xokL1 n L) (hS : xokS1 n st) : xokL1 n L' ∧ xokS1 n st' := by
  unfold xpure at hp
  split at hp
  all_goals (try (cases hp; done))
  all_goals (try (split at hp))
  all_goals (try (cases hp; done))
  all_goals cases hp
  all_goals simp only [xokS_cons, xok1_i, xok1_l, true_and] at hS ⊢
  all_goals first
    | exact ⟨hL, hS⟩
    | exact ⟨hL, hS.1, hS⟩
    | exact ⟨hL, hS.2⟩
    | exact ⟨hL, hS.1, hS.1, hS.2⟩
    | exact ⟨xset_ok hL xok1_int, hS⟩
    | exact ⟨xset2_ok hL xok1_long, hS⟩
    | exact ⟨xset_ok hL hS.1, hS.2⟩
    | (rename_i h; exact ⟨hL, hL _ _ h, hS⟩)
theorem xjmp_ok {n op ix t : Nat} {a : List Nat} {st st' : List Value} (hp : xjmp op a ix st = some (t, st')) (hS : xokS1 n st) : xokS1 n st' := by
  unfold xjmp at hp
  split at hp
  all_goals (try (cases hp; done))
  all_goals cases hp
  all_goals (try simp only [xokS_cons, xok1_i, xok1_l, true_and] at hS)
  all_goals exact hS
theorem xinc_ok {n op : Nat} {a : List Nat} {L L' : xL} (hp : xinc op a L = some L') (hL : xokL1 n L) : xokL1 n L' := by
  have core : ∀ (i : Nat) (x : Int32), xokL1 n (L.set i (some (.int x))) := fun i x j w hw => by
    rw [List.getElem?_set] at hw
    split at hw
    · split at hw
      · simp at hw; rw [← hw]; exact xok1_int
      · cases hw
    · exact hL j w hw
  unfold xinc at hp
  split at hp
  all_goals (try (cases hp; done))
  all_goals (split at hp)
  all_goals (try (cases hp; done))
  all_goals (cases hp; exact core _ _)
def xretOK (cc : ByteArray) (ret : Option FieldType) (pc : Nat) (v : Option Value) : Prop := match v with
  | none => ret = none ∧ decode cc pc = .ok (.return_, 1)
  | some (.int x) => decode cc pc = .ok (.ireturn, 1) ∧ ∃ t, ret = some t ∧ narrow t (.int x) = .int x
  | some (.long _) => ret = some .long ∧ decode cc pc = .ok (.lreturn, 1)
  | _ => False
theorem xret_ok {cc : ByteArray} {pcs : List Nat} {o pc pc1 : Nat} {init : Bool} {ret : Option FieldType} {ai : xA} {st : List Value} {v : Option Value} (h : xret ai st = some v) (hrel : xrel cc pcs o init ret pc pc1 ai = true) : st = v.toList ∧ xretOK cc ret pc v := by
  unfold xret at h
  split at h
  · cases h
    simp only [xrel, Bool.and_eq_true, decide_eq_true_eq] at hrel
    exact ⟨rfl, hrel.1, (xdec_spec hrel.2).1⟩
  · cases h
    simp only [xrel, Bool.and_eq_true, decide_eq_true_eq] at hrel
    exact ⟨rfl, (xdec_spec hrel.2).1, .int, hrel.1, rfl⟩
  · cases h
    simp only [xrel, Bool.and_eq_true, decide_eq_true_eq] at hrel
    exact ⟨rfl, hrel.1, (xdec_spec hrel.2).1⟩
  · split at h
    · rename_i x hx
      cases h
      simp only [xrel, xrelO, Bool.and_eq_true, decide_eq_true_eq] at hrel
      exact ⟨rfl, (xdec_spec hrel.2).1, .boolean, hrel.1, by rcases hx with rfl | rfl <;> rfl⟩
    · cases h
  · split at h
    · rename_i x hx
      cases h
      simp only [xrel, xrelO, Bool.and_eq_true, decide_eq_true_eq] at hrel
      refine ⟨rfl, (xdec_spec hrel.2).1, .char, hrel.1, ?_⟩
      obtain ⟨j, hj, rfl⟩ := nI_of (x := x) (by grind)
      exact (pk_charN ((nI_ltI (b := 65536) hj (by omega)).mp hx.2)).1
    · cases h
  · cases h
theorem xrelV_ok {n : Nat} {cc : ByteArray} {o pc pc1 : Nat} {v : Value} (h : xrelV cc o pc pc1 v = true) : xok1 n v := by
  cases v with
  | ref j =>
    obtain ⟨⟨⟨a, idx⟩, t⟩, hm, h2⟩ := List.any_eq_true.mp h
    simp only [Bool.and_eq_true, beq_iff_eq] at h2
    intro k hk
    cases hk
    right
    rw [← h2.2.1]
    unfold xSTR
    exact Nat.le_trans (by decide) (Nat.le_add_right 3000 t)
  | _ => intro k hk; cases hk
/-- the instructions that are proved apart: texts, the catching call, new int[5][7] -/
def xapart (op : Nat) : Prop := op = 63 ∨ op = 64 ∨ op = 65 ∨ op = 66 ∨ op = 53
/-- the room asked for: more where the catching call may come -/
def xB (pr : Bool) : Nat := match pr with
  | true => 40
  | false => 12
def xBL (pr : Bool) : Nat := match pr with
  | true => 2000
  | false => 500
theorem xB_le (pr : Bool) : 12 ≤ xB pr ∧ 500 ≤ xBL pr := by cases pr <;> decide
def xPrim (l : Launch) (pr : Bool) : Prop := ∀ (p : Program) (e : Env) (R : Room) (s : State) (m : MethodId) (args : Array Value) (below : List Frame) (meth : Method) (c : Code) (H : Heap) (locs : List Loc) (cells slots : Nat) (Q : State → Prop) (cc : ByteArray) (o pc pc1 : Nat) (D : va_G) (ty : Nat → ClassId) (ad : Nat → Nat) (A : Nat → Prop) (ls : Array Slot) (E : xE) (op : Nat) (a : List Nat) (pcs : List Nat) (init : Bool) (ret : Option FieldType) (st st' : List Value) (M M' : xM),
  xapart op → E.2 = xTX → xCtx p s m args c cc o D ty → c.maxLocals = ls.size → xEV E ad A s s.heap → xrelO cc pcs o init ret pc pc1 op a = true → xhO pr op a E st M = some (st', M') → xAt D ty ad A M s.heap H locs → (∀ q, s.heap.size ≤ q → A q) → xokS1 (mS M).length st → xwt st ≤ 9 ∨ op < 60 → xB pr ≤ R.frames → xBL pr ≤ R.locals → cells ≤ R.cells → slots ≤ R.slots → cells + xcs M' ≤ R.cells + xcs M → slots + xss M' ≤ R.slots + xss M →
  xCont p l e R s m args below meth c cells slots Q D ty ad A ls pc1 M st' M' → W p l e R s m args below meth c H locs cells slots Q (F0 m pc ls (st.map (xval ad)))
def xWsY (r : xReal) : List Cond := .code (rY r) (rB r) (rMaxL r) (rRet r) :: xGW
def xRoom (pr : Bool) (d mc ms : Nat) : Room := { frames := d + xB pr, cells := mc, slots := ms, locals := 40 * d + xBL pr }
/-- the walk, at some fuel -/
def xWalk (l : Launch) (pr : Bool) (E : xE) (n : Nat) : Prop := ∀ (p : Program) (e : Env) (R : Room) (s : State) (m : MethodId) (args : Array Value) (below : List Frame) (meth : Method) (c : Code) (H : Heap) (locs : List Loc) (cells slots : Nat) (Q : State → Prop) (cc : ByteArray) (o : Nat) (D : va_G) (ty : Nat → ClassId) (ad : Nat → Nat) (A : Nat → Prop) (ls : Array Slot) (pcs : List Nat) (init : Bool) (ret : Option FieldType) (K : List xA) (d ix nL : Nat) (L : xL) (st : List Value) (M M' : xM) (v : Option Value),
  xCtx p s m args c cc o D ty → c.maxLocals = nL → (∀ (ix : Nat) (ai : xA), K[ix]? = some ai → xrel cc pcs o init ret (pcs.getD ix 0) (pcs.getD (ix + 1) 0) ai = true) → (init = true → meth.name = "<init>") →
  xrun xMT pr E n d K ix L st M = some (v, M') → xAt D ty ad A M s.heap H locs → (∀ q, s.heap.size ≤ q → A q) → xEV E ad A s s.heap → xokL1 (mS M).length L → xokS1 (mS M).length st → lv_has ls nL (xlv ad L) → L.length = nL →
  d + xB pr ≤ R.frames → 40 * d + xBL pr ≤ R.locals → cells + xcs M' ≤ R.cells + xcs M → slots + xss M' ≤ R.slots + xss M →
  (∀ (H1 : Heap) (locs1 : List Loc) (ad' : Nat → Nat) (ls' : Array Slot) (pc' cells' slots' : Nat), xAt D ty ad' A M' s.heap H1 locs1 → xagree (mS M).length ad ad' → cells' + xcs M = cells + xcs M' → slots' + xss M = slots + xss M' → xretOK cc ret pc' v → (∀ w, v = some w → xok1 (mS M').length w) → W p l e R s m args below meth c H1 locs1 cells' slots' Q (F0 m pc' ls' (v.toList.map (xval ad')))) →
  W p l e R s m args below meth c H locs cells slots Q (F0 m (pcs.getD ix 0) ls (st.map (xval ad)))
/-- the store only grows -/
theorem xhI_grow {ins : Instr} {E : xE} {st st' : List Value} {M M' : xM} (h : xhI ins E st M = some (st', M')) : mS M' = mS M := by
  unfold xhI at h
  split at h
  all_goals (try (cases h; done))
  all_goals (split at h)
  all_goals (try (cases h; done))
  all_goals (try (cases h; rfl; done))
  all_goals (split at h)
  all_goals (try (cases h; done))
  all_goals (try (cases h; rfl; done))
  all_goals (split at h)
  all_goals (try (cases h; done))
  all_goals (cases h; rfl)
theorem xhO_grow {pr : Bool} {op : Nat} {a : List Nat} {E : xE} {st st' : List Value} {M M' : xM} (h : xhO pr op a E st M = some (st', M')) : ∃ S2, mS M' = mS M ++ S2 := by
  have self : ∀ {X Y : xM}, mS X = mS Y → ∃ S2, mS X = mS Y ++ S2 := fun h => ⟨[], by rw [h, List.append_nil]⟩
  unfold xhO at h
  split at h
  all_goals (try (cases h; done))
  all_goals (try (cases h; exact self rfl; done))
  all_goals (split at h)
  all_goals (try (cases h; done))
  all_goals (try (cases h; exact self rfl; done))
  all_goals (try (cases h; exact ⟨_, rfl⟩; done))
  all_goals (split at h)
  all_goals (try (cases h; done))
  all_goals (try (cases h; exact self rfl; done))
  all_goals (split at h)
  all_goals (try (cases h; done))
  all_goals (try (cases h; exact self rfl; done))
theorem xstep_grow {pr : Bool} {E : xE} {ai : xA} {ix ix' : Nat} {L L' : xL} {st st' : List Value} {M M' : xM} (h : xstep pr E ai ix L st M = some (ix', L', st', M')) : ∃ S2, mS M' = mS M ++ S2 := by
  have self : ∀ {X Y : xM}, mS X = mS Y → ∃ S2, mS X = mS Y ++ S2 := fun h => ⟨[], by rw [h, List.append_nil]⟩
  unfold xstep at h
  split at h
  · cases h; exact self rfl
  · split at h
    · cases h; exact self rfl
    · split at h
      · rename_i hh
        cases h
        exact self (xhI_grow hh)
      · cases h
  · split at h
    · cases h; exact self rfl
    · split at h
      · cases h; exact self rfl
      · split at h
        · split at h
          · rename_i hh
            cases h
            exact xhO_grow hh
          · cases h
        · cases h
theorem xrun_grow {MT : List xMeth} {pr : Bool} {E : xE} : ∀ (n d : Nat) (K : List xA) (ix : Nat) (L : xL) (st : List Value) (M M' : xM) (v : Option Value), xrun MT pr E n d K ix L st M = some (v, M') → ∃ S2, mS M' = mS M ++ S2 := by
  intro n
  induction n with
  | zero => intro d K ix L st M M' v h; simp [xrun] at h
  | succ n ih =>
    intro d K ix L st M M' v h
    unfold xrun at h
    cases hk : K[ix]? with
    | none => rw [hk] at h; cases h
    | some ai =>
      rw [hk] at h
      dsimp only at h
      cases hx : xret ai st with
      | some w => rw [hx] at h; cases h; exact ⟨[], by simp⟩
      | none =>
        rw [hx] at h
        dsimp only at h
        cases hc : xcallee ai with
        | some kr =>
          obtain ⟨kk, rc⟩ := kr
          rw [hc] at h
          dsimp only at h
          cases d with
          | zero => simp at h
          | succ d' =>
            cases hq : MT[kk]? with
            | none => rw [hq] at h; simp at h
            | some q =>
              rw [hq] at h
              dsimp only at h
              split at h
              · cases hr : xrun MT pr E n d' q.2.2 0 (xent (st.take q.1).reverse q.2.1) [] M with
                | none => rw [hr] at h; cases h
                | some rm =>
                  obtain ⟨r', M1⟩ := rm
                  rw [hr] at h
                  dsimp only at h
                  obtain ⟨S2, e2⟩ := ih _ _ _ _ _ _ _ _ hr
                  obtain ⟨S3, e3⟩ := ih _ _ _ _ _ _ _ _ h
                  exact ⟨S2 ++ S3, by rw [e3, e2, List.append_assoc]⟩
              · cases h
        | none =>
          rw [hc] at h
          dsimp only at h
          cases hs : xstep pr E ai ix L st M with
          | none => rw [hs] at h; cases h
          | some c' =>
            obtain ⟨ix', L', st', M1⟩ := c'
            rw [hs] at h
            dsimp only at h
            obtain ⟨S2, e2⟩ := xstep_grow hs
            obtain ⟨S3, e3⟩ := ih _ _ _ _ _ _ _ _ h
            exact ⟨S2 ++ S3, by rw [e3, e2, List.append_assoc]⟩
theorem xgrow_len {S S' : List (Nat × Int32)} (h : ∃ S2, S' = S ++ S2) : S.length ≤ S'.length ∧ xsz S ≤ xsz S' := by
  obtain ⟨S2, rfl⟩ := h
  refine ⟨by simp, ?_⟩
  unfold xsz
  simp
theorem xhI_gh {ins : Instr} {E : xE} {st st' : List Value} {M M' : xM} (h : xhI ins E st M = some (st', M')) : xgh M' = xgh M := by
  unfold xhI at h
  split at h
  all_goals (try (cases h; done))
  all_goals (split at h)
  all_goals (try (cases h; done))
  all_goals (try (cases h; rfl; done))
  all_goals (split at h)
  all_goals (try (cases h; done))
  all_goals (try (cases h; rfl; done))
  all_goals (split at h)
  all_goals (try (cases h; done))
  all_goals (cases h; rfl)
theorem xgh_up {x : Int32} (h0 : 0 ≤ x) (h1 : x < 900) : x.toNatClampNeg ≤ (x + 1).toNatClampNeg := by
  obtain ⟨j, hj, rfl⟩ := nI_of (x := x) (by grind)
  have h2 : j < 900 := (nI_ltI (b := 900) hj (by omega)).mp h1
  rw [nI_1, nI_clamp hj, nI_clamp (by omega)]
  omega
theorem xhO_gh {pr : Bool} {op : Nat} {a : List Nat} {E : xE} {st st' : List Value} {M M' : xM} (hl : (mS M).length ≤ 950) (h : xhO pr op a E st M = some (st', M')) : xgh M ≤ xgh M' ∧ (mS M').length ≤ 950 := by
  unfold xhO at h
  split at h
  case h_4 => split at h <;> cases h; rename_i hi; exact ⟨Nat.le_of_eq (by unfold xgh; exact congrArg Int32.toNatClampNeg (xu_gh hl hi).symm), hl⟩
  case h_7 => split at h <;> cases h; rename_i hi; exact ⟨Nat.le_of_eq (by unfold xgh; exact congrArg Int32.toNatClampNeg (xu_gh hl hi.1).symm), hl⟩
  case h_8 =>
    rename_i ci F I G J P Q0 S
    split at h <;> cases h
    rename_i hi
    refine ⟨Nat.le_of_eq ?_, by show (S ++ [_]).length ≤ 950; rw [List.length_append, List.length_singleton]; omega⟩
    unfold xgh
    show (F 999 0).toNatClampNeg = (xw F S.length 0 999 0).toNatClampNeg
    rw [xw_other (by omega)]
  case h_9 =>
    rename_i kk n r F I G J P Q0 S
    split at h <;> cases h
    rename_i hi
    exact ⟨Nat.le_refl _, by show (S ++ [_]).length ≤ 950; rw [List.length_append, List.length_singleton]; omega⟩
  case h_10 =>
    rename_i kk n r F I G J P Q0 S
    split at h <;> cases h
    rename_i hi
    exact ⟨Nat.le_refl _, by show (S ++ [_]).length ≤ 950; rw [List.length_append, List.length_singleton]; omega⟩
  case h_11 =>
    rename_i m n r F I G J P Q0 S
    split at h <;> cases h
    rename_i hi
    exact ⟨Nat.le_refl _, by show (S ++ [_, _, _, _, _, _]).length ≤ 950; rw [List.length_append]; simp; omega⟩
  case h_18 =>
    rename_i ox p3 p2 p1 p0 cx r F I G J P Q0 S
    split at h
    · rename_i hi
      have h5 : (F 999 0).toNatClampNeg ≤ (xu F 999 0 (F 999 0 + 1) 999 0).toNatClampNeg := by
        unfold xu
        rw [if_pos ⟨rfl, rfl⟩]
        exact xgh_up hi.2.2.2.1 hi.2.2.2.2
      split at h
      · cases h; exact ⟨h5, hl⟩
      · cases h; exact ⟨h5, hl⟩
    · cases h
  all_goals (try (cases h; done))
  all_goals (try (cases h; exact ⟨Nat.le_refl _, hl⟩; done))
  all_goals (split at h)
  all_goals (try (cases h; done))
  all_goals (try (cases h; exact ⟨Nat.le_refl _, hl⟩; done))
  all_goals (split at h)
  all_goals (try (cases h; done))
  all_goals (try (cases h; exact ⟨Nat.le_refl _, hl⟩; done))
  all_goals (split at h)
  all_goals (try (cases h; done))
  all_goals (try (cases h; exact ⟨Nat.le_refl _, hl⟩; done))
theorem xstep_gh {pr : Bool} {E : xE} {ai : xA} {ix ix' : Nat} {L L' : xL} {st st' : List Value} {M M' : xM} (hl : (mS M).length ≤ 950) (h : xstep pr E ai ix L st M = some (ix', L', st', M')) : xgh M ≤ xgh M' ∧ (mS M').length ≤ 950 := by
  have self : ∀ {Y : xM}, M = Y → xgh M ≤ xgh Y ∧ (mS Y).length ≤ 950 := fun h => h ▸ ⟨Nat.le_refl _, hl⟩
  unfold xstep at h
  split at h
  · cases h; exact self rfl
  · split at h
    · cases h; exact self rfl
    · split at h
      · rename_i hh
        cases h
        exact ⟨Nat.le_of_eq (xhI_gh hh).symm, by rw [xhI_grow hh]; exact hl⟩
      · cases h
  · split at h
    · cases h; exact self rfl
    · split at h
      · cases h; exact self rfl
      · split at h
        · split at h
          · rename_i hh
            cases h
            exact xhO_gh hl hh
          · cases h
        · cases h
theorem xstep_mono2 {pr : Bool} {E : xE} {ai : xA} {ix ix' : Nat} {L L' : xL} {st st' : List Value} {M M' : xM} (hl : (mS M).length ≤ 950) (h : xstep pr E ai ix L st M = some (ix', L', st', M')) : xcs M ≤ xcs M' ∧ xss M ≤ xss M' ∧ (mS M').length ≤ 950 := by
  have h1 := xstep_gh hl h
  have h2 := xgrow_len (xstep_grow h)
  unfold xcs xss
  exact ⟨by omega, by omega, h1.2⟩
theorem xrun_gh {MT : List xMeth} {pr : Bool} {E : xE} : ∀ (n d : Nat) (K : List xA) (ix : Nat) (L : xL) (st : List Value) (M M' : xM) (v : Option Value), (mS M).length ≤ 950 → xrun MT pr E n d K ix L st M = some (v, M') → xgh M ≤ xgh M' ∧ (mS M').length ≤ 950 := by
  intro n
  induction n with
  | zero => intro d K ix L st M M' v hl h; simp [xrun] at h
  | succ n ih =>
    intro d K ix L st M M' v hl h
    unfold xrun at h
    cases hk : K[ix]? with
    | none => rw [hk] at h; cases h
    | some ai =>
      rw [hk] at h
      dsimp only at h
      cases hx : xret ai st with
      | some w => rw [hx] at h; cases h; exact ⟨Nat.le_refl _, hl⟩
      | none =>
        rw [hx] at h
        dsimp only at h
        cases hc : xcallee ai with
        | some kr =>
          obtain ⟨kk, rc⟩ := kr
          rw [hc] at h
          dsimp only at h
          cases d with
          | zero => simp at h
          | succ d' =>
            cases hq : MT[kk]? with
            | none => rw [hq] at h; simp at h
            | some q =>
              rw [hq] at h
              dsimp only at h
              split at h
              · cases hr : xrun MT pr E n d' q.2.2 0 (xent (st.take q.1).reverse q.2.1) [] M with
                | none => rw [hr] at h; cases h
                | some rm =>
                  obtain ⟨r', M1⟩ := rm
                  rw [hr] at h
                  dsimp only at h
                  have a1 := ih _ _ _ _ _ _ _ _ hl hr
                  have a2 := ih _ _ _ _ _ _ _ _ a1.2 h
                  exact ⟨Nat.le_trans a1.1 a2.1, a2.2⟩
              · cases h
        | none =>
          rw [hc] at h
          dsimp only at h
          cases hs : xstep pr E ai ix L st M with
          | none => rw [hs] at h; cases h
          | some c' =>
            obtain ⟨ix', L', st', M1⟩ := c'
            rw [hs] at h
            dsimp only at h
            have a1 := xstep_gh hl hs
            have a2 := ih _ _ _ _ _ _ _ _ a1.2 h
            exact ⟨Nat.le_trans a1.1 a2.1, a2.2⟩
theorem xrun_mono2 {MT : List xMeth} {pr : Bool} {E : xE} (n d : Nat) (K : List xA) (ix : Nat) (L : xL) (st : List Value) (M M' : xM) (v : Option Value) (hl : (mS M).length ≤ 950) (h : xrun MT pr E n d K ix L st M = some (v, M')) : xcs M ≤ xcs M' ∧ xss M ≤ xss M' ∧ (mS M').length ≤ 950 := by
  have h1 := xrun_gh n d K ix L st M M' v hl h
  have h2 := xgrow_len (xrun_grow n d K ix L st M M' v h)
  unfold xcs xss
  exact ⟨by omega, by omega, h1.2⟩
