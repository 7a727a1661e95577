/-! THE REFERENCE: the law of how they wear; an hour -/
def jS (o x y : Int32) : Int32 := if o = -6 then (if x ≠ 0 ∧ y ≠ 0 then 1 else 0) else if o = -7 then (if x ≠ 0 ∨ y ≠ 0 then 1 else 0) else if o = -8 then (if x < y then 1 else 0) else if o = -9 then (if x = y then 1 else 0) else if o = -10 then x + y else if o = -11 then x - y else x * y
def pileR (f : Int32 → Int32) : List Int32 → Prop
  | [] => True
  | x :: st => f (nI st.length) = x ∧ pileR f st
theorem pileR_up {f : Int32 → Int32} {x : Int32} {m : Nat} (hm : m < 1000) : ∀ {st : List Int32}, st.length ≤ m → pileR f st → pileR (up f (nI m) x) st
  | [], _, _ => trivial
  | y :: st, hl, ⟨h1, h2⟩ => by
    have hl' : st.length < m := by simp at hl; omega
    refine ⟨?_, pileR_up hm (by omega) h2⟩
    unfold up
    rw [if_neg (nI_ne (by omega) hm (by omega))]
    exact h1
section R4
variable {e : Bool × Int32 × (Int32 → Int32)} {F : Nat → Nat → Int32} {I : Nat → Int32 → Int32} {G : Nat → Nat → Int64} {J : Nat → Int32 → Int64} {ha hb ea eb : Nat} {h : HV} {b : Int32}
theorem q_both {o x y : Int32} {M : xM} (h1 : o < -5) (h2 : -12 ≤ o) : A e 0 M_X12_both [.int (opR o), .int x, .int y] M (.int (jS o x y)) := by
  have ho : o = -6 ∨ o = -7 ∨ o = -8 ∨ o = -9 ∨ o = -10 ∨ o = -11 ∨ o = -12 := by grind
  unfold A Y jS
  rcases ho with rfl | rfl | rfl | rfl | rfl | rfl | rfl
  all_goals
    refine X.f rfl (z_iload rfl ?_)
    refine X.f rfl (z_sw ?_)
    repeat' (first | (refine X.f rfl ?_; first | refine z_iload rfl ?_ | refine z_aload rfl ?_ | refine z_push ?_ | refine z_istore rfl ?_ | refine z_astore rfl ?_ | refine z_gP rfl rfl ?_ | refine z_gI rfl ?_ | refine z_gotoF rfl ?_ | refine z_iadd ?_ | refine z_isub ?_ | refine z_imul ?_ | refine z_iand ?_ | refine z_ior ?_ | refine z_ishl ?_ | refine z_ishr ?_ | refine z_ixor ?_ | refine z_ineg ?_ | refine z_pI rfl ?_ | refine z_inc80 rfl ?_ | refine z_inc81 rfl ?_ | refine z_dup ?_ | refine z_dupr ?_ | refine z_dup2 ?_ | refine z_pop ?_ | refine z_idiv (by decide) ?_ | refine z_irem (by decide) ?_ | refine z_iaload rfl (by first | with_reducible assumption | decide | grind) (by first | with_reducible assumption | decide | grind) (by decide) ?_ | refine z_iastore rfl (by first | with_reducible assumption | decide | grind) (by first | with_reducible assumption | decide | grind) (by decide) ?_) | ((refine X.f rfl ?_; first | refine z_ifeq (fun c => ?_) (fun c => ?_) | refine z_ifne (fun c => ?_) (fun c => ?_) | refine z_iflt (fun c => ?_) (fun c => ?_) | refine z_ifge (fun c => ?_) (fun c => ?_) | refine z_ifgt (fun c => ?_) (fun c => ?_) | refine z_ifle (fun c => ?_) (fun c => ?_) | refine z_ieq (fun c => ?_) (fun c => ?_) | refine z_ine (fun c => ?_) (fun c => ?_) | refine z_ilt (fun c => ?_) (fun c => ?_) | refine z_ige (fun c => ?_) (fun c => ?_) | refine z_igt (fun c => ?_) (fun c => ?_) | refine z_ile (fun c => ?_) (fun c => ?_)) <;> try (exfalso; first | (with_reducible exact absurd rfl c) | (with_reducible exact absurd (Int32.le_refl _) c) | (revert c; decide) | (with_reducible contradiction))) | fail)
    all_goals first | exact x_ret rfl rfl ⟨rfl, rfl⟩ | (refine x_ret rfl rfl ⟨?_, rfl⟩; simp [*]; done) | (refine x_ret rfl rfl ⟨?_, rfl⟩; grind)
theorem nI_sub1 {n : Nat} : nI (n + 1) - 1 = nI n := nI_pred n
theorem up_self {f : Int32 → Int32} {i x : Int32} : up f i x i = x := by unfold up; rw [if_pos rfl]
theorem up_ne {f : Int32 → Int32} {i j x : Int32} (h : j ≠ i) : up f i x j = f j := by unfold up; rw [if_neg h]
theorem xv_241 {I : Nat → Int32 → Int32} {i x : Int32} : xv I 241 i x 241 = up (I 241) i x := by rw [xv_row, row_same]
theorem xv_ne {I : Nat → Int32 → Int32} {i x : Int32} {c d : Nat} (h : d ≠ c) : xv I c i x d = I d := by rw [xv_row, row_ne h]
set_option maxRecDepth 40000 in
theorem q_worth_loop {from0 f c0 r0 d0 : Int32} {cs : List Int32} (hf0 : 0 ≤ from0) (hf1 : from0 ≤ 1000) (hl : cs.length ≤ 1000) (hop : ∀ k o, cs[k]? = some o → I 233 (from0 + nI k) = opR o ∧ I 234 (from0 + nI k) = argR o ∧ -12 ≤ o) (hend : I 233 (from0 + nI cs.length) = 0) (e0 : I 240 0 = f) (e1 : I 240 1 = c0) (e2 : I 240 2 = r0) (e3 : I 240 3 = d0):
    ∀ (os : List Int32) (k : Nat) (st : List Int32) (I' : Nat → Int32 → Int32) (x4 : Option Value), cs.drop k = os → k + os.length = cs.length → st.length ≤ 32 → dpS os st.length = some 1 → (∀ c', c' ≠ 241 → I' c' = I c') → pileR (I' 241) st →
    X e 1 M_X12_worthAt.2.2 4 [some (.ref 226), some (.int from0), some (.int (nI st.length)), some (.int (from0 + nI k)), x4] [] (F, I', G, J, P0 ha hb ea eb, Q0, S0) (fun w M' => w = some (.int ((evS f c0 r0 d0 os st).headD 0)) ∧ ∃ I'', M' = (F, I'', G, J, P0 ha hb ea eb, Q0, S0) ∧ ∀ c', c' ≠ 241 → I'' c' = I c') := by
  intro os
  induction os with
  | nil =>
    intro k st I' x4 hd hkl hdl hdp hI hp
    have hkl : k = cs.length := by simpa using hkl
    have hst : st.length = 1 := by simpa [dpS] using hdp
    obtain ⟨y, rfl⟩ : ∃ y, st = [y] := by
      match st, hst with
      | [y], _ => exact ⟨y, rfl⟩
    obtain ⟨p1, -⟩ := hp
    have p1' : I' 241 0 = y := p1
    have i0 : 0 ≤ from0 + nI k ∧ from0 + nI k < 2200 := by
      have h0 : 0 ≤ nI k := nI_pos' (by omega)
      have h1 : nI k ≤ 1000 := (nI_leI (b := 1000) (by omega) (by omega)).mpr (by omega)
      grind
    obtain ⟨i0, i1⟩ := i0
    have b1 : I' 233 (from0 + nI k) = 0 := by rw [hI 233 (by decide), hkl]; exact hend
    repeat' (first | (refine X.f rfl ?_; first | refine z_iload rfl ?_ | refine z_aload rfl ?_ | refine z_push ?_ | refine z_istore rfl ?_ | refine z_astore rfl ?_ | refine z_gP rfl rfl ?_ | refine z_gI rfl ?_ | refine z_gotoF rfl ?_ | refine z_iadd ?_ | refine z_isub ?_ | refine z_imul ?_ | refine z_iand ?_ | refine z_ior ?_ | refine z_ishl ?_ | refine z_ishr ?_ | refine z_ixor ?_ | refine z_ineg ?_ | refine z_pI rfl ?_ | refine z_inc80 rfl ?_ | refine z_inc81 rfl ?_ | refine z_dup ?_ | refine z_dupr ?_ | refine z_dup2 ?_ | refine z_pop ?_ | refine z_idiv (by decide) ?_ | refine z_irem (by decide) ?_ | refine z_iaload rfl (by first | with_reducible assumption | decide | grind) (by first | with_reducible assumption | decide | grind) (by decide) ?_ | refine z_iastore rfl (by first | with_reducible assumption | decide | grind) (by first | with_reducible assumption | decide | grind) (by decide) ?_) | ((refine X.f rfl ?_; first | refine z_ifeq (fun c => ?_) (fun c => ?_) | refine z_ifne (fun c => ?_) (fun c => ?_) | refine z_iflt (fun c => ?_) (fun c => ?_) | refine z_ifge (fun c => ?_) (fun c => ?_) | refine z_ifgt (fun c => ?_) (fun c => ?_) | refine z_ifle (fun c => ?_) (fun c => ?_) | refine z_ieq (fun c => ?_) (fun c => ?_) | refine z_ine (fun c => ?_) (fun c => ?_) | refine z_ilt (fun c => ?_) (fun c => ?_) | refine z_ige (fun c => ?_) (fun c => ?_) | refine z_igt (fun c => ?_) (fun c => ?_) | refine z_ile (fun c => ?_) (fun c => ?_)) <;> try (exfalso; first | (with_reducible exact absurd rfl c) | (with_reducible exact absurd (Int32.le_refl _) c) | (revert c; decide) | (with_reducible contradiction))) | fail)
    · exact x_ret rfl rfl ⟨by rw [p1']; rfl, I', rfl, hI⟩
    all_goals (try (exfalso; grind; done))
  | cons o os ih =>
    intro k st I' x4 hd hkl hdl hdp hI hp
    have hk : cs[k]? = some o := by
      have : (cs.drop k)[0]? = some o := by rw [hd]; rfl
      simpa using this
    have hkl' : k + 1 + os.length = cs.length := by simp at hkl; omega
    have hkl2 : k < cs.length := by omega
    have hd' : cs.drop (k + 1) = os := by
      rw [← List.drop_drop, hd]
      rfl
    obtain ⟨a1, a2, a3⟩ := hop k o hk
    have i0 : 0 ≤ from0 + nI k ∧ from0 + nI k < 2200 := by
      have h0 : 0 ≤ nI k := nI_pos' (by omega)
      have h1 : nI k < 1000 := (nI_ltI (b := 1000) (by omega) (by omega)).mpr (by omega)
      grind
    obtain ⟨i0, i1⟩ := i0
    have b1 : I' 233 (from0 + nI k) = opR o := by rw [hI 233 (by decide)]; exact a1
    have b2 : I' 234 (from0 + nI k) = argR o := by rw [hI 234 (by decide)]; exact a2
    have hnx : from0 + nI k + 1 = from0 + nI (k + 1) := by rw [nI_succ]; grind
    have t0 : 0 ≤ nI st.length := nI_pos' (by omega)
    have t1 : nI st.length < 1100 := (nI_ltI (b := 1100) (by omega) (by omega)).mpr (by omega)
    by_cases h5 : -5 < o
    · have hs : ∀ x, (x = if o = -1 then f else if o = -2 then c0 else if o = -3 then r0 else if o = -4 then d0 else o) → ∀ L', lle [some (.ref 226), some (.int from0), some (.int (nI (st.length + 1))), some (.int (from0 + nI (k + 1))), none] L' → X e 1 M_X12_worthAt.2.2 4 L' [] (F, (xv I' 241 (nI st.length) x), G, J, P0 ha hb ea eb, Q0, S0) (fun w M' => w = some (.int ((evS f c0 r0 d0 (o :: os) st).headD 0)) ∧ ∃ I'', M' = (F, I'', G, J, P0 ha hb ea eb, Q0, S0) ∧ ∀ c', c' ≠ 241 → I'' c' = I c') := by
        intro x hx L' hL
        refine X.weak hL ?_
        unfold evS
        rw [if_pos h5, ← hx]
        unfold dpS at hdp
        rw [if_pos h5] at hdp
        refine ih (k + 1) (x :: st) _ _ hd' hkl' (by split at hdp; simpa using (by omega); cases hdp) (by split at hdp; exact hdp; cases hdp) (fun c' hc => by rw [xv_ne hc]; exact hI c' hc) ?_
        rw [xv_241]
        exact ⟨up_self, pileR_up (by omega) (by omega) hp⟩
      by_cases h1 : -1 < o
      · have b1' : I' 233 (from0 + nI k) = 1 := by rw [b1]; unfold opR; rw [if_pos h1]
        have b2' : I' 234 (from0 + nI k) = o := by rw [b2]; unfold argR; rw [if_pos h1]
        have hx := hs (I' 234 (from0 + nI k)) (by rw [b2']; grind)
        clear ih hop hs hI hp
        repeat' (first | rw [b1'] | (refine X.f rfl ?_; first | refine z_iload rfl ?_ | refine z_aload rfl ?_ | refine z_push ?_ | refine z_istore rfl ?_ | refine z_astore rfl ?_ | refine z_gP rfl rfl ?_ | refine z_gI rfl ?_ | refine z_gotoF rfl ?_ | refine z_iadd ?_ | refine z_isub ?_ | refine z_imul ?_ | refine z_iand ?_ | refine z_ior ?_ | refine z_ishl ?_ | refine z_ishr ?_ | refine z_ixor ?_ | refine z_ineg ?_ | refine z_pI rfl ?_ | refine z_inc80 rfl ?_ | refine z_inc81 rfl ?_ | refine z_dup ?_ | refine z_dupr ?_ | refine z_dup2 ?_ | refine z_pop ?_ | refine z_idiv (by decide) ?_ | refine z_irem (by decide) ?_ | refine z_iaload rfl (by first | with_reducible assumption | decide | grind) (by first | with_reducible assumption | decide | grind) (by decide) ?_ | refine z_iastore rfl (by first | with_reducible assumption | decide | grind) (by first | with_reducible assumption | decide | grind) (by decide) ?_) | ((refine X.f rfl ?_; first | refine z_ifeq (fun c => ?_) (fun c => ?_) | refine z_ifne (fun c => ?_) (fun c => ?_) | refine z_iflt (fun c => ?_) (fun c => ?_) | refine z_ifge (fun c => ?_) (fun c => ?_) | refine z_ifgt (fun c => ?_) (fun c => ?_) | refine z_ifle (fun c => ?_) (fun c => ?_) | refine z_ieq (fun c => ?_) (fun c => ?_) | refine z_ine (fun c => ?_) (fun c => ?_) | refine z_ilt (fun c => ?_) (fun c => ?_) | refine z_ige (fun c => ?_) (fun c => ?_) | refine z_igt (fun c => ?_) (fun c => ?_) | refine z_ile (fun c => ?_) (fun c => ?_)) <;> try (exfalso; first | (with_reducible exact absurd rfl c) | (with_reducible exact absurd (Int32.le_refl _) c) | (revert c; decide) | (with_reducible contradiction))) | fail)
        refine X.f rfl (z_goto (hx _ ?_))
        repeat (first | exact trivial | refine ⟨by first | with_reducible rfl | exact congrArg (fun q => some (Value.int q)) (by first | with_reducible rfl | with_reducible assumption | exact (nI_succ _).symm | grind [hnx]) | rfl, ?_⟩)
      · have b1' : I' 233 (from0 + nI k) = 2 := by rw [b1]; unfold opR; rw [if_neg h1, if_pos h5]
        have ho : ∃ j, 0 ≤ j ∧ j < 4 ∧ I' 234 (from0 + nI k) = j ∧ I' 240 j = if o = -1 then f else if o = -2 then c0 else if o = -3 then r0 else if o = -4 then d0 else o := by
          have : o = -1 ∨ o = -2 ∨ o = -3 ∨ o = -4 := by grind
          rw [hI 240 (by decide), b2]
          rcases this with rfl | rfl | rfl | rfl
          · exact ⟨0, by decide, by decide, by decide, e0⟩
          · exact ⟨1, by decide, by decide, by decide, e1⟩
          · exact ⟨2, by decide, by decide, by decide, e2⟩
          · exact ⟨3, by decide, by decide, by decide, e3⟩
        obtain ⟨j, j0, j1, b2', hj⟩ := ho
        have hx := hs _ hj
        rw [← b2'] at hx
        clear ih hop hs hI hp
        repeat' (first | rw [b1'] | (refine X.f rfl ?_; first | refine z_iload rfl ?_ | refine z_aload rfl ?_ | refine z_push ?_ | refine z_istore rfl ?_ | refine z_astore rfl ?_ | refine z_gP rfl rfl ?_ | refine z_gI rfl ?_ | refine z_gotoF rfl ?_ | refine z_iadd ?_ | refine z_isub ?_ | refine z_imul ?_ | refine z_iand ?_ | refine z_ior ?_ | refine z_ishl ?_ | refine z_ishr ?_ | refine z_ixor ?_ | refine z_ineg ?_ | refine z_pI rfl ?_ | refine z_inc80 rfl ?_ | refine z_inc81 rfl ?_ | refine z_dup ?_ | refine z_dupr ?_ | refine z_dup2 ?_ | refine z_pop ?_ | refine z_idiv (by decide) ?_ | refine z_irem (by decide) ?_ | refine z_iaload rfl (by first | with_reducible assumption | decide | grind) (by first | with_reducible assumption | decide | grind) (by decide) ?_ | refine z_iastore rfl (by first | with_reducible assumption | decide | grind) (by first | with_reducible assumption | decide | grind) (by decide) ?_) | ((refine X.f rfl ?_; first | refine z_ifeq (fun c => ?_) (fun c => ?_) | refine z_ifne (fun c => ?_) (fun c => ?_) | refine z_iflt (fun c => ?_) (fun c => ?_) | refine z_ifge (fun c => ?_) (fun c => ?_) | refine z_ifgt (fun c => ?_) (fun c => ?_) | refine z_ifle (fun c => ?_) (fun c => ?_) | refine z_ieq (fun c => ?_) (fun c => ?_) | refine z_ine (fun c => ?_) (fun c => ?_) | refine z_ilt (fun c => ?_) (fun c => ?_) | refine z_ige (fun c => ?_) (fun c => ?_) | refine z_igt (fun c => ?_) (fun c => ?_) | refine z_ile (fun c => ?_) (fun c => ?_)) <;> try (exfalso; first | (with_reducible exact absurd rfl c) | (with_reducible exact absurd (Int32.le_refl _) c) | (revert c; decide) | (with_reducible contradiction))) | fail)
        refine X.f rfl (z_goto (hx _ ?_))
        repeat (first | exact trivial | refine ⟨by first | with_reducible rfl | exact congrArg (fun q => some (Value.int q)) (by first | with_reducible rfl | with_reducible assumption | exact (nI_succ _).symm | grind [hnx]) | rfl, ?_⟩)
    · by_cases h6 : o = -5
      · subst h6
        have b1' : I' 233 (from0 + nI k) = 3 := by rw [b1]; rfl
        unfold dpS at hdp
        rw [if_neg (by decide), if_pos rfl] at hdp
        obtain ⟨y, st', rfl⟩ : ∃ y st', st = y :: st' := by
          cases st with
          | nil => simp at hdp
          | cons y st' => exact ⟨y, st', rfl⟩
        obtain ⟨p1, p2⟩ := hp
        rw [if_pos (by simp)] at hdp
        have hm : nI (y :: st').length - 1 = nI st'.length := nI_sub1
        have u0 : 0 ≤ nI st'.length := nI_pos' (by simp at hdl; omega)
        have u1 : nI st'.length < 1100 := (nI_ltI (b := 1100) (by simp at hdl; omega) (by omega)).mpr (by simp at hdl; omega)
        have hs : ∀ x, (x = if y = 0 then 1 else 0) → ∀ L', lle [some (.ref 226), some (.int from0), some (.int (nI (y :: st').length)), some (.int (from0 + nI (k + 1))), none] L' → X e 1 M_X12_worthAt.2.2 4 L' [] (F, (xv I' 241 (nI st'.length) x), G, J, P0 ha hb ea eb, Q0, S0) (fun w M' => w = some (.int ((evS f c0 r0 d0 (-5 :: os) (y :: st')).headD 0)) ∧ ∃ I'', M' = (F, I'', G, J, P0 ha hb ea eb, Q0, S0) ∧ ∀ c', c' ≠ 241 → I'' c' = I c') := by
          intro x hx L' hL
          refine X.weak hL ?_
          unfold evS
          rw [if_neg (by decide), if_pos rfl]
          dsimp only
          rw [← hx]
          refine ih (k + 1) (x :: st') _ _ hd' hkl' hdl hdp (fun c' hc => by rw [xv_ne hc]; exact hI c' hc) ?_
          rw [xv_241]
          exact ⟨up_self, pileR_up (by simp at hdl; omega) (by omega) p2⟩
        clear ih hop hI p2
        repeat' (first | rw [b1'] | (refine X.f rfl ?_; first | refine z_iload rfl ?_ | refine z_aload rfl ?_ | refine z_push ?_ | refine z_istore rfl ?_ | refine z_astore rfl ?_ | refine z_gP rfl rfl ?_ | refine z_gI rfl ?_ | refine z_gotoF rfl ?_ | refine z_iadd ?_ | refine z_isub ?_ | refine z_imul ?_ | refine z_iand ?_ | refine z_ior ?_ | refine z_ishl ?_ | refine z_ishr ?_ | refine z_ixor ?_ | refine z_ineg ?_ | refine z_pI rfl ?_ | refine z_inc80 rfl ?_ | refine z_inc81 rfl ?_ | refine z_dup ?_ | refine z_dupr ?_ | refine z_dup2 ?_ | refine z_pop ?_ | refine z_idiv (by decide) ?_ | refine z_irem (by decide) ?_ | refine z_iaload rfl (by first | with_reducible assumption | decide | grind) (by first | with_reducible assumption | decide | grind) (by decide) ?_ | refine z_iastore rfl (by first | with_reducible assumption | decide | grind) (by first | with_reducible assumption | decide | grind) (by decide) ?_) | ((refine X.f rfl ?_; first | refine z_ifeq (fun c => ?_) (fun c => ?_) | refine z_ifne (fun c => ?_) (fun c => ?_) | refine z_iflt (fun c => ?_) (fun c => ?_) | refine z_ifge (fun c => ?_) (fun c => ?_) | refine z_ifgt (fun c => ?_) (fun c => ?_) | refine z_ifle (fun c => ?_) (fun c => ?_) | refine z_ieq (fun c => ?_) (fun c => ?_) | refine z_ine (fun c => ?_) (fun c => ?_) | refine z_ilt (fun c => ?_) (fun c => ?_) | refine z_ige (fun c => ?_) (fun c => ?_) | refine z_igt (fun c => ?_) (fun c => ?_) | refine z_ile (fun c => ?_) (fun c => ?_)) <;> try (exfalso; first | (with_reducible exact absurd rfl c) | (with_reducible exact absurd (Int32.le_refl _) c) | (revert c; decide) | (with_reducible contradiction))) | fail)
        · rw [hm] at *
          refine X.f rfl (z_goto (hs _ (by grind) _ ?_))
          repeat (first | exact trivial | refine ⟨by first | with_reducible rfl | exact congrArg (fun q => some (Value.int q)) (by first | with_reducible rfl | with_reducible assumption | exact (nI_succ _).symm | grind [hnx]) | rfl, ?_⟩)
        · rw [hm] at *
          refine X.f rfl (z_goto (hs _ (by grind) _ ?_))
          repeat (first | exact trivial | refine ⟨by first | with_reducible rfl | exact congrArg (fun q => some (Value.int q)) (by first | with_reducible rfl | with_reducible assumption | exact (nI_succ _).symm | grind [hnx]) | rfl, ?_⟩)
      · have b1' : 3 < opR o := by unfold opR; grind
        rw [← b1] at b1'
        unfold dpS at hdp
        rw [if_neg h5, if_neg h6] at hdp
        obtain ⟨y, x, st', rfl⟩ : ∃ y x st', st = y :: x :: st' := by
          cases st with
          | nil => simp at hdp
          | cons y t =>
            cases t with
            | nil => simp at hdp
            | cons x st' => exact ⟨y, x, st', rfl⟩
        obtain ⟨p1, p2, p3⟩ := hp
        rw [if_pos (by simp)] at hdp
        have hm : nI (y :: x :: st').length + -1 = nI (x :: st').length := pk_m1 _
        have hm2 : nI (x :: st').length - 1 = nI st'.length := nI_sub1
        have u0 : 0 ≤ nI st'.length := nI_pos' (by simp at hdl; omega)
        have u1 : nI st'.length < 1100 := (nI_ltI (b := 1100) (by simp at hdl; omega) (by omega)).mpr (by simp at hdl; omega)
        have u2 : nI (x :: st').length = nI st'.length + 1 := nI_succ _
        have hs : ∀ z, (z = jS o x y) → ∀ L', lle [some (.ref 226), some (.int from0), some (.int (nI (x :: st').length)), some (.int (from0 + nI (k + 1))), none] L' → X e 1 M_X12_worthAt.2.2 4 L' [] (F, (xv I' 241 (nI st'.length) z), G, J, P0 ha hb ea eb, Q0, S0) (fun w M' => w = some (.int ((evS f c0 r0 d0 (o :: os) (y :: x :: st')).headD 0)) ∧ ∃ I'', M' = (F, I'', G, J, P0 ha hb ea eb, Q0, S0) ∧ ∀ c', c' ≠ 241 → I'' c' = I c') := by
          intro z hz L' hL
          refine X.weak hL ?_
          unfold evS
          rw [if_neg h5, if_neg h6]
          dsimp only
          rw [show (if o = -6 then (if x ≠ 0 ∧ y ≠ 0 then 1 else 0) else if o = -7 then (if x ≠ 0 ∨ y ≠ 0 then 1 else 0) else if o = -8 then (if x < y then 1 else 0) else if o = -9 then (if x = y then 1 else 0) else if o = -10 then x + y else if o = -11 then x - y else x * y : Int32) = z from hz.symm]
          refine ih (k + 1) (z :: st') _ _ hd' hkl' (by simp at hdl ⊢; omega) hdp (fun c' hc => by rw [xv_ne hc]; exact hI c' hc) ?_
          rw [xv_241]
          exact ⟨up_self, pileR_up (by simp at hdl; omega) (by omega) p3⟩
        clear ih hop hI p3
        repeat' (first | rw [hm] | rw [hm2] | (refine X.f rfl ?_; first | refine z_iload rfl ?_ | refine z_aload rfl ?_ | refine z_push ?_ | refine z_istore rfl ?_ | refine z_astore rfl ?_ | refine z_gP rfl rfl ?_ | refine z_gI rfl ?_ | refine z_gotoF rfl ?_ | refine z_iadd ?_ | refine z_isub ?_ | refine z_imul ?_ | refine z_iand ?_ | refine z_ior ?_ | refine z_ishl ?_ | refine z_ishr ?_ | refine z_ixor ?_ | refine z_ineg ?_ | refine z_pI rfl ?_ | refine z_inc80 rfl ?_ | refine z_inc81 rfl ?_ | refine z_dup ?_ | refine z_dupr ?_ | refine z_dup2 ?_ | refine z_pop ?_ | refine z_idiv (by decide) ?_ | refine z_irem (by decide) ?_ | refine z_iaload rfl (by first | with_reducible assumption | decide | grind) (by first | with_reducible assumption | decide | grind) (by decide) ?_ | refine z_iastore rfl (by first | with_reducible assumption | decide | grind) (by first | with_reducible assumption | decide | grind) (by decide) ?_) | ((refine X.f rfl ?_; first | refine z_ifeq (fun c => ?_) (fun c => ?_) | refine z_ifne (fun c => ?_) (fun c => ?_) | refine z_iflt (fun c => ?_) (fun c => ?_) | refine z_ifge (fun c => ?_) (fun c => ?_) | refine z_ifgt (fun c => ?_) (fun c => ?_) | refine z_ifle (fun c => ?_) (fun c => ?_) | refine z_ieq (fun c => ?_) (fun c => ?_) | refine z_ine (fun c => ?_) (fun c => ?_) | refine z_ilt (fun c => ?_) (fun c => ?_) | refine z_ige (fun c => ?_) (fun c => ?_) | refine z_igt (fun c => ?_) (fun c => ?_) | refine z_ile (fun c => ?_) (fun c => ?_)) <;> try (exfalso; first | (with_reducible exact absurd rfl c) | (with_reducible exact absurd (Int32.le_refl _) c) | (revert c; decide) | (with_reducible contradiction))) | fail)
        all_goals (try (exfalso; grind; done))
        rw [b1]
        refine X.f rfl (z_cas (q_both (o := o) (by grind) (by grind)) rfl (by rfl) (by rfl) rfl rfl rfl ?_)
        repeat' (first | (refine X.f rfl ?_; first | refine z_iload rfl ?_ | refine z_aload rfl ?_ | refine z_push ?_ | refine z_istore rfl ?_ | refine z_astore rfl ?_ | refine z_gP rfl rfl ?_ | refine z_gI rfl ?_ | refine z_gotoF rfl ?_ | refine z_iadd ?_ | refine z_isub ?_ | refine z_imul ?_ | refine z_iand ?_ | refine z_ior ?_ | refine z_ishl ?_ | refine z_ishr ?_ | refine z_ixor ?_ | refine z_ineg ?_ | refine z_pI rfl ?_ | refine z_inc80 rfl ?_ | refine z_inc81 rfl ?_ | refine z_dup ?_ | refine z_dupr ?_ | refine z_dup2 ?_ | refine z_pop ?_ | refine z_idiv (by decide) ?_ | refine z_irem (by decide) ?_ | refine z_iaload rfl (by first | with_reducible assumption | decide | grind) (by first | with_reducible assumption | decide | grind) (by decide) ?_ | refine z_iastore rfl (by first | with_reducible assumption | decide | grind) (by first | with_reducible assumption | decide | grind) (by decide) ?_) | ((refine X.f rfl ?_; first | refine z_ifeq (fun c => ?_) (fun c => ?_) | refine z_ifne (fun c => ?_) (fun c => ?_) | refine z_iflt (fun c => ?_) (fun c => ?_) | refine z_ifge (fun c => ?_) (fun c => ?_) | refine z_ifgt (fun c => ?_) (fun c => ?_) | refine z_ifle (fun c => ?_) (fun c => ?_) | refine z_ieq (fun c => ?_) (fun c => ?_) | refine z_ine (fun c => ?_) (fun c => ?_) | refine z_ilt (fun c => ?_) (fun c => ?_) | refine z_ige (fun c => ?_) (fun c => ?_) | refine z_igt (fun c => ?_) (fun c => ?_) | refine z_ile (fun c => ?_) (fun c => ?_)) <;> try (exfalso; first | (with_reducible exact absurd rfl c) | (with_reducible exact absurd (Int32.le_refl _) c) | (revert c; decide) | (with_reducible contradiction))) | fail)
        refine X.f rfl (z_goto (hs _ (by rw [p1, p2]) _ ?_))
        repeat (first | exact trivial | refine ⟨by first | with_reducible rfl | exact congrArg (fun q => some (Value.int q)) (by first | with_reducible rfl | with_reducible assumption | exact (nI_succ _).symm | grind [hnx]) | rfl, ?_⟩)
theorem q_worthAt (hH : HR I h) (hc : hCode h ≠ []) {f c0 r0 d0 : Int32} (e0 : I 240 0 = f) (e1 : I 240 1 = c0) (e2 : I 240 2 = r0) (e3 : I 240 3 = d0) : Y e 1 M_X12_worthAt [.ref 226, .int (I 232 3)] (F, I, G, J, P0 ha hb ea eb, Q0, S0) (fun w M' => w = some (.int ((evS f c0 r0 d0 (hCode h) []).headD 0)) ∧ ∃ I'', M' = (F, I'', G, J, P0 ha hb ea eb, Q0, S0) ∧ ∀ c', c' ≠ 241 → I'' c' = I c') := by
  obtain ⟨q1, q2, q3, q4, q5, q6, q7⟩ : hCode h ≠ [] ∧ 0 ≤ I 232 3 ∧ (hCode h).length ≤ 1000 ∧ I 232 3 ≤ 1000 ∧ (∀ k o, (hCode h)[k]? = some o → I 233 (I 232 3 + nI k) = opR o ∧ I 234 (I 232 3 + nI k) = argR o ∧ -12 ≤ o) ∧ I 233 (I 232 3 + nI (hCode h).length) = 0 ∧ dpS (hCode h) 0 = some 1 := by
    rcases hH.2.2.2.2.2.2.2 with ⟨q, -⟩ | q
    · exact absurd q hc
    · exact q
  unfold Y
  iterate 4 (first | refine X.f rfl (z_iload rfl ?_) | refine X.f rfl (z_aload rfl ?_) | refine X.f rfl (z_push ?_) | refine X.f rfl (z_istore rfl ?_) | refine X.f rfl (z_gP rfl rfl ?_) | refine X.f rfl (z_gI rfl ?_) | refine X.f rfl (z_gotoF rfl ?_) | refine X.f rfl (z_iadd ?_) | refine X.f rfl (z_isub ?_) | refine X.f rfl (z_imul ?_) | refine X.f rfl (z_iand ?_) | refine X.f rfl (z_ior ?_) | refine X.f rfl (z_ishl ?_) | refine X.f rfl (z_ishr ?_) | refine X.f rfl (z_pI rfl ?_) | refine X.f rfl (z_inc80 rfl ?_) | refine X.f rfl (z_dup ?_) | refine X.f rfl (z_dupr ?_) | refine X.f rfl (z_dup2 ?_) | refine X.f rfl (z_pop ?_) | refine X.f rfl (z_ixor ?_) | refine X.f rfl (z_idiv (by decide) ?_) | refine X.f rfl (z_irem (by decide) ?_) | refine X.f rfl (z_ineg ?_) | refine X.f rfl (z_iaload rfl (by assumption) (by assumption) (by decide) ?_))
  refine X.weak ?_ (q_worth_loop q2 q4 q3 q5 q6 e0 e1 e2 e3 (hCode h) 0 [] I none rfl (by simp) (by simp) q7 (fun _ _ => rfl) trivial)
  repeat (first | exact trivial | refine ⟨by first | with_reducible rfl | exact congrArg (fun q => some (Value.int q)) (by first | with_reducible rfl | with_reducible assumption | exact (nI_succ _).symm | grind [nI_0]) | rfl, ?_⟩)
end R4
