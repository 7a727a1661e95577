/-! THE REFERENCE: at first; what is kept to be undone -/
def startS (P : Nat) (T : Int32 → Int32) : SV := (0, fun k i => match k with
  | 0 => cut 7 (fun _ => -1) i
  | 1 => 0
  | 2 => cut 5 (fun p => if p < nI P then T p else 0) i
  | 3 => cut 5 (fun _ => -1) i
  | 4 => cut 7 (fun _ => -1) i
  | _ => 0)
/-- what can be undone: how many, the oldest first -/
abbrev UV : Type := Nat × (Nat → SV)
def pushU (u : UV) (v : SV) : UV := if u.1 = 16 then (16, fun k => if k = 15 then v else u.2 (k + 1)) else (u.1 + 1, fun k => if k = u.1 then v else u.2 k)
def undoR (x : Int32) (st : Int32 → Int32) (P : Nat) (u : UV) : Prop := x = nI u.1 ∧ u.1 ≤ 16 ∧ ∀ k, k < u.1 → svR st P (50 * (5 + nI k)) = u.2 k
theorem sitterF_neg {f : Int32 → Int32} {s : Int32} (hs : 0 ≤ s) : ∀ {P : Nat}, (∀ k, k < P → f (nI k) = -1) → sitterF f s P = -1
  | 0, _ => rfl
  | P + 1, h => by
    unfold sitterF
    rw [if_neg (by rw [h P (by omega)]; grind)]
    exact sitterF_neg hs (fun k hk => h k (by omega))
section RF
variable {e : Bool × Int32 × (Int32 → Int32)} {F : Nat → Nat → Int32} {I : Nat → Int32 → Int32} {G : Nat → Nat → Int64} {J : Nat → Int32 → Int64} {ha hb ea eb : Nat} {h : HV} {b : Int32} {v : SV} {P : Nat}
theorem startS_ok {st : Int32 → Int32} {T : Int32 → Int32} (hP5 : P ≤ 5) (hB : okB b) (h0 : st (b + 0) = 0) (h1 : ∀ k, k < 7 → st (b + 1 + nI k) = -1 ∧ st (b + 8 + nI k) = 0) (h2 : ∀ k, k < 5 → st (b + 15 + nI k) = (if nI k < nI P then T (nI k) else 0) ∧ st (b + 20 + nI k) = -1) : svR st P b = startS P T := by
  have q7 : ∀ i : Int32, 0 ≤ i ∧ i < 7 → ∃ k, k < 7 ∧ i = nI k := fun i hi => nI_ex (P := 7) (by omega) hi.1 hi.2
  have q5 : ∀ i : Int32, 0 ≤ i ∧ i < 5 → ∃ k, k < 5 ∧ i = nI k := fun i hi => nI_ex (P := 5) (by omega) hi.1 hi.2
  rw [Int32.add_zero] at h0
  refine Prod.ext h0 ?_
  funext k i
  match k with
  | 0 =>
    simp only [svR, startS, cut]
    split
    · rename_i hi
      obtain ⟨k, hk, rfl⟩ := q7 i hi
      exact (h1 k hk).1
    · rfl
  | 1 =>
    simp only [svR, startS, cut]
    split
    · rename_i hi
      obtain ⟨k, hk, rfl⟩ := q7 i hi
      exact (h1 k hk).2
    · rfl
  | 2 =>
    simp only [svR, startS, cut]
    split
    · rename_i hi
      obtain ⟨k, hk, rfl⟩ := q5 i hi
      exact (h2 k hk).1
    · rfl
  | 3 =>
    simp only [svR, startS, cut]
    split
    · rename_i hi
      obtain ⟨k, hk, rfl⟩ := q5 i hi
      exact (h2 k hk).2
    · rfl
  | 4 =>
    simp only [svR, startS, cut]
    split
    · rename_i hi
      exact sitterF_neg hi.1 (fun k hk => (h2 k (by omega)).2)
    · rfl
  | k + 5 => rfl
theorem q_starts {T : Int32 → Int32} (hP' : I 232 1 = nI P) (hP5 : P ≤ 5) (hT : ∀ p, 0 ≤ p → p < 5 → I 232 (18 + 3 * p + 1) = T p) (hB : okB b) : Y e 1 M_X12_starts [.ref 226, .int b] (F, I, G, J, P0 ha hb ea eb, Q0, S0) (fun w M' => w = none ∧ ∃ I', M' = (F, I', G, J, P0 ha hb ea eb, Q0, S0) ∧ same2 I I' b ∧ svR (I' 242) P b = startS P T) := by
  obtain ⟨hB0, hB1⟩ := id hB
  unfold Y
  iterate 7 ((refine X.f rfl ?_; first | refine z_iload rfl ?_ | refine z_aload rfl ?_ | refine z_push ?_ | refine z_istore rfl ?_ | refine z_astore rfl ?_ | refine z_gP rfl rfl ?_ | refine z_gI rfl ?_ | refine z_gotoF rfl ?_ | refine z_iadd ?_ | refine z_isub ?_ | refine z_imul ?_ | refine z_iand ?_ | refine z_ior ?_ | refine z_ishl ?_ | refine z_ishr ?_ | refine z_ixor ?_ | refine z_ineg ?_ | refine z_pI rfl ?_ | refine z_inc80 rfl ?_ | refine z_inc81 rfl ?_ | refine z_dup ?_ | refine z_dupr ?_ | refine z_dup2 ?_ | refine z_pop ?_ | refine z_idiv (by decide) ?_ | refine z_irem (by decide) ?_ | refine z_iaload rfl (by first | with_reducible assumption | decide | grind) (by first | with_reducible assumption | decide | grind) (by decide) ?_ | refine z_iastore rfl (by first | with_reducible assumption | decide | grind) (by first | with_reducible assumption | decide | grind) (by decide) ?_))
  iterate 2 ((refine X.f rfl ?_; first | refine z_iload rfl ?_ | refine z_aload rfl ?_ | refine z_push ?_ | refine z_istore rfl ?_ | refine z_astore rfl ?_ | refine z_gP rfl rfl ?_ | refine z_gI rfl ?_ | refine z_gotoF rfl ?_ | refine z_iadd ?_ | refine z_isub ?_ | refine z_imul ?_ | refine z_iand ?_ | refine z_ior ?_ | refine z_ishl ?_ | refine z_ishr ?_ | refine z_ixor ?_ | refine z_ineg ?_ | refine z_pI rfl ?_ | refine z_inc80 rfl ?_ | refine z_inc81 rfl ?_ | refine z_dup ?_ | refine z_dupr ?_ | refine z_dup2 ?_ | refine z_pop ?_ | refine z_idiv (by decide) ?_ | refine z_irem (by decide) ?_ | refine z_iaload rfl (by first | with_reducible assumption | decide | grind) (by first | with_reducible assumption | decide | grind) (by decide) ?_ | refine z_iastore rfl (by first | with_reducible assumption | decide | grind) (by first | with_reducible assumption | decide | grind) (by decide) ?_))
  refine x_forR 7 (fun i (_ : Unit) => [some (.ref 226), some (.int b), some (.int (nI i))]) (fun i _ M => ∃ I', M = (F, I', G, J, P0 ha hb ea eb, Q0, S0) ∧ same2 I I' b ∧ I' 242 (b + 0) = 0 ∧ ∀ k, k < i → I' 242 (b + 1 + nI k) = -1 ∧ I' 242 (b + 8 + nI k) = 0) (fun i _ M hi hM k => ?_) (fun _ M hM => ?_) (i := 0) (a := ()) (by omega) ⟨_, rfl, same2.put (by grind) (by grind), by rw [xv_242, up_self], fun k hk => absurd hk (by omega)⟩ (by repeat (first | exact trivial | refine ⟨by first | with_reducible rfl | exact congrArg (fun q => some (Value.int q)) (by first | with_reducible rfl | with_reducible assumption | exact (nI_succ _).symm | grind [nI_0]) | rfl, ?_⟩))
  · obtain ⟨I', rfl, q, q0, q1⟩ := hM
    have i0 : 0 ≤ nI i := nI_pos' (by omega)
    have i1 : nI i < 7 := (nI_ltI (b := 7) (by omega) (by omega)).mpr hi
    have i2' : ¬ 7 ≤ nI i := Int32.not_le.mpr i1
    repeat' (first | fail | (refine X.f rfl ?_; first | refine z_iload rfl ?_ | refine z_aload rfl ?_ | refine z_push ?_ | refine z_istore rfl ?_ | refine z_astore rfl ?_ | refine z_gP rfl rfl ?_ | refine z_gI rfl ?_ | refine z_gotoF rfl ?_ | refine z_iadd ?_ | refine z_isub ?_ | refine z_imul ?_ | refine z_iand ?_ | refine z_ior ?_ | refine z_ishl ?_ | refine z_ishr ?_ | refine z_ixor ?_ | refine z_ineg ?_ | refine z_pI rfl ?_ | refine z_inc80 rfl ?_ | refine z_inc81 rfl ?_ | refine z_dup ?_ | refine z_dupr ?_ | refine z_dup2 ?_ | refine z_pop ?_ | refine z_idiv (by decide) ?_ | refine z_irem (by decide) ?_ | refine z_iaload rfl (by first | with_reducible assumption | decide | grind) (by first | with_reducible assumption | decide | grind) (by decide) ?_ | refine z_iastore rfl (by first | with_reducible assumption | decide | grind) (by first | with_reducible assumption | decide | grind) (by decide) ?_) | ((refine X.f rfl ?_; first | refine z_ifeq (fun c => ?_) (fun c => ?_) | refine z_ifne (fun c => ?_) (fun c => ?_) | refine z_iflt (fun c => ?_) (fun c => ?_) | refine z_ifge (fun c => ?_) (fun c => ?_) | refine z_ifgt (fun c => ?_) (fun c => ?_) | refine z_ifle (fun c => ?_) (fun c => ?_) | refine z_ieq (fun c => ?_) (fun c => ?_) | refine z_ine (fun c => ?_) (fun c => ?_) | refine z_ilt (fun c => ?_) (fun c => ?_) | refine z_ige (fun c => ?_) (fun c => ?_) | refine z_igt (fun c => ?_) (fun c => ?_) | refine z_ile (fun c => ?_) (fun c => ?_)) <;> try (exfalso; first | (with_reducible exact absurd rfl c) | (with_reducible exact absurd (Int32.le_refl _) c) | (exact absurd c (by decide)) | (exact absurd c (by with_reducible assumption)) | (exact absurd (by with_reducible assumption) c))) | fail)
    refine X.f rfl (z_goto (k () _ _ ?_ ?_))
    · refine ⟨_, rfl, (q.trans (same2.put (by grind) (by grind))).trans (same2.put (by grind) (by grind)), ?_, fun j hj => ?_⟩
      · rw [xv_242, xv_242, up_ne (by grind), up_ne (by grind)]
        exact q0
      · have j0 : 0 ≤ nI j := nI_pos' (by omega)
        have j1 : nI j < 7 := (nI_ltI (b := 7) (by omega) (by omega)).mpr (by omega)
        rw [xv_242, xv_242]
        by_cases hji : j = i
        · subst hji
          rw [up_ne (by grind), up_self, up_self]
          exact ⟨rfl, rfl⟩
        · have hne := nI_ne (a := j) (b := i) (by omega) (by omega) hji
          rw [up_ne (by grind), up_ne (by grind), up_ne (by grind), up_ne (by grind)]
          exact q1 j (by omega)
    · repeat (first | exact trivial | refine ⟨by first | with_reducible rfl | exact congrArg (fun q => some (Value.int q)) (by first | with_reducible rfl | with_reducible assumption | exact (nI_succ _).symm | grind [nI_0]) | rfl, ?_⟩)
  · obtain ⟨I1, rfl, q, q0, q1⟩ := hM
    have h2' : (7 : Int32) ≤ nI 7 := by decide
    have e232 : I1 232 = I 232 := q.1 232 (by decide)
    repeat' (first | fail | (refine X.f rfl ?_; first | refine z_iload rfl ?_ | refine z_aload rfl ?_ | refine z_push ?_ | refine z_istore rfl ?_ | refine z_astore rfl ?_ | refine z_gP rfl rfl ?_ | refine z_gI rfl ?_ | refine z_gotoF rfl ?_ | refine z_iadd ?_ | refine z_isub ?_ | refine z_imul ?_ | refine z_iand ?_ | refine z_ior ?_ | refine z_ishl ?_ | refine z_ishr ?_ | refine z_ixor ?_ | refine z_ineg ?_ | refine z_pI rfl ?_ | refine z_inc80 rfl ?_ | refine z_inc81 rfl ?_ | refine z_dup ?_ | refine z_dupr ?_ | refine z_dup2 ?_ | refine z_pop ?_ | refine z_idiv (by decide) ?_ | refine z_irem (by decide) ?_ | refine z_iaload rfl (by first | with_reducible assumption | decide | grind) (by first | with_reducible assumption | decide | grind) (by decide) ?_ | refine z_iastore rfl (by first | with_reducible assumption | decide | grind) (by first | with_reducible assumption | decide | grind) (by decide) ?_) | fail)
    ((refine X.f rfl ?_; first | refine z_ifeq (fun c => ?_) (fun c => ?_) | refine z_ifne (fun c => ?_) (fun c => ?_) | refine z_iflt (fun c => ?_) (fun c => ?_) | refine z_ifge (fun c => ?_) (fun c => ?_) | refine z_ifgt (fun c => ?_) (fun c => ?_) | refine z_ifle (fun c => ?_) (fun c => ?_) | refine z_ieq (fun c => ?_) (fun c => ?_) | refine z_ine (fun c => ?_) (fun c => ?_) | refine z_ilt (fun c => ?_) (fun c => ?_) | refine z_ige (fun c => ?_) (fun c => ?_) | refine z_igt (fun c => ?_) (fun c => ?_) | refine z_ile (fun c => ?_) (fun c => ?_)) <;> try (exfalso; first | (with_reducible exact absurd rfl c) | (with_reducible exact absurd (Int32.le_refl _) c) | (exact absurd c (by decide)) | (exact absurd c (by with_reducible assumption)) | (exact absurd (by with_reducible assumption) c)))
    iterate 2 ((refine X.f rfl ?_; first | refine z_iload rfl ?_ | refine z_aload rfl ?_ | refine z_push ?_ | refine z_istore rfl ?_ | refine z_astore rfl ?_ | refine z_gP rfl rfl ?_ | refine z_gI rfl ?_ | refine z_gotoF rfl ?_ | refine z_iadd ?_ | refine z_isub ?_ | refine z_imul ?_ | refine z_iand ?_ | refine z_ior ?_ | refine z_ishl ?_ | refine z_ishr ?_ | refine z_ixor ?_ | refine z_ineg ?_ | refine z_pI rfl ?_ | refine z_inc80 rfl ?_ | refine z_inc81 rfl ?_ | refine z_dup ?_ | refine z_dupr ?_ | refine z_dup2 ?_ | refine z_pop ?_ | refine z_idiv (by decide) ?_ | refine z_irem (by decide) ?_ | refine z_iaload rfl (by first | with_reducible assumption | decide | grind) (by first | with_reducible assumption | decide | grind) (by decide) ?_ | refine z_iastore rfl (by first | with_reducible assumption | decide | grind) (by first | with_reducible assumption | decide | grind) (by decide) ?_))
    refine x_forR 5 (fun i (_ : Unit) => [some (.ref 226), some (.int b), some (.int (nI i))]) (fun i _ M => ∃ I', M = (F, I', G, J, P0 ha hb ea eb, Q0, S0) ∧ same2 I I' b ∧ (I' 242 (b + 0) = 0 ∧ ∀ k, k < 7 → I' 242 (b + 1 + nI k) = -1 ∧ I' 242 (b + 8 + nI k) = 0) ∧ ∀ k, k < i → I' 242 (b + 15 + nI k) = (if nI k < nI P then T (nI k) else 0) ∧ I' 242 (b + 20 + nI k) = -1) (fun i _ M hi hM k => ?_) (fun _ M hM => ?_) (i := 0) (a := ()) (by omega) ⟨I1, rfl, q, ⟨q0, q1⟩, fun k hk => absurd hk (by omega)⟩ (by repeat (first | exact trivial | refine ⟨by first | with_reducible rfl | exact congrArg (fun q => some (Value.int q)) (by first | with_reducible rfl | with_reducible assumption | exact (nI_succ _).symm | grind [nI_0]) | rfl, ?_⟩))
    · obtain ⟨I', rfl, q, ⟨q0, q1⟩, q2⟩ := hM
      obtain ⟨i0, i1, -⟩ := nI_lt5 hi (Nat.le_refl 5)
      have i2' : ¬ 5 ≤ nI i := Int32.not_le.mpr i1
      have e232' : I' 232 = I 232 := q.1 232 (by decide)
      have tl := hT (nI i) i0 i1
      have fin : ∀ x, x = (if nI i < nI P then T (nI i) else 0) → ∃ I'', (F, xv (xv I' 242 (b + 15 + nI i) x) 242 (b + 20 + nI i) (-1), G, J, P0 ha hb ea eb, Q0, S0) = (F, I'', G, J, P0 ha hb ea eb, Q0, S0) ∧ same2 I I'' b ∧ (I'' 242 (b + 0) = 0 ∧ ∀ k, k < 7 → I'' 242 (b + 1 + nI k) = -1 ∧ I'' 242 (b + 8 + nI k) = 0) ∧ ∀ k, k < i + 1 → I'' 242 (b + 15 + nI k) = (if nI k < nI P then T (nI k) else 0) ∧ I'' 242 (b + 20 + nI k) = -1 := by
        intro x hx
        refine ⟨_, rfl, (q.trans (same2.put (by grind) (by grind))).trans (same2.put (by grind) (by grind)), ⟨?_, fun j hj => ?_⟩, fun j hj => ?_⟩
        · rw [xv_242, xv_242, up_ne (by grind), up_ne (by grind)]
          exact q0
        · have j0 : 0 ≤ nI j := nI_pos' (by omega)
          have j1 : nI j < 7 := (nI_ltI (b := 7) (by omega) (by omega)).mpr (by omega)
          rw [xv_242, xv_242]
          rw [up_ne (by grind), up_ne (by grind), up_ne (by grind), up_ne (by grind)]
          exact q1 j hj
        · have j0 : 0 ≤ nI j := nI_pos' (by omega)
          have j1 : nI j < 5 := (nI_ltI (b := 5) (by omega) (by omega)).mpr (by omega)
          rw [xv_242, xv_242]
          by_cases hji : j = i
          · subst hji
            rw [up_ne (by grind), up_self, up_self]
            exact ⟨hx, rfl⟩
          · have hne := nI_ne (a := j) (b := i) (by omega) (by omega) hji
            rw [up_ne (by grind), up_ne (by grind), up_ne (by grind), up_ne (by grind)]
            exact q2 j (by omega)
      clear q0 q1 q2 hT q
      repeat' (first | rw [e232'] | rw [hP'] | (refine X.f rfl ?_; first | refine z_iload rfl ?_ | refine z_aload rfl ?_ | refine z_push ?_ | refine z_istore rfl ?_ | refine z_astore rfl ?_ | refine z_gP rfl rfl ?_ | refine z_gI rfl ?_ | refine z_gotoF rfl ?_ | refine z_iadd ?_ | refine z_isub ?_ | refine z_imul ?_ | refine z_iand ?_ | refine z_ior ?_ | refine z_ishl ?_ | refine z_ishr ?_ | refine z_ixor ?_ | refine z_ineg ?_ | refine z_pI rfl ?_ | refine z_inc80 rfl ?_ | refine z_inc81 rfl ?_ | refine z_dup ?_ | refine z_dupr ?_ | refine z_dup2 ?_ | refine z_pop ?_ | refine z_idiv (by decide) ?_ | refine z_irem (by decide) ?_ | refine z_iaload rfl (by first | with_reducible assumption | decide | grind) (by first | with_reducible assumption | decide | grind) (by decide) ?_ | refine z_iastore rfl (by first | with_reducible assumption | decide | grind) (by first | with_reducible assumption | decide | grind) (by decide) ?_) | (refine X.f rfl ?_; refine z_cav (r_persons) rfl (by rfl) (by rfl) rfl rfl rfl rfl ?_))
      ((refine X.f rfl ?_; first | refine z_ifeq (fun c => ?_) (fun c => ?_) | refine z_ifne (fun c => ?_) (fun c => ?_) | refine z_iflt (fun c => ?_) (fun c => ?_) | refine z_ifge (fun c => ?_) (fun c => ?_) | refine z_ifgt (fun c => ?_) (fun c => ?_) | refine z_ifle (fun c => ?_) (fun c => ?_) | refine z_ieq (fun c => ?_) (fun c => ?_) | refine z_ine (fun c => ?_) (fun c => ?_) | refine z_ilt (fun c => ?_) (fun c => ?_) | refine z_ige (fun c => ?_) (fun c => ?_) | refine z_igt (fun c => ?_) (fun c => ?_) | refine z_ile (fun c => ?_) (fun c => ?_)) <;> try (exfalso; first | (with_reducible exact absurd rfl c) | (with_reducible exact absurd (Int32.le_refl _) c) | (exact absurd c (by decide)) | (exact absurd c (by with_reducible assumption)) | (exact absurd (by with_reducible assumption) c)))
      repeat' (first | rw [e232'] | rw [hP'] | (refine X.f rfl ?_; first | refine z_iload rfl ?_ | refine z_aload rfl ?_ | refine z_push ?_ | refine z_istore rfl ?_ | refine z_astore rfl ?_ | refine z_gP rfl rfl ?_ | refine z_gI rfl ?_ | refine z_gotoF rfl ?_ | refine z_iadd ?_ | refine z_isub ?_ | refine z_imul ?_ | refine z_iand ?_ | refine z_ior ?_ | refine z_ishl ?_ | refine z_ishr ?_ | refine z_ixor ?_ | refine z_ineg ?_ | refine z_pI rfl ?_ | refine z_inc80 rfl ?_ | refine z_inc81 rfl ?_ | refine z_dup ?_ | refine z_dupr ?_ | refine z_dup2 ?_ | refine z_pop ?_ | refine z_idiv (by decide) ?_ | refine z_irem (by decide) ?_ | refine z_iaload rfl (by first | with_reducible assumption | decide | grind) (by first | with_reducible assumption | decide | grind) (by decide) ?_ | refine z_iastore rfl (by first | with_reducible assumption | decide | grind) (by first | with_reducible assumption | decide | grind) (by decide) ?_) | (refine X.f rfl ?_; refine z_cav (r_persons) rfl (by rfl) (by rfl) rfl rfl rfl rfl ?_))
      ((refine X.f rfl ?_; first | refine z_ifeq (fun c => ?_) (fun c => ?_) | refine z_ifne (fun c => ?_) (fun c => ?_) | refine z_iflt (fun c => ?_) (fun c => ?_) | refine z_ifge (fun c => ?_) (fun c => ?_) | refine z_ifgt (fun c => ?_) (fun c => ?_) | refine z_ifle (fun c => ?_) (fun c => ?_) | refine z_ieq (fun c => ?_) (fun c => ?_) | refine z_ine (fun c => ?_) (fun c => ?_) | refine z_ilt (fun c => ?_) (fun c => ?_) | refine z_ige (fun c => ?_) (fun c => ?_) | refine z_igt (fun c => ?_) (fun c => ?_) | refine z_ile (fun c => ?_) (fun c => ?_)) <;> try (exfalso; first | (with_reducible exact absurd rfl c) | (with_reducible exact absurd (Int32.le_refl _) c) | (exact absurd c (by decide)) | (exact absurd c (by with_reducible assumption)) | (exact absurd (by with_reducible assumption) c)))
      · have c1 : ¬ nI i < nI P := Int32.not_lt.mpr c
        repeat' (first | rw [e232'] | rw [tl] | (refine X.f rfl ?_; first | refine z_iload rfl ?_ | refine z_aload rfl ?_ | refine z_push ?_ | refine z_istore rfl ?_ | refine z_astore rfl ?_ | refine z_gP rfl rfl ?_ | refine z_gI rfl ?_ | refine z_gotoF rfl ?_ | refine z_iadd ?_ | refine z_isub ?_ | refine z_imul ?_ | refine z_iand ?_ | refine z_ior ?_ | refine z_ishl ?_ | refine z_ishr ?_ | refine z_ixor ?_ | refine z_ineg ?_ | refine z_pI rfl ?_ | refine z_inc80 rfl ?_ | refine z_inc81 rfl ?_ | refine z_dup ?_ | refine z_dupr ?_ | refine z_dup2 ?_ | refine z_pop ?_ | refine z_idiv (by decide) ?_ | refine z_irem (by decide) ?_ | refine z_iaload rfl (by first | with_reducible assumption | decide | grind) (by first | with_reducible assumption | decide | grind) (by decide) ?_ | refine z_iastore rfl (by first | with_reducible assumption | decide | grind) (by first | with_reducible assumption | decide | grind) (by decide) ?_) | ((refine X.f rfl ?_; first | refine z_ifeq (fun c => ?_) (fun c => ?_) | refine z_ifne (fun c => ?_) (fun c => ?_) | refine z_iflt (fun c => ?_) (fun c => ?_) | refine z_ifge (fun c => ?_) (fun c => ?_) | refine z_ifgt (fun c => ?_) (fun c => ?_) | refine z_ifle (fun c => ?_) (fun c => ?_) | refine z_ieq (fun c => ?_) (fun c => ?_) | refine z_ine (fun c => ?_) (fun c => ?_) | refine z_ilt (fun c => ?_) (fun c => ?_) | refine z_ige (fun c => ?_) (fun c => ?_) | refine z_igt (fun c => ?_) (fun c => ?_) | refine z_ile (fun c => ?_) (fun c => ?_)) <;> try (exfalso; first | (with_reducible exact absurd rfl c) | (with_reducible exact absurd (Int32.le_refl _) c) | (exact absurd c (by decide)) | (exact absurd c (by with_reducible assumption)) | (exact absurd (by with_reducible assumption) c))) | (refine X.f rfl ?_; refine z_cav (r_personOf (s := nI i) (w := 1) (by grind) (by grind)) rfl (by rfl) (by rfl) rfl rfl rfl rfl ?_))
        refine X.f rfl (z_goto (k () _ _ ?_ ?_))
        · exact fin _ (by rw [if_neg c1])
        · repeat (first | exact trivial | refine ⟨by first | with_reducible rfl | exact congrArg (fun q => some (Value.int q)) (by first | with_reducible rfl | with_reducible assumption | exact (nI_succ _).symm | grind [nI_0]) | rfl, ?_⟩)
      · have c1 : nI i < nI P := Int32.not_le.mp c
        repeat' (first | rw [e232'] | rw [tl] | (refine X.f rfl ?_; first | refine z_iload rfl ?_ | refine z_aload rfl ?_ | refine z_push ?_ | refine z_istore rfl ?_ | refine z_astore rfl ?_ | refine z_gP rfl rfl ?_ | refine z_gI rfl ?_ | refine z_gotoF rfl ?_ | refine z_iadd ?_ | refine z_isub ?_ | refine z_imul ?_ | refine z_iand ?_ | refine z_ior ?_ | refine z_ishl ?_ | refine z_ishr ?_ | refine z_ixor ?_ | refine z_ineg ?_ | refine z_pI rfl ?_ | refine z_inc80 rfl ?_ | refine z_inc81 rfl ?_ | refine z_dup ?_ | refine z_dupr ?_ | refine z_dup2 ?_ | refine z_pop ?_ | refine z_idiv (by decide) ?_ | refine z_irem (by decide) ?_ | refine z_iaload rfl (by first | with_reducible assumption | decide | grind) (by first | with_reducible assumption | decide | grind) (by decide) ?_ | refine z_iastore rfl (by first | with_reducible assumption | decide | grind) (by first | with_reducible assumption | decide | grind) (by decide) ?_) | ((refine X.f rfl ?_; first | refine z_ifeq (fun c => ?_) (fun c => ?_) | refine z_ifne (fun c => ?_) (fun c => ?_) | refine z_iflt (fun c => ?_) (fun c => ?_) | refine z_ifge (fun c => ?_) (fun c => ?_) | refine z_ifgt (fun c => ?_) (fun c => ?_) | refine z_ifle (fun c => ?_) (fun c => ?_) | refine z_ieq (fun c => ?_) (fun c => ?_) | refine z_ine (fun c => ?_) (fun c => ?_) | refine z_ilt (fun c => ?_) (fun c => ?_) | refine z_ige (fun c => ?_) (fun c => ?_) | refine z_igt (fun c => ?_) (fun c => ?_) | refine z_ile (fun c => ?_) (fun c => ?_)) <;> try (exfalso; first | (with_reducible exact absurd rfl c) | (with_reducible exact absurd (Int32.le_refl _) c) | (exact absurd c (by decide)) | (exact absurd c (by with_reducible assumption)) | (exact absurd (by with_reducible assumption) c))) | (refine X.f rfl ?_; refine z_cav (r_personOf (s := nI i) (w := 1) (by grind) (by grind)) rfl (by rfl) (by rfl) rfl rfl rfl rfl ?_))
        refine X.f rfl (z_goto (k () _ _ ?_ ?_))
        · exact fin _ (by rw [if_pos c1])
        · repeat (first | exact trivial | refine ⟨by first | with_reducible rfl | exact congrArg (fun q => some (Value.int q)) (by first | with_reducible rfl | with_reducible assumption | exact (nI_succ _).symm | grind [nI_0]) | rfl, ?_⟩)
    · obtain ⟨I', rfl, q, ⟨q0, q1⟩, q2⟩ := hM
      have h2' : (5 : Int32) ≤ nI 5 := by decide
      repeat' (first | fail | (refine X.f rfl ?_; first | refine z_iload rfl ?_ | refine z_aload rfl ?_ | refine z_push ?_ | refine z_istore rfl ?_ | refine z_astore rfl ?_ | refine z_gP rfl rfl ?_ | refine z_gI rfl ?_ | refine z_gotoF rfl ?_ | refine z_iadd ?_ | refine z_isub ?_ | refine z_imul ?_ | refine z_iand ?_ | refine z_ior ?_ | refine z_ishl ?_ | refine z_ishr ?_ | refine z_ixor ?_ | refine z_ineg ?_ | refine z_pI rfl ?_ | refine z_inc80 rfl ?_ | refine z_inc81 rfl ?_ | refine z_dup ?_ | refine z_dupr ?_ | refine z_dup2 ?_ | refine z_pop ?_ | refine z_idiv (by decide) ?_ | refine z_irem (by decide) ?_ | refine z_iaload rfl (by first | with_reducible assumption | decide | grind) (by first | with_reducible assumption | decide | grind) (by decide) ?_ | refine z_iastore rfl (by first | with_reducible assumption | decide | grind) (by first | with_reducible assumption | decide | grind) (by decide) ?_) | fail)
      ((refine X.f rfl ?_; first | refine z_ifeq (fun c => ?_) (fun c => ?_) | refine z_ifne (fun c => ?_) (fun c => ?_) | refine z_iflt (fun c => ?_) (fun c => ?_) | refine z_ifge (fun c => ?_) (fun c => ?_) | refine z_ifgt (fun c => ?_) (fun c => ?_) | refine z_ifle (fun c => ?_) (fun c => ?_) | refine z_ieq (fun c => ?_) (fun c => ?_) | refine z_ine (fun c => ?_) (fun c => ?_) | refine z_ilt (fun c => ?_) (fun c => ?_) | refine z_ige (fun c => ?_) (fun c => ?_) | refine z_igt (fun c => ?_) (fun c => ?_) | refine z_ile (fun c => ?_) (fun c => ?_)) <;> try (exfalso; first | (with_reducible exact absurd rfl c) | (with_reducible exact absurd (Int32.le_refl _) c) | (exact absurd c (by decide)) | (exact absurd c (by with_reducible assumption)) | (exact absurd (by with_reducible assumption) c)))
      exact x_ret rfl rfl ⟨rfl, I', rfl, q, startS_ok hP5 hB q0 q1 q2⟩
/-- the frame of keeping -/
def sameU (I I' : Nat → Int32 → Int32) : Prop := (∀ c, c ≠ 242 → I' c = I c) ∧ ∀ i, (i < 250 ∨ 1050 ≤ i) → I' 242 i = I 242 i
theorem q_copyU {a c : Nat} (ha1 : a ≤ 20) (hc1 : c ≤ 20) (hac : a ≠ c) : A' e 0 M_X12_copies [.ref 226, .int (50 * nI a), .int (50 * nI c), .int 25] (F, I, G, J, P0 ha hb ea eb, Q0, S0) none (F, (row I 242 (cpy (I 242) (50 * nI a) (50 * nI c) 25)), G, J, P0 ha hb ea eb, Q0, S0) := by
  have a0 : 0 ≤ nI a := nI_pos' (by omega)
  have c0 : 0 ≤ nI c := nI_pos' (by omega)
  have a1 : nI a ≤ 20 := (nI_leI (b := 20) (by omega) (by omega)).mpr ha1
  have c1 : nI c ≤ 20 := (nI_leI (b := 20) (by omega) (by omega)).mpr hc1
  refine q_copies (n := 25) (by grind) (by grind) (by grind) (by grind) (by omega) ?_
  have e25 : nI 25 = 25 := rfl
  rw [e25]
  rcases Nat.lt_or_gt_of_ne hac with q | q
  · left
    have : nI a + 1 ≤ nI c := by rw [← nI_succ, nI_leI (by omega) (by omega)]; omega
    grind
  · right
    have : nI c + 1 ≤ nI a := by rw [← nI_succ, nI_leI (by omega) (by omega)]; omega
    grind
end RF
