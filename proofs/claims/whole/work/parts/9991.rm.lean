/-! THE REFERENCE: evening -/
def evR (f : Int32 → Int32) (E : LN) : Prop := ∀ k a p s, E[k]? = some (a, p, s) → f (125 + 3 * nI k) = a ∧ f (125 + 3 * nI k + 1) = p ∧ f (125 + 3 * nI k + 2) = s
/-- what reading an evening leaves as it was -/
def evF1 (F F' : Nat → Nat → Int32) (I I' : Nat → Int32 → Int32) : Prop := to7 F F' ∧ (∀ c, c ≠ 239 → I' c = I c) ∧ ∀ x, x < 125 → I' 239 x = I 239 x
section RM
variable {e : Bool × Int32 × (Int32 → Int32)} {d : Nat} {F F' F'' : Nat → Nat → Int32} {I I' I'' : Nat → Int32 → Int32} {G : Nat → Nat → Int64} {J J' J'' : Nat → Int32 → Int64} {ha hb ea eb : Nat} {T : List Int32} {j : Nat} {f g : Int32} {L : ND} {D : DV} {E : LN}
theorem evF1.refl : evF1 F F I I := ⟨to7.refl F, fun _ _ => rfl, fun _ _ => rfl⟩
theorem evF1.trans (h : evF1 F F' I I') (k : evF1 F' F'' I' I'') : evF1 F F'' I I'' := ⟨h.1.trans k.1, fun c hc => (k.2.1 c hc).trans (h.2.1 c hc), fun x hx => (k.2.2 x hx).trans (h.2.2 x hx)⟩
theorem evF1.f7 (h : to7 F F') : evF1 F F' I I := ⟨h, fun _ _ => rfl, fun _ _ => rfl⟩
theorem evR.snoc {f f' : Int32 → Int32} {a p s : Int32} (h : evR f E) (hl : E.length < 40) (e1 : f' = up (up (up f (125 + 3 * nI E.length) a) (125 + 3 * nI E.length + 1) p) (125 + 3 * nI E.length + 2) s) : evR f' (E ++ [(a, p, s)]) := by
  intro k a' p' s' hk
  have l0 : 0 ≤ nI E.length := nI_pos' (by omega)
  have l1 : nI E.length < 40 := (nI_ltI (b := 40) (by omega) (by omega)).mpr hl
  by_cases hkl : k < E.length
  · rw [List.getElem?_append_left hkl] at hk
    have k0 : 0 ≤ nI k := nI_pos' (by omega)
    have k1 : nI k < nI E.length := (nI_ltI (by omega) (by omega)).mpr hkl
    rw [e1, up_ne (by grind), up_ne (by grind), up_ne (by grind), up_ne (by grind), up_ne (by grind), up_ne (by grind), up_ne (by grind), up_ne (by grind), up_ne (by grind)]
    exact h k a' p' s' hk
  · have hk2 := (List.getElem?_eq_some_iff.mp hk).1
    rw [List.length_append] at hk2
    have : k = E.length := by
      have : [(a, p, s)].length = 1 := rfl
      omega
    subst this
    rw [List.getElem?_append_right (Nat.le_refl _), Nat.sub_self] at hk
    simp only [List.getElem?_cons_zero, Option.some.injEq, Prod.mk.injEq] at hk
    obtain ⟨rfl, rfl, rfl⟩ := hk
    rw [e1]
    refine ⟨?_, ?_, ?_⟩
    · rw [up_ne (by grind), up_ne (by grind), up_self]
    · rw [up_ne (by grind), up_self]
    · rw [up_self]
/-- the line's fault out of its verb -/
theorem evF_of {n : Nat} {w : Int32} (hw : onK T j 8 5 = w) (h0 : ¬ w < 0) (hn : n < 40) : evF T L n j = if w = 4 then 0 else if toE T L 20 0 (j + 1) ≠ 0 then toE T L 20 0 (j + 1) else if w = 2 then 0 else toE T L 0 0 (j + 2) := by
  unfold evF
  rw [hw, if_neg h0, if_neg (by omega)]
set_option maxHeartbeats 8000000 in
theorem q_evLoop {post : Option Value → xM → Prop} : ∀ (m j : Nat) (E : LN) (F : Nat → Nat → Int32) (I : Nat → Int32 → Int32), (toks T).length ≤ j + m → j ≤ (toks T).length → F 226 7 = nI j → F 226 8 = 0 → rdB I J T → nmR (F 226 18) (J 235) (I 237) L → evR (I 239) E → E.length ≤ 40 → (∀ F' I' L', evF1 F F' I I' → F' 226 8 = (evsP T L m j E).1 → ((evsP T L m j E).1 = 0 → evR (I' 239) (evsP T L m j E).2.2 ∧ (evsP T L m j E).2.2.length ≤ 40 ∧ lle [some (.ref 226), some (.int (nI (evsP T L m j E).2.2.length)), none, none] L') → lle [some (.ref 226), none, none, none] L' → X e 4 M_X12_evening.2.2 91 L' [] (F', I', G, J, P0 ha hb ea eb, Q0, S0) post) → ∀ L', lle [some (.ref 226), some (.int (nI E.length)), none, none] L' → X e 4 M_X12_evening.2.2 7 L' [] (F, I, G, J, P0 ha hb ea eb, Q0, S0) post := by
  intro m
  induction m with
  | zero =>
    intro j E F I hm hj h7 h8 hB hL hE hl cont L' hL'
    obtain ⟨j0, j1, hsort, -, -⟩ := hB.at hj
    have h0 : (tokAt T j).1 = 0 := tokAt_off (by omega)
    have hs0 : I 228 (nI j) = 0 := by rw [hsort, h0]; rfl
    refine X.weak hL' ?_
    clear hL'
    iterate 2 ((refine X.f rfl ?_; first | refine z_iload rfl ?_ | refine z_aload rfl ?_ | refine z_push ?_ | refine z_istoreN rfl rfl ?_ | refine z_astoreN rfl rfl ?_ | refine z_istore rfl ?_ | refine z_astore rfl ?_ | refine z_gP rfl rfl ?_ | refine z_gI rfl ?_ | refine z_gotoF rfl ?_ | refine z_iadd ?_ | refine z_isub ?_ | refine z_imul ?_ | refine z_iand ?_ | refine z_ior ?_ | refine z_ishl ?_ | refine z_ishr ?_ | refine z_ixor ?_ | refine z_ineg ?_ | refine z_pI rfl ?_ | refine z_inc80 rfl ?_ | refine z_inc81 rfl ?_ | refine z_dup ?_ | refine z_dupr ?_ | refine z_dup2 ?_ | refine z_pop ?_ | (refine z_idiv ?sd1 ?_; (case sd1 => decide)) | (refine z_irem ?sd1 ?_; (case sd1 => decide)) | (refine z_iaload rfl ?sd1 ?sd2 ?sd3 ?_; (case sd1 => first | with_reducible assumption | decide | grind); (case sd2 => first | with_reducible assumption | decide | grind); (case sd3 => decide)) | (refine z_iastore rfl ?sd1 ?sd2 ?sd3 ?_; (case sd1 => first | with_reducible assumption | decide | grind); (case sd2 => first | with_reducible assumption | decide | grind); (case sd3 => decide))))
    rw [h8]
    ((refine X.f rfl ?_; first | refine z_ifeq (fun c => ?_) (fun c => ?_) | refine z_ifne (fun c => ?_) (fun c => ?_) | refine z_iflt (fun c => ?_) (fun c => ?_) | refine z_ifge (fun c => ?_) (fun c => ?_) | refine z_ifgt (fun c => ?_) (fun c => ?_) | refine z_ifle (fun c => ?_) (fun c => ?_) | refine z_ieq (fun c => ?_) (fun c => ?_) | refine z_ine (fun c => ?_) (fun c => ?_) | refine z_ilt (fun c => ?_) (fun c => ?_) | refine z_ige (fun c => ?_) (fun c => ?_) | refine z_igt (fun c => ?_) (fun c => ?_) | refine z_ile (fun c => ?_) (fun c => ?_)) <;> try (exfalso; first | (with_reducible exact absurd rfl c) | (with_reducible exact absurd (Int32.le_refl _) c) | (exact absurd c (by decide)) | (exact absurd c (by with_reducible assumption)) | (exact absurd (by with_reducible assumption) c)))
    iterate 4 ((refine X.f rfl ?_; first | refine z_iload rfl ?_ | refine z_aload rfl ?_ | refine z_push ?_ | refine z_istoreN rfl rfl ?_ | refine z_astoreN rfl rfl ?_ | refine z_istore rfl ?_ | refine z_astore rfl ?_ | refine z_gP rfl rfl ?_ | refine z_gI rfl ?_ | refine z_gotoF rfl ?_ | refine z_iadd ?_ | refine z_isub ?_ | refine z_imul ?_ | refine z_iand ?_ | refine z_ior ?_ | refine z_ishl ?_ | refine z_ishr ?_ | refine z_ixor ?_ | refine z_ineg ?_ | refine z_pI rfl ?_ | refine z_inc80 rfl ?_ | refine z_inc81 rfl ?_ | refine z_dup ?_ | refine z_dupr ?_ | refine z_dup2 ?_ | refine z_pop ?_ | (refine z_idiv ?sd1 ?_; (case sd1 => decide)) | (refine z_irem ?sd1 ?_; (case sd1 => decide)) | (refine z_iaload rfl ?sd1 ?sd2 ?sd3 ?_; (case sd1 => first | with_reducible assumption | decide | grind); (case sd2 => first | with_reducible assumption | decide | grind); (case sd3 => decide)) | (refine z_iastore rfl ?sd1 ?sd2 ?sd3 ?_; (case sd1 => first | with_reducible assumption | decide | grind); (case sd2 => first | with_reducible assumption | decide | grind); (case sd3 => decide))))
    rw [h7]
    iterate 1 ((refine X.f rfl ?_; first | refine z_iload rfl ?_ | refine z_aload rfl ?_ | refine z_push ?_ | refine z_istoreN rfl rfl ?_ | refine z_astoreN rfl rfl ?_ | refine z_istore rfl ?_ | refine z_astore rfl ?_ | refine z_gP rfl rfl ?_ | refine z_gI rfl ?_ | refine z_gotoF rfl ?_ | refine z_iadd ?_ | refine z_isub ?_ | refine z_imul ?_ | refine z_iand ?_ | refine z_ior ?_ | refine z_ishl ?_ | refine z_ishr ?_ | refine z_ixor ?_ | refine z_ineg ?_ | refine z_pI rfl ?_ | refine z_inc80 rfl ?_ | refine z_inc81 rfl ?_ | refine z_dup ?_ | refine z_dupr ?_ | refine z_dup2 ?_ | refine z_pop ?_ | (refine z_idiv ?sd1 ?_; (case sd1 => decide)) | (refine z_irem ?sd1 ?_; (case sd1 => decide)) | (refine z_iaload rfl ?sd1 ?sd2 ?sd3 ?_; (case sd1 => first | with_reducible assumption | decide | grind); (case sd2 => first | with_reducible assumption | decide | grind); (case sd3 => decide)) | (refine z_iastore rfl ?sd1 ?sd2 ?sd3 ?_; (case sd1 => first | with_reducible assumption | decide | grind); (case sd2 => first | with_reducible assumption | decide | grind); (case sd3 => decide))))
    rw [hs0]
    ((refine X.f rfl ?_; first | refine z_ifeq (fun c => ?_) (fun c => ?_) | refine z_ifne (fun c => ?_) (fun c => ?_) | refine z_iflt (fun c => ?_) (fun c => ?_) | refine z_ifge (fun c => ?_) (fun c => ?_) | refine z_ifgt (fun c => ?_) (fun c => ?_) | refine z_ifle (fun c => ?_) (fun c => ?_) | refine z_ieq (fun c => ?_) (fun c => ?_) | refine z_ine (fun c => ?_) (fun c => ?_) | refine z_ilt (fun c => ?_) (fun c => ?_) | refine z_ige (fun c => ?_) (fun c => ?_) | refine z_igt (fun c => ?_) (fun c => ?_) | refine z_ile (fun c => ?_) (fun c => ?_)) <;> try (exfalso; first | (with_reducible exact absurd rfl c) | (with_reducible exact absurd (Int32.le_refl _) c) | (exact absurd c (by decide)) | (exact absurd c (by with_reducible assumption)) | (exact absurd (by with_reducible assumption) c)))
    exact cont F I _ evF1.refl h8 (fun _ => ⟨hE, hl, by repeat (first | exact trivial | refine ⟨by first | with_reducible rfl | exact congrArg (fun q => some (Value.int q)) (by first | with_reducible rfl | with_reducible assumption | exact (nI_succ _).symm | grind [nI_0]) | rfl, ?_⟩)⟩) (by repeat (first | exact trivial | refine ⟨by first | with_reducible rfl | exact congrArg (fun q => some (Value.int q)) (by first | with_reducible rfl | with_reducible assumption | exact (nI_succ _).symm | grind [nI_0]) | rfl, ?_⟩))
  | succ m ih =>
    intro j E F I hm hj h7 h8 hB hL hE hl cont L' hL'
    have hT := hB.1
    obtain ⟨j0, j1, hsort, -, -⟩ := hB.at hj
    refine X.weak hL' ?_
    clear hL'
    iterate 2 ((refine X.f rfl ?_; first | refine z_iload rfl ?_ | refine z_aload rfl ?_ | refine z_push ?_ | refine z_istoreN rfl rfl ?_ | refine z_astoreN rfl rfl ?_ | refine z_istore rfl ?_ | refine z_astore rfl ?_ | refine z_gP rfl rfl ?_ | refine z_gI rfl ?_ | refine z_gotoF rfl ?_ | refine z_iadd ?_ | refine z_isub ?_ | refine z_imul ?_ | refine z_iand ?_ | refine z_ior ?_ | refine z_ishl ?_ | refine z_ishr ?_ | refine z_ixor ?_ | refine z_ineg ?_ | refine z_pI rfl ?_ | refine z_inc80 rfl ?_ | refine z_inc81 rfl ?_ | refine z_dup ?_ | refine z_dupr ?_ | refine z_dup2 ?_ | refine z_pop ?_ | (refine z_idiv ?sd1 ?_; (case sd1 => decide)) | (refine z_irem ?sd1 ?_; (case sd1 => decide)) | (refine z_iaload rfl ?sd1 ?sd2 ?sd3 ?_; (case sd1 => first | with_reducible assumption | decide | grind); (case sd2 => first | with_reducible assumption | decide | grind); (case sd3 => decide)) | (refine z_iastore rfl ?sd1 ?sd2 ?sd3 ?_; (case sd1 => first | with_reducible assumption | decide | grind); (case sd2 => first | with_reducible assumption | decide | grind); (case sd3 => decide))))
    rw [h8]
    ((refine X.f rfl ?_; first | refine z_ifeq (fun c => ?_) (fun c => ?_) | refine z_ifne (fun c => ?_) (fun c => ?_) | refine z_iflt (fun c => ?_) (fun c => ?_) | refine z_ifge (fun c => ?_) (fun c => ?_) | refine z_ifgt (fun c => ?_) (fun c => ?_) | refine z_ifle (fun c => ?_) (fun c => ?_) | refine z_ieq (fun c => ?_) (fun c => ?_) | refine z_ine (fun c => ?_) (fun c => ?_) | refine z_ilt (fun c => ?_) (fun c => ?_) | refine z_ige (fun c => ?_) (fun c => ?_) | refine z_igt (fun c => ?_) (fun c => ?_) | refine z_ile (fun c => ?_) (fun c => ?_)) <;> try (exfalso; first | (with_reducible exact absurd rfl c) | (with_reducible exact absurd (Int32.le_refl _) c) | (exact absurd c (by decide)) | (exact absurd c (by with_reducible assumption)) | (exact absurd (by with_reducible assumption) c)))
    iterate 4 ((refine X.f rfl ?_; first | refine z_iload rfl ?_ | refine z_aload rfl ?_ | refine z_push ?_ | refine z_istoreN rfl rfl ?_ | refine z_astoreN rfl rfl ?_ | refine z_istore rfl ?_ | refine z_astore rfl ?_ | refine z_gP rfl rfl ?_ | refine z_gI rfl ?_ | refine z_gotoF rfl ?_ | refine z_iadd ?_ | refine z_isub ?_ | refine z_imul ?_ | refine z_iand ?_ | refine z_ior ?_ | refine z_ishl ?_ | refine z_ishr ?_ | refine z_ixor ?_ | refine z_ineg ?_ | refine z_pI rfl ?_ | refine z_inc80 rfl ?_ | refine z_inc81 rfl ?_ | refine z_dup ?_ | refine z_dupr ?_ | refine z_dup2 ?_ | refine z_pop ?_ | (refine z_idiv ?sd1 ?_; (case sd1 => decide)) | (refine z_irem ?sd1 ?_; (case sd1 => decide)) | (refine z_iaload rfl ?sd1 ?sd2 ?sd3 ?_; (case sd1 => first | with_reducible assumption | decide | grind); (case sd2 => first | with_reducible assumption | decide | grind); (case sd3 => decide)) | (refine z_iastore rfl ?sd1 ?sd2 ?sd3 ?_; (case sd1 => first | with_reducible assumption | decide | grind); (case sd2 => first | with_reducible assumption | decide | grind); (case sd3 => decide))))
    rw [h7]
    iterate 1 ((refine X.f rfl ?_; first | refine z_iload rfl ?_ | refine z_aload rfl ?_ | refine z_push ?_ | refine z_istoreN rfl rfl ?_ | refine z_astoreN rfl rfl ?_ | refine z_istore rfl ?_ | refine z_astore rfl ?_ | refine z_gP rfl rfl ?_ | refine z_gI rfl ?_ | refine z_gotoF rfl ?_ | refine z_iadd ?_ | refine z_isub ?_ | refine z_imul ?_ | refine z_iand ?_ | refine z_ior ?_ | refine z_ishl ?_ | refine z_ishr ?_ | refine z_ixor ?_ | refine z_ineg ?_ | refine z_pI rfl ?_ | refine z_inc80 rfl ?_ | refine z_inc81 rfl ?_ | refine z_dup ?_ | refine z_dupr ?_ | refine z_dup2 ?_ | refine z_pop ?_ | (refine z_idiv ?sd1 ?_; (case sd1 => decide)) | (refine z_irem ?sd1 ?_; (case sd1 => decide)) | (refine z_iaload rfl ?sd1 ?sd2 ?sd3 ?_; (case sd1 => first | with_reducible assumption | decide | grind); (case sd2 => first | with_reducible assumption | decide | grind); (case sd3 => decide)) | (refine z_iastore rfl ?sd1 ?sd2 ?sd3 ?_; (case sd1 => first | with_reducible assumption | decide | grind); (case sd2 => first | with_reducible assumption | decide | grind); (case sd3 => decide))))
    rw [hsort]
    unfold evsP at cont
    by_cases h0 : (tokAt T j).1 = 0
    · rw [if_pos h0] at cont
      rw [h0]
      ((refine X.f rfl ?_; first | refine z_ifeq (fun c => ?_) (fun c => ?_) | refine z_ifne (fun c => ?_) (fun c => ?_) | refine z_iflt (fun c => ?_) (fun c => ?_) | refine z_ifge (fun c => ?_) (fun c => ?_) | refine z_ifgt (fun c => ?_) (fun c => ?_) | refine z_ifle (fun c => ?_) (fun c => ?_) | refine z_ieq (fun c => ?_) (fun c => ?_) | refine z_ine (fun c => ?_) (fun c => ?_) | refine z_ilt (fun c => ?_) (fun c => ?_) | refine z_ige (fun c => ?_) (fun c => ?_) | refine z_igt (fun c => ?_) (fun c => ?_) | refine z_ile (fun c => ?_) (fun c => ?_)) <;> try (exfalso; first | (with_reducible exact absurd rfl c) | (with_reducible exact absurd (Int32.le_refl _) c) | (exact absurd c (by decide)) | (exact absurd c (by with_reducible assumption)) | (exact absurd (by with_reducible assumption) c)))
      exact cont F I _ evF1.refl h8 (fun _ => ⟨hE, hl, by repeat (first | exact trivial | refine ⟨by first | with_reducible rfl | exact congrArg (fun q => some (Value.int q)) (by first | with_reducible rfl | with_reducible assumption | exact (nI_succ _).symm | grind [nI_0]) | rfl, ?_⟩)⟩) (by repeat (first | exact trivial | refine ⟨by first | with_reducible rfl | exact congrArg (fun q => some (Value.int q)) (by first | with_reducible rfl | with_reducible assumption | exact (nI_succ _).symm | grind [nI_0]) | rfl, ?_⟩))
    rw [if_neg h0] at cont
    have hn0 : ¬ nI (tokAt T j).1 = 0 := fun q => h0 ((nI_lit (b := 0) (by have := sort_le T j; omega) (by omega)).mp q)
    have hlt : j < (toks T).length := tokAt_end h0
    first | refine X.f rfl (z_ifeq (fun c => ?_) (fun c => ?_)) | refine X.f rfl (z_ifne (fun c => ?_) (fun c => ?_)) | refine X.f rfl (z_iflt (fun c => ?_) (fun c => ?_)) | refine X.f rfl (z_ifge (fun c => ?_) (fun c => ?_)) | refine X.f rfl (z_ifgt (fun c => ?_) (fun c => ?_)) | refine X.f rfl (z_ifle (fun c => ?_) (fun c => ?_)) | refine X.f rfl (z_ieq (fun c => ?_) (fun c => ?_)) | refine X.f rfl (z_ine (fun c => ?_) (fun c => ?_)) | refine X.f rfl (z_ilt (fun c => ?_) (fun c => ?_)) | refine X.f rfl (z_ige (fun c => ?_) (fun c => ?_)) | refine X.f rfl (z_igt (fun c => ?_) (fun c => ?_)) | refine X.f rfl (z_ile (fun c => ?_) (fun c => ?_))
    · exact absurd c hn0
    clear c
    -- behind a fault
    have bd : ∀ F1 I1 fl L', evF1 F F1 I I1 → F1 226 8 = fl → fl ≠ 0 → evF T L E.length j = fl → lle [some (.ref 226), none, none, none] L' → X e 4 M_X12_evening.2.2 87 L' [] (F1, I1, G, J, P0 ha hb ea eb, Q0, S0) post := by
      intro F1 I1 fl L' r1 f1 hne hfl hL'
      rw [hfl, if_pos hne] at cont
      refine X.weak hL' ?_
      clear hL'
      iterate 2 ((refine X.f rfl ?_; first | refine z_iload rfl ?_ | refine z_aload rfl ?_ | refine z_push ?_ | refine z_istoreN rfl rfl ?_ | refine z_astoreN rfl rfl ?_ | refine z_istore rfl ?_ | refine z_astore rfl ?_ | refine z_gP rfl rfl ?_ | refine z_gI rfl ?_ | refine z_gotoF rfl ?_ | refine z_iadd ?_ | refine z_isub ?_ | refine z_imul ?_ | refine z_iand ?_ | refine z_ior ?_ | refine z_ishl ?_ | refine z_ishr ?_ | refine z_ixor ?_ | refine z_ineg ?_ | refine z_pI rfl ?_ | refine z_inc80 rfl ?_ | refine z_inc81 rfl ?_ | refine z_dup ?_ | refine z_dupr ?_ | refine z_dup2 ?_ | refine z_pop ?_ | (refine z_idiv ?sd1 ?_; (case sd1 => decide)) | (refine z_irem ?sd1 ?_; (case sd1 => decide)) | (refine z_iaload rfl ?sd1 ?sd2 ?sd3 ?_; (case sd1 => first | with_reducible assumption | decide | grind); (case sd2 => first | with_reducible assumption | decide | grind); (case sd3 => decide)) | (refine z_iastore rfl ?sd1 ?sd2 ?sd3 ?_; (case sd1 => first | with_reducible assumption | decide | grind); (case sd2 => first | with_reducible assumption | decide | grind); (case sd3 => decide))))
      refine X.f rfl (z_cv (q_takeSign_f (by rw [f1]; exact hne)) rfl (by rfl) (by rfl) rfl rfl rfl rfl ?_)
      rintro _ _ ⟨rfl, rfl⟩
      dsimp only [Option.toList, List.nil_append]
      refine X.f rfl (z_goto ?_)
      iterate 2 ((refine X.f rfl ?_; first | refine z_iload rfl ?_ | refine z_aload rfl ?_ | refine z_push ?_ | refine z_istoreN rfl rfl ?_ | refine z_astoreN rfl rfl ?_ | refine z_istore rfl ?_ | refine z_astore rfl ?_ | refine z_gP rfl rfl ?_ | refine z_gI rfl ?_ | refine z_gotoF rfl ?_ | refine z_iadd ?_ | refine z_isub ?_ | refine z_imul ?_ | refine z_iand ?_ | refine z_ior ?_ | refine z_ishl ?_ | refine z_ishr ?_ | refine z_ixor ?_ | refine z_ineg ?_ | refine z_pI rfl ?_ | refine z_inc80 rfl ?_ | refine z_inc81 rfl ?_ | refine z_dup ?_ | refine z_dupr ?_ | refine z_dup2 ?_ | refine z_pop ?_ | (refine z_idiv ?sd1 ?_; (case sd1 => decide)) | (refine z_irem ?sd1 ?_; (case sd1 => decide)) | (refine z_iaload rfl ?sd1 ?sd2 ?sd3 ?_; (case sd1 => first | with_reducible assumption | decide | grind); (case sd2 => first | with_reducible assumption | decide | grind); (case sd3 => decide)) | (refine z_iastore rfl ?sd1 ?sd2 ?sd3 ?_; (case sd1 => first | with_reducible assumption | decide | grind); (case sd2 => first | with_reducible assumption | decide | grind); (case sd3 => decide))))
      rw [f1]
      first | refine X.f rfl (z_ifeq (fun c => ?_) (fun c => ?_)) | refine X.f rfl (z_ifne (fun c => ?_) (fun c => ?_)) | refine X.f rfl (z_iflt (fun c => ?_) (fun c => ?_)) | refine X.f rfl (z_ifge (fun c => ?_) (fun c => ?_)) | refine X.f rfl (z_ifgt (fun c => ?_) (fun c => ?_)) | refine X.f rfl (z_ifle (fun c => ?_) (fun c => ?_)) | refine X.f rfl (z_ieq (fun c => ?_) (fun c => ?_)) | refine X.f rfl (z_ine (fun c => ?_) (fun c => ?_)) | refine X.f rfl (z_ilt (fun c => ?_) (fun c => ?_)) | refine X.f rfl (z_ige (fun c => ?_) (fun c => ?_)) | refine X.f rfl (z_igt (fun c => ?_) (fun c => ?_)) | refine X.f rfl (z_ile (fun c => ?_) (fun c => ?_))
      · exact cont F1 I1 _ r1 f1 (fun q => absurd q hne) (by repeat (first | exact trivial | refine ⟨by first | with_reducible rfl | exact congrArg (fun q => some (Value.int q)) (by first | with_reducible rfl | with_reducible assumption | exact (nI_succ _).symm | grind [nI_0]) | rfl, ?_⟩))
      · exact absurd (Classical.not_not.mp c) hne
    -- behind a line
    have gd : ∀ F1 I1 a p s L', E.length < 40 → evF1 F F1 I I1 → I1 239 = up (up (up (I 239) (125 + 3 * nI E.length) a) (125 + 3 * nI E.length + 1) p) (125 + 3 * nI E.length + 2) s → F1 226 8 = 0 → evF T L E.length j = 0 → F1 226 7 = nI (evJ T j) → evJ T j ≤ (toks T).length → evL T L j = (a, p, s) → j < evJ T j → lle [some (.ref 226), some (.int (nI (E.length + 1))), none, none] L' → X e 4 M_X12_evening.2.2 87 L' [] (F1, I1, G, J, P0 ha hb ea eb, Q0, S0) post := by
      intro F1 I1 a p s L' hl40 r1 e1 f1 hfl i7 jj2 hev jj1 hL'
      rw [if_neg (fun q => q hfl), hev] at cont
      have hB1 : rdB I1 J T := hB.off (r1.2.1 228 (by decide)) (r1.2.1 229 (by decide)) rfl rfl
      refine X.weak hL' ?_
      clear hL'
      iterate 2 ((refine X.f rfl ?_; first | refine z_iload rfl ?_ | refine z_aload rfl ?_ | refine z_push ?_ | refine z_istoreN rfl rfl ?_ | refine z_astoreN rfl rfl ?_ | refine z_istore rfl ?_ | refine z_astore rfl ?_ | refine z_gP rfl rfl ?_ | refine z_gI rfl ?_ | refine z_gotoF rfl ?_ | refine z_iadd ?_ | refine z_isub ?_ | refine z_imul ?_ | refine z_iand ?_ | refine z_ior ?_ | refine z_ishl ?_ | refine z_ishr ?_ | refine z_ixor ?_ | refine z_ineg ?_ | refine z_pI rfl ?_ | refine z_inc80 rfl ?_ | refine z_inc81 rfl ?_ | refine z_dup ?_ | refine z_dupr ?_ | refine z_dup2 ?_ | refine z_pop ?_ | (refine z_idiv ?sd1 ?_; (case sd1 => decide)) | (refine z_irem ?sd1 ?_; (case sd1 => decide)) | (refine z_iaload rfl ?sd1 ?sd2 ?sd3 ?_; (case sd1 => first | with_reducible assumption | decide | grind); (case sd2 => first | with_reducible assumption | decide | grind); (case sd3 => decide)) | (refine z_iastore rfl ?sd1 ?sd2 ?sd3 ?_; (case sd1 => first | with_reducible assumption | decide | grind); (case sd2 => first | with_reducible assumption | decide | grind); (case sd3 => decide))))
      refine X.f rfl (z_cv (q_takeSignH hB1 jj2 i7 f1) rfl (by rfl) (by rfl) rfl rfl rfl rfl ?_)
      rintro _ _ ⟨rfl, F2, rfl, t2, f2, n2⟩
      dsimp only [Option.toList, List.nil_append]
      have r2 : evF1 F F2 I I1 := r1.trans (evF1.f7 t2)
      cases hs : isG T (evJ T j) 59
      · rw [hs, if_neg Bool.false_ne_true] at f2 n2 cont
        have h10 := wr_gt2 hT (x := 1) (by decide) (by decide) (evJ T j)
        refine X.f rfl (z_goto ?_)
        iterate 2 ((refine X.f rfl ?_; first | refine z_iload rfl ?_ | refine z_aload rfl ?_ | refine z_push ?_ | refine z_istoreN rfl rfl ?_ | refine z_astoreN rfl rfl ?_ | refine z_istore rfl ?_ | refine z_astore rfl ?_ | refine z_gP rfl rfl ?_ | refine z_gI rfl ?_ | refine z_gotoF rfl ?_ | refine z_iadd ?_ | refine z_isub ?_ | refine z_imul ?_ | refine z_iand ?_ | refine z_ior ?_ | refine z_ishl ?_ | refine z_ishr ?_ | refine z_ixor ?_ | refine z_ineg ?_ | refine z_pI rfl ?_ | refine z_inc80 rfl ?_ | refine z_inc81 rfl ?_ | refine z_dup ?_ | refine z_dupr ?_ | refine z_dup2 ?_ | refine z_pop ?_ | (refine z_idiv ?sd1 ?_; (case sd1 => decide)) | (refine z_irem ?sd1 ?_; (case sd1 => decide)) | (refine z_iaload rfl ?sd1 ?sd2 ?sd3 ?_; (case sd1 => first | with_reducible assumption | decide | grind); (case sd2 => first | with_reducible assumption | decide | grind); (case sd3 => decide)) | (refine z_iastore rfl ?sd1 ?sd2 ?sd3 ?_; (case sd1 => first | with_reducible assumption | decide | grind); (case sd2 => first | with_reducible assumption | decide | grind); (case sd3 => decide))))
        rw [f2]
        first | refine X.f rfl (z_ifeq (fun c => ?_) (fun c => ?_)) | refine X.f rfl (z_ifne (fun c => ?_) (fun c => ?_)) | refine X.f rfl (z_iflt (fun c => ?_) (fun c => ?_)) | refine X.f rfl (z_ifge (fun c => ?_) (fun c => ?_)) | refine X.f rfl (z_ifgt (fun c => ?_) (fun c => ?_)) | refine X.f rfl (z_ifle (fun c => ?_) (fun c => ?_)) | refine X.f rfl (z_ieq (fun c => ?_) (fun c => ?_)) | refine X.f rfl (z_ine (fun c => ?_) (fun c => ?_)) | refine X.f rfl (z_ilt (fun c => ?_) (fun c => ?_)) | refine X.f rfl (z_ige (fun c => ?_) (fun c => ?_)) | refine X.f rfl (z_igt (fun c => ?_) (fun c => ?_)) | refine X.f rfl (z_ile (fun c => ?_) (fun c => ?_))
        · exact cont F2 I1 _ r2 f2 (fun q => absurd q h10) (by repeat (first | exact trivial | refine ⟨by first | with_reducible rfl | exact congrArg (fun q => some (Value.int q)) (by first | with_reducible rfl | with_reducible assumption | exact (nI_succ _).symm | grind [nI_0]) | rfl, ?_⟩))
        · exact absurd (Classical.not_not.mp c) h10
      · rw [hs, if_pos rfl] at f2 n2 cont
        refine X.f rfl (z_goto ?_)
        have hlt2 := isG_lt hs
        have elen : (E ++ [(a, p, s)]).length = E.length + 1 := by rw [List.length_append]; rfl
        refine ih (evJ T j + 1) (E ++ [(a, p, s)]) F2 I1 (by omega) hlt2 (n2 rfl) f2 hB1 ?_ (hE.snoc hl40 e1) (by omega) (fun F' I' L' r f' n' hL' => cont F' I' L' (r2.trans r) f' n' hL') _ (by rw [elen]; repeat (first | exact trivial | refine ⟨by first | with_reducible rfl | exact congrArg (fun q => some (Value.int q)) (by first | with_reducible rfl | with_reducible assumption | exact (nI_succ _).symm | grind [nI_0]) | rfl, ?_⟩))
        rw [r2.1 226 18 (by omega), r1.2.1 237 (by decide)]
        exact hL
    clear ih cont
    iterate 3 ((refine X.f rfl ?_; first | refine z_iload rfl ?_ | refine z_aload rfl ?_ | refine z_push ?_ | refine z_istoreN rfl rfl ?_ | refine z_astoreN rfl rfl ?_ | refine z_istore rfl ?_ | refine z_astore rfl ?_ | refine z_gP rfl rfl ?_ | refine z_gI rfl ?_ | refine z_gotoF rfl ?_ | refine z_iadd ?_ | refine z_isub ?_ | refine z_imul ?_ | refine z_iand ?_ | refine z_ior ?_ | refine z_ishl ?_ | refine z_ishr ?_ | refine z_ixor ?_ | refine z_ineg ?_ | refine z_pI rfl ?_ | refine z_inc80 rfl ?_ | refine z_inc81 rfl ?_ | refine z_dup ?_ | refine z_dupr ?_ | refine z_dup2 ?_ | refine z_pop ?_ | (refine z_idiv ?sd1 ?_; (case sd1 => decide)) | (refine z_irem ?sd1 ?_; (case sd1 => decide)) | (refine z_iaload rfl ?sd1 ?sd2 ?sd3 ?_; (case sd1 => first | with_reducible assumption | decide | grind); (case sd2 => first | with_reducible assumption | decide | grind); (case sd3 => decide)) | (refine z_iastore rfl ?sd1 ?sd2 ?sd3 ?_; (case sd1 => first | with_reducible assumption | decide | grind); (case sd2 => first | with_reducible assumption | decide | grind); (case sd3 => decide))))
    (refine X.f rfl ?_; refine z_cav (q_wordHereH (fr := 8) (mn := 5) ⟨rfl, rfl, by decide⟩ hB hj h7 h8) rfl (by rfl) (by rfl) rfl rfl rfl rfl ?_)
    iterate 2 ((refine X.f rfl ?_; first | refine z_iload rfl ?_ | refine z_aload rfl ?_ | refine z_push ?_ | refine z_istoreN rfl rfl ?_ | refine z_astoreN rfl rfl ?_ | refine z_istore rfl ?_ | refine z_astore rfl ?_ | refine z_gP rfl rfl ?_ | refine z_gI rfl ?_ | refine z_gotoF rfl ?_ | refine z_iadd ?_ | refine z_isub ?_ | refine z_imul ?_ | refine z_iand ?_ | refine z_ior ?_ | refine z_ishl ?_ | refine z_ishr ?_ | refine z_ixor ?_ | refine z_ineg ?_ | refine z_pI rfl ?_ | refine z_inc80 rfl ?_ | refine z_inc81 rfl ?_ | refine z_dup ?_ | refine z_dupr ?_ | refine z_dup2 ?_ | refine z_pop ?_ | (refine z_idiv ?sd1 ?_; (case sd1 => decide)) | (refine z_irem ?sd1 ?_; (case sd1 => decide)) | (refine z_iaload rfl ?sd1 ?sd2 ?sd3 ?_; (case sd1 => first | with_reducible assumption | decide | grind); (case sd2 => first | with_reducible assumption | decide | grind); (case sd3 => decide)) | (refine z_iastore rfl ?sd1 ?sd2 ?sd3 ?_; (case sd1 => first | with_reducible assumption | decide | grind); (case sd2 => first | with_reducible assumption | decide | grind); (case sd3 => decide))))
    first | refine X.f rfl (z_ifeq (fun c => ?_) (fun c => ?_)) | refine X.f rfl (z_ifne (fun c => ?_) (fun c => ?_)) | refine X.f rfl (z_iflt (fun c => ?_) (fun c => ?_)) | refine X.f rfl (z_ifge (fun c => ?_) (fun c => ?_)) | refine X.f rfl (z_ifgt (fun c => ?_) (fun c => ?_)) | refine X.f rfl (z_ifle (fun c => ?_) (fun c => ?_)) | refine X.f rfl (z_ieq (fun c => ?_) (fun c => ?_)) | refine X.f rfl (z_ine (fun c => ?_) (fun c => ?_)) | refine X.f rfl (z_ilt (fun c => ?_) (fun c => ?_)) | refine X.f rfl (z_ige (fun c => ?_) (fun c => ?_)) | refine X.f rfl (z_igt (fun c => ?_) (fun c => ?_)) | refine X.f rfl (z_ile (fun c => ?_) (fun c => ?_))
    rotate_left
    · have hw : onK T j 8 5 < 0 := Int32.not_le.mp c
      iterate 2 ((refine X.f rfl ?_; first | refine z_iload rfl ?_ | refine z_aload rfl ?_ | refine z_push ?_ | refine z_istoreN rfl rfl ?_ | refine z_astoreN rfl rfl ?_ | refine z_istore rfl ?_ | refine z_astore rfl ?_ | refine z_gP rfl rfl ?_ | refine z_gI rfl ?_ | refine z_gotoF rfl ?_ | refine z_iadd ?_ | refine z_isub ?_ | refine z_imul ?_ | refine z_iand ?_ | refine z_ior ?_ | refine z_ishl ?_ | refine z_ishr ?_ | refine z_ixor ?_ | refine z_ineg ?_ | refine z_pI rfl ?_ | refine z_inc80 rfl ?_ | refine z_inc81 rfl ?_ | refine z_dup ?_ | refine z_dupr ?_ | refine z_dup2 ?_ | refine z_pop ?_ | (refine z_idiv ?sd1 ?_; (case sd1 => decide)) | (refine z_irem ?sd1 ?_; (case sd1 => decide)) | (refine z_iaload rfl ?sd1 ?sd2 ?sd3 ?_; (case sd1 => first | with_reducible assumption | decide | grind); (case sd2 => first | with_reducible assumption | decide | grind); (case sd3 => decide)) | (refine z_iastore rfl ?sd1 ?sd2 ?sd3 ?_; (case sd1 => first | with_reducible assumption | decide | grind); (case sd2 => first | with_reducible assumption | decide | grind); (case sd3 => decide))))
      refine X.f rfl (z_cv (q_wrongH hB hj h7 h8) rfl (by rfl) (by rfl) rfl rfl rfl rfl ?_)
      rintro _ _ ⟨rfl, rfl⟩
      dsimp only [Option.toList, List.nil_append]
      iterate 1 ((refine X.f rfl ?_; first | refine z_iload rfl ?_ | refine z_aload rfl ?_ | refine z_push ?_ | refine z_istoreN rfl rfl ?_ | refine z_astoreN rfl rfl ?_ | refine z_istore rfl ?_ | refine z_astore rfl ?_ | refine z_gP rfl rfl ?_ | refine z_gI rfl ?_ | refine z_gotoF rfl ?_ | refine z_iadd ?_ | refine z_isub ?_ | refine z_imul ?_ | refine z_iand ?_ | refine z_ior ?_ | refine z_ishl ?_ | refine z_ishr ?_ | refine z_ixor ?_ | refine z_ineg ?_ | refine z_pI rfl ?_ | refine z_inc80 rfl ?_ | refine z_inc81 rfl ?_ | refine z_dup ?_ | refine z_dupr ?_ | refine z_dup2 ?_ | refine z_pop ?_ | (refine z_idiv ?sd1 ?_; (case sd1 => decide)) | (refine z_irem ?sd1 ?_; (case sd1 => decide)) | (refine z_iaload rfl ?sd1 ?sd2 ?sd3 ?_; (case sd1 => first | with_reducible assumption | decide | grind); (case sd2 => first | with_reducible assumption | decide | grind); (case sd3 => decide)) | (refine z_iastore rfl ?sd1 ?sd2 ?sd3 ?_; (case sd1 => first | with_reducible assumption | decide | grind); (case sd2 => first | with_reducible assumption | decide | grind); (case sd3 => decide))))
      exact bd _ I (bad T 1 j) _ (evF1.f7 to7.fl) xu_same (wr_gt2 hT (by decide) (by decide) j) (by unfold evF; rw [if_pos hw]) (by repeat (first | exact trivial | refine ⟨by first | with_reducible rfl | exact congrArg (fun q => some (Value.int q)) (by first | with_reducible rfl | with_reducible assumption | exact (nI_succ _).symm | grind [nI_0]) | rfl, ?_⟩))
    · have hw : ¬ onK T j 8 5 < 0 := Int32.not_lt.mpr c
      clear c
      iterate 2 ((refine X.f rfl ?_; first | refine z_iload rfl ?_ | refine z_aload rfl ?_ | refine z_push ?_ | refine z_istoreN rfl rfl ?_ | refine z_astoreN rfl rfl ?_ | refine z_istore rfl ?_ | refine z_astore rfl ?_ | refine z_gP rfl rfl ?_ | refine z_gI rfl ?_ | refine z_gotoF rfl ?_ | refine z_iadd ?_ | refine z_isub ?_ | refine z_imul ?_ | refine z_iand ?_ | refine z_ior ?_ | refine z_ishl ?_ | refine z_ishr ?_ | refine z_ixor ?_ | refine z_ineg ?_ | refine z_pI rfl ?_ | refine z_inc80 rfl ?_ | refine z_inc81 rfl ?_ | refine z_dup ?_ | refine z_dupr ?_ | refine z_dup2 ?_ | refine z_pop ?_ | (refine z_idiv ?sd1 ?_; (case sd1 => decide)) | (refine z_irem ?sd1 ?_; (case sd1 => decide)) | (refine z_iaload rfl ?sd1 ?sd2 ?sd3 ?_; (case sd1 => first | with_reducible assumption | decide | grind); (case sd2 => first | with_reducible assumption | decide | grind); (case sd3 => decide)) | (refine z_iastore rfl ?sd1 ?sd2 ?sd3 ?_; (case sd1 => first | with_reducible assumption | decide | grind); (case sd2 => first | with_reducible assumption | decide | grind); (case sd3 => decide))))
      first | refine X.f rfl (z_ifeq (fun c => ?_) (fun c => ?_)) | refine X.f rfl (z_ifne (fun c => ?_) (fun c => ?_)) | refine X.f rfl (z_iflt (fun c => ?_) (fun c => ?_)) | refine X.f rfl (z_ifge (fun c => ?_) (fun c => ?_)) | refine X.f rfl (z_ifgt (fun c => ?_) (fun c => ?_)) | refine X.f rfl (z_ifle (fun c => ?_) (fun c => ?_)) | refine X.f rfl (z_ieq (fun c => ?_) (fun c => ?_)) | refine X.f rfl (z_ine (fun c => ?_) (fun c => ?_)) | refine X.f rfl (z_ilt (fun c => ?_) (fun c => ?_)) | refine X.f rfl (z_ige (fun c => ?_) (fun c => ?_)) | refine X.f rfl (z_igt (fun c => ?_) (fun c => ?_)) | refine X.f rfl (z_ile (fun c => ?_) (fun c => ?_))
      rotate_left
      · have hl4 : E.length = 40 := (nI_eq (by omega) (by omega)).mp (Classical.not_not.mp c)
        iterate 2 ((refine X.f rfl ?_; first | refine z_iload rfl ?_ | refine z_aload rfl ?_ | refine z_push ?_ | refine z_istoreN rfl rfl ?_ | refine z_astoreN rfl rfl ?_ | refine z_istore rfl ?_ | refine z_astore rfl ?_ | refine z_gP rfl rfl ?_ | refine z_gI rfl ?_ | refine z_gotoF rfl ?_ | refine z_iadd ?_ | refine z_isub ?_ | refine z_imul ?_ | refine z_iand ?_ | refine z_ior ?_ | refine z_ishl ?_ | refine z_ishr ?_ | refine z_ixor ?_ | refine z_ineg ?_ | refine z_pI rfl ?_ | refine z_inc80 rfl ?_ | refine z_inc81 rfl ?_ | refine z_dup ?_ | refine z_dupr ?_ | refine z_dup2 ?_ | refine z_pop ?_ | (refine z_idiv ?sd1 ?_; (case sd1 => decide)) | (refine z_irem ?sd1 ?_; (case sd1 => decide)) | (refine z_iaload rfl ?sd1 ?sd2 ?sd3 ?_; (case sd1 => first | with_reducible assumption | decide | grind); (case sd2 => first | with_reducible assumption | decide | grind); (case sd3 => decide)) | (refine z_iastore rfl ?sd1 ?sd2 ?sd3 ?_; (case sd1 => first | with_reducible assumption | decide | grind); (case sd2 => first | with_reducible assumption | decide | grind); (case sd3 => decide))))
        refine X.f rfl (z_cv (q_wrongH hB hj h7 h8) rfl (by rfl) (by rfl) rfl rfl rfl rfl ?_)
        rintro _ _ ⟨rfl, rfl⟩
        dsimp only [Option.toList, List.nil_append]
        iterate 1 ((refine X.f rfl ?_; first | refine z_iload rfl ?_ | refine z_aload rfl ?_ | refine z_push ?_ | refine z_istoreN rfl rfl ?_ | refine z_astoreN rfl rfl ?_ | refine z_istore rfl ?_ | refine z_astore rfl ?_ | refine z_gP rfl rfl ?_ | refine z_gI rfl ?_ | refine z_gotoF rfl ?_ | refine z_iadd ?_ | refine z_isub ?_ | refine z_imul ?_ | refine z_iand ?_ | refine z_ior ?_ | refine z_ishl ?_ | refine z_ishr ?_ | refine z_ixor ?_ | refine z_ineg ?_ | refine z_pI rfl ?_ | refine z_inc80 rfl ?_ | refine z_inc81 rfl ?_ | refine z_dup ?_ | refine z_dupr ?_ | refine z_dup2 ?_ | refine z_pop ?_ | (refine z_idiv ?sd1 ?_; (case sd1 => decide)) | (refine z_irem ?sd1 ?_; (case sd1 => decide)) | (refine z_iaload rfl ?sd1 ?sd2 ?sd3 ?_; (case sd1 => first | with_reducible assumption | decide | grind); (case sd2 => first | with_reducible assumption | decide | grind); (case sd3 => decide)) | (refine z_iastore rfl ?sd1 ?sd2 ?sd3 ?_; (case sd1 => first | with_reducible assumption | decide | grind); (case sd2 => first | with_reducible assumption | decide | grind); (case sd3 => decide))))
        exact bd _ I (bad T 5 j) _ (evF1.f7 to7.fl) xu_same (wr_gt2 hT (by decide) (by decide) j) (by unfold evF; rw [if_neg hw, if_pos hl4]) (by repeat (first | exact trivial | refine ⟨by first | with_reducible rfl | exact congrArg (fun q => some (Value.int q)) (by first | with_reducible rfl | with_reducible assumption | exact (nI_succ _).symm | grind [nI_0]) | rfl, ?_⟩))
      · have hl4 : E.length < 40 := by
          have : ¬ E.length = 40 := fun q => c (by rw [q]; rfl)
          omega
        clear c
        have l0 : 0 ≤ nI E.length := nI_pos' (by omega)
        have l1 : nI E.length < 40 := (nI_ltI (b := 40) (by omega) (by omega)).mpr hl4
        have low : ∀ a p s x, x < 125 → up (up (up (I 239) (125 + 3 * nI E.length) a) (125 + 3 * nI E.length + 1) p) (125 + 3 * nI E.length + 2) s x = I 239 x := fun a p s x hx => by rw [up_ne (by grind), up_ne (by grind), up_ne (by grind)]
        have ef := fun w hw' => evF_of (T := T) (L := L) (j := j) (n := E.length) (w := w) hw' (by rw [← hw']; exact hw) hl4
        by_cases h4 : onK T j 8 5 = 4
        · have ej : evJ T j = j + 1 := by unfold evJ; rw [if_pos h4]
          have ev : evL T L j = (4, 0, 0) := by unfold evL; rw [if_pos h4, if_pos (Or.inl h4), h4]
          rw [h4]
          refine q_evHour hl4 hB h7 h8 (fun F1 I1 L' t1 o1 e1 f1 i1 hL' => ?_) _ (by repeat (first | exact trivial | refine ⟨by first | with_reducible rfl | exact congrArg (fun q => some (Value.int q)) (by first | with_reducible rfl | with_reducible assumption | exact (nI_succ _).symm | grind [nI_0]) | rfl, ?_⟩))
          refine gd F1 I1 4 0 0 L' hl4 ⟨t1, o1, fun x hx => by rw [e1]; exact low _ _ _ x hx⟩ e1 f1 ?_ (by rw [ej]; exact i1) (by rw [ej]; exact hlt) ev (by omega) hL'
          rw [ef 4 h4, if_pos rfl]
        · by_cases h2 : onK T j 8 5 = 2
          · have ej : evJ T j = j + 2 := by unfold evJ; rw [if_neg h4, if_pos h2]
            have ev : evL T L j = (2, toV T L 20 (j + 1), 0) := by unfold evL; rw [if_neg h4, if_pos (Or.inr h2), h2]
            have ef2 : evF T L E.length j = toE T L 20 0 (j + 1) := by
              rw [ef 2 h2, if_neg (by decide)]
              by_cases q : toE T L 20 0 (j + 1) = 0
              · rw [if_neg (fun z => z q), if_pos rfl, q]
              · rw [if_pos q]
            rw [h2]
            refine q_evRise hl4 hB hL hlt h7 h8 (fun F1 I1 L' p t1 o1 e1 f1 i1 hL' => ?_) _ (by repeat (first | exact trivial | refine ⟨by first | with_reducible rfl | exact congrArg (fun q => some (Value.int q)) (by first | with_reducible rfl | with_reducible assumption | exact (nI_succ _).symm | grind [nI_0]) | rfl, ?_⟩))
            have r1 : evF1 F F1 I I1 := ⟨t1, o1, fun x hx => by rw [e1]; exact low _ _ _ x hx⟩
            by_cases q : toE T L 20 0 (j + 1) = 0
            · obtain ⟨z1, z2⟩ := i1 (f1.trans q)
              have := isNm_lt (toE_nm hT q).1
              rw [z2] at e1
              exact gd F1 I1 2 _ 0 L' hl4 r1 e1 (f1.trans q) (ef2.trans q) (by rw [ej]; exact z1) (by rw [ej]; omega) ev (by omega) hL'
            · obtain ⟨b1, b2, b3, b4, rfl⟩ : ∃ b1 b2 b3 b4, L' = [b1, b2, b3, b4] := by
                have := lle_len hL'
                match L', this with
                | [b1, b2, b3, b4], _ => exact ⟨b1, b2, b3, b4, rfl⟩
              exact bd F1 I1 _ _ r1 f1 q ef2 ⟨hL'.1, trivial⟩
          · have ej : evJ T j = j + 3 := by unfold evJ; rw [if_neg h4, if_neg h2]
            have ev : evL T L j = (onK T j 8 5, toV T L 20 (j + 1), toV T L 0 (j + 2)) := by unfold evL; rw [if_neg h4, if_neg (fun z => z.elim h4 h2)]
            have ef2 : evF T L E.length j = chF (toE T L 20 0 (j + 1)) (toE T L 0 0 (j + 2)) := by
              rw [ef _ rfl, if_neg h4, if_neg h2]
              rfl
            have w4 : ¬ 4 ≤ onK T j 8 5 := by
              obtain ⟨k, k1, k2, -⟩ := onK_neg (by omega) hw
              rw [k2] at h4 ⊢
              intro z
              have : nI 4 ≤ nI k := z
              rw [nI_leI (by omega) (by omega)] at this
              have : k = 4 := by omega
              rw [this] at h4
              exact h4 rfl
            generalize onK T j 8 5 = w at *
            refine q_evFull hl4 w4 h2 hB hL hlt h7 h8 (fun F1 I1 L' p s t1 o1 e1 f1 i1 hL' => ?_) _ (by repeat (first | exact trivial | refine ⟨by first | with_reducible rfl | exact congrArg (fun q => some (Value.int q)) (by first | with_reducible rfl | with_reducible assumption | exact (nI_succ _).symm | grind [nI_0]) | rfl, ?_⟩))
            have r1 : evF1 F F1 I I1 := ⟨t1, o1, fun x hx => by rw [e1]; exact low _ _ _ x hx⟩
            rw [← ef2] at f1
            by_cases q : evF T L E.length j = 0
            · obtain ⟨z1, z2, z3⟩ := i1 (f1.trans q)
              rw [ef2] at q
              have := isNm_lt (toE_nm hT (chF_0 q).2).1
              rw [z2, z3] at e1
              rw [← ef2] at q
              exact gd F1 I1 w _ _ L' hl4 r1 e1 (f1.trans q) q (by rw [ej]; exact z1) (by rw [ej]; omega) ev (by omega) hL'
            · obtain ⟨b1, b2, b3, b4, rfl⟩ : ∃ b1 b2 b3 b4, L' = [b1, b2, b3, b4] := by
                have := lle_len hL'
                match L', this with
                | [b1, b2, b3, b4], _ => exact ⟨b1, b2, b3, b4, rfl⟩
              exact bd F1 I1 _ _ r1 f1 q rfl ⟨hL'.1, trivial⟩
end RM
