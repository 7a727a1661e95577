/-! THE REFERENCE reads a hall: the loop over the lines -/
section RI
variable {e : Bool × Int32 × (Int32 → Int32)} {d : Nat} {F F' F'' : Nat → Nat → Int32} {I I' I'' : Nat → Int32 → Int32} {G : Nat → Nat → Int64} {J J' J'' : Nat → Int32 → Int64} {ha hb ea eb : Nat} {T : List Int32} {j : Nat} {f g : Int32} {L : ND} {D : DV}
theorem wearF_okF (hT : T.length ≤ 1000) (hj : j < (toks T).length) : okF (wearF T j D) := by
  have h0 : 0 ≤ (lawA T (j + 1)).1 := (lawA_gr hT hj).1.1.2
  unfold wearF
  generalize (lawA T (j + 1)).1 = x at *
  split
  · exact okF_bad hT (by decide) (by decide)
  · by_cases q : x = 0
    · exact Or.inl q
    · exact Or.inr (fun z => q (Int32.le_antisymm z h0))
theorem lineP_okF (hT : T.length ≤ 1000) : okF (lineP T j D).1 := by
  refine lineP_cases (P := fun f _ _ => okF f) (fun _ => ?_) (fun _ _ => ?_) (fun _ _ _ => ?_) (fun _ _ _ w => wearF_okF hT (isW_lt w)) (fun _ _ _ _ _ => ?_) (fun _ _ _ _ _ => okF_bad hT (by decide) (by decide))
  · show okF (seatF T j D)
    unfold seatF
    repeat' split
    all_goals first | exact Or.inl rfl | exact okF_bad hT (by decide) (by decide) | exact nnE_ok hT | exact afE_ok hT
  · show okF (persF T j D)
    unfold persF
    repeat' split
    all_goals first | exact okF_bad hT (by decide) (by decide) | exact nnE_ok hT | exact onE_ok hT | exact afE_ok hT
  · show okF (foeF T j D)
    unfold foeF
    split
    · exact toE_ok hT
    · exact toE_ok hT
  · show okF (lastF T j D)
    unfold lastF
    split
    · exact okF_bad hT (by decide) (by decide)
    · exact nuE_ok hT
theorem linesP_okF (hT : T.length ≤ 1000) : ∀ (m j : Nat) (D : DV), okF (linesP T m j D).1
  | 0, _, _ => Or.inl rfl
  | m + 1, j, D => by
    unfold linesP
    split
    · exact Or.inl rfl
    split
    · exact lineP_okF hT
    split
    · exact linesP_okF hT m _ _
    · exact okF_bad hT (by decide) (by decide)
theorem tokAt_off (h : (toks T).length ≤ j) : (tokAt T j).1 = 0 := by
  unfold tokAt
  rw [List.getElem?_eq_none h]
  rfl
set_option maxHeartbeats 4000000 in
theorem q_hallLoop {post : Option Value → xM → Prop} : ∀ (m j : Nat) (D : DV) (F : Nat → Nat → Int32) (I : Nat → Int32 → Int32) (J : Nat → Int32 → Int64), (toks T).length ≤ j + m → j ≤ (toks T).length → F 226 7 = nI j → F 226 8 = 0 → rdB I J T → rfD F I J D → okD D → (∀ F' I' J' L', rfF F F' I I' J J' → F' 226 8 = (linesP T m j D).1 → ((linesP T m j D).1 = 0 → rfD F' I' J' (linesP T m j D).2.2) → lle [some (.ref 226), none] L' → X e 58 M_X12_hall.2.2 32 L' [] (F', I', G, J', P0 ha hb ea eb, Q0, S0) post) → ∀ L', lle [some (.ref 226), none] L' → X e 58 M_X12_hall.2.2 17 L' [] (F, I, G, J, P0 ha hb ea eb, Q0, S0) post := by
  intro m
  induction m with
  | zero =>
    intro j D F I J hm hj h7 h8 hB hD hk cont L' hL
    obtain ⟨j0, j1, hsort, -, -⟩ := hB.at hj
    have h0 : (tokAt T j).1 = 0 := tokAt_off (by omega)
    have hs0 : I 228 (nI j) = 0 := by rw [hsort, h0]; rfl
    refine X.weak hL ?_
    clear hL
    iterate 2 ((refine X.f rfl ?_; first | refine z_iload rfl ?_ | refine z_aload rfl ?_ | refine z_push ?_ | refine z_istoreN rfl rfl ?_ | refine z_astoreN rfl rfl ?_ | refine z_istore rfl ?_ | refine z_astore rfl ?_ | refine z_gP rfl rfl ?_ | refine z_gI rfl ?_ | refine z_gotoF rfl ?_ | refine z_iadd ?_ | refine z_isub ?_ | refine z_imul ?_ | refine z_iand ?_ | refine z_ior ?_ | refine z_ishl ?_ | refine z_ishr ?_ | refine z_ixor ?_ | refine z_ineg ?_ | refine z_pI rfl ?_ | refine z_inc80 rfl ?_ | refine z_inc81 rfl ?_ | refine z_dup ?_ | refine z_dupr ?_ | refine z_dup2 ?_ | refine z_pop ?_ | (refine z_idiv ?sd1 ?_; (case sd1 => decide)) | (refine z_irem ?sd1 ?_; (case sd1 => decide)) | (refine z_iaload rfl ?sd1 ?sd2 ?sd3 ?_; (case sd1 => first | with_reducible assumption | decide | grind); (case sd2 => first | with_reducible assumption | decide | grind); (case sd3 => decide)) | (refine z_iastore rfl ?sd1 ?sd2 ?sd3 ?_; (case sd1 => first | with_reducible assumption | decide | grind); (case sd2 => first | with_reducible assumption | decide | grind); (case sd3 => decide))))
    rw [h8]
    ((refine X.f rfl ?_; first | refine z_ifeq (fun c => ?_) (fun c => ?_) | refine z_ifne (fun c => ?_) (fun c => ?_) | refine z_iflt (fun c => ?_) (fun c => ?_) | refine z_ifge (fun c => ?_) (fun c => ?_) | refine z_ifgt (fun c => ?_) (fun c => ?_) | refine z_ifle (fun c => ?_) (fun c => ?_) | refine z_ieq (fun c => ?_) (fun c => ?_) | refine z_ine (fun c => ?_) (fun c => ?_) | refine z_ilt (fun c => ?_) (fun c => ?_) | refine z_ige (fun c => ?_) (fun c => ?_) | refine z_igt (fun c => ?_) (fun c => ?_) | refine z_ile (fun c => ?_) (fun c => ?_)) <;> try (exfalso; first | (with_reducible exact absurd rfl c) | (with_reducible exact absurd (Int32.le_refl _) c) | (exact absurd c (by decide)) | (exact absurd c (by with_reducible assumption)) | (exact absurd (by with_reducible assumption) c)))
    iterate 4 ((refine X.f rfl ?_; first | refine z_iload rfl ?_ | refine z_aload rfl ?_ | refine z_push ?_ | refine z_istoreN rfl rfl ?_ | refine z_astoreN rfl rfl ?_ | refine z_istore rfl ?_ | refine z_astore rfl ?_ | refine z_gP rfl rfl ?_ | refine z_gI rfl ?_ | refine z_gotoF rfl ?_ | refine z_iadd ?_ | refine z_isub ?_ | refine z_imul ?_ | refine z_iand ?_ | refine z_ior ?_ | refine z_ishl ?_ | refine z_ishr ?_ | refine z_ixor ?_ | refine z_ineg ?_ | refine z_pI rfl ?_ | refine z_inc80 rfl ?_ | refine z_inc81 rfl ?_ | refine z_dup ?_ | refine z_dupr ?_ | refine z_dup2 ?_ | refine z_pop ?_ | (refine z_idiv ?sd1 ?_; (case sd1 => decide)) | (refine z_irem ?sd1 ?_; (case sd1 => decide)) | (refine z_iaload rfl ?sd1 ?sd2 ?sd3 ?_; (case sd1 => first | with_reducible assumption | decide | grind); (case sd2 => first | with_reducible assumption | decide | grind); (case sd3 => decide)) | (refine z_iastore rfl ?sd1 ?sd2 ?sd3 ?_; (case sd1 => first | with_reducible assumption | decide | grind); (case sd2 => first | with_reducible assumption | decide | grind); (case sd3 => decide))))
    rw [h7]
    iterate 1 ((refine X.f rfl ?_; first | refine z_iload rfl ?_ | refine z_aload rfl ?_ | refine z_push ?_ | refine z_istoreN rfl rfl ?_ | refine z_astoreN rfl rfl ?_ | refine z_istore rfl ?_ | refine z_astore rfl ?_ | refine z_gP rfl rfl ?_ | refine z_gI rfl ?_ | refine z_gotoF rfl ?_ | refine z_iadd ?_ | refine z_isub ?_ | refine z_imul ?_ | refine z_iand ?_ | refine z_ior ?_ | refine z_ishl ?_ | refine z_ishr ?_ | refine z_ixor ?_ | refine z_ineg ?_ | refine z_pI rfl ?_ | refine z_inc80 rfl ?_ | refine z_inc81 rfl ?_ | refine z_dup ?_ | refine z_dupr ?_ | refine z_dup2 ?_ | refine z_pop ?_ | (refine z_idiv ?sd1 ?_; (case sd1 => decide)) | (refine z_irem ?sd1 ?_; (case sd1 => decide)) | (refine z_iaload rfl ?sd1 ?sd2 ?sd3 ?_; (case sd1 => first | with_reducible assumption | decide | grind); (case sd2 => first | with_reducible assumption | decide | grind); (case sd3 => decide)) | (refine z_iastore rfl ?sd1 ?sd2 ?sd3 ?_; (case sd1 => first | with_reducible assumption | decide | grind); (case sd2 => first | with_reducible assumption | decide | grind); (case sd3 => decide))))
    rw [hs0]
    ((refine X.f rfl ?_; first | refine z_ifeq (fun c => ?_) (fun c => ?_) | refine z_ifne (fun c => ?_) (fun c => ?_) | refine z_iflt (fun c => ?_) (fun c => ?_) | refine z_ifge (fun c => ?_) (fun c => ?_) | refine z_ifgt (fun c => ?_) (fun c => ?_) | refine z_ifle (fun c => ?_) (fun c => ?_) | refine z_ieq (fun c => ?_) (fun c => ?_) | refine z_ine (fun c => ?_) (fun c => ?_) | refine z_ilt (fun c => ?_) (fun c => ?_) | refine z_ige (fun c => ?_) (fun c => ?_) | refine z_igt (fun c => ?_) (fun c => ?_) | refine z_ile (fun c => ?_) (fun c => ?_)) <;> try (exfalso; first | (with_reducible exact absurd rfl c) | (with_reducible exact absurd (Int32.le_refl _) c) | (exact absurd c (by decide)) | (exact absurd c (by with_reducible assumption)) | (exact absurd (by with_reducible assumption) c)))
    exact cont F I J _ rfF.refl h8 (fun _ => hD) (by repeat (first | exact trivial | refine ⟨by first | with_reducible rfl | exact congrArg (fun q => some (Value.int q)) (by first | with_reducible rfl | with_reducible assumption | exact (nI_succ _).symm | grind [nI_0]) | rfl, ?_⟩))
  | succ m ih =>
    intro j D F I J hm hj h7 h8 hB hD hk cont L' hL
    have hT := hB.1
    obtain ⟨j0, j1, hsort, -, -⟩ := hB.at hj
    refine X.weak hL ?_
    clear hL
    iterate 2 ((refine X.f rfl ?_; first | refine z_iload rfl ?_ | refine z_aload rfl ?_ | refine z_push ?_ | refine z_istoreN rfl rfl ?_ | refine z_astoreN rfl rfl ?_ | refine z_istore rfl ?_ | refine z_astore rfl ?_ | refine z_gP rfl rfl ?_ | refine z_gI rfl ?_ | refine z_gotoF rfl ?_ | refine z_iadd ?_ | refine z_isub ?_ | refine z_imul ?_ | refine z_iand ?_ | refine z_ior ?_ | refine z_ishl ?_ | refine z_ishr ?_ | refine z_ixor ?_ | refine z_ineg ?_ | refine z_pI rfl ?_ | refine z_inc80 rfl ?_ | refine z_inc81 rfl ?_ | refine z_dup ?_ | refine z_dupr ?_ | refine z_dup2 ?_ | refine z_pop ?_ | (refine z_idiv ?sd1 ?_; (case sd1 => decide)) | (refine z_irem ?sd1 ?_; (case sd1 => decide)) | (refine z_iaload rfl ?sd1 ?sd2 ?sd3 ?_; (case sd1 => first | with_reducible assumption | decide | grind); (case sd2 => first | with_reducible assumption | decide | grind); (case sd3 => decide)) | (refine z_iastore rfl ?sd1 ?sd2 ?sd3 ?_; (case sd1 => first | with_reducible assumption | decide | grind); (case sd2 => first | with_reducible assumption | decide | grind); (case sd3 => decide))))
    rw [h8]
    ((refine X.f rfl ?_; first | refine z_ifeq (fun c => ?_) (fun c => ?_) | refine z_ifne (fun c => ?_) (fun c => ?_) | refine z_iflt (fun c => ?_) (fun c => ?_) | refine z_ifge (fun c => ?_) (fun c => ?_) | refine z_ifgt (fun c => ?_) (fun c => ?_) | refine z_ifle (fun c => ?_) (fun c => ?_) | refine z_ieq (fun c => ?_) (fun c => ?_) | refine z_ine (fun c => ?_) (fun c => ?_) | refine z_ilt (fun c => ?_) (fun c => ?_) | refine z_ige (fun c => ?_) (fun c => ?_) | refine z_igt (fun c => ?_) (fun c => ?_) | refine z_ile (fun c => ?_) (fun c => ?_)) <;> try (exfalso; first | (with_reducible exact absurd rfl c) | (with_reducible exact absurd (Int32.le_refl _) c) | (exact absurd c (by decide)) | (exact absurd c (by with_reducible assumption)) | (exact absurd (by with_reducible assumption) c)))
    iterate 4 ((refine X.f rfl ?_; first | refine z_iload rfl ?_ | refine z_aload rfl ?_ | refine z_push ?_ | refine z_istoreN rfl rfl ?_ | refine z_astoreN rfl rfl ?_ | refine z_istore rfl ?_ | refine z_astore rfl ?_ | refine z_gP rfl rfl ?_ | refine z_gI rfl ?_ | refine z_gotoF rfl ?_ | refine z_iadd ?_ | refine z_isub ?_ | refine z_imul ?_ | refine z_iand ?_ | refine z_ior ?_ | refine z_ishl ?_ | refine z_ishr ?_ | refine z_ixor ?_ | refine z_ineg ?_ | refine z_pI rfl ?_ | refine z_inc80 rfl ?_ | refine z_inc81 rfl ?_ | refine z_dup ?_ | refine z_dupr ?_ | refine z_dup2 ?_ | refine z_pop ?_ | (refine z_idiv ?sd1 ?_; (case sd1 => decide)) | (refine z_irem ?sd1 ?_; (case sd1 => decide)) | (refine z_iaload rfl ?sd1 ?sd2 ?sd3 ?_; (case sd1 => first | with_reducible assumption | decide | grind); (case sd2 => first | with_reducible assumption | decide | grind); (case sd3 => decide)) | (refine z_iastore rfl ?sd1 ?sd2 ?sd3 ?_; (case sd1 => first | with_reducible assumption | decide | grind); (case sd2 => first | with_reducible assumption | decide | grind); (case sd3 => decide))))
    rw [h7]
    iterate 1 ((refine X.f rfl ?_; first | refine z_iload rfl ?_ | refine z_aload rfl ?_ | refine z_push ?_ | refine z_istoreN rfl rfl ?_ | refine z_astoreN rfl rfl ?_ | refine z_istore rfl ?_ | refine z_astore rfl ?_ | refine z_gP rfl rfl ?_ | refine z_gI rfl ?_ | refine z_gotoF rfl ?_ | refine z_iadd ?_ | refine z_isub ?_ | refine z_imul ?_ | refine z_iand ?_ | refine z_ior ?_ | refine z_ishl ?_ | refine z_ishr ?_ | refine z_ixor ?_ | refine z_ineg ?_ | refine z_pI rfl ?_ | refine z_inc80 rfl ?_ | refine z_inc81 rfl ?_ | refine z_dup ?_ | refine z_dupr ?_ | refine z_dup2 ?_ | refine z_pop ?_ | (refine z_idiv ?sd1 ?_; (case sd1 => decide)) | (refine z_irem ?sd1 ?_; (case sd1 => decide)) | (refine z_iaload rfl ?sd1 ?sd2 ?sd3 ?_; (case sd1 => first | with_reducible assumption | decide | grind); (case sd2 => first | with_reducible assumption | decide | grind); (case sd3 => decide)) | (refine z_iastore rfl ?sd1 ?sd2 ?sd3 ?_; (case sd1 => first | with_reducible assumption | decide | grind); (case sd2 => first | with_reducible assumption | decide | grind); (case sd3 => decide))))
    rw [hsort]
    unfold linesP at cont
    by_cases h0 : (tokAt T j).1 = 0
    · rw [if_pos h0] at cont
      rw [h0]
      ((refine X.f rfl ?_; first | refine z_ifeq (fun c => ?_) (fun c => ?_) | refine z_ifne (fun c => ?_) (fun c => ?_) | refine z_iflt (fun c => ?_) (fun c => ?_) | refine z_ifge (fun c => ?_) (fun c => ?_) | refine z_ifgt (fun c => ?_) (fun c => ?_) | refine z_ifle (fun c => ?_) (fun c => ?_) | refine z_ieq (fun c => ?_) (fun c => ?_) | refine z_ine (fun c => ?_) (fun c => ?_) | refine z_ilt (fun c => ?_) (fun c => ?_) | refine z_ige (fun c => ?_) (fun c => ?_) | refine z_igt (fun c => ?_) (fun c => ?_) | refine z_ile (fun c => ?_) (fun c => ?_)) <;> try (exfalso; first | (with_reducible exact absurd rfl c) | (with_reducible exact absurd (Int32.le_refl _) c) | (exact absurd c (by decide)) | (exact absurd c (by with_reducible assumption)) | (exact absurd (by with_reducible assumption) c)))
      exact cont F I J _ rfF.refl h8 (fun _ => hD) (by repeat (first | exact trivial | refine ⟨by first | with_reducible rfl | exact congrArg (fun q => some (Value.int q)) (by first | with_reducible rfl | with_reducible assumption | exact (nI_succ _).symm | grind [nI_0]) | rfl, ?_⟩))
    · rw [if_neg h0] at cont
      have hn0 : ¬ nI (tokAt T j).1 = 0 := fun q => h0 ((nI_lit (b := 0) (by have := sort_le T j; omega) (by omega)).mp q)
      first | refine X.f rfl (z_ifeq (fun c => ?_) (fun c => ?_)) | refine X.f rfl (z_ifne (fun c => ?_) (fun c => ?_)) | refine X.f rfl (z_iflt (fun c => ?_) (fun c => ?_)) | refine X.f rfl (z_ifge (fun c => ?_) (fun c => ?_)) | refine X.f rfl (z_ifgt (fun c => ?_) (fun c => ?_)) | refine X.f rfl (z_ifle (fun c => ?_) (fun c => ?_)) | refine X.f rfl (z_ieq (fun c => ?_) (fun c => ?_)) | refine X.f rfl (z_ine (fun c => ?_) (fun c => ?_)) | refine X.f rfl (z_ilt (fun c => ?_) (fun c => ?_)) | refine X.f rfl (z_ige (fun c => ?_) (fun c => ?_)) | refine X.f rfl (z_igt (fun c => ?_) (fun c => ?_)) | refine X.f rfl (z_ile (fun c => ?_) (fun c => ?_))
      · exact absurd c hn0
      clear c
      iterate 1 ((refine X.f rfl ?_; first | refine z_iload rfl ?_ | refine z_aload rfl ?_ | refine z_push ?_ | refine z_istoreN rfl rfl ?_ | refine z_astoreN rfl rfl ?_ | refine z_istore rfl ?_ | refine z_astore rfl ?_ | refine z_gP rfl rfl ?_ | refine z_gI rfl ?_ | refine z_gotoF rfl ?_ | refine z_iadd ?_ | refine z_isub ?_ | refine z_imul ?_ | refine z_iand ?_ | refine z_ior ?_ | refine z_ishl ?_ | refine z_ishr ?_ | refine z_ixor ?_ | refine z_ineg ?_ | refine z_pI rfl ?_ | refine z_inc80 rfl ?_ | refine z_inc81 rfl ?_ | refine z_dup ?_ | refine z_dupr ?_ | refine z_dup2 ?_ | refine z_pop ?_ | (refine z_idiv ?sd1 ?_; (case sd1 => decide)) | (refine z_irem ?sd1 ?_; (case sd1 => decide)) | (refine z_iaload rfl ?sd1 ?sd2 ?sd3 ?_; (case sd1 => first | with_reducible assumption | decide | grind); (case sd2 => first | with_reducible assumption | decide | grind); (case sd3 => decide)) | (refine z_iastore rfl ?sd1 ?sd2 ?sd3 ?_; (case sd1 => first | with_reducible assumption | decide | grind); (case sd2 => first | with_reducible assumption | decide | grind); (case sd3 => decide))))
      refine X.f rfl (z_cv (q_readLine hD hk.2.1 hB hj h7 h8) rfl (by rfl) (by rfl) rfl rfl rfl rfl ?_)
      rintro _ _ ⟨rfl, F1, I1, J1, rfl, r1, f1, on1⟩
      dsimp only [Option.toList, List.nil_append]
      have hB1 := r1.B hB
      by_cases hf : (lineP T j D).1 = 0
      · obtain ⟨hk1, jj1, jj2⟩ := lineP_ok hT hk hf
        obtain ⟨i7, hD1⟩ := on1 hf
        rw [if_neg (fun q => q hf)] at cont
        rw [hf] at f1
        generalize (lineP T j D).2.1 = j' at *
        generalize (lineP T j D).2.2 = D' at *
        iterate 2 ((refine X.f rfl ?_; first | refine z_iload rfl ?_ | refine z_aload rfl ?_ | refine z_push ?_ | refine z_istoreN rfl rfl ?_ | refine z_astoreN rfl rfl ?_ | refine z_istore rfl ?_ | refine z_astore rfl ?_ | refine z_gP rfl rfl ?_ | refine z_gI rfl ?_ | refine z_gotoF rfl ?_ | refine z_iadd ?_ | refine z_isub ?_ | refine z_imul ?_ | refine z_iand ?_ | refine z_ior ?_ | refine z_ishl ?_ | refine z_ishr ?_ | refine z_ixor ?_ | refine z_ineg ?_ | refine z_pI rfl ?_ | refine z_inc80 rfl ?_ | refine z_inc81 rfl ?_ | refine z_dup ?_ | refine z_dupr ?_ | refine z_dup2 ?_ | refine z_pop ?_ | (refine z_idiv ?sd1 ?_; (case sd1 => decide)) | (refine z_irem ?sd1 ?_; (case sd1 => decide)) | (refine z_iaload rfl ?sd1 ?sd2 ?sd3 ?_; (case sd1 => first | with_reducible assumption | decide | grind); (case sd2 => first | with_reducible assumption | decide | grind); (case sd3 => decide)) | (refine z_iastore rfl ?sd1 ?sd2 ?sd3 ?_; (case sd1 => first | with_reducible assumption | decide | grind); (case sd2 => first | with_reducible assumption | decide | grind); (case sd3 => decide))))
        refine X.f rfl (z_cv (q_takeSignH hB1 jj2 i7 f1) rfl (by rfl) (by rfl) rfl rfl rfl rfl ?_)
        rintro _ _ ⟨rfl, F2, rfl, t2, f2, n2⟩
        dsimp only [Option.toList, List.nil_append]
        have r2 : rfF F F2 I I1 J J1 := r1.trans (rfF.f7 t2)
        have hD2 : rfD F2 I1 J1 D' := by
          obtain ⟨a40, a7, a41, a5, a42, aR, aP, aN, aL, a20, aC⟩ := hD1
          exact ⟨a40, a7, a41, a5, a42, aR, aP, by rw [t2 226 19 (by omega)]; exact aN, aL, (t2 226 20 (by omega)).trans a20, aC.off (t2 226 13 (by omega)) rfl rfl rfl⟩
        cases hs : isG T j' 59
        · rw [hs, if_neg Bool.false_ne_true] at f2 n2 cont
          have h10 := wr_gt2 hT (x := 1) (by decide) (by decide) j'
          iterate 0 ((refine X.f rfl ?_; first | refine z_iload rfl ?_ | refine z_aload rfl ?_ | refine z_push ?_ | refine z_istoreN rfl rfl ?_ | refine z_astoreN rfl rfl ?_ | refine z_istore rfl ?_ | refine z_astore rfl ?_ | refine z_gP rfl rfl ?_ | refine z_gI rfl ?_ | refine z_gotoF rfl ?_ | refine z_iadd ?_ | refine z_isub ?_ | refine z_imul ?_ | refine z_iand ?_ | refine z_ior ?_ | refine z_ishl ?_ | refine z_ishr ?_ | refine z_ixor ?_ | refine z_ineg ?_ | refine z_pI rfl ?_ | refine z_inc80 rfl ?_ | refine z_inc81 rfl ?_ | refine z_dup ?_ | refine z_dupr ?_ | refine z_dup2 ?_ | refine z_pop ?_ | (refine z_idiv ?sd1 ?_; (case sd1 => decide)) | (refine z_irem ?sd1 ?_; (case sd1 => decide)) | (refine z_iaload rfl ?sd1 ?sd2 ?sd3 ?_; (case sd1 => first | with_reducible assumption | decide | grind); (case sd2 => first | with_reducible assumption | decide | grind); (case sd3 => decide)) | (refine z_iastore rfl ?sd1 ?sd2 ?sd3 ?_; (case sd1 => first | with_reducible assumption | decide | grind); (case sd2 => first | with_reducible assumption | decide | grind); (case sd3 => decide))))
          refine X.f rfl (z_goto ?_)
          iterate 2 ((refine X.f rfl ?_; first | refine z_iload rfl ?_ | refine z_aload rfl ?_ | refine z_push ?_ | refine z_istoreN rfl rfl ?_ | refine z_astoreN rfl rfl ?_ | refine z_istore rfl ?_ | refine z_astore rfl ?_ | refine z_gP rfl rfl ?_ | refine z_gI rfl ?_ | refine z_gotoF rfl ?_ | refine z_iadd ?_ | refine z_isub ?_ | refine z_imul ?_ | refine z_iand ?_ | refine z_ior ?_ | refine z_ishl ?_ | refine z_ishr ?_ | refine z_ixor ?_ | refine z_ineg ?_ | refine z_pI rfl ?_ | refine z_inc80 rfl ?_ | refine z_inc81 rfl ?_ | refine z_dup ?_ | refine z_dupr ?_ | refine z_dup2 ?_ | refine z_pop ?_ | (refine z_idiv ?sd1 ?_; (case sd1 => decide)) | (refine z_irem ?sd1 ?_; (case sd1 => decide)) | (refine z_iaload rfl ?sd1 ?sd2 ?sd3 ?_; (case sd1 => first | with_reducible assumption | decide | grind); (case sd2 => first | with_reducible assumption | decide | grind); (case sd3 => decide)) | (refine z_iastore rfl ?sd1 ?sd2 ?sd3 ?_; (case sd1 => first | with_reducible assumption | decide | grind); (case sd2 => first | with_reducible assumption | decide | grind); (case sd3 => decide))))
          rw [f2]
          first | refine X.f rfl (z_ifeq (fun c => ?_) (fun c => ?_)) | refine X.f rfl (z_ifne (fun c => ?_) (fun c => ?_)) | refine X.f rfl (z_iflt (fun c => ?_) (fun c => ?_)) | refine X.f rfl (z_ifge (fun c => ?_) (fun c => ?_)) | refine X.f rfl (z_ifgt (fun c => ?_) (fun c => ?_)) | refine X.f rfl (z_ifle (fun c => ?_) (fun c => ?_)) | refine X.f rfl (z_ieq (fun c => ?_) (fun c => ?_)) | refine X.f rfl (z_ine (fun c => ?_) (fun c => ?_)) | refine X.f rfl (z_ilt (fun c => ?_) (fun c => ?_)) | refine X.f rfl (z_ige (fun c => ?_) (fun c => ?_)) | refine X.f rfl (z_igt (fun c => ?_) (fun c => ?_)) | refine X.f rfl (z_ile (fun c => ?_) (fun c => ?_))
          · exact cont F2 I1 J1 _ r2 f2 (fun q => absurd q h10) (by repeat (first | exact trivial | refine ⟨by first | with_reducible rfl | exact congrArg (fun q => some (Value.int q)) (by first | with_reducible rfl | with_reducible assumption | exact (nI_succ _).symm | grind [nI_0]) | rfl, ?_⟩))
          · exact absurd (Classical.not_not.mp c) h10
        · rw [hs, if_pos rfl] at f2 n2 cont
          refine X.f rfl (z_goto ?_)
          have hlt := isG_lt hs
          refine ih (j' + 1) D' F2 I1 J1 (by omega) hlt (n2 rfl) f2 hB1 hD2 hk1 (fun F' I' J' L' r f' n' hL' => cont F' I' J' L' (r2.trans r) f' n' hL') _ (by repeat (first | exact trivial | refine ⟨by first | with_reducible rfl | exact congrArg (fun q => some (Value.int q)) (by first | with_reducible rfl | with_reducible assumption | exact (nI_succ _).symm | grind [nI_0]) | rfl, ?_⟩))
      · rw [if_pos hf] at cont
        iterate 2 ((refine X.f rfl ?_; first | refine z_iload rfl ?_ | refine z_aload rfl ?_ | refine z_push ?_ | refine z_istoreN rfl rfl ?_ | refine z_astoreN rfl rfl ?_ | refine z_istore rfl ?_ | refine z_astore rfl ?_ | refine z_gP rfl rfl ?_ | refine z_gI rfl ?_ | refine z_gotoF rfl ?_ | refine z_iadd ?_ | refine z_isub ?_ | refine z_imul ?_ | refine z_iand ?_ | refine z_ior ?_ | refine z_ishl ?_ | refine z_ishr ?_ | refine z_ixor ?_ | refine z_ineg ?_ | refine z_pI rfl ?_ | refine z_inc80 rfl ?_ | refine z_inc81 rfl ?_ | refine z_dup ?_ | refine z_dupr ?_ | refine z_dup2 ?_ | refine z_pop ?_ | (refine z_idiv ?sd1 ?_; (case sd1 => decide)) | (refine z_irem ?sd1 ?_; (case sd1 => decide)) | (refine z_iaload rfl ?sd1 ?sd2 ?sd3 ?_; (case sd1 => first | with_reducible assumption | decide | grind); (case sd2 => first | with_reducible assumption | decide | grind); (case sd3 => decide)) | (refine z_iastore rfl ?sd1 ?sd2 ?sd3 ?_; (case sd1 => first | with_reducible assumption | decide | grind); (case sd2 => first | with_reducible assumption | decide | grind); (case sd3 => decide))))
        refine X.f rfl (z_cv (q_takeSign_f (by rw [f1]; exact hf)) rfl (by rfl) (by rfl) rfl rfl rfl rfl ?_)
        rintro _ _ ⟨rfl, rfl⟩
        dsimp only [Option.toList, List.nil_append]
        refine X.f rfl (z_goto ?_)
        iterate 2 ((refine X.f rfl ?_; first | refine z_iload rfl ?_ | refine z_aload rfl ?_ | refine z_push ?_ | refine z_istoreN rfl rfl ?_ | refine z_astoreN rfl rfl ?_ | refine z_istore rfl ?_ | refine z_astore rfl ?_ | refine z_gP rfl rfl ?_ | refine z_gI rfl ?_ | refine z_gotoF rfl ?_ | refine z_iadd ?_ | refine z_isub ?_ | refine z_imul ?_ | refine z_iand ?_ | refine z_ior ?_ | refine z_ishl ?_ | refine z_ishr ?_ | refine z_ixor ?_ | refine z_ineg ?_ | refine z_pI rfl ?_ | refine z_inc80 rfl ?_ | refine z_inc81 rfl ?_ | refine z_dup ?_ | refine z_dupr ?_ | refine z_dup2 ?_ | refine z_pop ?_ | (refine z_idiv ?sd1 ?_; (case sd1 => decide)) | (refine z_irem ?sd1 ?_; (case sd1 => decide)) | (refine z_iaload rfl ?sd1 ?sd2 ?sd3 ?_; (case sd1 => first | with_reducible assumption | decide | grind); (case sd2 => first | with_reducible assumption | decide | grind); (case sd3 => decide)) | (refine z_iastore rfl ?sd1 ?sd2 ?sd3 ?_; (case sd1 => first | with_reducible assumption | decide | grind); (case sd2 => first | with_reducible assumption | decide | grind); (case sd3 => decide))))
        rw [f1]
        first | refine X.f rfl (z_ifeq (fun c => ?_) (fun c => ?_)) | refine X.f rfl (z_ifne (fun c => ?_) (fun c => ?_)) | refine X.f rfl (z_iflt (fun c => ?_) (fun c => ?_)) | refine X.f rfl (z_ifge (fun c => ?_) (fun c => ?_)) | refine X.f rfl (z_ifgt (fun c => ?_) (fun c => ?_)) | refine X.f rfl (z_ifle (fun c => ?_) (fun c => ?_)) | refine X.f rfl (z_ieq (fun c => ?_) (fun c => ?_)) | refine X.f rfl (z_ine (fun c => ?_) (fun c => ?_)) | refine X.f rfl (z_ilt (fun c => ?_) (fun c => ?_)) | refine X.f rfl (z_ige (fun c => ?_) (fun c => ?_)) | refine X.f rfl (z_igt (fun c => ?_) (fun c => ?_)) | refine X.f rfl (z_ile (fun c => ?_) (fun c => ?_))
        · exact cont F1 I1 J1 _ r1 f1 (fun q => absurd q hf) (by repeat (first | exact trivial | refine ⟨by first | with_reducible rfl | exact congrArg (fun q => some (Value.int q)) (by first | with_reducible rfl | with_reducible assumption | exact (nI_succ _).symm | grind [nI_0]) | rfl, ?_⟩))
        · exact absurd (Classical.not_not.mp c) hf
theorem q_standsAsAlways {at0 : Int32} (h0 : 0 ≤ at0) (h1 : at0 ≤ 40) : Y e 0 M_X12_standsAsAlways [.ref 226, .int at0] (F, I, G, J, P0 ha hb ea eb, Q0, S0) (fun w M' => w = none ∧ ∃ I', M' = (F, I', G, J, P0 ha hb ea eb, Q0, S0) ∧ (∀ c, c ≠ 232 → I' c = I c) ∧ ∀ x, I' 232 x = if at0 ≤ x ∧ x < at0 + 40 then (if x = at0 + 3 then -1 else if x = at0 + 2 then 6 else 0) else I 232 x) := by
  unfold Y
  iterate 2 ((refine X.f rfl ?_; first | refine z_iload rfl ?_ | refine z_aload rfl ?_ | refine z_push ?_ | refine z_istoreN rfl rfl ?_ | refine z_astoreN rfl rfl ?_ | refine z_istore rfl ?_ | refine z_astore rfl ?_ | refine z_gP rfl rfl ?_ | refine z_gI rfl ?_ | refine z_gotoF rfl ?_ | refine z_iadd ?_ | refine z_isub ?_ | refine z_imul ?_ | refine z_iand ?_ | refine z_ior ?_ | refine z_ishl ?_ | refine z_ishr ?_ | refine z_ixor ?_ | refine z_ineg ?_ | refine z_pI rfl ?_ | refine z_inc80 rfl ?_ | refine z_inc81 rfl ?_ | refine z_dup ?_ | refine z_dupr ?_ | refine z_dup2 ?_ | refine z_pop ?_ | (refine z_idiv ?sd1 ?_; (case sd1 => decide)) | (refine z_irem ?sd1 ?_; (case sd1 => decide)) | (refine z_iaload rfl ?sd1 ?sd2 ?sd3 ?_; (case sd1 => first | with_reducible assumption | decide | grind); (case sd2 => first | with_reducible assumption | decide | grind); (case sd3 => decide)) | (refine z_iastore rfl ?sd1 ?sd2 ?sd3 ?_; (case sd1 => first | with_reducible assumption | decide | grind); (case sd2 => first | with_reducible assumption | decide | grind); (case sd3 => decide))))
  refine x_forR 40 (fun i (_ : Unit) => [some (.ref 226), some (.int at0), some (.int (nI i))]) (fun i _ M => ∃ I', M = (F, I', G, J, P0 ha hb ea eb, Q0, S0) ∧ (∀ c, c ≠ 232 → I' c = I c) ∧ ∀ x, I' 232 x = if at0 ≤ x ∧ x < at0 + nI i then 0 else I 232 x) (fun i _ M hi hM k => ?_) (fun _ M hM => ?_) (i := 0) (a := ()) (by omega) ⟨I, rfl, fun _ _ => rfl, fun x => ?_⟩ (by repeat (first | exact trivial | refine ⟨by first | with_reducible rfl | exact congrArg (fun q => some (Value.int q)) (by first | with_reducible rfl | with_reducible assumption | exact (nI_succ _).symm | grind [nI_0]) | rfl, ?_⟩))
  · obtain ⟨I', rfl, q1, q2⟩ := hM
    have i0 : 0 ≤ nI i := nI_pos' (by omega)
    have i1 : nI i < 40 := (nI_ltI (b := 40) (by omega) (by omega)).mpr hi
    have i2 : ¬ 40 ≤ nI i := Int32.not_le.mpr i1
    have b0 : 0 ≤ at0 + nI i := by grind
    have b1 : at0 + nI i < 80 := by grind
    iterate 2 ((refine X.f rfl ?_; first | refine z_iload rfl ?_ | refine z_aload rfl ?_ | refine z_push ?_ | refine z_istoreN rfl rfl ?_ | refine z_astoreN rfl rfl ?_ | refine z_istore rfl ?_ | refine z_astore rfl ?_ | refine z_gP rfl rfl ?_ | refine z_gI rfl ?_ | refine z_gotoF rfl ?_ | refine z_iadd ?_ | refine z_isub ?_ | refine z_imul ?_ | refine z_iand ?_ | refine z_ior ?_ | refine z_ishl ?_ | refine z_ishr ?_ | refine z_ixor ?_ | refine z_ineg ?_ | refine z_pI rfl ?_ | refine z_inc80 rfl ?_ | refine z_inc81 rfl ?_ | refine z_dup ?_ | refine z_dupr ?_ | refine z_dup2 ?_ | refine z_pop ?_ | (refine z_idiv ?sd1 ?_; (case sd1 => decide)) | (refine z_irem ?sd1 ?_; (case sd1 => decide)) | (refine z_iaload rfl ?sd1 ?sd2 ?sd3 ?_; (case sd1 => first | with_reducible assumption | decide | grind); (case sd2 => first | with_reducible assumption | decide | grind); (case sd3 => decide)) | (refine z_iastore rfl ?sd1 ?sd2 ?sd3 ?_; (case sd1 => first | with_reducible assumption | decide | grind); (case sd2 => first | with_reducible assumption | decide | grind); (case sd3 => decide))))
    ((refine X.f rfl ?_; first | refine z_ifeq (fun c => ?_) (fun c => ?_) | refine z_ifne (fun c => ?_) (fun c => ?_) | refine z_iflt (fun c => ?_) (fun c => ?_) | refine z_ifge (fun c => ?_) (fun c => ?_) | refine z_ifgt (fun c => ?_) (fun c => ?_) | refine z_ifle (fun c => ?_) (fun c => ?_) | refine z_ieq (fun c => ?_) (fun c => ?_) | refine z_ine (fun c => ?_) (fun c => ?_) | refine z_ilt (fun c => ?_) (fun c => ?_) | refine z_ige (fun c => ?_) (fun c => ?_) | refine z_igt (fun c => ?_) (fun c => ?_) | refine z_ile (fun c => ?_) (fun c => ?_)) <;> try (exfalso; first | (with_reducible exact absurd rfl c) | (with_reducible exact absurd (Int32.le_refl _) c) | (exact absurd c (by decide)) | (exact absurd c (by with_reducible assumption)) | (exact absurd (by with_reducible assumption) c)))
    iterate 8 ((refine X.f rfl ?_; first | refine z_iload rfl ?_ | refine z_aload rfl ?_ | refine z_push ?_ | refine z_istoreN rfl rfl ?_ | refine z_astoreN rfl rfl ?_ | refine z_istore rfl ?_ | refine z_astore rfl ?_ | refine z_gP rfl rfl ?_ | refine z_gI rfl ?_ | refine z_gotoF rfl ?_ | refine z_iadd ?_ | refine z_isub ?_ | refine z_imul ?_ | refine z_iand ?_ | refine z_ior ?_ | refine z_ishl ?_ | refine z_ishr ?_ | refine z_ixor ?_ | refine z_ineg ?_ | refine z_pI rfl ?_ | refine z_inc80 rfl ?_ | refine z_inc81 rfl ?_ | refine z_dup ?_ | refine z_dupr ?_ | refine z_dup2 ?_ | refine z_pop ?_ | (refine z_idiv ?sd1 ?_; (case sd1 => decide)) | (refine z_irem ?sd1 ?_; (case sd1 => decide)) | (refine z_iaload rfl ?sd1 ?sd2 ?sd3 ?_; (case sd1 => first | with_reducible assumption | decide | grind); (case sd2 => first | with_reducible assumption | decide | grind); (case sd3 => decide)) | (refine z_iastore rfl ?sd1 ?sd2 ?sd3 ?_; (case sd1 => first | with_reducible assumption | decide | grind); (case sd2 => first | with_reducible assumption | decide | grind); (case sd3 => decide))))
    refine X.f rfl (z_goto (k () _ _ ⟨_, rfl, fun c hc => by rw [xv_ne hc]; exact q1 c hc, fun x => ?_⟩ ?_))
    · rw [xv_row, row_same, nI_succ]
      by_cases hx : x = at0 + nI i
      · rw [hx, up_self, if_pos ⟨by grind, by grind⟩]
      · rw [up_ne hx, q2]
        by_cases hy : at0 ≤ x ∧ x < at0 + nI i
        · rw [if_pos hy, if_pos ⟨hy.1, by grind⟩]
        · rw [if_neg hy, if_neg (fun z => hy ⟨z.1, by grind⟩)]
    · repeat (first | exact trivial | refine ⟨by first | with_reducible rfl | exact congrArg (fun q => some (Value.int q)) (by first | with_reducible rfl | with_reducible assumption | exact (nI_succ _).symm | grind [nI_0]) | rfl, ?_⟩)
  · obtain ⟨I', rfl, q1, q2⟩ := hM
    have i2 : (40 : Int32) ≤ nI 40 := by decide
    have b0 : 0 ≤ at0 + 2 := by grind
    have b1 : at0 + 2 < 80 := by grind
    have b2 : 0 ≤ at0 + 3 := by grind
    have b3 : at0 + 3 < 80 := by grind
    iterate 2 ((refine X.f rfl ?_; first | refine z_iload rfl ?_ | refine z_aload rfl ?_ | refine z_push ?_ | refine z_istoreN rfl rfl ?_ | refine z_astoreN rfl rfl ?_ | refine z_istore rfl ?_ | refine z_astore rfl ?_ | refine z_gP rfl rfl ?_ | refine z_gI rfl ?_ | refine z_gotoF rfl ?_ | refine z_iadd ?_ | refine z_isub ?_ | refine z_imul ?_ | refine z_iand ?_ | refine z_ior ?_ | refine z_ishl ?_ | refine z_ishr ?_ | refine z_ixor ?_ | refine z_ineg ?_ | refine z_pI rfl ?_ | refine z_inc80 rfl ?_ | refine z_inc81 rfl ?_ | refine z_dup ?_ | refine z_dupr ?_ | refine z_dup2 ?_ | refine z_pop ?_ | (refine z_idiv ?sd1 ?_; (case sd1 => decide)) | (refine z_irem ?sd1 ?_; (case sd1 => decide)) | (refine z_iaload rfl ?sd1 ?sd2 ?sd3 ?_; (case sd1 => first | with_reducible assumption | decide | grind); (case sd2 => first | with_reducible assumption | decide | grind); (case sd3 => decide)) | (refine z_iastore rfl ?sd1 ?sd2 ?sd3 ?_; (case sd1 => first | with_reducible assumption | decide | grind); (case sd2 => first | with_reducible assumption | decide | grind); (case sd3 => decide))))
    ((refine X.f rfl ?_; first | refine z_ifeq (fun c => ?_) (fun c => ?_) | refine z_ifne (fun c => ?_) (fun c => ?_) | refine z_iflt (fun c => ?_) (fun c => ?_) | refine z_ifge (fun c => ?_) (fun c => ?_) | refine z_ifgt (fun c => ?_) (fun c => ?_) | refine z_ifle (fun c => ?_) (fun c => ?_) | refine z_ieq (fun c => ?_) (fun c => ?_) | refine z_ine (fun c => ?_) (fun c => ?_) | refine z_ilt (fun c => ?_) (fun c => ?_) | refine z_ige (fun c => ?_) (fun c => ?_) | refine z_igt (fun c => ?_) (fun c => ?_) | refine z_ile (fun c => ?_) (fun c => ?_)) <;> try (exfalso; first | (with_reducible exact absurd rfl c) | (with_reducible exact absurd (Int32.le_refl _) c) | (exact absurd c (by decide)) | (exact absurd c (by with_reducible assumption)) | (exact absurd (by with_reducible assumption) c)))
    iterate 14 ((refine X.f rfl ?_; first | refine z_iload rfl ?_ | refine z_aload rfl ?_ | refine z_push ?_ | refine z_istoreN rfl rfl ?_ | refine z_astoreN rfl rfl ?_ | refine z_istore rfl ?_ | refine z_astore rfl ?_ | refine z_gP rfl rfl ?_ | refine z_gI rfl ?_ | refine z_gotoF rfl ?_ | refine z_iadd ?_ | refine z_isub ?_ | refine z_imul ?_ | refine z_iand ?_ | refine z_ior ?_ | refine z_ishl ?_ | refine z_ishr ?_ | refine z_ixor ?_ | refine z_ineg ?_ | refine z_pI rfl ?_ | refine z_inc80 rfl ?_ | refine z_inc81 rfl ?_ | refine z_dup ?_ | refine z_dupr ?_ | refine z_dup2 ?_ | refine z_pop ?_ | (refine z_idiv ?sd1 ?_; (case sd1 => decide)) | (refine z_irem ?sd1 ?_; (case sd1 => decide)) | (refine z_iaload rfl ?sd1 ?sd2 ?sd3 ?_; (case sd1 => first | with_reducible assumption | decide | grind); (case sd2 => first | with_reducible assumption | decide | grind); (case sd3 => decide)) | (refine z_iastore rfl ?sd1 ?sd2 ?sd3 ?_; (case sd1 => first | with_reducible assumption | decide | grind); (case sd2 => first | with_reducible assumption | decide | grind); (case sd3 => decide))))
    refine x_ret rfl rfl ⟨rfl, _, rfl, fun c hc => by rw [xv_ne hc, xv_ne hc]; exact q1 c hc, fun x => ?_⟩
    have e40 : nI 40 = 40 := rfl
    rw [xv_row, row_same, xv_row, row_same]
    by_cases h3 : x = at0 + 3
    · rw [h3, up_self, if_pos ⟨by grind, by grind⟩, if_pos rfl]
    · rw [up_ne h3]
      by_cases h2 : x = at0 + 2
      · rw [h2, up_self, if_pos ⟨by grind, by grind⟩, if_neg (by grind), if_pos rfl]
      · rw [up_ne h2, q2, e40, if_neg h3, if_neg h2]
  · rw [if_neg (fun z => ?_)]
    have : nI 0 = 0 := rfl
    rw [this] at z
    grind
end RI
