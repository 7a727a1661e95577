/-! THE REFERENCE reads a hall: a person, foes -/
/-- what a draft's names name -/
def okNd (D : DV) : Prop := ∀ q ∈ D.2.1, q.2 < hN D.1 ∨ (20 ≤ q.2 ∧ q.2 < 20 + hP D.1)
theorem nmF_rng {x : List Int32} : ∀ L : ND, nmF L x = -1 ∨ ∃ q ∈ L, nmF L x = nI q.2
  | [] => Or.inl rfl
  | (t, v) :: L => by
    unfold nmF
    by_cases h : t = x
    · rw [if_pos h]
      exact Or.inr ⟨(t, v), List.mem_cons_self, rfl⟩
    · rw [if_neg h]
      rcases nmF_rng (x := x) L with q | ⟨q, h1, h2⟩
      · exact Or.inl q
      · exact Or.inr ⟨q, List.mem_cons_of_mem _ h1, h2⟩
section RD
variable {e : Bool × Int32 × (Int32 → Int32)} {d : Nat} {F F' F'' : Nat → Nat → Int32} {I I' I'' : Nat → Int32 → Int32} {G : Nat → Nat → Int64} {J J' J'' : Nat → Int32 → Int64} {ha hb ea eb : Nat} {T : List Int32} {j : Nat} {f g : Int32} {L : ND} {D : DV}
theorem toE_per {L : ND} {N P : Nat} {but : Int32} (hT : T.length ≤ 1000) (hN : N ≤ 7) (hP : P ≤ 5) (hL : ∀ q ∈ L, q.2 < N ∨ (20 ≤ q.2 ∧ q.2 < 20 + P)) (h : toE T L 20 but j = 0) : isNm T j = true ∧ tb but (toV T L 20 j) = false ∧ ∃ k, k < P ∧ toV T L 20 j = nI k ∧ nmF L (txA T j) = nI (20 + k) := by
  unfold toE at h
  split at h
  · rename_i h1
    split at h
    · rename_i h2
      split at h
      · exact absurd h (wr_gt2 hT (by decide) (by decide) _)
      · rename_i h3
        refine ⟨h1, by simpa using h3, ?_⟩
        unfold toV at h2 ⊢
        rcases nmF_rng (x := txA T j) L with q | ⟨q, q1, q2⟩
        · rw [q] at h2
          exact absurd h2.1 (by decide)
        · rw [q2] at h2 ⊢
          rcases hL q q1 with r | ⟨r1, r2⟩
          · have a0 : 0 ≤ nI q.2 := nI_pos' (by omega)
            have a1 : nI q.2 < 7 := (nI_ltI (b := 7) (by omega) (by omega)).mpr (by omega)
            exact absurd h2.1 (by grind)
          · refine ⟨q.2 - 20, by omega, ?_, by rw [show 20 + (q.2 - 20) = q.2 by omega]⟩
            have : q.2 = (q.2 - 20) + 20 := by omega
            rw [this, nI_addN]
            have e20 : nI 20 = 20 := rfl
            rw [e20]
            have : q.2 - 20 + 20 - 20 = q.2 - 20 := by omega
            rw [this]
            grind
    · exact absurd h (wr_gt2 hT (by decide) (by decide) _)
  · exact absurd h (wr_gt2 hT (by decide) (by decide) _)
theorem q_takeTold_f {x y z : Int32} (h8 : ¬ F 226 8 = 0) (h9 : ¬ F 226 8 ≤ 0) : A' e 3 M_X12_takeTold [.ref 226, .int x, .int y, .int z] (F, I, G, J, P0 ha hb ea eb, Q0, S0) (some (.int 0)) (F, I, G, J, P0 ha hb ea eb, Q0, S0) := by
  unfold A' Y
  iterate 2 ((refine X.f rfl ?_; first | refine z_iload rfl ?_ | refine z_aload rfl ?_ | refine z_push ?_ | refine z_istoreN rfl rfl ?_ | refine z_astoreN rfl rfl ?_ | refine z_istore rfl ?_ | refine z_astore rfl ?_ | refine z_gP rfl rfl ?_ | refine z_gI rfl ?_ | refine z_gotoF rfl ?_ | refine z_iadd ?_ | refine z_isub ?_ | refine z_imul ?_ | refine z_iand ?_ | refine z_ior ?_ | refine z_ishl ?_ | refine z_ishr ?_ | refine z_ixor ?_ | refine z_ineg ?_ | refine z_pI rfl ?_ | refine z_inc80 rfl ?_ | refine z_inc81 rfl ?_ | refine z_dup ?_ | refine z_dupr ?_ | refine z_dup2 ?_ | refine z_pop ?_ | (refine z_idiv ?sd1 ?_; (case sd1 => decide)) | (refine z_irem ?sd1 ?_; (case sd1 => decide)) | (refine z_iaload rfl ?sd1 ?sd2 ?sd3 ?_; (case sd1 => first | with_reducible assumption | decide | grind); (case sd2 => first | with_reducible assumption | decide | grind); (case sd3 => decide)) | (refine z_iastore rfl ?sd1 ?sd2 ?sd3 ?_; (case sd1 => first | with_reducible assumption | decide | grind); (case sd2 => first | with_reducible assumption | decide | grind); (case sd3 => decide))))
  ((refine X.f rfl ?_; first | refine z_ifeq (fun c => ?_) (fun c => ?_) | refine z_ifne (fun c => ?_) (fun c => ?_) | refine z_iflt (fun c => ?_) (fun c => ?_) | refine z_ifge (fun c => ?_) (fun c => ?_) | refine z_ifgt (fun c => ?_) (fun c => ?_) | refine z_ifle (fun c => ?_) (fun c => ?_) | refine z_ieq (fun c => ?_) (fun c => ?_) | refine z_ine (fun c => ?_) (fun c => ?_) | refine z_ilt (fun c => ?_) (fun c => ?_) | refine z_ige (fun c => ?_) (fun c => ?_) | refine z_igt (fun c => ?_) (fun c => ?_) | refine z_ile (fun c => ?_) (fun c => ?_)) <;> try (exfalso; first | (with_reducible exact absurd rfl c) | (with_reducible exact absurd (Int32.le_refl _) c) | (exact absurd c (by decide)) | (exact absurd c (by with_reducible assumption)) | (exact absurd (by with_reducible assumption) c)))
  iterate 2 ((refine X.f rfl ?_; first | refine z_iload rfl ?_ | refine z_aload rfl ?_ | refine z_push ?_ | refine z_istoreN rfl rfl ?_ | refine z_astoreN rfl rfl ?_ | refine z_istore rfl ?_ | refine z_astore rfl ?_ | refine z_gP rfl rfl ?_ | refine z_gI rfl ?_ | refine z_gotoF rfl ?_ | refine z_iadd ?_ | refine z_isub ?_ | refine z_imul ?_ | refine z_iand ?_ | refine z_ior ?_ | refine z_ishl ?_ | refine z_ishr ?_ | refine z_ixor ?_ | refine z_ineg ?_ | refine z_pI rfl ?_ | refine z_inc80 rfl ?_ | refine z_inc81 rfl ?_ | refine z_dup ?_ | refine z_dupr ?_ | refine z_dup2 ?_ | refine z_pop ?_ | (refine z_idiv ?sd1 ?_; (case sd1 => decide)) | (refine z_irem ?sd1 ?_; (case sd1 => decide)) | (refine z_iaload rfl ?sd1 ?sd2 ?sd3 ?_; (case sd1 => first | with_reducible assumption | decide | grind); (case sd2 => first | with_reducible assumption | decide | grind); (case sd3 => decide)) | (refine z_iastore rfl ?sd1 ?sd2 ?sd3 ?_; (case sd1 => first | with_reducible assumption | decide | grind); (case sd2 => first | with_reducible assumption | decide | grind); (case sd3 => decide))))
  ((refine X.f rfl ?_; first | refine z_ifeq (fun c => ?_) (fun c => ?_) | refine z_ifne (fun c => ?_) (fun c => ?_) | refine z_iflt (fun c => ?_) (fun c => ?_) | refine z_ifge (fun c => ?_) (fun c => ?_) | refine z_ifgt (fun c => ?_) (fun c => ?_) | refine z_ifle (fun c => ?_) (fun c => ?_) | refine z_ieq (fun c => ?_) (fun c => ?_) | refine z_ine (fun c => ?_) (fun c => ?_) | refine z_ilt (fun c => ?_) (fun c => ?_) | refine z_ige (fun c => ?_) (fun c => ?_) | refine z_igt (fun c => ?_) (fun c => ?_) | refine z_ile (fun c => ?_) (fun c => ?_)) <;> try (exfalso; first | (with_reducible exact absurd rfl c) | (with_reducible exact absurd (Int32.le_refl _) c) | (exact absurd c (by decide)) | (exact absurd c (by with_reducible assumption)) | (exact absurd (by with_reducible assumption) c)))
  iterate 5 ((refine X.f rfl ?_; first | refine z_iload rfl ?_ | refine z_aload rfl ?_ | refine z_push ?_ | refine z_istoreN rfl rfl ?_ | refine z_astoreN rfl rfl ?_ | refine z_istore rfl ?_ | refine z_astore rfl ?_ | refine z_gP rfl rfl ?_ | refine z_gI rfl ?_ | refine z_gotoF rfl ?_ | refine z_iadd ?_ | refine z_isub ?_ | refine z_imul ?_ | refine z_iand ?_ | refine z_ior ?_ | refine z_ishl ?_ | refine z_ishr ?_ | refine z_ixor ?_ | refine z_ineg ?_ | refine z_pI rfl ?_ | refine z_inc80 rfl ?_ | refine z_inc81 rfl ?_ | refine z_dup ?_ | refine z_dupr ?_ | refine z_dup2 ?_ | refine z_pop ?_ | (refine z_idiv ?sd1 ?_; (case sd1 => decide)) | (refine z_irem ?sd1 ?_; (case sd1 => decide)) | (refine z_iaload rfl ?sd1 ?sd2 ?sd3 ?_; (case sd1 => first | with_reducible assumption | decide | grind); (case sd2 => first | with_reducible assumption | decide | grind); (case sd3 => decide)) | (refine z_iastore rfl ?sd1 ?sd2 ?sd3 ?_; (case sd1 => first | with_reducible assumption | decide | grind); (case sd2 => first | with_reducible assumption | decide | grind); (case sd3 => decide))))
  ((refine X.f rfl ?_; first | refine z_ifeq (fun c => ?_) (fun c => ?_) | refine z_ifne (fun c => ?_) (fun c => ?_) | refine z_iflt (fun c => ?_) (fun c => ?_) | refine z_ifge (fun c => ?_) (fun c => ?_) | refine z_ifgt (fun c => ?_) (fun c => ?_) | refine z_ifle (fun c => ?_) (fun c => ?_) | refine z_ieq (fun c => ?_) (fun c => ?_) | refine z_ine (fun c => ?_) (fun c => ?_) | refine z_ilt (fun c => ?_) (fun c => ?_) | refine z_ige (fun c => ?_) (fun c => ?_) | refine z_igt (fun c => ?_) (fun c => ?_) | refine z_ile (fun c => ?_) (fun c => ?_)) <;> try (exfalso; first | (with_reducible exact absurd rfl c) | (with_reducible exact absurd (Int32.le_refl _) c) | (exact absurd c (by decide)) | (exact absurd c (by with_reducible assumption)) | (exact absurd (by with_reducible assumption) c)))
  iterate 2 ((refine X.f rfl ?_; first | refine z_iload rfl ?_ | refine z_aload rfl ?_ | refine z_push ?_ | refine z_istoreN rfl rfl ?_ | refine z_astoreN rfl rfl ?_ | refine z_istore rfl ?_ | refine z_astore rfl ?_ | refine z_gP rfl rfl ?_ | refine z_gI rfl ?_ | refine z_gotoF rfl ?_ | refine z_iadd ?_ | refine z_isub ?_ | refine z_imul ?_ | refine z_iand ?_ | refine z_ior ?_ | refine z_ishl ?_ | refine z_ishr ?_ | refine z_ixor ?_ | refine z_ineg ?_ | refine z_pI rfl ?_ | refine z_inc80 rfl ?_ | refine z_inc81 rfl ?_ | refine z_dup ?_ | refine z_dupr ?_ | refine z_dup2 ?_ | refine z_pop ?_ | (refine z_idiv ?sd1 ?_; (case sd1 => decide)) | (refine z_irem ?sd1 ?_; (case sd1 => decide)) | (refine z_iaload rfl ?sd1 ?sd2 ?sd3 ?_; (case sd1 => first | with_reducible assumption | decide | grind); (case sd2 => first | with_reducible assumption | decide | grind); (case sd3 => decide)) | (refine z_iastore rfl ?sd1 ?sd2 ?sd3 ?_; (case sd1 => first | with_reducible assumption | decide | grind); (case sd2 => first | with_reducible assumption | decide | grind); (case sd3 => decide))))
  ((refine X.f rfl ?_; first | refine z_ifeq (fun c => ?_) (fun c => ?_) | refine z_ifne (fun c => ?_) (fun c => ?_) | refine z_iflt (fun c => ?_) (fun c => ?_) | refine z_ifge (fun c => ?_) (fun c => ?_) | refine z_ifgt (fun c => ?_) (fun c => ?_) | refine z_ifle (fun c => ?_) (fun c => ?_) | refine z_ieq (fun c => ?_) (fun c => ?_) | refine z_ine (fun c => ?_) (fun c => ?_) | refine z_ilt (fun c => ?_) (fun c => ?_) | refine z_ige (fun c => ?_) (fun c => ?_) | refine z_igt (fun c => ?_) (fun c => ?_) | refine z_ile (fun c => ?_) (fun c => ?_)) <;> try (exfalso; first | (with_reducible exact absurd rfl c) | (with_reducible exact absurd (Int32.le_refl _) c) | (exact absurd c (by decide)) | (exact absurd c (by with_reducible assumption)) | (exact absurd (by with_reducible assumption) c)))
  iterate 5 ((refine X.f rfl ?_; first | refine z_iload rfl ?_ | refine z_aload rfl ?_ | refine z_push ?_ | refine z_istoreN rfl rfl ?_ | refine z_astoreN rfl rfl ?_ | refine z_istore rfl ?_ | refine z_astore rfl ?_ | refine z_gP rfl rfl ?_ | refine z_gI rfl ?_ | refine z_gotoF rfl ?_ | refine z_iadd ?_ | refine z_isub ?_ | refine z_imul ?_ | refine z_iand ?_ | refine z_ior ?_ | refine z_ishl ?_ | refine z_ishr ?_ | refine z_ixor ?_ | refine z_ineg ?_ | refine z_pI rfl ?_ | refine z_inc80 rfl ?_ | refine z_inc81 rfl ?_ | refine z_dup ?_ | refine z_dupr ?_ | refine z_dup2 ?_ | refine z_pop ?_ | (refine z_idiv ?sd1 ?_; (case sd1 => decide)) | (refine z_irem ?sd1 ?_; (case sd1 => decide)) | (refine z_iaload rfl ?sd1 ?sd2 ?sd3 ?_; (case sd1 => first | with_reducible assumption | decide | grind); (case sd2 => first | with_reducible assumption | decide | grind); (case sd3 => decide)) | (refine z_iastore rfl ?sd1 ?sd2 ?sd3 ?_; (case sd1 => first | with_reducible assumption | decide | grind); (case sd2 => first | with_reducible assumption | decide | grind); (case sd3 => decide))))
  ((refine X.f rfl ?_; first | refine z_ifeq (fun c => ?_) (fun c => ?_) | refine z_ifne (fun c => ?_) (fun c => ?_) | refine z_iflt (fun c => ?_) (fun c => ?_) | refine z_ifge (fun c => ?_) (fun c => ?_) | refine z_ifgt (fun c => ?_) (fun c => ?_) | refine z_ifle (fun c => ?_) (fun c => ?_) | refine z_ieq (fun c => ?_) (fun c => ?_) | refine z_ine (fun c => ?_) (fun c => ?_) | refine z_ilt (fun c => ?_) (fun c => ?_) | refine z_ige (fun c => ?_) (fun c => ?_) | refine z_igt (fun c => ?_) (fun c => ?_) | refine z_ile (fun c => ?_) (fun c => ?_)) <;> try (exfalso; first | (with_reducible exact absurd rfl c) | (with_reducible exact absurd (Int32.le_refl _) c) | (exact absurd c (by decide)) | (exact absurd c (by with_reducible assumption)) | (exact absurd (by with_reducible assumption) c)))
  iterate 4 ((refine X.f rfl ?_; first | refine z_iload rfl ?_ | refine z_aload rfl ?_ | refine z_push ?_ | refine z_istoreN rfl rfl ?_ | refine z_astoreN rfl rfl ?_ | refine z_istore rfl ?_ | refine z_astore rfl ?_ | refine z_gP rfl rfl ?_ | refine z_gI rfl ?_ | refine z_gotoF rfl ?_ | refine z_iadd ?_ | refine z_isub ?_ | refine z_imul ?_ | refine z_iand ?_ | refine z_ior ?_ | refine z_ishl ?_ | refine z_ishr ?_ | refine z_ixor ?_ | refine z_ineg ?_ | refine z_pI rfl ?_ | refine z_inc80 rfl ?_ | refine z_inc81 rfl ?_ | refine z_dup ?_ | refine z_dupr ?_ | refine z_dup2 ?_ | refine z_pop ?_ | (refine z_idiv ?sd1 ?_; (case sd1 => decide)) | (refine z_irem ?sd1 ?_; (case sd1 => decide)) | (refine z_iaload rfl ?sd1 ?sd2 ?sd3 ?_; (case sd1 => first | with_reducible assumption | decide | grind); (case sd2 => first | with_reducible assumption | decide | grind); (case sd3 => decide)) | (refine z_iastore rfl ?sd1 ?sd2 ?sd3 ?_; (case sd1 => first | with_reducible assumption | decide | grind); (case sd2 => first | with_reducible assumption | decide | grind); (case sd3 => decide))))
  rw [xu_id0]
  iterate 2 ((refine X.f rfl ?_; first | refine z_iload rfl ?_ | refine z_aload rfl ?_ | refine z_push ?_ | refine z_istoreN rfl rfl ?_ | refine z_astoreN rfl rfl ?_ | refine z_istore rfl ?_ | refine z_astore rfl ?_ | refine z_gP rfl rfl ?_ | refine z_gI rfl ?_ | refine z_gotoF rfl ?_ | refine z_iadd ?_ | refine z_isub ?_ | refine z_imul ?_ | refine z_iand ?_ | refine z_ior ?_ | refine z_ishl ?_ | refine z_ishr ?_ | refine z_ixor ?_ | refine z_ineg ?_ | refine z_pI rfl ?_ | refine z_inc80 rfl ?_ | refine z_inc81 rfl ?_ | refine z_dup ?_ | refine z_dupr ?_ | refine z_dup2 ?_ | refine z_pop ?_ | (refine z_idiv ?sd1 ?_; (case sd1 => decide)) | (refine z_irem ?sd1 ?_; (case sd1 => decide)) | (refine z_iaload rfl ?sd1 ?sd2 ?sd3 ?_; (case sd1 => first | with_reducible assumption | decide | grind); (case sd2 => first | with_reducible assumption | decide | grind); (case sd3 => decide)) | (refine z_iastore rfl ?sd1 ?sd2 ?sd3 ?_; (case sd1 => first | with_reducible assumption | decide | grind); (case sd2 => first | with_reducible assumption | decide | grind); (case sd3 => decide))))
  ((refine X.f rfl ?_; first | refine z_ifeq (fun c => ?_) (fun c => ?_) | refine z_ifne (fun c => ?_) (fun c => ?_) | refine z_iflt (fun c => ?_) (fun c => ?_) | refine z_ifge (fun c => ?_) (fun c => ?_) | refine z_ifgt (fun c => ?_) (fun c => ?_) | refine z_ifle (fun c => ?_) (fun c => ?_) | refine z_ieq (fun c => ?_) (fun c => ?_) | refine z_ine (fun c => ?_) (fun c => ?_) | refine z_ilt (fun c => ?_) (fun c => ?_) | refine z_ige (fun c => ?_) (fun c => ?_) | refine z_igt (fun c => ?_) (fun c => ?_) | refine z_ile (fun c => ?_) (fun c => ?_)) <;> try (exfalso; first | (with_reducible exact absurd rfl c) | (with_reducible exact absurd (Int32.le_refl _) c) | (exact absurd c (by decide)) | (exact absurd c (by with_reducible assumption)) | (exact absurd (by with_reducible assumption) c)))
  iterate 2 ((refine X.f rfl ?_; first | refine z_iload rfl ?_ | refine z_aload rfl ?_ | refine z_push ?_ | refine z_istoreN rfl rfl ?_ | refine z_astoreN rfl rfl ?_ | refine z_istore rfl ?_ | refine z_astore rfl ?_ | refine z_gP rfl rfl ?_ | refine z_gI rfl ?_ | refine z_gotoF rfl ?_ | refine z_iadd ?_ | refine z_isub ?_ | refine z_imul ?_ | refine z_iand ?_ | refine z_ior ?_ | refine z_ishl ?_ | refine z_ishr ?_ | refine z_ixor ?_ | refine z_ineg ?_ | refine z_pI rfl ?_ | refine z_inc80 rfl ?_ | refine z_inc81 rfl ?_ | refine z_dup ?_ | refine z_dupr ?_ | refine z_dup2 ?_ | refine z_pop ?_ | (refine z_idiv ?sd1 ?_; (case sd1 => decide)) | (refine z_irem ?sd1 ?_; (case sd1 => decide)) | (refine z_iaload rfl ?sd1 ?sd2 ?sd3 ?_; (case sd1 => first | with_reducible assumption | decide | grind); (case sd2 => first | with_reducible assumption | decide | grind); (case sd3 => decide)) | (refine z_iastore rfl ?sd1 ?sd2 ?sd3 ?_; (case sd1 => first | with_reducible assumption | decide | grind); (case sd2 => first | with_reducible assumption | decide | grind); (case sd3 => decide))))
  exact x_ret rfl rfl ⟨rfl, rfl⟩
theorem q_takeToldG {but : Int32} (hB : rdB I J T) (hL : nmR (F 226 19) (J 236) (I 238) L) (hf : F 226 8 = f) (ok : okF f) (hj : f = 0 → F 226 7 = nI j ∧ j ≤ (toks T).length) : Y e 3 M_X12_takeTold [.ref 226, .int 1, .int 20, .int but] (F, I, G, J, P0 ha hb ea eb, Q0, S0) (tgP F I G J ha hb ea eb (chF f (toE T L 20 but j)) (toV T L 20 j) (j + 1)) := by
  rcases ok with rfl | h9
  · rw [chF_00]
    exact q_takeToldR hB (hj rfl).2 (hj rfl).1 hf hL
  · have h8 : f ≠ 0 := fun q => h9 (by rw [q]; decide)
    rw [chF_n h8]
    refine Y.post (q_takeTold_f (by rw [hf]; exact h8) (by rw [hf]; exact h9)) ?_
    rintro w M' ⟨rfl, rfl⟩
    exact ⟨by rw [if_neg h8], _, rfl, to7.refl _, hf, fun q => absurd q h8⟩
theorem rfD.pers {kd to : Int32} {x : List Int32} (hD : rfD F I J D) (hx : okNm x) (h5 : hP D.1 < 5) (f13 : F' 226 13 = F 226 13) (f19 : F' 226 19 = nI (D.2.1.length + 1)) (f20 : F' 226 20 = F 226 20) (e232 : I' 232 = up (up (up (I 232) (40 + nI 1) (nI (hP D.1 + 1))) (58 + 3 * nI (hP D.1)) kd) (58 + 3 * nI (hP D.1) + 1) to) (e238 : I' 238 = up (I 238) (nI D.2.1.length) (nI (20 + hP D.1))) (e233 : I' 233 = I 233) (e234 : I' 234 = I 234) (hJ : J' = xv J 236 (nI D.2.1.length) (p37 x 0)) : rfD F' I' J' (addPD D x kd to) := by
  obtain ⟨a40, a7, a41, a5, a42, aR, aP, aN, aL, a20, aC⟩ := hD
  have n0 : 0 ≤ nI (hP D.1) := nI_pos' (by omega)
  have n7 : nI (hP D.1) < 5 := (nI_ltI (b := 5) (by omega) (by omega)).mpr h5
  have z0 : (40 : Int32) + nI 1 = 41 := by decide
  rw [z0] at e232
  unfold addPD
  generalize hn : nI (hP D.1) = n at *
  refine ⟨?_, a7, ?_, h5, ?_, fun s s0 s7 => ⟨?_, ?_⟩, fun p p0 p5 => ⟨?_, ?_, ?_⟩, nmR.snoc aN (by omega) f19 (fun i hi => ?_) ?_ (fun i hi => ?_) ?_ hx (by omega), ?_, f20.trans a20, aC.off f13 ?_ e233 e234⟩
  · rw [e232, up_ne (by grind), up_ne (by grind), up_ne (by grind)]
    exact a40
  · rw [e232, up_ne (by grind), up_ne (by grind), up_self]
  · rw [e232, up_ne (by grind), up_ne (by grind), up_ne (by grind)]
    exact a42
  · rw [e232, up_ne (by grind), up_ne (by grind), up_ne (by grind)]
    show _ = if (0 : Nat) = 3 ∧ s = n then to else if (0 : Nat) = 2 ∧ s = n then kd else hRow D.1 s
    rw [if_neg (fun q => absurd q.1 (by decide)), if_neg (fun q => absurd q.1 (by decide))]
    exact (aR s s0 s7).1
  · rw [e232, up_ne (by grind), up_ne (by grind), up_ne (by grind)]
    show _ = if (5 : Nat) = 3 ∧ s = n then to else if (5 : Nat) = 2 ∧ s = n then kd else hAt D.1 s
    rw [if_neg (fun q => absurd q.1 (by decide)), if_neg (fun q => absurd q.1 (by decide))]
    exact (aR s s0 s7).2
  · show _ = if (2 : Nat) = 3 ∧ p = n then to else if (2 : Nat) = 2 ∧ p = n then kd else hKind D.1 p
    rw [if_neg (fun q => absurd q.1 (by decide)), e232, up_ne (by grind)]
    by_cases hs : p = n
    · rw [hs, up_self, if_pos ⟨rfl, rfl⟩]
    · rw [if_neg (fun q => hs q.2), up_ne (by grind), up_ne (by grind)]
      exact (aP p p0 p5).1
  · show _ = if (3 : Nat) = 3 ∧ p = n then to else if (3 : Nat) = 2 ∧ p = n then kd else hTold D.1 p
    rw [if_neg (c := (3 : Nat) = 2 ∧ p = n) (fun q => absurd q.1 (by decide)), e232]
    by_cases hs : p = n
    · rw [hs, up_self, if_pos ⟨rfl, rfl⟩]
    · rw [if_neg (fun q => hs q.2), up_ne (by grind), up_ne (by grind), up_ne (by grind)]
      exact (aP p p0 p5).2.1
  · rw [e232, up_ne (by grind), up_ne (by grind), up_ne (by grind)]
    show _ = if (4 : Nat) = 3 ∧ p = n then to else if (4 : Nat) = 2 ∧ p = n then kd else hFoes D.1 p
    rw [if_neg (fun q => absurd q.1 (by decide)), if_neg (fun q => absurd q.1 (by decide))]
    exact (aP p p0 p5).2.2
  · rw [hJ]
    unfold xv
    exact if_neg (fun q => nI_ne (by omega) (by omega) (by omega) q.2)
  · rw [hJ]
    unfold xv
    exact if_pos ⟨rfl, rfl⟩
  · rw [e238]
    exact up_ne (nI_ne (by omega) (by omega) (by omega))
  · rw [e238, up_self]
  · show (D.2.1 ++ [(x, 20 + hP D.1)]).length = hN D.1 + (hP D.1 + 1)
    rw [List.length_append, aL]
    show hN D.1 + hP D.1 + 1 = _
    omega
  · rw [e232, up_ne (by grind), up_ne (by grind), up_ne (by grind)]
theorem persD_add {T : List Int32} {j : Nat} {D : DV} : persD T j D = addPD D (txA T (j + 1)) (onK T (j + 2) 13 4) (numA T (j + 4)) := rfl
theorem onE_lt {fr mn : Nat} (hT : T.length ≤ 1000) (hm : mn < 1000) (h : onE T fr mn j = 0) : j < (toks T).length ∧ ∃ k, k < mn ∧ onK T j fr mn = nI k := by
  unfold onE at h
  split at h
  · exact absurd h (wr_gt2 hT (by decide) (by decide) _)
  · rename_i h1
    obtain ⟨k, k1, k2, k3⟩ := onK_neg hm h1
    exact ⟨isW_lt k3, k, k1, k2⟩
set_option maxHeartbeats 4000000 in
theorem q_linePers (hD : rfD F I J D) (hB : rdB I J T) (hj : j < (toks T).length) (h7 : F 226 7 = nI j) (h8 : F 226 8 = 0) : ∀ L', lle [some (.ref 226), none, none, none] L' → X e 4 M_X12_readLine.2.2 11 L' [] (F, I, G, J, P0 ha hb ea eb, Q0, S0) (lnP F I G J ha hb ea eb T (persF T j D) (j + 5) (persD T j D)) := by
  intro L' hL'
  obtain ⟨a40, a7, a41, a5, a42, aR, aP, aN, aL, a20, aC⟩ := id hD
  have hT := hB.1
  have z0 : (40 : Int32) + nI 1 = 41 := by decide
  have eF : persF T j D = chF (chF (if hP D.1 = 5 then bad T 5 j else nnE T D.2.1 (j + 1)) (onE T 13 4 (j + 2))) (afE T 4 0 9 (j + 3)) := by
    unfold persF
    by_cases q : hP D.1 = 5
    · rw [if_pos q, if_pos q]
      have := wr_gt2 hT (x := 5) (by decide) (by decide) j
      rw [chF_n (f := bad T 5 j) this, chF_n (f := bad T 5 j) this]
    · rw [if_neg q, if_neg q]
      unfold chF
      by_cases q1 : nnE T D.2.1 (j + 1) = 0
      · simp only [q1, ne_eq, not_true_eq_false, if_false]
      · simp only [q1, ne_eq, not_false_eq_true, if_true]
  have ok1 : okF (if hP D.1 = 5 then bad T 5 j else nnE T D.2.1 (j + 1)) := by
    split
    · exact okF_bad hT (by decide) (by decide)
    · exact nnE_ok hT
  have in1 : (if hP D.1 = 5 then bad T 5 j else nnE T D.2.1 (j + 1)) = 0 → hP D.1 < 5 ∧ isNm T (j + 1) = true := by
    intro q
    split at q
    · exact absurd q (wr_gt2 hT (by decide) (by decide) j)
    · exact ⟨by omega, (nnE_0 hT q).1⟩
  rw [eF]
  refine X.weak hL' ?_
  clear hL'
  iterate 6 ((refine X.f rfl ?_; first | refine z_iload rfl ?_ | refine z_aload rfl ?_ | refine z_push ?_ | refine z_istoreN rfl rfl ?_ | refine z_astoreN rfl rfl ?_ | refine z_istore rfl ?_ | refine z_astore rfl ?_ | refine z_gP rfl rfl ?_ | refine z_gI rfl ?_ | refine z_gotoF rfl ?_ | refine z_iadd ?_ | refine z_isub ?_ | refine z_imul ?_ | refine z_iand ?_ | refine z_ior ?_ | refine z_ishl ?_ | refine z_ishr ?_ | refine z_ixor ?_ | refine z_ineg ?_ | refine z_pI rfl ?_ | refine z_inc80 rfl ?_ | refine z_inc81 rfl ?_ | refine z_dup ?_ | refine z_dupr ?_ | refine z_dup2 ?_ | refine z_pop ?_ | (refine z_idiv ?sd1 ?_; (case sd1 => decide)) | (refine z_irem ?sd1 ?_; (case sd1 => decide)) | (refine z_iaload rfl ?sd1 ?sd2 ?sd3 ?_; (case sd1 => first | with_reducible assumption | decide | grind); (case sd2 => first | with_reducible assumption | decide | grind); (case sd3 => decide)) | (refine z_iastore rfl ?sd1 ?sd2 ?sd3 ?_; (case sd1 => first | with_reducible assumption | decide | grind); (case sd2 => first | with_reducible assumption | decide | grind); (case sd3 => decide))))
  rw [a41]
  iterate 7 ((refine X.f rfl ?_; first | refine z_iload rfl ?_ | refine z_aload rfl ?_ | refine z_push ?_ | refine z_istoreN rfl rfl ?_ | refine z_astoreN rfl rfl ?_ | refine z_istore rfl ?_ | refine z_astore rfl ?_ | refine z_gP rfl rfl ?_ | refine z_gI rfl ?_ | refine z_gotoF rfl ?_ | refine z_iadd ?_ | refine z_isub ?_ | refine z_imul ?_ | refine z_iand ?_ | refine z_ior ?_ | refine z_ishl ?_ | refine z_ishr ?_ | refine z_ixor ?_ | refine z_ineg ?_ | refine z_pI rfl ?_ | refine z_inc80 rfl ?_ | refine z_inc81 rfl ?_ | refine z_dup ?_ | refine z_dupr ?_ | refine z_dup2 ?_ | refine z_pop ?_ | (refine z_idiv ?sd1 ?_; (case sd1 => decide)) | (refine z_irem ?sd1 ?_; (case sd1 => decide)) | (refine z_iaload rfl ?sd1 ?sd2 ?sd3 ?_; (case sd1 => first | with_reducible assumption | decide | grind); (case sd2 => first | with_reducible assumption | decide | grind); (case sd3 => decide)) | (refine z_iastore rfl ?sd1 ?sd2 ?sd3 ?_; (case sd1 => first | with_reducible assumption | decide | grind); (case sd2 => first | with_reducible assumption | decide | grind); (case sd3 => decide))))
  refine X.f rfl (z_cv (q_readName (mi := 1) (most := 5) (fr := 20) (n := hP D.1) ⟨rfl, rfl, rfl⟩ (by omega) (by omega) (by omega) (by rw [z0]; exact a41) a5 hB hj h7 h8 aN (fun q => by omega)) rfl (by rfl) (by rfl) rfl rfl rfl rfl ?_)
  rintro _ _ ⟨rfl, F1, I1, J1, rfl, o1, f1, off1, on1⟩
  dsimp only [Option.toList, List.nil_append]
  generalize (if hP D.1 = 5 then bad T 5 j else nnE T D.2.1 (j + 1)) = fA at *
  obtain ⟨r1, u1⟩ := rnP.fr (mi := 1) (by omega) o1 off1 on1
  have hB1 := r1.B hB
  iterate 3 ((refine X.f rfl ?_; first | refine z_iload rfl ?_ | refine z_aload rfl ?_ | refine z_push ?_ | refine z_istoreN rfl rfl ?_ | refine z_astoreN rfl rfl ?_ | refine z_istore rfl ?_ | refine z_astore rfl ?_ | refine z_gP rfl rfl ?_ | refine z_gI rfl ?_ | refine z_gotoF rfl ?_ | refine z_iadd ?_ | refine z_isub ?_ | refine z_imul ?_ | refine z_iand ?_ | refine z_ior ?_ | refine z_ishl ?_ | refine z_ishr ?_ | refine z_ixor ?_ | refine z_ineg ?_ | refine z_pI rfl ?_ | refine z_inc80 rfl ?_ | refine z_inc81 rfl ?_ | refine z_dup ?_ | refine z_dupr ?_ | refine z_dup2 ?_ | refine z_pop ?_ | (refine z_idiv ?sd1 ?_; (case sd1 => decide)) | (refine z_irem ?sd1 ?_; (case sd1 => decide)) | (refine z_iaload rfl ?sd1 ?sd2 ?sd3 ?_; (case sd1 => first | with_reducible assumption | decide | grind); (case sd2 => first | with_reducible assumption | decide | grind); (case sd3 => decide)) | (refine z_iastore rfl ?sd1 ?sd2 ?sd3 ?_; (case sd1 => first | with_reducible assumption | decide | grind); (case sd2 => first | with_reducible assumption | decide | grind); (case sd3 => decide))))
  refine X.f rfl (z_cv (q_takeOneG (fr := 13) (mn := 4) (j := j + 2) ⟨rfl, rfl, by omega⟩ hB1 f1 ok1 (fun q => ⟨(on1 q).1, isNm_lt (in1 q).2⟩)) rfl (by rfl) (by rfl) rfl rfl rfl rfl ?_)
  rintro _ _ ⟨rfl, F2, rfl, t2, f2, j2⟩
  dsimp only [Option.toList, List.singleton_append]
  iterate 5 ((refine X.f rfl ?_; first | refine z_iload rfl ?_ | refine z_aload rfl ?_ | refine z_push ?_ | refine z_istoreN rfl rfl ?_ | refine z_astoreN rfl rfl ?_ | refine z_istore rfl ?_ | refine z_astore rfl ?_ | refine z_gP rfl rfl ?_ | refine z_gI rfl ?_ | refine z_gotoF rfl ?_ | refine z_iadd ?_ | refine z_isub ?_ | refine z_imul ?_ | refine z_iand ?_ | refine z_ior ?_ | refine z_ishl ?_ | refine z_ishr ?_ | refine z_ixor ?_ | refine z_ineg ?_ | refine z_pI rfl ?_ | refine z_inc80 rfl ?_ | refine z_inc81 rfl ?_ | refine z_dup ?_ | refine z_dupr ?_ | refine z_dup2 ?_ | refine z_pop ?_ | (refine z_idiv ?sd1 ?_; (case sd1 => decide)) | (refine z_irem ?sd1 ?_; (case sd1 => decide)) | (refine z_iaload rfl ?sd1 ?sd2 ?sd3 ?_; (case sd1 => first | with_reducible assumption | decide | grind); (case sd2 => first | with_reducible assumption | decide | grind); (case sd3 => decide)) | (refine z_iastore rfl ?sd1 ?sd2 ?sd3 ?_; (case sd1 => first | with_reducible assumption | decide | grind); (case sd2 => first | with_reducible assumption | decide | grind); (case sd3 => decide))))
  refine X.f rfl (z_cv (q_takeAfterG (x := 4) (j := j + 3) ⟨by omega, rfl⟩ hB1 f2 (ok1.ch (onE_ok hT)) (fun q => ⟨j2 q, (onE_lt hT (by omega) (chF_0 q).2).1⟩)) rfl (by rfl) (by rfl) rfl rfl rfl rfl ?_)
  rintro _ _ ⟨rfl, F3, rfl, t3, f3, j3⟩
  dsimp only [Option.toList, List.singleton_append]
  have r3 : rfF F F3 I I1 J J1 := (r1.trans (rfF.f7 t2)).trans (rfF.f7 t3)
  iterate 3 ((refine X.f rfl ?_; first | refine z_iload rfl ?_ | refine z_aload rfl ?_ | refine z_push ?_ | refine z_istoreN rfl rfl ?_ | refine z_astoreN rfl rfl ?_ | refine z_istore rfl ?_ | refine z_astore rfl ?_ | refine z_gP rfl rfl ?_ | refine z_gI rfl ?_ | refine z_gotoF rfl ?_ | refine z_iadd ?_ | refine z_isub ?_ | refine z_imul ?_ | refine z_iand ?_ | refine z_ior ?_ | refine z_ishl ?_ | refine z_ishr ?_ | refine z_ixor ?_ | refine z_ineg ?_ | refine z_pI rfl ?_ | refine z_inc80 rfl ?_ | refine z_inc81 rfl ?_ | refine z_dup ?_ | refine z_dupr ?_ | refine z_dup2 ?_ | refine z_pop ?_ | (refine z_idiv ?sd1 ?_; (case sd1 => decide)) | (refine z_irem ?sd1 ?_; (case sd1 => decide)) | (refine z_iaload rfl ?sd1 ?sd2 ?sd3 ?_; (case sd1 => first | with_reducible assumption | decide | grind); (case sd2 => first | with_reducible assumption | decide | grind); (case sd3 => decide)) | (refine z_iastore rfl ?sd1 ?sd2 ?sd3 ?_; (case sd1 => first | with_reducible assumption | decide | grind); (case sd2 => first | with_reducible assumption | decide | grind); (case sd3 => decide))))
  rw [f3]
  first | refine X.f rfl (z_ifeq (fun c => ?_) (fun c => ?_)) | refine X.f rfl (z_ifne (fun c => ?_) (fun c => ?_)) | refine X.f rfl (z_iflt (fun c => ?_) (fun c => ?_)) | refine X.f rfl (z_ifge (fun c => ?_) (fun c => ?_)) | refine X.f rfl (z_ifgt (fun c => ?_) (fun c => ?_)) | refine X.f rfl (z_ifle (fun c => ?_) (fun c => ?_)) | refine X.f rfl (z_ieq (fun c => ?_) (fun c => ?_)) | refine X.f rfl (z_ine (fun c => ?_) (fun c => ?_)) | refine X.f rfl (z_ilt (fun c => ?_) (fun c => ?_)) | refine X.f rfl (z_ige (fun c => ?_) (fun c => ?_)) | refine X.f rfl (z_igt (fun c => ?_) (fun c => ?_)) | refine X.f rfl (z_ile (fun c => ?_) (fun c => ?_))
  · iterate 1 ((refine X.f rfl ?_; first | refine z_iload rfl ?_ | refine z_aload rfl ?_ | refine z_push ?_ | refine z_istoreN rfl rfl ?_ | refine z_astoreN rfl rfl ?_ | refine z_istore rfl ?_ | refine z_astore rfl ?_ | refine z_gP rfl rfl ?_ | refine z_gI rfl ?_ | refine z_gotoF rfl ?_ | refine z_iadd ?_ | refine z_isub ?_ | refine z_imul ?_ | refine z_iand ?_ | refine z_ior ?_ | refine z_ishl ?_ | refine z_ishr ?_ | refine z_ixor ?_ | refine z_ineg ?_ | refine z_pI rfl ?_ | refine z_inc80 rfl ?_ | refine z_inc81 rfl ?_ | refine z_dup ?_ | refine z_dupr ?_ | refine z_dup2 ?_ | refine z_pop ?_ | (refine z_idiv ?sd1 ?_; (case sd1 => decide)) | (refine z_irem ?sd1 ?_; (case sd1 => decide)) | (refine z_iaload rfl ?sd1 ?sd2 ?sd3 ?_; (case sd1 => first | with_reducible assumption | decide | grind); (case sd2 => first | with_reducible assumption | decide | grind); (case sd3 => decide)) | (refine z_iastore rfl ?sd1 ?sd2 ?sd3 ?_; (case sd1 => first | with_reducible assumption | decide | grind); (case sd2 => first | with_reducible assumption | decide | grind); (case sd3 => decide))))
    exact x_ret rfl rfl ⟨rfl, F3, I1, J1, rfl, r3, f3, fun q => absurd q c⟩
  · have z3 := Classical.not_not.mp c
    have z2 := (chF_0 z3).1
    have z1 := (chF_0 z2).1
    rw [z3] at f3
    obtain ⟨n7, hnm⟩ := in1 z1
    obtain ⟨-, e19, e1, eJ⟩ := on1 z1
    rw [if_pos z2, if_pos z3, z3]
    have g7 := j3 z3
    have b0 : 0 ≤ nI (hP D.1) := nI_pos' (by omega)
    have b1 : nI (hP D.1) < 5 := (nI_ltI (b := 5) (by omega) (by omega)).mpr n7
    have c0 : 0 ≤ 58 + 3 * nI (hP D.1) := by grind
    have c1 : 58 + 3 * nI (hP D.1) < 80 := by grind
    have c2 : 0 ≤ 58 + 3 * nI (hP D.1) + 1 := by grind
    have c3 : 58 + 3 * nI (hP D.1) + 1 < 80 := by grind
    iterate 13 ((refine X.f rfl ?_; first | refine z_iload rfl ?_ | refine z_aload rfl ?_ | refine z_push ?_ | refine z_istoreN rfl rfl ?_ | refine z_astoreN rfl rfl ?_ | refine z_istore rfl ?_ | refine z_astore rfl ?_ | refine z_gP rfl rfl ?_ | refine z_gI rfl ?_ | refine z_gotoF rfl ?_ | refine z_iadd ?_ | refine z_isub ?_ | refine z_imul ?_ | refine z_iand ?_ | refine z_ior ?_ | refine z_ishl ?_ | refine z_ishr ?_ | refine z_ixor ?_ | refine z_ineg ?_ | refine z_pI rfl ?_ | refine z_inc80 rfl ?_ | refine z_inc81 rfl ?_ | refine z_dup ?_ | refine z_dupr ?_ | refine z_dup2 ?_ | refine z_pop ?_ | (refine z_idiv ?sd1 ?_; (case sd1 => decide)) | (refine z_irem ?sd1 ?_; (case sd1 => decide)) | (refine z_iaload rfl ?sd1 ?sd2 ?sd3 ?_; (case sd1 => first | with_reducible assumption | decide | grind); (case sd2 => first | with_reducible assumption | decide | grind); (case sd3 => decide)) | (refine z_iastore rfl ?sd1 ?sd2 ?sd3 ?_; (case sd1 => first | with_reducible assumption | decide | grind); (case sd2 => first | with_reducible assumption | decide | grind); (case sd3 => decide))))
    have fr : ∀ k, k ≠ 7 → k ≠ 8 → F3 226 k = F1 226 k := fun k h1 h2 => by rw [t3 226 k (by omega), t2 226 k (by omega)]
    refine x_ret rfl rfl ⟨rfl, F3, _, J1, rfl, r3.trans ⟨fun _ _ _ => rfl, fun c h1 _ _ _ => by rw [xv_ne h1, xv_ne h1], fun x hx => ?_, fun x hx => ⟨by rw [xv_ne (by decide), xv_ne (by decide)], by rw [xv_ne (by decide), xv_ne (by decide)]⟩, fun _ _ => rfl⟩, f3, fun _ => ⟨g7, ?_⟩⟩
    · rw [xv_row, row_same, up_ne (by grind), xv_row, row_same, up_ne (by grind)]
    · rw [persD_add]
      refine hD.pers (isNm_1 hnm).2 n7 ?_ ?_ ?_ ?_ ?_ ?_ ?_ eJ
      · rw [fr 13 (by decide) (by decide)]
        exact o1 226 13 (by omega)
      · rw [fr 19 (by decide) (by decide)]
        exact e19
      · rw [fr 20 (by decide) (by decide)]
        exact o1 226 20 (by omega)
      · rw [xv_row, row_same, xv_row, row_same, e1, xv_row, row_same, xv_ne (by decide)]
      · rw [xv_ne (by decide), xv_ne (by decide), e1, xv_ne (by decide), xv_row, row_same]
      · rw [xv_ne (by decide), xv_ne (by decide), e1, xv_ne (by decide), xv_ne (by decide)]
      · rw [xv_ne (by decide), xv_ne (by decide), e1, xv_ne (by decide), xv_ne (by decide)]
end RD
