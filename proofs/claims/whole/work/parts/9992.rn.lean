/-! THE REFERENCE: evening, whole -/
def keP (F : Nat → Nat → Int32) (I : Nat → Int32 → Int32) (G : Nat → Nat → Int64) (J : Nat → Int32 → Int64) (ha hb ea eb : Nat) (T : List Int32) (L : ND) (w : Option Value) (M' : xM) : Prop := w = some (.int (evenP T L).1) ∧ ∃ F' I' J', M' = (F', I', G, J', P0 ha hb ea eb, Q0, S0) ∧ F' 226 2 = 0 ∧ (∀ c k, ¬ (c = 226 ∧ (k = 0 ∨ k = 2 ∨ k = 3 ∨ k = 7 ∨ k = 8)) → F' c k = F c k) ∧ (∀ c, c ≠ 228 → c ≠ 229 → c ≠ 239 → I' c = I c) ∧ (∀ c, c ≠ 230 → J' c = J c) ∧ ((evenP T L).1 ≠ 0 → ∀ x, x < 125 → I' 239 x = I 239 x) ∧ ((evenP T L).1 = 0 → I' 239 0 = nI (evenP T L).2.2.length ∧ (evenP T L).2.2.length ≤ 40 ∧ ∀ k a p s, (evenP T L).2.2[k]? = some (a, p, s) → I' 239 (1 + 3 * nI k) = a ∧ I' 239 (2 + 3 * nI k) = p ∧ I' 239 (3 + 3 * nI k) = s)
section RN
variable {e : Bool × Int32 × (Int32 → Int32)} {d : Nat} {F F' F'' : Nat → Nat → Int32} {I I' I'' : Nat → Int32 → Int32} {G : Nat → Nat → Int64} {J J' J'' : Nat → Int32 → Int64} {ha hb ea eb : Nat} {T : List Int32} {j : Nat} {f g : Int32} {L : ND} {D : DV} {E : LN}
theorem nI_3 {n : Nat} : nI (3 * n) = 3 * nI n := by
  rw [show 3 * n = n + n + n by omega, nI_addN, nI_addN]
  grind
theorem evF_okF {n : Nat} (hT : T.length ≤ 1000) : okF (evF T L n j) := by
  unfold evF
  repeat' split
  all_goals first | exact Or.inl rfl | exact okF_bad hT (by decide) (by decide) | exact toE_ok hT
theorem evsP_okF (hT : T.length ≤ 1000) : ∀ (m j : Nat) (E : LN), okF (evsP T L m j E).1
  | 0, _, _ => Or.inl rfl
  | m + 1, j, E => by
    unfold evsP
    split
    · exact Or.inl rfl
    split
    · exact evF_okF hT
    split
    · exact evsP_okF hT m _ _
    · exact okF_bad hT (by decide) (by decide)
set_option maxHeartbeats 4000000 in
theorem k_evening (hn2 : T.length ≤ 1000) (hT : tapR (F 226 2) (I 227) T) (hw : ∀ x, x < 24 → J 231 (nI x) = p37 (wdx x) 0) (hL : nmR (F 226 18) (J 235) (I 237) L) : Y e 4 M_X12_evening [.ref 226] (F, I, G, J, P0 ha hb ea eb, Q0, S0) (keP F I G J ha hb ea eb T L) := by
  unfold Y
  iterate 4 ((refine X.f rfl ?_; first | refine z_iload rfl ?_ | refine z_aload rfl ?_ | refine z_push ?_ | refine z_istoreN rfl rfl ?_ | refine z_astoreN rfl rfl ?_ | refine z_istore rfl ?_ | refine z_astore rfl ?_ | refine z_gP rfl rfl ?_ | refine z_gI rfl ?_ | refine z_gotoF rfl ?_ | refine z_iadd ?_ | refine z_isub ?_ | refine z_imul ?_ | refine z_iand ?_ | refine z_ior ?_ | refine z_ishl ?_ | refine z_ishr ?_ | refine z_ixor ?_ | refine z_ineg ?_ | refine z_pI rfl ?_ | refine z_inc80 rfl ?_ | refine z_inc81 rfl ?_ | refine z_dup ?_ | refine z_dupr ?_ | refine z_dup2 ?_ | refine z_pop ?_ | (refine z_idiv ?sd1 ?_; (case sd1 => decide)) | (refine z_irem ?sd1 ?_; (case sd1 => decide)) | (refine z_iaload rfl ?sd1 ?sd2 ?sd3 ?_; (case sd1 => first | with_reducible assumption | decide | grind); (case sd2 => first | with_reducible assumption | decide | grind); (case sd3 => decide)) | (refine z_iastore rfl ?sd1 ?sd2 ?sd3 ?_; (case sd1 => first | with_reducible assumption | decide | grind); (case sd2 => first | with_reducible assumption | decide | grind); (case sd3 => decide))))
  refine X.f rfl (z_cv (q_cutAll hn2 (show tapR (xu F 226 0 0 226 2) (I 227) T by rw [xu_ne (by omega)]; exact hT)) rfl (by rfl) (by rfl) rfl rfl rfl rfl ?_)
  rintro _ _ ⟨rfl, I1, J1, rfl, i1, j1, tk, e228, e229⟩
  dsimp only [Option.toList, List.nil_append]
  have hB1 : rdB I1 J1 T := ⟨hn2, tk, e228, e229, fun x hx => by rw [j1 231 (by decide)]; exact hw x hx⟩
  generalize hF2 : xu (xu (xu (xu (xu F 226 0 0) 226 3 (nI T.length)) 226 2 0) 226 7 0) 226 8 0 = F2
  have fr : ∀ c k, ¬ (c = 226 ∧ (k = 0 ∨ k = 2 ∨ k = 3 ∨ k = 7 ∨ k = 8)) → F2 c k = F c k := fun c k hc => by
    rw [← hF2, xu_ne (by omega), xu_ne (by omega), xu_ne (by omega), xu_ne (by omega), xu_ne (by omega)]
  have f2 : F2 226 2 = 0 := by rw [← hF2]; simp [xu]
  have f7 : F2 226 7 = nI 0 := by rw [← hF2]; simp [xu]; rfl
  have f8 : F2 226 8 = 0 := by rw [← hF2]; simp [xu]
  have f18 : F2 226 18 = F 226 18 := fr 226 18 (by omega)
  clear hF2
  iterate 2 ((refine X.f rfl ?_; first | refine z_iload rfl ?_ | refine z_aload rfl ?_ | refine z_push ?_ | refine z_istoreN rfl rfl ?_ | refine z_astoreN rfl rfl ?_ | refine z_istore rfl ?_ | refine z_astore rfl ?_ | refine z_gP rfl rfl ?_ | refine z_gI rfl ?_ | refine z_gotoF rfl ?_ | refine z_iadd ?_ | refine z_isub ?_ | refine z_imul ?_ | refine z_iand ?_ | refine z_ior ?_ | refine z_ishl ?_ | refine z_ishr ?_ | refine z_ixor ?_ | refine z_ineg ?_ | refine z_pI rfl ?_ | refine z_inc80 rfl ?_ | refine z_inc81 rfl ?_ | refine z_dup ?_ | refine z_dupr ?_ | refine z_dup2 ?_ | refine z_pop ?_ | (refine z_idiv ?sd1 ?_; (case sd1 => decide)) | (refine z_irem ?sd1 ?_; (case sd1 => decide)) | (refine z_iaload rfl ?sd1 ?sd2 ?sd3 ?_; (case sd1 => first | with_reducible assumption | decide | grind); (case sd2 => first | with_reducible assumption | decide | grind); (case sd3 => decide)) | (refine z_iastore rfl ?sd1 ?sd2 ?sd3 ?_; (case sd1 => first | with_reducible assumption | decide | grind); (case sd2 => first | with_reducible assumption | decide | grind); (case sd3 => decide))))
  refine q_evLoop (L := L) 1000 0 [] F2 I1 (by have := toks_len T; omega) (Nat.zero_le _) f7 f8 hB1 (by rw [f18, j1 235 (by decide), i1 237 (by decide) (by decide)]; exact hL) (fun k a p s hk => by cases hk) (Nat.zero_le _) (fun F3 I3 L' r3 f3 n3 hL' => ?_) _ (by repeat (first | exact trivial | refine ⟨by first | with_reducible rfl | exact congrArg (fun q => some (Value.int q)) (by first | with_reducible rfl | with_reducible assumption | exact (nI_succ _).symm | grind [nI_0]) | rfl, ?_⟩))
  have ok := evsP_okF (L := L) hn2 1000 0 []
  change F3 226 8 = (evenP T L).1 at f3
  change (evenP T L).1 = 0 → evR (I3 239) (evenP T L).2.2 ∧ (evenP T L).2.2.length ≤ 40 ∧ lle [some (.ref 226), some (.int (nI (evenP T L).2.2.length)), none, none] L' at n3
  change okF (evenP T L).1 at ok
  have g2 : F3 226 2 = 0 := (r3.1 226 2 (by omega)).trans f2
  have frF : ∀ c k, ¬ (c = 226 ∧ (k = 0 ∨ k = 2 ∨ k = 3 ∨ k = 7 ∨ k = 8)) → F3 c k = F c k := fun c k hc => by rw [r3.1 c k (by omega), fr c k hc]
  have frI : ∀ c, c ≠ 228 → c ≠ 229 → c ≠ 239 → I3 c = I c := fun c c1 c2 c3 => by rw [r3.2.1 c c3, i1 c c1 c2]
  unfold keP
  generalize evenP T L = R at *
  by_cases h0 : R.1 = 0
  · obtain ⟨hE, hl, hL2⟩ := n3 h0
    clear n3 hL'
    refine X.weak hL2 ?_
    clear hL2
    rw [h0] at f3
    rw [h0]
    iterate 2 ((refine X.f rfl ?_; first | refine z_iload rfl ?_ | refine z_aload rfl ?_ | refine z_push ?_ | refine z_istoreN rfl rfl ?_ | refine z_astoreN rfl rfl ?_ | refine z_istore rfl ?_ | refine z_astore rfl ?_ | refine z_gP rfl rfl ?_ | refine z_gI rfl ?_ | refine z_gotoF rfl ?_ | refine z_iadd ?_ | refine z_isub ?_ | refine z_imul ?_ | refine z_iand ?_ | refine z_ior ?_ | refine z_ishl ?_ | refine z_ishr ?_ | refine z_ixor ?_ | refine z_ineg ?_ | refine z_pI rfl ?_ | refine z_inc80 rfl ?_ | refine z_inc81 rfl ?_ | refine z_dup ?_ | refine z_dupr ?_ | refine z_dup2 ?_ | refine z_pop ?_ | (refine z_idiv ?sd1 ?_; (case sd1 => decide)) | (refine z_irem ?sd1 ?_; (case sd1 => decide)) | (refine z_iaload rfl ?sd1 ?sd2 ?sd3 ?_; (case sd1 => first | with_reducible assumption | decide | grind); (case sd2 => first | with_reducible assumption | decide | grind); (case sd3 => decide)) | (refine z_iastore rfl ?sd1 ?sd2 ?sd3 ?_; (case sd1 => first | with_reducible assumption | decide | grind); (case sd2 => first | with_reducible assumption | decide | grind); (case sd3 => decide))))
    rw [f3]
    ((refine X.f rfl ?_; first | refine z_ifeq (fun c => ?_) (fun c => ?_) | refine z_ifne (fun c => ?_) (fun c => ?_) | refine z_iflt (fun c => ?_) (fun c => ?_) | refine z_ifge (fun c => ?_) (fun c => ?_) | refine z_ifgt (fun c => ?_) (fun c => ?_) | refine z_ifle (fun c => ?_) (fun c => ?_) | refine z_ieq (fun c => ?_) (fun c => ?_) | refine z_ine (fun c => ?_) (fun c => ?_) | refine z_ilt (fun c => ?_) (fun c => ?_) | refine z_ige (fun c => ?_) (fun c => ?_) | refine z_igt (fun c => ?_) (fun c => ?_) | refine z_ile (fun c => ?_) (fun c => ?_)) <;> try (exfalso; first | (with_reducible exact absurd rfl c) | (with_reducible exact absurd (Int32.le_refl _) c) | (exact absurd c (by decide)) | (exact absurd c (by with_reducible assumption)) | (exact absurd (by with_reducible assumption) c)))
    iterate 7 ((refine X.f rfl ?_; first | refine z_iload rfl ?_ | refine z_aload rfl ?_ | refine z_push ?_ | refine z_istoreN rfl rfl ?_ | refine z_astoreN rfl rfl ?_ | refine z_istore rfl ?_ | refine z_astore rfl ?_ | refine z_gP rfl rfl ?_ | refine z_gI rfl ?_ | refine z_gotoF rfl ?_ | refine z_iadd ?_ | refine z_isub ?_ | refine z_imul ?_ | refine z_iand ?_ | refine z_ior ?_ | refine z_ishl ?_ | refine z_ishr ?_ | refine z_ixor ?_ | refine z_ineg ?_ | refine z_pI rfl ?_ | refine z_inc80 rfl ?_ | refine z_inc81 rfl ?_ | refine z_dup ?_ | refine z_dupr ?_ | refine z_dup2 ?_ | refine z_pop ?_ | (refine z_idiv ?sd1 ?_; (case sd1 => decide)) | (refine z_irem ?sd1 ?_; (case sd1 => decide)) | (refine z_iaload rfl ?sd1 ?sd2 ?sd3 ?_; (case sd1 => first | with_reducible assumption | decide | grind); (case sd2 => first | with_reducible assumption | decide | grind); (case sd3 => decide)) | (refine z_iastore rfl ?sd1 ?sd2 ?sd3 ?_; (case sd1 => first | with_reducible assumption | decide | grind); (case sd2 => first | with_reducible assumption | decide | grind); (case sd3 => decide))))
    have en : nI (3 * R.2.2.length) = 3 * nI R.2.2.length := nI_3
    have x239 : ∀ x, xv I3 239 0 x 239 = up (I3 239) 0 x := fun x => by rw [xv_row, row_same]
    refine x_forR (3 * R.2.2.length) (fun i (_ : Unit) => [some (.ref 226), some (.int (nI R.2.2.length)), some (.int (nI i)), none]) (fun i _ M => ∃ I', M = (F3, I', G, J1, P0 ha hb ea eb, Q0, S0) ∧ (∀ c, c ≠ 239 → I' c = I3 c) ∧ ∀ x, I' 239 x = if 1 ≤ x ∧ x < 1 + nI i then I3 239 (124 + x) else up (I3 239) 0 (nI R.2.2.length) x) (fun i _ M hi hM k => ?_) (fun _ M hM => ?_) (i := 0) (a := ()) (by omega) ⟨_, rfl, fun c hc => xv_ne hc, fun x => ?_⟩ (by repeat (first | exact trivial | refine ⟨by first | with_reducible rfl | exact congrArg (fun q => some (Value.int q)) (by first | with_reducible rfl | with_reducible assumption | exact (nI_succ _).symm | grind [nI_0]) | rfl, ?_⟩))
    · obtain ⟨I', rfl, q1, q2⟩ := hM
      have i0 : 0 ≤ nI i := nI_pos' (by omega)
      have i1 : nI i < 120 := (nI_ltI (b := 120) (by omega) (by omega)).mpr (by omega)
      have i2 : ¬ nI (3 * R.2.2.length) ≤ nI i := by rw [nI_leI (by omega) (by omega)]; omega
      rw [en] at i2
      have b0 : 0 ≤ 1 + nI i := by grind
      have b1 : 1 + nI i < 250 := by grind
      have b2 : 0 ≤ 125 + nI i := by grind
      have b3 : 125 + nI i < 250 := by grind
      have e1 : I' 239 (125 + nI i) = I3 239 (125 + nI i) := by
        rw [q2, if_neg (fun z => absurd z.2 (by grind)), up_ne (by grind)]
      iterate 4 ((refine X.f rfl ?_; first | refine z_iload rfl ?_ | refine z_aload rfl ?_ | refine z_push ?_ | refine z_istoreN rfl rfl ?_ | refine z_astoreN rfl rfl ?_ | refine z_istore rfl ?_ | refine z_astore rfl ?_ | refine z_gP rfl rfl ?_ | refine z_gI rfl ?_ | refine z_gotoF rfl ?_ | refine z_iadd ?_ | refine z_isub ?_ | refine z_imul ?_ | refine z_iand ?_ | refine z_ior ?_ | refine z_ishl ?_ | refine z_ishr ?_ | refine z_ixor ?_ | refine z_ineg ?_ | refine z_pI rfl ?_ | refine z_inc80 rfl ?_ | refine z_inc81 rfl ?_ | refine z_dup ?_ | refine z_dupr ?_ | refine z_dup2 ?_ | refine z_pop ?_ | (refine z_idiv ?sd1 ?_; (case sd1 => decide)) | (refine z_irem ?sd1 ?_; (case sd1 => decide)) | (refine z_iaload rfl ?sd1 ?sd2 ?sd3 ?_; (case sd1 => first | with_reducible assumption | decide | grind); (case sd2 => first | with_reducible assumption | decide | grind); (case sd3 => decide)) | (refine z_iastore rfl ?sd1 ?sd2 ?sd3 ?_; (case sd1 => first | with_reducible assumption | decide | grind); (case sd2 => first | with_reducible assumption | decide | grind); (case sd3 => decide))))
      ((refine X.f rfl ?_; first | refine z_ifeq (fun c => ?_) (fun c => ?_) | refine z_ifne (fun c => ?_) (fun c => ?_) | refine z_iflt (fun c => ?_) (fun c => ?_) | refine z_ifge (fun c => ?_) (fun c => ?_) | refine z_ifgt (fun c => ?_) (fun c => ?_) | refine z_ifle (fun c => ?_) (fun c => ?_) | refine z_ieq (fun c => ?_) (fun c => ?_) | refine z_ine (fun c => ?_) (fun c => ?_) | refine z_ilt (fun c => ?_) (fun c => ?_) | refine z_ige (fun c => ?_) (fun c => ?_) | refine z_igt (fun c => ?_) (fun c => ?_) | refine z_ile (fun c => ?_) (fun c => ?_)) <;> try (exfalso; first | (with_reducible exact absurd rfl c) | (with_reducible exact absurd (Int32.le_refl _) c) | (exact absurd c (by decide)) | (exact absurd c (by with_reducible assumption)) | (exact absurd (by with_reducible assumption) c)))
      iterate 11 ((refine X.f rfl ?_; first | refine z_iload rfl ?_ | refine z_aload rfl ?_ | refine z_push ?_ | refine z_istoreN rfl rfl ?_ | refine z_astoreN rfl rfl ?_ | refine z_istore rfl ?_ | refine z_astore rfl ?_ | refine z_gP rfl rfl ?_ | refine z_gI rfl ?_ | refine z_gotoF rfl ?_ | refine z_iadd ?_ | refine z_isub ?_ | refine z_imul ?_ | refine z_iand ?_ | refine z_ior ?_ | refine z_ishl ?_ | refine z_ishr ?_ | refine z_ixor ?_ | refine z_ineg ?_ | refine z_pI rfl ?_ | refine z_inc80 rfl ?_ | refine z_inc81 rfl ?_ | refine z_dup ?_ | refine z_dupr ?_ | refine z_dup2 ?_ | refine z_pop ?_ | (refine z_idiv ?sd1 ?_; (case sd1 => decide)) | (refine z_irem ?sd1 ?_; (case sd1 => decide)) | (refine z_iaload rfl ?sd1 ?sd2 ?sd3 ?_; (case sd1 => first | with_reducible assumption | decide | grind); (case sd2 => first | with_reducible assumption | decide | grind); (case sd3 => decide)) | (refine z_iastore rfl ?sd1 ?sd2 ?sd3 ?_; (case sd1 => first | with_reducible assumption | decide | grind); (case sd2 => first | with_reducible assumption | decide | grind); (case sd3 => decide))))
      rw [e1]
      iterate 2 ((refine X.f rfl ?_; first | refine z_iload rfl ?_ | refine z_aload rfl ?_ | refine z_push ?_ | refine z_istoreN rfl rfl ?_ | refine z_astoreN rfl rfl ?_ | refine z_istore rfl ?_ | refine z_astore rfl ?_ | refine z_gP rfl rfl ?_ | refine z_gI rfl ?_ | refine z_gotoF rfl ?_ | refine z_iadd ?_ | refine z_isub ?_ | refine z_imul ?_ | refine z_iand ?_ | refine z_ior ?_ | refine z_ishl ?_ | refine z_ishr ?_ | refine z_ixor ?_ | refine z_ineg ?_ | refine z_pI rfl ?_ | refine z_inc80 rfl ?_ | refine z_inc81 rfl ?_ | refine z_dup ?_ | refine z_dupr ?_ | refine z_dup2 ?_ | refine z_pop ?_ | (refine z_idiv ?sd1 ?_; (case sd1 => decide)) | (refine z_irem ?sd1 ?_; (case sd1 => decide)) | (refine z_iaload rfl ?sd1 ?sd2 ?sd3 ?_; (case sd1 => first | with_reducible assumption | decide | grind); (case sd2 => first | with_reducible assumption | decide | grind); (case sd3 => decide)) | (refine z_iastore rfl ?sd1 ?sd2 ?sd3 ?_; (case sd1 => first | with_reducible assumption | decide | grind); (case sd2 => first | with_reducible assumption | decide | grind); (case sd3 => decide))))
      refine X.f rfl (z_goto (k () _ _ ⟨_, rfl, fun c hc => by rw [xv_ne hc]; exact q1 c hc, fun x => ?_⟩ ?_))
      · rw [xv_row, row_same, nI_succ]
        by_cases hx : x = 1 + nI i
        · rw [hx, up_self, if_pos ⟨by grind, by grind⟩, show 124 + (1 + nI i) = 125 + nI i by grind]
        · rw [up_ne hx, q2]
          by_cases hy : 1 ≤ x ∧ x < 1 + nI i
          · rw [if_pos hy, if_pos ⟨hy.1, by grind⟩]
          · rw [if_neg hy, if_neg (fun z => hy ⟨z.1, by grind⟩)]
      · repeat (first | exact trivial | refine ⟨by first | with_reducible rfl | exact congrArg (fun q => some (Value.int q)) (by first | with_reducible rfl | with_reducible assumption | exact (nI_succ _).symm | grind [nI_0]) | rfl, ?_⟩)
    · obtain ⟨I', rfl, q1, q2⟩ := hM
      have i3 : 3 * nI R.2.2.length ≤ nI (3 * R.2.2.length) := by rw [en]; exact Int32.le_refl _
      iterate 4 ((refine X.f rfl ?_; first | refine z_iload rfl ?_ | refine z_aload rfl ?_ | refine z_push ?_ | refine z_istoreN rfl rfl ?_ | refine z_astoreN rfl rfl ?_ | refine z_istore rfl ?_ | refine z_astore rfl ?_ | refine z_gP rfl rfl ?_ | refine z_gI rfl ?_ | refine z_gotoF rfl ?_ | refine z_iadd ?_ | refine z_isub ?_ | refine z_imul ?_ | refine z_iand ?_ | refine z_ior ?_ | refine z_ishl ?_ | refine z_ishr ?_ | refine z_ixor ?_ | refine z_ineg ?_ | refine z_pI rfl ?_ | refine z_inc80 rfl ?_ | refine z_inc81 rfl ?_ | refine z_dup ?_ | refine z_dupr ?_ | refine z_dup2 ?_ | refine z_pop ?_ | (refine z_idiv ?sd1 ?_; (case sd1 => decide)) | (refine z_irem ?sd1 ?_; (case sd1 => decide)) | (refine z_iaload rfl ?sd1 ?sd2 ?sd3 ?_; (case sd1 => first | with_reducible assumption | decide | grind); (case sd2 => first | with_reducible assumption | decide | grind); (case sd3 => decide)) | (refine z_iastore rfl ?sd1 ?sd2 ?sd3 ?_; (case sd1 => first | with_reducible assumption | decide | grind); (case sd2 => first | with_reducible assumption | decide | grind); (case sd3 => decide))))
      ((refine X.f rfl ?_; first | refine z_ifeq (fun c => ?_) (fun c => ?_) | refine z_ifne (fun c => ?_) (fun c => ?_) | refine z_iflt (fun c => ?_) (fun c => ?_) | refine z_ifge (fun c => ?_) (fun c => ?_) | refine z_ifgt (fun c => ?_) (fun c => ?_) | refine z_ifle (fun c => ?_) (fun c => ?_) | refine z_ieq (fun c => ?_) (fun c => ?_) | refine z_ine (fun c => ?_) (fun c => ?_) | refine z_ilt (fun c => ?_) (fun c => ?_) | refine z_ige (fun c => ?_) (fun c => ?_) | refine z_igt (fun c => ?_) (fun c => ?_) | refine z_ile (fun c => ?_) (fun c => ?_)) <;> try (exfalso; first | (with_reducible exact absurd rfl c) | (with_reducible exact absurd (Int32.le_refl _) c) | (exact absurd c (by decide)) | (exact absurd c (by with_reducible assumption)) | (exact absurd (by with_reducible assumption) c)))
      iterate 1 ((refine X.f rfl ?_; first | refine z_iload rfl ?_ | refine z_aload rfl ?_ | refine z_push ?_ | refine z_istoreN rfl rfl ?_ | refine z_astoreN rfl rfl ?_ | refine z_istore rfl ?_ | refine z_astore rfl ?_ | refine z_gP rfl rfl ?_ | refine z_gI rfl ?_ | refine z_gotoF rfl ?_ | refine z_iadd ?_ | refine z_isub ?_ | refine z_imul ?_ | refine z_iand ?_ | refine z_ior ?_ | refine z_ishl ?_ | refine z_ishr ?_ | refine z_ixor ?_ | refine z_ineg ?_ | refine z_pI rfl ?_ | refine z_inc80 rfl ?_ | refine z_inc81 rfl ?_ | refine z_dup ?_ | refine z_dupr ?_ | refine z_dup2 ?_ | refine z_pop ?_ | (refine z_idiv ?sd1 ?_; (case sd1 => decide)) | (refine z_irem ?sd1 ?_; (case sd1 => decide)) | (refine z_iaload rfl ?sd1 ?sd2 ?sd3 ?_; (case sd1 => first | with_reducible assumption | decide | grind); (case sd2 => first | with_reducible assumption | decide | grind); (case sd3 => decide)) | (refine z_iastore rfl ?sd1 ?sd2 ?sd3 ?_; (case sd1 => first | with_reducible assumption | decide | grind); (case sd2 => first | with_reducible assumption | decide | grind); (case sd3 => decide))))
      refine x_ret rfl rfl ⟨rfl, F3, I', J1, rfl, g2, frF, fun c c1 c2 c3 => by rw [q1 c c3]; exact frI c c1 c2 c3, j1, fun q => absurd rfl q, fun _ => ⟨?_, hl, fun k a p s hk => ?_⟩⟩
      · rw [q2, if_neg (fun z => absurd z.1 (by decide)), up_self]
      · have hk2 := (List.getElem?_eq_some_iff.mp hk).1
        have k0 : 0 ≤ nI k := nI_pos' (by omega)
        have k1 : nI k < nI R.2.2.length := (nI_ltI (by omega) (by omega)).mpr hk2
        have k2 : nI R.2.2.length ≤ 40 := (nI_leI (b := 40) (by omega) (by omega)).mpr hl
        obtain ⟨r1, r2, r3⟩ := hE k a p s hk
        rw [q2, q2, q2, if_pos ⟨by grind, by rw [en]; grind⟩, if_pos ⟨by grind, by rw [en]; grind⟩, if_pos ⟨by grind, by rw [en]; grind⟩]
        rw [show 124 + (1 + 3 * nI k) = 125 + 3 * nI k by grind, show 124 + (2 + 3 * nI k) = 125 + 3 * nI k + 1 by grind, show 124 + (3 + 3 * nI k) = 125 + 3 * nI k + 2 by grind]
        exact ⟨r1, r2, r3⟩
    · rw [x239, if_neg (fun z => ?_)]
      have : nI 0 = 0 := rfl
      rw [this] at z
      grind
  · have h9 : ¬ R.1 ≤ 0 := ok.resolve_left h0
    refine X.weak hL' ?_
    clear hL'
    iterate 2 ((refine X.f rfl ?_; first | refine z_iload rfl ?_ | refine z_aload rfl ?_ | refine z_push ?_ | refine z_istoreN rfl rfl ?_ | refine z_astoreN rfl rfl ?_ | refine z_istore rfl ?_ | refine z_astore rfl ?_ | refine z_gP rfl rfl ?_ | refine z_gI rfl ?_ | refine z_gotoF rfl ?_ | refine z_iadd ?_ | refine z_isub ?_ | refine z_imul ?_ | refine z_iand ?_ | refine z_ior ?_ | refine z_ishl ?_ | refine z_ishr ?_ | refine z_ixor ?_ | refine z_ineg ?_ | refine z_pI rfl ?_ | refine z_inc80 rfl ?_ | refine z_inc81 rfl ?_ | refine z_dup ?_ | refine z_dupr ?_ | refine z_dup2 ?_ | refine z_pop ?_ | (refine z_idiv ?sd1 ?_; (case sd1 => decide)) | (refine z_irem ?sd1 ?_; (case sd1 => decide)) | (refine z_iaload rfl ?sd1 ?sd2 ?sd3 ?_; (case sd1 => first | with_reducible assumption | decide | grind); (case sd2 => first | with_reducible assumption | decide | grind); (case sd3 => decide)) | (refine z_iastore rfl ?sd1 ?sd2 ?sd3 ?_; (case sd1 => first | with_reducible assumption | decide | grind); (case sd2 => first | with_reducible assumption | decide | grind); (case sd3 => decide))))
    rw [f3]
    ((refine X.f rfl ?_; first | refine z_ifeq (fun c => ?_) (fun c => ?_) | refine z_ifne (fun c => ?_) (fun c => ?_) | refine z_iflt (fun c => ?_) (fun c => ?_) | refine z_ifge (fun c => ?_) (fun c => ?_) | refine z_ifgt (fun c => ?_) (fun c => ?_) | refine z_ifle (fun c => ?_) (fun c => ?_) | refine z_ieq (fun c => ?_) (fun c => ?_) | refine z_ine (fun c => ?_) (fun c => ?_) | refine z_ilt (fun c => ?_) (fun c => ?_) | refine z_ige (fun c => ?_) (fun c => ?_) | refine z_igt (fun c => ?_) (fun c => ?_) | refine z_ile (fun c => ?_) (fun c => ?_)) <;> try (exfalso; first | (with_reducible exact absurd rfl c) | (with_reducible exact absurd (Int32.le_refl _) c) | (exact absurd c (by decide)) | (exact absurd c (by with_reducible assumption)) | (exact absurd (by with_reducible assumption) c)))
    iterate 2 ((refine X.f rfl ?_; first | refine z_iload rfl ?_ | refine z_aload rfl ?_ | refine z_push ?_ | refine z_istoreN rfl rfl ?_ | refine z_astoreN rfl rfl ?_ | refine z_istore rfl ?_ | refine z_astore rfl ?_ | refine z_gP rfl rfl ?_ | refine z_gI rfl ?_ | refine z_gotoF rfl ?_ | refine z_iadd ?_ | refine z_isub ?_ | refine z_imul ?_ | refine z_iand ?_ | refine z_ior ?_ | refine z_ishl ?_ | refine z_ishr ?_ | refine z_ixor ?_ | refine z_ineg ?_ | refine z_pI rfl ?_ | refine z_inc80 rfl ?_ | refine z_inc81 rfl ?_ | refine z_dup ?_ | refine z_dupr ?_ | refine z_dup2 ?_ | refine z_pop ?_ | (refine z_idiv ?sd1 ?_; (case sd1 => decide)) | (refine z_irem ?sd1 ?_; (case sd1 => decide)) | (refine z_iaload rfl ?sd1 ?sd2 ?sd3 ?_; (case sd1 => first | with_reducible assumption | decide | grind); (case sd2 => first | with_reducible assumption | decide | grind); (case sd3 => decide)) | (refine z_iastore rfl ?sd1 ?sd2 ?sd3 ?_; (case sd1 => first | with_reducible assumption | decide | grind); (case sd2 => first | with_reducible assumption | decide | grind); (case sd3 => decide))))
    rw [f3]
    exact x_ret rfl rfl ⟨rfl, F3, I3, J1, rfl, g2, frF, frI, j1, fun _ x hx => by rw [r3.2.2 x hx, i1 239 (by decide) (by decide)], fun q => absurd q h0⟩
end RN
