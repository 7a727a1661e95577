/-! THE REFERENCE: the tape is fed -/
def told (c : Int32) : Bool := decide (c = 10 ∨ (32 ≤ c ∧ c ≤ 126))
def feed1 (T : List Int32) (c : Int32) : List Int32 := if told c = true ∧ T.length < 1000 then T ++ [c] else T
def shK (i : Nat) : Int32 := 56 - 8 * nI i
def sgnR (x : Int64) (i : Nat) : Int32 := (x >>> ((shK i).toInt64 &&& 63)).toInt32 &&& 255
def layK (x : Int64) (T : List Int32) : Nat → List Int32
  | 0 => T
  | i + 1 => feed1 (layK x T i) (sgnR x i)
def tapR (n : Int32) (st : Int32 → Int32) (T : List Int32) : Prop := n = nI T.length ∧ T.length ≤ 1000 ∧ ∀ k c, T[k]? = some c → st (nI k) = c
theorem tapR_add {st : Int32 → Int32} {T : List Int32} {c n : Int32} (h : tapR n st T) (hl : T.length < 1000) : tapR (nI (T.length + 1)) (up st (nI T.length) c) (T ++ [c]) := by
  obtain ⟨-, -, h3⟩ := h
  refine ⟨by simp, by simp; omega, fun k x hk => ?_⟩
  by_cases hkl : k = T.length
  · subst hkl
    simp at hk
    rw [up_self, hk]
  · have hk2 : k < T.length := by
      have := (List.getElem?_eq_some_iff.mp hk).1
      simp at this
      omega
    rw [List.getElem?_append_left hk2] at hk
    rw [up_ne (nI_ne (by omega) (by omega) hkl)]
    exact h3 k x hk
section RP
variable {e : Bool × Int32 × (Int32 → Int32)} {F : Nat → Nat → Int32} {I : Nat → Int32 → Int32} {G : Nat → Nat → Int64} {J : Nat → Int32 → Int64} {ha hb ea eb : Nat} {T : List Int32}
def onlyT (F F' : Nat → Nat → Int32) (I I' : Nat → Int32 → Int32) : Prop := (∀ c k, ¬ (c = 226 ∧ k = 2) → F' c k = F c k) ∧ ∀ c, c ≠ 227 → I' c = I c
theorem shK_succ {i : Nat} : shK i + -8 = shK (i + 1) := by
  unfold shK
  rw [nI_succ]
  grind
theorem q_layJ {x : Int64} (hT : tapR (F 226 2) (I 227) T) : Y e 0 M_X12_lay [.ref 226, .long x] (F, I, G, J, P0 ha hb ea eb, Q0, S0) (fun w M' => w = none ∧ ∃ F' I', M' = (F', I', G, J, P0 ha hb ea eb, Q0, S0) ∧ onlyT F F' I I' ∧ tapR (F' 226 2) (I' 227) (layK x T 8)) := by
  unfold Y
  iterate 2 ((refine X.f rfl ?_; first | refine z_iload rfl ?_ | refine z_aload rfl ?_ | refine z_push ?_ | refine z_istoreN rfl rfl ?_ | refine z_astoreN rfl rfl ?_ | refine z_istore rfl ?_ | refine z_astore rfl ?_ | refine z_gP rfl rfl ?_ | refine z_gI rfl ?_ | refine z_gotoF rfl ?_ | refine z_iadd ?_ | refine z_isub ?_ | refine z_imul ?_ | refine z_iand ?_ | refine z_ior ?_ | refine z_ishl ?_ | refine z_ishr ?_ | refine z_ixor ?_ | refine z_ineg ?_ | refine z_pI rfl ?_ | refine z_inc80 rfl ?_ | refine z_inc81 rfl ?_ | refine z_dup ?_ | refine z_dupr ?_ | refine z_dup2 ?_ | refine z_pop ?_ | (refine z_idiv ?sd1 ?_; (case sd1 => decide)) | (refine z_irem ?sd1 ?_; (case sd1 => decide)) | (refine z_iaload rfl ?sd1 ?sd2 ?sd3 ?_; (case sd1 => first | with_reducible assumption | decide | grind); (case sd2 => first | with_reducible assumption | decide | grind); (case sd3 => decide)) | (refine z_iastore rfl ?sd1 ?sd2 ?sd3 ?_; (case sd1 => first | with_reducible assumption | decide | grind); (case sd2 => first | with_reducible assumption | decide | grind); (case sd3 => decide))))
  refine x_forR 8 (fun i (_ : Unit) => [some (.ref 226), some (.long x), none, some (.int (shK i)), none]) (fun i _ M => ∃ F' I', M = (F', I', G, J, P0 ha hb ea eb, Q0, S0) ∧ onlyT F F' I I' ∧ tapR (F' 226 2) (I' 227) (layK x T i)) (fun i _ M hi hM kk => ?_) (fun _ M hM => ?_) (i := 0) (a := ()) (by omega) ⟨F, I, rfl, ⟨fun _ _ _ => rfl, fun _ _ => rfl⟩, hT⟩ ⟨rfl, rfl, rfl, trivial⟩
  · obtain ⟨F', I', rfl, q, hT'⟩ := hM
    have hs : ¬ shK i < 0 := by
      have : ∀ i, i < 8 → ¬ shK i < 0 := by decide +kernel
      exact this i hi
    have ls : layK x T (i + 1) = feed1 (layK x T i) (sgnR x i) := rfl
    rw [ls] at kk
    obtain ⟨t1, t2, t3⟩ := id hT'
    have sg : (x >>> ((shK i).toInt64 &&& 63)).toInt32 &&& 255 = sgnR x i := rfl
    have e8 : shK i + -8 = shK (i + 1) := shK_succ
    generalize layK x T i = TT at *
    generalize sgnR x i = cc at *
    have n0 : 0 ≤ nI TT.length := nI_pos' (by omega)
    have skip : feed1 TT cc = TT → ∀ L', lle [some (.ref 226), some (.long x), none, some (.int (shK i)), none] L' → X e 0 M_X12_lay.2.2 36 L' [] (F', I', G, J, P0 ha hb ea eb, Q0, S0) (fun w M' => w = none ∧ ∃ F' I', M' = (F', I', G, J, P0 ha hb ea eb, Q0, S0) ∧ onlyT F F' I I' ∧ tapR (F' 226 2) (I' 227) (layK x T 8)) := by
      intro hf L' hL
      refine X.weak hL ?_
      (refine X.f rfl ?_; first | refine z_lload rfl ?_ | refine z_lshr ?_ | refine z_lushr ?_ | refine z_l2i ?_ | refine z_inc82 rfl ?_ | refine z_inc83 rfl ?_ | refine z_gL rfl ?_)
      refine X.f rfl (z_goto (kk () _ _ ⟨F', I', rfl, q, by rw [hf]; exact hT'⟩ ?_))
      rw [e8]
      exact ⟨rfl, rfl, rfl, trivial⟩
    have take : told cc = true → ∀ L', lle [some (.ref 226), some (.long x), none, some (.int (shK i)), some (.int cc)] L' → X e 0 M_X12_lay.2.2 20 L' [] (F', I', G, J, P0 ha hb ea eb, Q0, S0) (fun w M' => w = none ∧ ∃ F' I', M' = (F', I', G, J, P0 ha hb ea eb, Q0, S0) ∧ onlyT F F' I I' ∧ tapR (F' 226 2) (I' 227) (layK x T 8)) := by
      intro htold L' hL
      refine X.weak hL ?_
      repeat' (first | rw [t1] | (refine X.f rfl ?_; first | refine z_iload rfl ?_ | refine z_aload rfl ?_ | refine z_push ?_ | refine z_istoreN rfl rfl ?_ | refine z_astoreN rfl rfl ?_ | refine z_istore rfl ?_ | refine z_astore rfl ?_ | refine z_gP rfl rfl ?_ | refine z_gI rfl ?_ | refine z_gotoF rfl ?_ | refine z_iadd ?_ | refine z_isub ?_ | refine z_imul ?_ | refine z_iand ?_ | refine z_ior ?_ | refine z_ishl ?_ | refine z_ishr ?_ | refine z_ixor ?_ | refine z_ineg ?_ | refine z_pI rfl ?_ | refine z_inc80 rfl ?_ | refine z_inc81 rfl ?_ | refine z_dup ?_ | refine z_dupr ?_ | refine z_dup2 ?_ | refine z_pop ?_ | (refine z_idiv ?sd1 ?_; (case sd1 => decide)) | (refine z_irem ?sd1 ?_; (case sd1 => decide)) | (refine z_iaload rfl ?sd1 ?sd2 ?sd3 ?_; (case sd1 => first | with_reducible assumption | decide | grind); (case sd2 => first | with_reducible assumption | decide | grind); (case sd3 => decide)) | (refine z_iastore rfl ?sd1 ?sd2 ?sd3 ?_; (case sd1 => first | with_reducible assumption | decide | grind); (case sd2 => first | with_reducible assumption | decide | grind); (case sd3 => decide))) | fail)
      ((refine X.f rfl ?_; first | refine z_ifeq (fun c => ?_) (fun c => ?_) | refine z_ifne (fun c => ?_) (fun c => ?_) | refine z_iflt (fun c => ?_) (fun c => ?_) | refine z_ifge (fun c => ?_) (fun c => ?_) | refine z_ifgt (fun c => ?_) (fun c => ?_) | refine z_ifle (fun c => ?_) (fun c => ?_) | refine z_ieq (fun c => ?_) (fun c => ?_) | refine z_ine (fun c => ?_) (fun c => ?_) | refine z_ilt (fun c => ?_) (fun c => ?_) | refine z_ige (fun c => ?_) (fun c => ?_) | refine z_igt (fun c => ?_) (fun c => ?_) | refine z_ile (fun c => ?_) (fun c => ?_)) <;> try (exfalso; first | (with_reducible exact absurd rfl c) | (with_reducible exact absurd (Int32.le_refl _) c) | (exact absurd c (by decide)) | (exact absurd c (by with_reducible assumption)) | (exact absurd (by with_reducible assumption) c)))
      · have c1 : ¬ TT.length < 1000 := by
          intro q
          have := (nI_ltI (a := TT.length) (b := 1000) (by omega) (by omega)).mpr q
          exact absurd c (Int32.not_le.mpr this)
        refine skip (if_neg (fun q => c1 q.2)) _ ?_
        exact ⟨rfl, rfl, rfl, trivial⟩
      · have c1 : nI TT.length < 1000 := Int32.not_le.mp c
        have c2 : TT.length < 1000 := (nI_ltI (a := TT.length) (b := 1000) (by omega) (by omega)).mp c1
        repeat' (first | rw [t1] | (refine X.f rfl ?_; first | refine z_iload rfl ?_ | refine z_aload rfl ?_ | refine z_push ?_ | refine z_istoreN rfl rfl ?_ | refine z_astoreN rfl rfl ?_ | refine z_istore rfl ?_ | refine z_astore rfl ?_ | refine z_gP rfl rfl ?_ | refine z_gI rfl ?_ | refine z_gotoF rfl ?_ | refine z_iadd ?_ | refine z_isub ?_ | refine z_imul ?_ | refine z_iand ?_ | refine z_ior ?_ | refine z_ishl ?_ | refine z_ishr ?_ | refine z_ixor ?_ | refine z_ineg ?_ | refine z_pI rfl ?_ | refine z_inc80 rfl ?_ | refine z_inc81 rfl ?_ | refine z_dup ?_ | refine z_dupr ?_ | refine z_dup2 ?_ | refine z_pop ?_ | (refine z_idiv ?sd1 ?_; (case sd1 => decide)) | (refine z_irem ?sd1 ?_; (case sd1 => decide)) | (refine z_iaload rfl ?sd1 ?sd2 ?sd3 ?_; (case sd1 => first | with_reducible assumption | decide | grind); (case sd2 => first | with_reducible assumption | decide | grind); (case sd3 => decide)) | (refine z_iastore rfl ?sd1 ?sd2 ?sd3 ?_; (case sd1 => first | with_reducible assumption | decide | grind); (case sd2 => first | with_reducible assumption | decide | grind); (case sd3 => decide))) | fail)
        (refine X.f rfl ?_; first | refine z_lload rfl ?_ | refine z_lshr ?_ | refine z_lushr ?_ | refine z_l2i ?_ | refine z_inc82 rfl ?_ | refine z_inc83 rfl ?_ | refine z_gL rfl ?_)
        refine X.f rfl (z_goto (kk () _ _ ⟨_, _, rfl, ?_, ?_⟩ ?_))
        · exact ⟨fun c k hc => by rw [xu_ne hc]; exact q.1 c k hc, fun c hc => by rw [xv_ne hc]; exact q.2 c hc⟩
        · rw [xu_same, xv_row, row_same, ← nI_succ, show feed1 TT cc = TT ++ [cc] from if_pos ⟨htold, c2⟩]
          exact tapR_add hT' c2
        · rw [← e8]
          exact ⟨rfl, rfl, rfl, trivial⟩
    clear kk
    repeat' (first | rw [sg] | (refine X.f rfl ?_; first | refine z_iload rfl ?_ | refine z_aload rfl ?_ | refine z_push ?_ | refine z_istoreN rfl rfl ?_ | refine z_astoreN rfl rfl ?_ | refine z_istore rfl ?_ | refine z_astore rfl ?_ | refine z_gP rfl rfl ?_ | refine z_gI rfl ?_ | refine z_gotoF rfl ?_ | refine z_iadd ?_ | refine z_isub ?_ | refine z_imul ?_ | refine z_iand ?_ | refine z_ior ?_ | refine z_ishl ?_ | refine z_ishr ?_ | refine z_ixor ?_ | refine z_ineg ?_ | refine z_pI rfl ?_ | refine z_inc80 rfl ?_ | refine z_inc81 rfl ?_ | refine z_dup ?_ | refine z_dupr ?_ | refine z_dup2 ?_ | refine z_pop ?_ | (refine z_idiv ?sd1 ?_; (case sd1 => decide)) | (refine z_irem ?sd1 ?_; (case sd1 => decide)) | (refine z_iaload rfl ?sd1 ?sd2 ?sd3 ?_; (case sd1 => first | with_reducible assumption | decide | grind); (case sd2 => first | with_reducible assumption | decide | grind); (case sd3 => decide)) | (refine z_iastore rfl ?sd1 ?sd2 ?sd3 ?_; (case sd1 => first | with_reducible assumption | decide | grind); (case sd2 => first | with_reducible assumption | decide | grind); (case sd3 => decide))) | (refine X.f rfl ?_; first | refine z_lload rfl ?_ | refine z_lshr ?_ | refine z_lushr ?_ | refine z_l2i ?_ | refine z_inc82 rfl ?_ | refine z_inc83 rfl ?_ | refine z_gL rfl ?_))
    ((refine X.f rfl ?_; first | refine z_ifeq (fun c => ?_) (fun c => ?_) | refine z_ifne (fun c => ?_) (fun c => ?_) | refine z_iflt (fun c => ?_) (fun c => ?_) | refine z_ifge (fun c => ?_) (fun c => ?_) | refine z_ifgt (fun c => ?_) (fun c => ?_) | refine z_ifle (fun c => ?_) (fun c => ?_) | refine z_ieq (fun c => ?_) (fun c => ?_) | refine z_ine (fun c => ?_) (fun c => ?_) | refine z_ilt (fun c => ?_) (fun c => ?_) | refine z_ige (fun c => ?_) (fun c => ?_) | refine z_igt (fun c => ?_) (fun c => ?_) | refine z_ile (fun c => ?_) (fun c => ?_)) <;> try (exfalso; first | (with_reducible exact absurd rfl c) | (with_reducible exact absurd (Int32.le_refl _) c) | (exact absurd c (by decide)) | (exact absurd c (by with_reducible assumption)) | (exact absurd (by with_reducible assumption) c)))
    repeat' (first | rw [sg] | (refine X.f rfl ?_; first | refine z_iload rfl ?_ | refine z_aload rfl ?_ | refine z_push ?_ | refine z_istoreN rfl rfl ?_ | refine z_astoreN rfl rfl ?_ | refine z_istore rfl ?_ | refine z_astore rfl ?_ | refine z_gP rfl rfl ?_ | refine z_gI rfl ?_ | refine z_gotoF rfl ?_ | refine z_iadd ?_ | refine z_isub ?_ | refine z_imul ?_ | refine z_iand ?_ | refine z_ior ?_ | refine z_ishl ?_ | refine z_ishr ?_ | refine z_ixor ?_ | refine z_ineg ?_ | refine z_pI rfl ?_ | refine z_inc80 rfl ?_ | refine z_inc81 rfl ?_ | refine z_dup ?_ | refine z_dupr ?_ | refine z_dup2 ?_ | refine z_pop ?_ | (refine z_idiv ?sd1 ?_; (case sd1 => decide)) | (refine z_irem ?sd1 ?_; (case sd1 => decide)) | (refine z_iaload rfl ?sd1 ?sd2 ?sd3 ?_; (case sd1 => first | with_reducible assumption | decide | grind); (case sd2 => first | with_reducible assumption | decide | grind); (case sd3 => decide)) | (refine z_iastore rfl ?sd1 ?sd2 ?sd3 ?_; (case sd1 => first | with_reducible assumption | decide | grind); (case sd2 => first | with_reducible assumption | decide | grind); (case sd3 => decide))) | (refine X.f rfl ?_; first | refine z_lload rfl ?_ | refine z_lshr ?_ | refine z_lushr ?_ | refine z_l2i ?_ | refine z_inc82 rfl ?_ | refine z_inc83 rfl ?_ | refine z_gL rfl ?_))
    ((refine X.f rfl ?_; first | refine z_ifeq (fun c => ?_) (fun c => ?_) | refine z_ifne (fun c => ?_) (fun c => ?_) | refine z_iflt (fun c => ?_) (fun c => ?_) | refine z_ifge (fun c => ?_) (fun c => ?_) | refine z_ifgt (fun c => ?_) (fun c => ?_) | refine z_ifle (fun c => ?_) (fun c => ?_) | refine z_ieq (fun c => ?_) (fun c => ?_) | refine z_ine (fun c => ?_) (fun c => ?_) | refine z_ilt (fun c => ?_) (fun c => ?_) | refine z_ige (fun c => ?_) (fun c => ?_) | refine z_igt (fun c => ?_) (fun c => ?_) | refine z_ile (fun c => ?_) (fun c => ?_)) <;> try (exfalso; first | (with_reducible exact absurd rfl c) | (with_reducible exact absurd (Int32.le_refl _) c) | (exact absurd c (by decide)) | (exact absurd c (by with_reducible assumption)) | (exact absurd (by with_reducible assumption) c)))
    · refine take ?_ _ ?_
      · unfold told
        exact decide_eq_true (Or.inl c)
      · exact ⟨rfl, rfl, rfl, rfl, trivial⟩
    · have c1 := c
      repeat' (first | fail | (refine X.f rfl ?_; first | refine z_iload rfl ?_ | refine z_aload rfl ?_ | refine z_push ?_ | refine z_istoreN rfl rfl ?_ | refine z_astoreN rfl rfl ?_ | refine z_istore rfl ?_ | refine z_astore rfl ?_ | refine z_gP rfl rfl ?_ | refine z_gI rfl ?_ | refine z_gotoF rfl ?_ | refine z_iadd ?_ | refine z_isub ?_ | refine z_imul ?_ | refine z_iand ?_ | refine z_ior ?_ | refine z_ishl ?_ | refine z_ishr ?_ | refine z_ixor ?_ | refine z_ineg ?_ | refine z_pI rfl ?_ | refine z_inc80 rfl ?_ | refine z_inc81 rfl ?_ | refine z_dup ?_ | refine z_dupr ?_ | refine z_dup2 ?_ | refine z_pop ?_ | (refine z_idiv ?sd1 ?_; (case sd1 => decide)) | (refine z_irem ?sd1 ?_; (case sd1 => decide)) | (refine z_iaload rfl ?sd1 ?sd2 ?sd3 ?_; (case sd1 => first | with_reducible assumption | decide | grind); (case sd2 => first | with_reducible assumption | decide | grind); (case sd3 => decide)) | (refine z_iastore rfl ?sd1 ?sd2 ?sd3 ?_; (case sd1 => first | with_reducible assumption | decide | grind); (case sd2 => first | with_reducible assumption | decide | grind); (case sd3 => decide))) | fail)
      ((refine X.f rfl ?_; first | refine z_ifeq (fun c => ?_) (fun c => ?_) | refine z_ifne (fun c => ?_) (fun c => ?_) | refine z_iflt (fun c => ?_) (fun c => ?_) | refine z_ifge (fun c => ?_) (fun c => ?_) | refine z_ifgt (fun c => ?_) (fun c => ?_) | refine z_ifle (fun c => ?_) (fun c => ?_) | refine z_ieq (fun c => ?_) (fun c => ?_) | refine z_ine (fun c => ?_) (fun c => ?_) | refine z_ilt (fun c => ?_) (fun c => ?_) | refine z_ige (fun c => ?_) (fun c => ?_) | refine z_igt (fun c => ?_) (fun c => ?_) | refine z_ile (fun c => ?_) (fun c => ?_)) <;> try (exfalso; first | (with_reducible exact absurd rfl c) | (with_reducible exact absurd (Int32.le_refl _) c) | (exact absurd c (by decide)) | (exact absurd c (by with_reducible assumption)) | (exact absurd (by with_reducible assumption) c)))
      · refine skip (if_neg (fun q => ?_)) _ ⟨rfl, rfl, rfl, trivial⟩
        have := of_decide_eq_true q.1
        rcases this with r | r
        · exact c1 r
        · exact absurd c (Int32.not_lt.mpr r.1)
      · have c2 := Int32.not_lt.mp c
        repeat' (first | fail | (refine X.f rfl ?_; first | refine z_iload rfl ?_ | refine z_aload rfl ?_ | refine z_push ?_ | refine z_istoreN rfl rfl ?_ | refine z_astoreN rfl rfl ?_ | refine z_istore rfl ?_ | refine z_astore rfl ?_ | refine z_gP rfl rfl ?_ | refine z_gI rfl ?_ | refine z_gotoF rfl ?_ | refine z_iadd ?_ | refine z_isub ?_ | refine z_imul ?_ | refine z_iand ?_ | refine z_ior ?_ | refine z_ishl ?_ | refine z_ishr ?_ | refine z_ixor ?_ | refine z_ineg ?_ | refine z_pI rfl ?_ | refine z_inc80 rfl ?_ | refine z_inc81 rfl ?_ | refine z_dup ?_ | refine z_dupr ?_ | refine z_dup2 ?_ | refine z_pop ?_ | (refine z_idiv ?sd1 ?_; (case sd1 => decide)) | (refine z_irem ?sd1 ?_; (case sd1 => decide)) | (refine z_iaload rfl ?sd1 ?sd2 ?sd3 ?_; (case sd1 => first | with_reducible assumption | decide | grind); (case sd2 => first | with_reducible assumption | decide | grind); (case sd3 => decide)) | (refine z_iastore rfl ?sd1 ?sd2 ?sd3 ?_; (case sd1 => first | with_reducible assumption | decide | grind); (case sd2 => first | with_reducible assumption | decide | grind); (case sd3 => decide))) | fail)
        ((refine X.f rfl ?_; first | refine z_ifeq (fun c => ?_) (fun c => ?_) | refine z_ifne (fun c => ?_) (fun c => ?_) | refine z_iflt (fun c => ?_) (fun c => ?_) | refine z_ifge (fun c => ?_) (fun c => ?_) | refine z_ifgt (fun c => ?_) (fun c => ?_) | refine z_ifle (fun c => ?_) (fun c => ?_) | refine z_ieq (fun c => ?_) (fun c => ?_) | refine z_ine (fun c => ?_) (fun c => ?_) | refine z_ilt (fun c => ?_) (fun c => ?_) | refine z_ige (fun c => ?_) (fun c => ?_) | refine z_igt (fun c => ?_) (fun c => ?_) | refine z_ile (fun c => ?_) (fun c => ?_)) <;> try (exfalso; first | (with_reducible exact absurd rfl c) | (with_reducible exact absurd (Int32.le_refl _) c) | (exact absurd c (by decide)) | (exact absurd c (by with_reducible assumption)) | (exact absurd (by with_reducible assumption) c)))
        · refine skip (if_neg (fun q => ?_)) _ ⟨rfl, rfl, rfl, trivial⟩
          have := of_decide_eq_true q.1
          rcases this with r | r
          · exact c1 r
          · exact absurd c (Int32.not_lt.mpr r.2)
        · have c3 := Int32.not_lt.mp c
          refine take ?_ _ ⟨rfl, rfl, rfl, rfl, trivial⟩
          unfold told
          exact decide_eq_true (Or.inr ⟨c2, c3⟩)
  · obtain ⟨F', I', rfl, q, hT'⟩ := hM
    have hs : shK 8 < 0 := by decide +kernel
    repeat' (first | fail | (refine X.f rfl ?_; first | refine z_iload rfl ?_ | refine z_aload rfl ?_ | refine z_push ?_ | refine z_istoreN rfl rfl ?_ | refine z_astoreN rfl rfl ?_ | refine z_istore rfl ?_ | refine z_astore rfl ?_ | refine z_gP rfl rfl ?_ | refine z_gI rfl ?_ | refine z_gotoF rfl ?_ | refine z_iadd ?_ | refine z_isub ?_ | refine z_imul ?_ | refine z_iand ?_ | refine z_ior ?_ | refine z_ishl ?_ | refine z_ishr ?_ | refine z_ixor ?_ | refine z_ineg ?_ | refine z_pI rfl ?_ | refine z_inc80 rfl ?_ | refine z_inc81 rfl ?_ | refine z_dup ?_ | refine z_dupr ?_ | refine z_dup2 ?_ | refine z_pop ?_ | (refine z_idiv ?sd1 ?_; (case sd1 => decide)) | (refine z_irem ?sd1 ?_; (case sd1 => decide)) | (refine z_iaload rfl ?sd1 ?sd2 ?sd3 ?_; (case sd1 => first | with_reducible assumption | decide | grind); (case sd2 => first | with_reducible assumption | decide | grind); (case sd3 => decide)) | (refine z_iastore rfl ?sd1 ?sd2 ?sd3 ?_; (case sd1 => first | with_reducible assumption | decide | grind); (case sd2 => first | with_reducible assumption | decide | grind); (case sd3 => decide))) | fail)
    ((refine X.f rfl ?_; first | refine z_ifeq (fun c => ?_) (fun c => ?_) | refine z_ifne (fun c => ?_) (fun c => ?_) | refine z_iflt (fun c => ?_) (fun c => ?_) | refine z_ifge (fun c => ?_) (fun c => ?_) | refine z_ifgt (fun c => ?_) (fun c => ?_) | refine z_ifle (fun c => ?_) (fun c => ?_) | refine z_ieq (fun c => ?_) (fun c => ?_) | refine z_ine (fun c => ?_) (fun c => ?_) | refine z_ilt (fun c => ?_) (fun c => ?_) | refine z_ige (fun c => ?_) (fun c => ?_) | refine z_igt (fun c => ?_) (fun c => ?_) | refine z_ile (fun c => ?_) (fun c => ?_)) <;> try (exfalso; first | (with_reducible exact absurd rfl c) | (with_reducible exact absurd (Int32.le_refl _) c) | (exact absurd c (by decide)) | (exact absurd c (by with_reducible assumption)) | (exact absurd (by with_reducible assumption) c)))
    exact x_ret rfl rfl ⟨rfl, F', I', rfl, q, hT'⟩
end RP
