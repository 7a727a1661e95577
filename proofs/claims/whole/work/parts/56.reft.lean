/-! THE REFERENCE reads the law's E -/
/-- the rows that stay: the tokens and the words -/
def rdB (I0 : Nat → Int32 → Int32) (J : Nat → Int32 → Int64) (T : List Int32) : Prop := T.length ≤ 1000 ∧ (∀ i t, (toks T)[i]? = some t → tokS I0 J i t) ∧ I0 228 (nI (toks T).length) = 0 ∧ I0 229 (nI (toks T).length) = nI T.length ∧ (∀ x, x < 24 → J 231 (nI x) = p37 (wdx x) 0)
def eS (F0 : Nat → Nat → Int32) (I0 : Nat → Int32 → Int32) (T : List Int32) (F : Nat → Nat → Int32) (I : Nat → Int32 → Int32) (s : PS) : Prop := F 226 7 = nI s.2.1 ∧ F 226 8 = s.1 ∧ F 226 13 = nI s.2.2.length ∧ (∀ c k, ¬ (c = 226 ∧ (k = 7 ∨ k = 8 ∨ k = 13)) → F c k = F0 c k) ∧ (∀ c, c ≠ 233 → c ≠ 234 → I c = I0 c) ∧ (∀ x, x < 1100 → I 233 x = I0 233 x ∧ I 234 x = I0 234 x) ∧ (∀ i o, s.2.2[i]? = some o → I 233 (1100 + nI i) = opR o ∧ I 234 (1100 + nI i) = argR o)
theorem Y.post {e : Bool × Int32 × (Int32 → Int32)} {d : Nat} {q : xMeth} {args : List Value} {M : xM} {r r' : Option Value → xM → Prop} (h : Y e d q args M r) (k : ∀ v M', r v M' → r' v M') : Y e d q args M r' := by
  obtain ⟨n, v, M', a, b⟩ := h
  exact ⟨n, v, M', a, k v M' b⟩
section RT
variable {e : Bool × Int32 × (Int32 → Int32)} {F F0 : Nat → Nat → Int32} {I I0 : Nat → Int32 → Int32} {G : Nat → Nat → Int64} {J : Nat → Int32 → Int64} {ha hb ea eb : Nat} {T : List Int32} {s : PS}
theorem rdB.rd (hB : rdB I0 J T) {j : Nat} (hj : j ≤ (toks T).length) (h7 : F 226 7 = nI j) (hI : ∀ c, c ≠ 233 → c ≠ 234 → I c = I0 c) : rdS F I J T j := by
  obtain ⟨b1, b2, b3, b4, b5⟩ := hB
  refine ⟨h7, hj, b1, fun i t hit => ?_, ?_, ?_⟩
  · obtain ⟨a1, a2, a3⟩ := b2 i t hit
    unfold tokS
    rw [hI 228 (by decide) (by decide), hI 229 (by decide) (by decide)]
    exact ⟨a1, a2, a3⟩
  · rw [hI 228 (by decide) (by decide)]; exact b3
  · rw [hI 229 (by decide) (by decide)]; exact b4
theorem eS.rd (hB : rdB I0 J T) (hk : okP T s) (hS : eS F0 I0 T F I s) : rdS F I J T s.2.1 := hB.rd hk.1 hS.1 hS.2.2.2.2.1
theorem eS.adv (hS : eS F0 I0 T F I s) : eS F0 I0 T (xu F 226 7 (nI s.2.1 + 1)) I (adv s) := by
  obtain ⟨h1, h2, h3, h4, h5⟩ := hS
  refine ⟨by rw [xu_same]; exact (nI_succ _).symm, by rw [xu_ne (by omega)]; exact h2, by rw [xu_ne (by omega)]; exact h3, fun c k hc => ?_, h5⟩
  rw [xu_ne (fun q => hc ⟨q.1, Or.inl q.2⟩)]
  exact h4 c k hc
theorem eS.adv0 (hS : eS F0 I0 T F I s) : eS F0 I0 T (xu F 226 7 (nI s.2.1 + 0)) I s := by
  obtain ⟨h1, h2, h3, h4, h5⟩ := hS
  refine ⟨by rw [xu_same, Int32.add_zero], by rw [xu_ne (by omega)]; exact h2, by rw [xu_ne (by omega)]; exact h3, fun c k hc => ?_, h5⟩
  rw [xu_ne (fun q => hc ⟨q.1, Or.inl q.2⟩)]
  exact h4 c k hc
theorem eS.flt {x : Int32} (hS : eS F0 I0 T F I s) : eS F0 I0 T (xu F 226 8 x) I (x, s.2) := by
  obtain ⟨h1, h2, h3, h4, h5⟩ := hS
  refine ⟨by rw [xu_ne (by omega)]; exact h1, xu_same, by rw [xu_ne (by omega)]; exact h3, fun c k hc => ?_, h5⟩
  rw [xu_ne (fun q => hc ⟨q.1, Or.inr (Or.inl q.2)⟩)]
  exact h4 c k hc
theorem nI_1100 {n : Nat} (h : n < 1000) : (1100 : Int32) + nI n = nI (1100 + n) := by
  rw [show (1100 : Int32) = nI 1100 from rfl, nI_add]
theorem eS.emi {o : Int32} (hl : s.2.2.length < 1000) (hS : eS F0 I0 T F I s) : eS F0 I0 T (xu F 226 13 (nI s.2.2.length + 1)) (xv (xv I 233 (1100 + nI s.2.2.length) (opR o)) 234 (1100 + nI s.2.2.length) (argR o)) (emi o s) := by
  obtain ⟨h1, h2, h3, h4, h5, h6, h7⟩ := hS
  have hx : ¬ (1100 : Int32) + nI s.2.2.length < 1100 := by
    rw [nI_1100 hl, show (1100 : Int32) = nI 1100 from rfl, nI_ltI (by omega) (by omega)]
    omega
  refine ⟨by rw [xu_ne (by omega)]; exact h1, by rw [xu_ne (by omega)]; exact h2, ?_, fun c k hc => ?_, fun c c1 c2 => ?_, fun x hlt => ?_, fun i o' hi => ?_⟩
  · rw [xu_same]
    show _ = nI (s.2.2 ++ [o]).length
    rw [List.length_append]
    exact (nI_succ _).symm
  · rw [xu_ne (fun q => hc ⟨q.1, Or.inr (Or.inr q.2)⟩)]
    exact h4 c k hc
  · rw [xv_ne c2, xv_ne c1]
    exact h5 c c1 c2
  · have hne : x ≠ 1100 + nI s.2.2.length := fun q => hx (q ▸ hlt)
    obtain ⟨a, b⟩ := h6 x hlt
    constructor
    · rw [xv_ne (by decide), xv_row, row_same, up_ne hne]; exact a
    · rw [xv_row, row_same, up_ne hne, xv_ne (by decide)]; exact b
  · have hi2 : (s.2.2 ++ [o])[i]? = some o' := hi
    by_cases him : i = s.2.2.length
    · subst him
      have : o = o' := by simpa using hi2
      subst this
      constructor
      · rw [xv_ne (by decide), xv_row, row_same, up_self]
      · rw [xv_row, row_same, up_self]
    · have hlt : i < s.2.2.length := by
        have := (List.getElem?_eq_some_iff.mp hi2).1
        rw [List.length_append] at this
        simp only [List.length_cons, List.length_nil] at this
        omega
      rw [List.getElem?_append_left hlt] at hi2
      obtain ⟨a, b⟩ := h7 i o' hi2
      have hne : (1100 : Int32) + nI i ≠ 1100 + nI s.2.2.length := by
        rw [nI_1100 hl, nI_1100 (by omega), Ne, nI_eq (by omega) (by omega)]
        omega
      constructor
      · rw [xv_ne (by decide), xv_row, row_same, up_ne hne]; exact a
      · rw [xv_row, row_same, up_ne hne, xv_ne (by decide)]; exact b
theorem q_isSignE {x : Int32} (hB : rdB I0 J T) (hk : okP T s) (hS : eS F0 I0 T F I s) : A e 0 M_X12_isSign [.ref 226, .int x] (F, I, G, J, P0 ha hb ea eb, Q0, S0) (.int (bI (isGs T x s))) := by
  unfold isGs
  by_cases h0 : s.1 = 0
  · rw [decide_eq_true h0, Bool.true_and, ← sgAt_isG]
    exact q_isSign (hS.rd hB hk) (hS.2.1.trans h0)
  · rw [decide_eq_false h0, Bool.false_and]
    exact q_isSign_f (by rw [hS.2.1]; exact h0)
theorem q_isWordE {x : Nat} {xi : Int32} (hx : x < 24 ∧ xi = nI x) (hB : rdB I0 J T) (hk : okP T s) (hS : eS F0 I0 T F I s) : A e 0 M_X12_isWord [.ref 226, .int xi] (F, I, G, J, P0 ha hb ea eb, Q0, S0) (.int (bI (isWs T x s))) := by
  obtain ⟨hx, rfl⟩ := hx
  unfold isWs
  by_cases h0 : s.1 = 0
  · rw [decide_eq_true h0, Bool.true_and, ← wdAt_isW hx]
    exact q_isWord (hS.rd hB hk) (hS.2.1.trans h0) (nI_pos' (by omega)) ((nI_ltI (b := 24) (by omega) (by omega)).mpr (by omega)) (hB.2.2.2.2 x hx)
  · rw [decide_eq_false h0, Bool.false_and]
    exact q_isWord_f (by rw [hS.2.1]; exact h0)
theorem q_wrongE {x : Int32} (hB : rdB I0 J T) (hk : okP T s) (hS : eS F0 I0 T F I s) : Y e 0 M_X12_wrong [.ref 226, .int x] (F, I, G, J, P0 ha hb ea eb, Q0, S0) (fun w M' => w = none ∧ ∃ F' I', M' = (F', I', G, J, P0 ha hb ea eb, Q0, S0) ∧ eS F0 I0 T F' I' (wr T x s)) := by
  unfold wr
  by_cases h0 : s.1 = 0
  · rw [if_pos h0]
    refine Y.post (q_wrong (hS.rd hB hk) (hS.2.1.trans h0)) ?_
    rintro w M' ⟨rfl, rfl⟩
    exact ⟨rfl, _, _, rfl, hS.flt⟩
  · rw [if_neg h0]
    refine Y.post (q_wrong_no (by rw [hS.2.1]; exact h0)) ?_
    rintro w M' ⟨rfl, rfl⟩
    exact ⟨rfl, _, _, rfl, hS⟩
theorem q_takeSign {x : Int32} (hB : rdB I0 J T) (hk : okP T s) (hS : eS F0 I0 T F I s) : Y e 1 M_X12_takeSign [.ref 226, .int x] (F, I, G, J, P0 ha hb ea eb, Q0, S0) (fun w M' => w = none ∧ ∃ F' I', M' = (F', I', G, J, P0 ha hb ea eb, Q0, S0) ∧ eS F0 I0 T F' I' (tkS T x s)) := by
  have h7 := hS.1
  unfold Y tkS
  repeat' (first | rw [h7] | (refine X.f rfl ?_; first | refine z_iload rfl ?_ | refine z_aload rfl ?_ | refine z_push ?_ | refine z_istoreN rfl rfl ?_ | refine z_astoreN rfl rfl ?_ | refine z_istore rfl ?_ | refine z_astore rfl ?_ | refine z_gP rfl rfl ?_ | refine z_gI rfl ?_ | refine z_gotoF rfl ?_ | refine z_iadd ?_ | refine z_isub ?_ | refine z_imul ?_ | refine z_iand ?_ | refine z_ior ?_ | refine z_ishl ?_ | refine z_ishr ?_ | refine z_ixor ?_ | refine z_ineg ?_ | refine z_pI rfl ?_ | refine z_inc80 rfl ?_ | refine z_inc81 rfl ?_ | refine z_dup ?_ | refine z_dupr ?_ | refine z_dup2 ?_ | refine z_pop ?_ | (refine z_idiv ?sd1 ?_; (case sd1 => decide)) | (refine z_irem ?sd1 ?_; (case sd1 => decide)) | (refine z_iaload rfl ?sd1 ?sd2 ?sd3 ?_; (case sd1 => first | with_reducible assumption | decide | grind); (case sd2 => first | with_reducible assumption | decide | grind); (case sd3 => decide)) | (refine z_iastore rfl ?sd1 ?sd2 ?sd3 ?_; (case sd1 => first | with_reducible assumption | decide | grind); (case sd2 => first | with_reducible assumption | decide | grind); (case sd3 => decide))) | (refine X.f rfl ?_; refine isV ?_; refine z_cav (q_isSignE hB hk hS) rfl (by rfl) (by rfl) rfl rfl rfl rfl ?_))
  ((refine X.f rfl ?_; first | refine z_ifeq (fun c => ?_) (fun c => ?_) | refine z_ifne (fun c => ?_) (fun c => ?_) | refine z_iflt (fun c => ?_) (fun c => ?_) | refine z_ifge (fun c => ?_) (fun c => ?_) | refine z_ifgt (fun c => ?_) (fun c => ?_) | refine z_ifle (fun c => ?_) (fun c => ?_) | refine z_ieq (fun c => ?_) (fun c => ?_) | refine z_ine (fun c => ?_) (fun c => ?_) | refine z_ilt (fun c => ?_) (fun c => ?_) | refine z_ige (fun c => ?_) (fun c => ?_) | refine z_igt (fun c => ?_) (fun c => ?_) | refine z_ile (fun c => ?_) (fun c => ?_)) <;> try (exfalso; first | (with_reducible exact absurd rfl c) | (with_reducible exact absurd (Int32.le_refl _) c) | (exact absurd c (by decide)) | (exact absurd c (by with_reducible assumption)) | (exact absurd (by with_reducible assumption) c)))
  · rw [bI_0.mp c]
    repeat' (first | fail | (refine X.f rfl ?_; first | refine z_iload rfl ?_ | refine z_aload rfl ?_ | refine z_push ?_ | refine z_istoreN rfl rfl ?_ | refine z_astoreN rfl rfl ?_ | refine z_istore rfl ?_ | refine z_astore rfl ?_ | refine z_gP rfl rfl ?_ | refine z_gI rfl ?_ | refine z_gotoF rfl ?_ | refine z_iadd ?_ | refine z_isub ?_ | refine z_imul ?_ | refine z_iand ?_ | refine z_ior ?_ | refine z_ishl ?_ | refine z_ishr ?_ | refine z_ixor ?_ | refine z_ineg ?_ | refine z_pI rfl ?_ | refine z_inc80 rfl ?_ | refine z_inc81 rfl ?_ | refine z_dup ?_ | refine z_dupr ?_ | refine z_dup2 ?_ | refine z_pop ?_ | (refine z_idiv ?sd1 ?_; (case sd1 => decide)) | (refine z_irem ?sd1 ?_; (case sd1 => decide)) | (refine z_iaload rfl ?sd1 ?sd2 ?sd3 ?_; (case sd1 => first | with_reducible assumption | decide | grind); (case sd2 => first | with_reducible assumption | decide | grind); (case sd3 => decide)) | (refine z_iastore rfl ?sd1 ?sd2 ?sd3 ?_; (case sd1 => first | with_reducible assumption | decide | grind); (case sd2 => first | with_reducible assumption | decide | grind); (case sd3 => decide))) | fail)
    refine X.f rfl (z_cv (q_wrongE hB hk hS) rfl (by rfl) (by rfl) rfl rfl rfl rfl ?_)
    rintro w M' ⟨rfl, F', I', rfl, hS'⟩
    repeat' (first | fail | (refine X.f rfl ?_; first | refine z_iload rfl ?_ | refine z_aload rfl ?_ | refine z_push ?_ | refine z_istoreN rfl rfl ?_ | refine z_astoreN rfl rfl ?_ | refine z_istore rfl ?_ | refine z_astore rfl ?_ | refine z_gP rfl rfl ?_ | refine z_gI rfl ?_ | refine z_gotoF rfl ?_ | refine z_iadd ?_ | refine z_isub ?_ | refine z_imul ?_ | refine z_iand ?_ | refine z_ior ?_ | refine z_ishl ?_ | refine z_ishr ?_ | refine z_ixor ?_ | refine z_ineg ?_ | refine z_pI rfl ?_ | refine z_inc80 rfl ?_ | refine z_inc81 rfl ?_ | refine z_dup ?_ | refine z_dupr ?_ | refine z_dup2 ?_ | refine z_pop ?_ | (refine z_idiv ?sd1 ?_; (case sd1 => decide)) | (refine z_irem ?sd1 ?_; (case sd1 => decide)) | (refine z_iaload rfl ?sd1 ?sd2 ?sd3 ?_; (case sd1 => first | with_reducible assumption | decide | grind); (case sd2 => first | with_reducible assumption | decide | grind); (case sd3 => decide)) | (refine z_iastore rfl ?sd1 ?sd2 ?sd3 ?_; (case sd1 => first | with_reducible assumption | decide | grind); (case sd2 => first | with_reducible assumption | decide | grind); (case sd3 => decide))) | fail)
    exact x_ret rfl rfl ⟨rfl, _, _, rfl, hS'⟩
  · rw [if_pos (bI_n0.mp c)]
    repeat' (first | rw [h7] | (refine X.f rfl ?_; first | refine z_iload rfl ?_ | refine z_aload rfl ?_ | refine z_push ?_ | refine z_istoreN rfl rfl ?_ | refine z_astoreN rfl rfl ?_ | refine z_istore rfl ?_ | refine z_astore rfl ?_ | refine z_gP rfl rfl ?_ | refine z_gI rfl ?_ | refine z_gotoF rfl ?_ | refine z_iadd ?_ | refine z_isub ?_ | refine z_imul ?_ | refine z_iand ?_ | refine z_ior ?_ | refine z_ishl ?_ | refine z_ishr ?_ | refine z_ixor ?_ | refine z_ineg ?_ | refine z_pI rfl ?_ | refine z_inc80 rfl ?_ | refine z_inc81 rfl ?_ | refine z_dup ?_ | refine z_dupr ?_ | refine z_dup2 ?_ | refine z_pop ?_ | (refine z_idiv ?sd1 ?_; (case sd1 => decide)) | (refine z_irem ?sd1 ?_; (case sd1 => decide)) | (refine z_iaload rfl ?sd1 ?sd2 ?sd3 ?_; (case sd1 => first | with_reducible assumption | decide | grind); (case sd2 => first | with_reducible assumption | decide | grind); (case sd3 => decide)) | (refine z_iastore rfl ?sd1 ?sd2 ?sd3 ?_; (case sd1 => first | with_reducible assumption | decide | grind); (case sd2 => first | with_reducible assumption | decide | grind); (case sd3 => decide))) | fail)
    exact x_ret rfl rfl ⟨rfl, _, _, rfl, hS.adv⟩
theorem q_hasSign {x : Int32} (hB : rdB I0 J T) (hk : okP T s) (hS : eS F0 I0 T F I s) : Y e 1 M_X12_hasSign [.ref 226, .int x] (F, I, G, J, P0 ha hb ea eb, Q0, S0) (fun w M' => w = some (.int (bI (isGs T x s))) ∧ ∃ F' I', M' = (F', I', G, J, P0 ha hb ea eb, Q0, S0) ∧ eS F0 I0 T F' I' (if isGs T x s then adv s else s)) := by
  have h7 := hS.1
  unfold Y
  repeat' (first | rw [h7] | (refine X.f rfl ?_; first | refine z_iload rfl ?_ | refine z_aload rfl ?_ | refine z_push ?_ | refine z_istoreN rfl rfl ?_ | refine z_astoreN rfl rfl ?_ | refine z_istore rfl ?_ | refine z_astore rfl ?_ | refine z_gP rfl rfl ?_ | refine z_gI rfl ?_ | refine z_gotoF rfl ?_ | refine z_iadd ?_ | refine z_isub ?_ | refine z_imul ?_ | refine z_iand ?_ | refine z_ior ?_ | refine z_ishl ?_ | refine z_ishr ?_ | refine z_ixor ?_ | refine z_ineg ?_ | refine z_pI rfl ?_ | refine z_inc80 rfl ?_ | refine z_inc81 rfl ?_ | refine z_dup ?_ | refine z_dupr ?_ | refine z_dup2 ?_ | refine z_pop ?_ | (refine z_idiv ?sd1 ?_; (case sd1 => decide)) | (refine z_irem ?sd1 ?_; (case sd1 => decide)) | (refine z_iaload rfl ?sd1 ?sd2 ?sd3 ?_; (case sd1 => first | with_reducible assumption | decide | grind); (case sd2 => first | with_reducible assumption | decide | grind); (case sd3 => decide)) | (refine z_iastore rfl ?sd1 ?sd2 ?sd3 ?_; (case sd1 => first | with_reducible assumption | decide | grind); (case sd2 => first | with_reducible assumption | decide | grind); (case sd3 => decide))) | (refine X.f rfl ?_; refine isV ?_; refine z_cav (q_isSignE hB hk hS) rfl (by rfl) (by rfl) rfl rfl rfl rfl ?_))
  ((refine X.f rfl ?_; first | refine z_ifeq (fun c => ?_) (fun c => ?_) | refine z_ifne (fun c => ?_) (fun c => ?_) | refine z_iflt (fun c => ?_) (fun c => ?_) | refine z_ifge (fun c => ?_) (fun c => ?_) | refine z_ifgt (fun c => ?_) (fun c => ?_) | refine z_ifle (fun c => ?_) (fun c => ?_) | refine z_ieq (fun c => ?_) (fun c => ?_) | refine z_ine (fun c => ?_) (fun c => ?_) | refine z_ilt (fun c => ?_) (fun c => ?_) | refine z_ige (fun c => ?_) (fun c => ?_) | refine z_igt (fun c => ?_) (fun c => ?_) | refine z_ile (fun c => ?_) (fun c => ?_)) <;> try (exfalso; first | (with_reducible exact absurd rfl c) | (with_reducible exact absurd (Int32.le_refl _) c) | (exact absurd c (by decide)) | (exact absurd c (by with_reducible assumption)) | (exact absurd (by with_reducible assumption) c)))
  · rw [bI_0.mp c]
    repeat' (first | rw [h7] | (refine X.f rfl ?_; first | refine z_iload rfl ?_ | refine z_aload rfl ?_ | refine z_push ?_ | refine z_istoreN rfl rfl ?_ | refine z_astoreN rfl rfl ?_ | refine z_istore rfl ?_ | refine z_astore rfl ?_ | refine z_gP rfl rfl ?_ | refine z_gI rfl ?_ | refine z_gotoF rfl ?_ | refine z_iadd ?_ | refine z_isub ?_ | refine z_imul ?_ | refine z_iand ?_ | refine z_ior ?_ | refine z_ishl ?_ | refine z_ishr ?_ | refine z_ixor ?_ | refine z_ineg ?_ | refine z_pI rfl ?_ | refine z_inc80 rfl ?_ | refine z_inc81 rfl ?_ | refine z_dup ?_ | refine z_dupr ?_ | refine z_dup2 ?_ | refine z_pop ?_ | (refine z_idiv ?sd1 ?_; (case sd1 => decide)) | (refine z_irem ?sd1 ?_; (case sd1 => decide)) | (refine z_iaload rfl ?sd1 ?sd2 ?sd3 ?_; (case sd1 => first | with_reducible assumption | decide | grind); (case sd2 => first | with_reducible assumption | decide | grind); (case sd3 => decide)) | (refine z_iastore rfl ?sd1 ?sd2 ?sd3 ?_; (case sd1 => first | with_reducible assumption | decide | grind); (case sd2 => first | with_reducible assumption | decide | grind); (case sd3 => decide))) | fail)
    exact x_zbI (q := false) ⟨rfl, _, _, rfl, hS.adv0⟩
  · rw [bI_n0.mp c]
    repeat' (first | rw [h7] | (refine X.f rfl ?_; first | refine z_iload rfl ?_ | refine z_aload rfl ?_ | refine z_push ?_ | refine z_istoreN rfl rfl ?_ | refine z_astoreN rfl rfl ?_ | refine z_istore rfl ?_ | refine z_astore rfl ?_ | refine z_gP rfl rfl ?_ | refine z_gI rfl ?_ | refine z_gotoF rfl ?_ | refine z_iadd ?_ | refine z_isub ?_ | refine z_imul ?_ | refine z_iand ?_ | refine z_ior ?_ | refine z_ishl ?_ | refine z_ishr ?_ | refine z_ixor ?_ | refine z_ineg ?_ | refine z_pI rfl ?_ | refine z_inc80 rfl ?_ | refine z_inc81 rfl ?_ | refine z_dup ?_ | refine z_dupr ?_ | refine z_dup2 ?_ | refine z_pop ?_ | (refine z_idiv ?sd1 ?_; (case sd1 => decide)) | (refine z_irem ?sd1 ?_; (case sd1 => decide)) | (refine z_iaload rfl ?sd1 ?sd2 ?sd3 ?_; (case sd1 => first | with_reducible assumption | decide | grind); (case sd2 => first | with_reducible assumption | decide | grind); (case sd3 => decide)) | (refine z_iastore rfl ?sd1 ?sd2 ?sd3 ?_; (case sd1 => first | with_reducible assumption | decide | grind); (case sd2 => first | with_reducible assumption | decide | grind); (case sd3 => decide))) | fail)
    exact x_zbI (q := true) ⟨rfl, _, _, rfl, hS.adv⟩
theorem q_hasWord {x : Nat} {xi : Int32} (hx : x < 24 ∧ xi = nI x) (hB : rdB I0 J T) (hk : okP T s) (hS : eS F0 I0 T F I s) : Y e 1 M_X12_hasWord [.ref 226, .int xi] (F, I, G, J, P0 ha hb ea eb, Q0, S0) (fun w M' => w = some (.int (bI (isWs T x s))) ∧ ∃ F' I', M' = (F', I', G, J, P0 ha hb ea eb, Q0, S0) ∧ eS F0 I0 T F' I' (if isWs T x s then adv s else s)) := by
  have h7 := hS.1
  unfold Y
  repeat' (first | rw [h7] | (refine X.f rfl ?_; first | refine z_iload rfl ?_ | refine z_aload rfl ?_ | refine z_push ?_ | refine z_istoreN rfl rfl ?_ | refine z_astoreN rfl rfl ?_ | refine z_istore rfl ?_ | refine z_astore rfl ?_ | refine z_gP rfl rfl ?_ | refine z_gI rfl ?_ | refine z_gotoF rfl ?_ | refine z_iadd ?_ | refine z_isub ?_ | refine z_imul ?_ | refine z_iand ?_ | refine z_ior ?_ | refine z_ishl ?_ | refine z_ishr ?_ | refine z_ixor ?_ | refine z_ineg ?_ | refine z_pI rfl ?_ | refine z_inc80 rfl ?_ | refine z_inc81 rfl ?_ | refine z_dup ?_ | refine z_dupr ?_ | refine z_dup2 ?_ | refine z_pop ?_ | (refine z_idiv ?sd1 ?_; (case sd1 => decide)) | (refine z_irem ?sd1 ?_; (case sd1 => decide)) | (refine z_iaload rfl ?sd1 ?sd2 ?sd3 ?_; (case sd1 => first | with_reducible assumption | decide | grind); (case sd2 => first | with_reducible assumption | decide | grind); (case sd3 => decide)) | (refine z_iastore rfl ?sd1 ?sd2 ?sd3 ?_; (case sd1 => first | with_reducible assumption | decide | grind); (case sd2 => first | with_reducible assumption | decide | grind); (case sd3 => decide))) | (refine X.f rfl ?_; refine isV ?_; refine z_cav (q_isWordE hx hB hk hS) rfl (by rfl) (by rfl) rfl rfl rfl rfl ?_))
  ((refine X.f rfl ?_; first | refine z_ifeq (fun c => ?_) (fun c => ?_) | refine z_ifne (fun c => ?_) (fun c => ?_) | refine z_iflt (fun c => ?_) (fun c => ?_) | refine z_ifge (fun c => ?_) (fun c => ?_) | refine z_ifgt (fun c => ?_) (fun c => ?_) | refine z_ifle (fun c => ?_) (fun c => ?_) | refine z_ieq (fun c => ?_) (fun c => ?_) | refine z_ine (fun c => ?_) (fun c => ?_) | refine z_ilt (fun c => ?_) (fun c => ?_) | refine z_ige (fun c => ?_) (fun c => ?_) | refine z_igt (fun c => ?_) (fun c => ?_) | refine z_ile (fun c => ?_) (fun c => ?_)) <;> try (exfalso; first | (with_reducible exact absurd rfl c) | (with_reducible exact absurd (Int32.le_refl _) c) | (exact absurd c (by decide)) | (exact absurd c (by with_reducible assumption)) | (exact absurd (by with_reducible assumption) c)))
  · rw [bI_0.mp c]
    repeat' (first | rw [h7] | (refine X.f rfl ?_; first | refine z_iload rfl ?_ | refine z_aload rfl ?_ | refine z_push ?_ | refine z_istoreN rfl rfl ?_ | refine z_astoreN rfl rfl ?_ | refine z_istore rfl ?_ | refine z_astore rfl ?_ | refine z_gP rfl rfl ?_ | refine z_gI rfl ?_ | refine z_gotoF rfl ?_ | refine z_iadd ?_ | refine z_isub ?_ | refine z_imul ?_ | refine z_iand ?_ | refine z_ior ?_ | refine z_ishl ?_ | refine z_ishr ?_ | refine z_ixor ?_ | refine z_ineg ?_ | refine z_pI rfl ?_ | refine z_inc80 rfl ?_ | refine z_inc81 rfl ?_ | refine z_dup ?_ | refine z_dupr ?_ | refine z_dup2 ?_ | refine z_pop ?_ | (refine z_idiv ?sd1 ?_; (case sd1 => decide)) | (refine z_irem ?sd1 ?_; (case sd1 => decide)) | (refine z_iaload rfl ?sd1 ?sd2 ?sd3 ?_; (case sd1 => first | with_reducible assumption | decide | grind); (case sd2 => first | with_reducible assumption | decide | grind); (case sd3 => decide)) | (refine z_iastore rfl ?sd1 ?sd2 ?sd3 ?_; (case sd1 => first | with_reducible assumption | decide | grind); (case sd2 => first | with_reducible assumption | decide | grind); (case sd3 => decide))) | fail)
    exact x_zbI (q := false) ⟨rfl, _, _, rfl, hS.adv0⟩
  · rw [bI_n0.mp c]
    repeat' (first | rw [h7] | (refine X.f rfl ?_; first | refine z_iload rfl ?_ | refine z_aload rfl ?_ | refine z_push ?_ | refine z_istoreN rfl rfl ?_ | refine z_astoreN rfl rfl ?_ | refine z_istore rfl ?_ | refine z_astore rfl ?_ | refine z_gP rfl rfl ?_ | refine z_gI rfl ?_ | refine z_gotoF rfl ?_ | refine z_iadd ?_ | refine z_isub ?_ | refine z_imul ?_ | refine z_iand ?_ | refine z_ior ?_ | refine z_ishl ?_ | refine z_ishr ?_ | refine z_ixor ?_ | refine z_ineg ?_ | refine z_pI rfl ?_ | refine z_inc80 rfl ?_ | refine z_inc81 rfl ?_ | refine z_dup ?_ | refine z_dupr ?_ | refine z_dup2 ?_ | refine z_pop ?_ | (refine z_idiv ?sd1 ?_; (case sd1 => decide)) | (refine z_irem ?sd1 ?_; (case sd1 => decide)) | (refine z_iaload rfl ?sd1 ?sd2 ?sd3 ?_; (case sd1 => first | with_reducible assumption | decide | grind); (case sd2 => first | with_reducible assumption | decide | grind); (case sd3 => decide)) | (refine z_iastore rfl ?sd1 ?sd2 ?sd3 ?_; (case sd1 => first | with_reducible assumption | decide | grind); (case sd2 => first | with_reducible assumption | decide | grind); (case sd3 => decide))) | fail)
    exact x_zbI (q := true) ⟨rfl, _, _, rfl, hS.adv⟩
theorem q_emit {x y o : Int32} (hx : x = opR o) (hy : y = argR o) (hl : s.2.2.length < 1000) (hS : eS F0 I0 T F I s) : Y e 0 M_X12_emit [.ref 226, .int x, .int y] (F, I, G, J, P0 ha hb ea eb, Q0, S0) (fun w M' => w = none ∧ ∃ F' I', M' = (F', I', G, J, P0 ha hb ea eb, Q0, S0) ∧ eS F0 I0 T F' I' (emi o s)) := by
  subst hx hy
  have h13 := hS.2.2.1
  have j0 : 0 ≤ 1100 + nI s.2.2.length := by
    rw [nI_1100 hl]
    exact nI_pos' (by omega)
  have j1 : 1100 + nI s.2.2.length < 2200 := by
    rw [nI_1100 hl, show (2200 : Int32) = nI 2200 from rfl, nI_ltI (by omega) (by omega)]
    omega
  unfold Y
  repeat' (first | rw [h13] | (refine X.f rfl ?_; first | refine z_iload rfl ?_ | refine z_aload rfl ?_ | refine z_push ?_ | refine z_istoreN rfl rfl ?_ | refine z_astoreN rfl rfl ?_ | refine z_istore rfl ?_ | refine z_astore rfl ?_ | refine z_gP rfl rfl ?_ | refine z_gI rfl ?_ | refine z_gotoF rfl ?_ | refine z_iadd ?_ | refine z_isub ?_ | refine z_imul ?_ | refine z_iand ?_ | refine z_ior ?_ | refine z_ishl ?_ | refine z_ishr ?_ | refine z_ixor ?_ | refine z_ineg ?_ | refine z_pI rfl ?_ | refine z_inc80 rfl ?_ | refine z_inc81 rfl ?_ | refine z_dup ?_ | refine z_dupr ?_ | refine z_dup2 ?_ | refine z_pop ?_ | (refine z_idiv ?sd1 ?_; (case sd1 => decide)) | (refine z_irem ?sd1 ?_; (case sd1 => decide)) | (refine z_iaload rfl ?sd1 ?sd2 ?sd3 ?_; (case sd1 => first | with_reducible assumption | decide | grind); (case sd2 => first | with_reducible assumption | decide | grind); (case sd3 => decide)) | (refine z_iastore rfl ?sd1 ?sd2 ?sd3 ?_; (case sd1 => first | with_reducible assumption | decide | grind); (case sd2 => first | with_reducible assumption | decide | grind); (case sd3 => decide))) | fail)
  exact x_ret rfl rfl ⟨rfl, _, _, rfl, hS.emi hl⟩
/-- the last of some words that stands here, from the first one counted -/
def wdK (T : List Int32) (s : PS) (from0 : Nat) : Nat → Int32
  | 0 => -1
  | k + 1 => if isWs T (from0 + k) s then nI k else wdK T s from0 k
theorem q_wordHere {fr mn : Nat} {xi yi : Int32} (hx : xi = nI fr ∧ yi = nI mn ∧ fr + mn ≤ 24) (hB : rdB I0 J T) (hk : okP T s) (hS : eS F0 I0 T F I s) : A e 1 M_X12_wordHere [.ref 226, .int xi, .int yi] (F, I, G, J, P0 ha hb ea eb, Q0, S0) (.int (wdK T s fr mn)) := by
  obtain ⟨rfl, rfl, hx⟩ := hx
  unfold A Y
  iterate 4 ((refine X.f rfl ?_; first | refine z_iload rfl ?_ | refine z_aload rfl ?_ | refine z_push ?_ | refine z_istoreN rfl rfl ?_ | refine z_astoreN rfl rfl ?_ | refine z_istore rfl ?_ | refine z_astore rfl ?_ | refine z_gP rfl rfl ?_ | refine z_gI rfl ?_ | refine z_gotoF rfl ?_ | refine z_iadd ?_ | refine z_isub ?_ | refine z_imul ?_ | refine z_iand ?_ | refine z_ior ?_ | refine z_ishl ?_ | refine z_ishr ?_ | refine z_ixor ?_ | refine z_ineg ?_ | refine z_pI rfl ?_ | refine z_inc80 rfl ?_ | refine z_inc81 rfl ?_ | refine z_dup ?_ | refine z_dupr ?_ | refine z_dup2 ?_ | refine z_pop ?_ | (refine z_idiv ?sd1 ?_; (case sd1 => decide)) | (refine z_irem ?sd1 ?_; (case sd1 => decide)) | (refine z_iaload rfl ?sd1 ?sd2 ?sd3 ?_; (case sd1 => first | with_reducible assumption | decide | grind); (case sd2 => first | with_reducible assumption | decide | grind); (case sd3 => decide)) | (refine z_iastore rfl ?sd1 ?sd2 ?sd3 ?_; (case sd1 => first | with_reducible assumption | decide | grind); (case sd2 => first | with_reducible assumption | decide | grind); (case sd3 => decide))))
  refine x_for mn (fun i => [some (.ref 226), some (.int (nI fr)), some (.int (nI mn)), some (.int (wdK T s fr i)), some (.int (nI i))]) (fun _ => (F, I, G, J, P0 ha hb ea eb, Q0, S0)) (fun i hi k => ?_) ?_ (by repeat (first | exact trivial | refine ⟨by first | with_reducible rfl | exact congrArg (fun q => some (Value.int q)) (by first | with_reducible rfl | with_reducible assumption | exact (nI_succ _).symm | grind [nI_0]) | rfl, ?_⟩))
  · have h2 : ¬ nI mn ≤ nI i := by rw [nI_leI (by omega) (by omega)]; omega
    have e1 : nI fr + nI i = nI (fr + i) := nI_add _ _
    repeat' (first | fail | (refine X.f rfl ?_; first | refine z_iload rfl ?_ | refine z_aload rfl ?_ | refine z_push ?_ | refine z_istoreN rfl rfl ?_ | refine z_astoreN rfl rfl ?_ | refine z_istore rfl ?_ | refine z_astore rfl ?_ | refine z_gP rfl rfl ?_ | refine z_gI rfl ?_ | refine z_gotoF rfl ?_ | refine z_iadd ?_ | refine z_isub ?_ | refine z_imul ?_ | refine z_iand ?_ | refine z_ior ?_ | refine z_ishl ?_ | refine z_ishr ?_ | refine z_ixor ?_ | refine z_ineg ?_ | refine z_pI rfl ?_ | refine z_inc80 rfl ?_ | refine z_inc81 rfl ?_ | refine z_dup ?_ | refine z_dupr ?_ | refine z_dup2 ?_ | refine z_pop ?_ | (refine z_idiv ?sd1 ?_; (case sd1 => decide)) | (refine z_irem ?sd1 ?_; (case sd1 => decide)) | (refine z_iaload rfl ?sd1 ?sd2 ?sd3 ?_; (case sd1 => first | with_reducible assumption | decide | grind); (case sd2 => first | with_reducible assumption | decide | grind); (case sd3 => decide)) | (refine z_iastore rfl ?sd1 ?sd2 ?sd3 ?_; (case sd1 => first | with_reducible assumption | decide | grind); (case sd2 => first | with_reducible assumption | decide | grind); (case sd3 => decide))) | fail)
    ((refine X.f rfl ?_; first | refine z_ifeq (fun c => ?_) (fun c => ?_) | refine z_ifne (fun c => ?_) (fun c => ?_) | refine z_iflt (fun c => ?_) (fun c => ?_) | refine z_ifge (fun c => ?_) (fun c => ?_) | refine z_ifgt (fun c => ?_) (fun c => ?_) | refine z_ifle (fun c => ?_) (fun c => ?_) | refine z_ieq (fun c => ?_) (fun c => ?_) | refine z_ine (fun c => ?_) (fun c => ?_) | refine z_ilt (fun c => ?_) (fun c => ?_) | refine z_ige (fun c => ?_) (fun c => ?_) | refine z_igt (fun c => ?_) (fun c => ?_) | refine z_ile (fun c => ?_) (fun c => ?_)) <;> try (exfalso; first | (with_reducible exact absurd rfl c) | (with_reducible exact absurd (Int32.le_refl _) c) | (exact absurd c (by decide)) | (exact absurd c (by with_reducible assumption)) | (exact absurd (by with_reducible assumption) c)))
    repeat' (first | rw [e1] | (refine X.f rfl ?_; first | refine z_iload rfl ?_ | refine z_aload rfl ?_ | refine z_push ?_ | refine z_istoreN rfl rfl ?_ | refine z_astoreN rfl rfl ?_ | refine z_istore rfl ?_ | refine z_astore rfl ?_ | refine z_gP rfl rfl ?_ | refine z_gI rfl ?_ | refine z_gotoF rfl ?_ | refine z_iadd ?_ | refine z_isub ?_ | refine z_imul ?_ | refine z_iand ?_ | refine z_ior ?_ | refine z_ishl ?_ | refine z_ishr ?_ | refine z_ixor ?_ | refine z_ineg ?_ | refine z_pI rfl ?_ | refine z_inc80 rfl ?_ | refine z_inc81 rfl ?_ | refine z_dup ?_ | refine z_dupr ?_ | refine z_dup2 ?_ | refine z_pop ?_ | (refine z_idiv ?sd1 ?_; (case sd1 => decide)) | (refine z_irem ?sd1 ?_; (case sd1 => decide)) | (refine z_iaload rfl ?sd1 ?sd2 ?sd3 ?_; (case sd1 => first | with_reducible assumption | decide | grind); (case sd2 => first | with_reducible assumption | decide | grind); (case sd3 => decide)) | (refine z_iastore rfl ?sd1 ?sd2 ?sd3 ?_; (case sd1 => first | with_reducible assumption | decide | grind); (case sd2 => first | with_reducible assumption | decide | grind); (case sd3 => decide))) | (refine X.f rfl ?_; refine isV ?_; refine z_cav (q_isWordE (x := fr + i) ⟨by omega, rfl⟩ hB hk hS) rfl (by rfl) (by rfl) rfl rfl rfl rfl ?_))
    have e2 : wdK T s fr (i + 1) = if isWs T (fr + i) s then nI i else wdK T s fr i := rfl
    rw [e2] at k
    ((refine X.f rfl ?_; first | refine z_ifeq (fun c => ?_) (fun c => ?_) | refine z_ifne (fun c => ?_) (fun c => ?_) | refine z_iflt (fun c => ?_) (fun c => ?_) | refine z_ifge (fun c => ?_) (fun c => ?_) | refine z_ifgt (fun c => ?_) (fun c => ?_) | refine z_ifle (fun c => ?_) (fun c => ?_) | refine z_ieq (fun c => ?_) (fun c => ?_) | refine z_ine (fun c => ?_) (fun c => ?_) | refine z_ilt (fun c => ?_) (fun c => ?_) | refine z_ige (fun c => ?_) (fun c => ?_) | refine z_igt (fun c => ?_) (fun c => ?_) | refine z_ile (fun c => ?_) (fun c => ?_)) <;> try (exfalso; first | (with_reducible exact absurd rfl c) | (with_reducible exact absurd (Int32.le_refl _) c) | (exact absurd c (by decide)) | (exact absurd c (by with_reducible assumption)) | (exact absurd (by with_reducible assumption) c)))
    · rw [bI_0.mp c] at k
      repeat' (first | fail | (refine X.f rfl ?_; first | refine z_iload rfl ?_ | refine z_aload rfl ?_ | refine z_push ?_ | refine z_istoreN rfl rfl ?_ | refine z_astoreN rfl rfl ?_ | refine z_istore rfl ?_ | refine z_astore rfl ?_ | refine z_gP rfl rfl ?_ | refine z_gI rfl ?_ | refine z_gotoF rfl ?_ | refine z_iadd ?_ | refine z_isub ?_ | refine z_imul ?_ | refine z_iand ?_ | refine z_ior ?_ | refine z_ishl ?_ | refine z_ishr ?_ | refine z_ixor ?_ | refine z_ineg ?_ | refine z_pI rfl ?_ | refine z_inc80 rfl ?_ | refine z_inc81 rfl ?_ | refine z_dup ?_ | refine z_dupr ?_ | refine z_dup2 ?_ | refine z_pop ?_ | (refine z_idiv ?sd1 ?_; (case sd1 => decide)) | (refine z_irem ?sd1 ?_; (case sd1 => decide)) | (refine z_iaload rfl ?sd1 ?sd2 ?sd3 ?_; (case sd1 => first | with_reducible assumption | decide | grind); (case sd2 => first | with_reducible assumption | decide | grind); (case sd3 => decide)) | (refine z_iastore rfl ?sd1 ?sd2 ?sd3 ?_; (case sd1 => first | with_reducible assumption | decide | grind); (case sd2 => first | with_reducible assumption | decide | grind); (case sd3 => decide))) | fail)
      (refine X.f rfl (z_goto (k _ ?_)); repeat (first | exact trivial | refine ⟨by first | with_reducible rfl | exact congrArg (fun q => some (Value.int q)) (by first | with_reducible rfl | with_reducible assumption | exact (nI_succ _).symm | grind [nI_0]) | rfl, ?_⟩))
    · rw [bI_n0.mp c] at k
      repeat' (first | fail | (refine X.f rfl ?_; first | refine z_iload rfl ?_ | refine z_aload rfl ?_ | refine z_push ?_ | refine z_istoreN rfl rfl ?_ | refine z_astoreN rfl rfl ?_ | refine z_istore rfl ?_ | refine z_astore rfl ?_ | refine z_gP rfl rfl ?_ | refine z_gI rfl ?_ | refine z_gotoF rfl ?_ | refine z_iadd ?_ | refine z_isub ?_ | refine z_imul ?_ | refine z_iand ?_ | refine z_ior ?_ | refine z_ishl ?_ | refine z_ishr ?_ | refine z_ixor ?_ | refine z_ineg ?_ | refine z_pI rfl ?_ | refine z_inc80 rfl ?_ | refine z_inc81 rfl ?_ | refine z_dup ?_ | refine z_dupr ?_ | refine z_dup2 ?_ | refine z_pop ?_ | (refine z_idiv ?sd1 ?_; (case sd1 => decide)) | (refine z_irem ?sd1 ?_; (case sd1 => decide)) | (refine z_iaload rfl ?sd1 ?sd2 ?sd3 ?_; (case sd1 => first | with_reducible assumption | decide | grind); (case sd2 => first | with_reducible assumption | decide | grind); (case sd3 => decide)) | (refine z_iastore rfl ?sd1 ?sd2 ?sd3 ?_; (case sd1 => first | with_reducible assumption | decide | grind); (case sd2 => first | with_reducible assumption | decide | grind); (case sd3 => decide))) | fail)
      (refine X.f rfl (z_goto (k _ ?_)); repeat (first | exact trivial | refine ⟨by first | with_reducible rfl | exact congrArg (fun q => some (Value.int q)) (by first | with_reducible rfl | with_reducible assumption | exact (nI_succ _).symm | grind [nI_0]) | rfl, ?_⟩))
  · repeat' (first | fail | (refine X.f rfl ?_; first | refine z_iload rfl ?_ | refine z_aload rfl ?_ | refine z_push ?_ | refine z_istoreN rfl rfl ?_ | refine z_astoreN rfl rfl ?_ | refine z_istore rfl ?_ | refine z_astore rfl ?_ | refine z_gP rfl rfl ?_ | refine z_gI rfl ?_ | refine z_gotoF rfl ?_ | refine z_iadd ?_ | refine z_isub ?_ | refine z_imul ?_ | refine z_iand ?_ | refine z_ior ?_ | refine z_ishl ?_ | refine z_ishr ?_ | refine z_ixor ?_ | refine z_ineg ?_ | refine z_pI rfl ?_ | refine z_inc80 rfl ?_ | refine z_inc81 rfl ?_ | refine z_dup ?_ | refine z_dupr ?_ | refine z_dup2 ?_ | refine z_pop ?_ | (refine z_idiv ?sd1 ?_; (case sd1 => decide)) | (refine z_irem ?sd1 ?_; (case sd1 => decide)) | (refine z_iaload rfl ?sd1 ?sd2 ?sd3 ?_; (case sd1 => first | with_reducible assumption | decide | grind); (case sd2 => first | with_reducible assumption | decide | grind); (case sd3 => decide)) | (refine z_iastore rfl ?sd1 ?sd2 ?sd3 ?_; (case sd1 => first | with_reducible assumption | decide | grind); (case sd2 => first | with_reducible assumption | decide | grind); (case sd3 => decide))) | fail)
    ((refine X.f rfl ?_; first | refine z_ifeq (fun c => ?_) (fun c => ?_) | refine z_ifne (fun c => ?_) (fun c => ?_) | refine z_iflt (fun c => ?_) (fun c => ?_) | refine z_ifge (fun c => ?_) (fun c => ?_) | refine z_ifgt (fun c => ?_) (fun c => ?_) | refine z_ifle (fun c => ?_) (fun c => ?_) | refine z_ieq (fun c => ?_) (fun c => ?_) | refine z_ine (fun c => ?_) (fun c => ?_) | refine z_ilt (fun c => ?_) (fun c => ?_) | refine z_ige (fun c => ?_) (fun c => ?_) | refine z_igt (fun c => ?_) (fun c => ?_) | refine z_ile (fun c => ?_) (fun c => ?_)) <;> try (exfalso; first | (with_reducible exact absurd rfl c) | (with_reducible exact absurd (Int32.le_refl _) c) | (exact absurd c (by decide)) | (exact absurd c (by with_reducible assumption)) | (exact absurd (by with_reducible assumption) c)))
    repeat' (first | fail | (refine X.f rfl ?_; first | refine z_iload rfl ?_ | refine z_aload rfl ?_ | refine z_push ?_ | refine z_istoreN rfl rfl ?_ | refine z_astoreN rfl rfl ?_ | refine z_istore rfl ?_ | refine z_astore rfl ?_ | refine z_gP rfl rfl ?_ | refine z_gI rfl ?_ | refine z_gotoF rfl ?_ | refine z_iadd ?_ | refine z_isub ?_ | refine z_imul ?_ | refine z_iand ?_ | refine z_ior ?_ | refine z_ishl ?_ | refine z_ishr ?_ | refine z_ixor ?_ | refine z_ineg ?_ | refine z_pI rfl ?_ | refine z_inc80 rfl ?_ | refine z_inc81 rfl ?_ | refine z_dup ?_ | refine z_dupr ?_ | refine z_dup2 ?_ | refine z_pop ?_ | (refine z_idiv ?sd1 ?_; (case sd1 => decide)) | (refine z_irem ?sd1 ?_; (case sd1 => decide)) | (refine z_iaload rfl ?sd1 ?sd2 ?sd3 ?_; (case sd1 => first | with_reducible assumption | decide | grind); (case sd2 => first | with_reducible assumption | decide | grind); (case sd3 => decide)) | (refine z_iastore rfl ?sd1 ?sd2 ?sd3 ?_; (case sd1 => first | with_reducible assumption | decide | grind); (case sd2 => first | with_reducible assumption | decide | grind); (case sd3 => decide))) | fail)
    exact x_ret rfl rfl ⟨rfl, rfl⟩
theorem wdK_fact (h0 : s.1 = 0) : wdK T s 20 4 = factA T s.2.1 := by
  unfold factA
  simp only [wdK, isWs, decide_eq_true h0, Bool.true_and]
  rfl
theorem wdK_f {fr : Nat} (h0 : ¬ s.1 = 0) : ∀ mn, wdK T s fr mn = -1
  | 0 => rfl
  | k + 1 => by
    unfold wdK isWs
    rw [decide_eq_false h0]
    exact wdK_f h0 k
end RT
