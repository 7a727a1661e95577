/-! THE REFERENCE reads a hall: a seat -/
/-- the first fault of two -/
def chF (f g : Int32) : Int32 := if f ≠ 0 then f else g
def okF (f : Int32) : Prop := f = 0 ∨ ¬ f ≤ 0
def lnP (F : Nat → Nat → Int32) (I : Nat → Int32 → Int32) (G : Nat → Nat → Int64) (J : Nat → Int32 → Int64) (ha hb ea eb : Nat) (T : List Int32) (fl : Int32) (j' : Nat) (D' : DV) (w : Option Value) (M' : xM) : Prop := w = none ∧ ∃ F' I' J', M' = (F', I', G, J', P0 ha hb ea eb, Q0, S0) ∧ rfF F F' I I' J J' ∧ F' 226 8 = fl ∧ (fl = 0 → F' 226 7 = nI j' ∧ rfD F' I' J' D')
/-- reads that go on behind a fault -/
def tgP (F : Nat → Nat → Int32) (I : Nat → Int32 → Int32) (G : Nat → Nat → Int64) (J : Nat → Int32 → Int64) (ha hb ea eb : Nat) (fl v : Int32) (j' : Nat) (w : Option Value) (M' : xM) : Prop := w = some (.int (if fl = 0 then v else 0)) ∧ ∃ F', M' = (F', I, G, J, P0 ha hb ea eb, Q0, S0) ∧ to7 F F' ∧ F' 226 8 = fl ∧ (fl = 0 → F' 226 7 = nI j')
section RB
variable {e : Bool × Int32 × (Int32 → Int32)} {d : Nat} {F F' F'' : Nat → Nat → Int32} {I I' I'' : Nat → Int32 → Int32} {G : Nat → Nat → Int64} {J J' J'' : Nat → Int32 → Int64} {ha hb ea eb : Nat} {T : List Int32} {j : Nat} {f g : Int32} {L : ND} {D : DV}
theorem okF.ch (h : okF f) (k : okF g) : okF (chF f g) := by
  unfold chF
  split
  · exact h
  · exact k
theorem chF_0 (h : chF f g = 0) : f = 0 ∧ g = 0 := by
  unfold chF at h
  split at h
  · rename_i q
    exact absurd h q
  · rename_i q
    exact ⟨Classical.not_not.mp q, h⟩
theorem chF_00 : chF 0 g = g := if_neg (fun q => q rfl)
theorem chF_n (h : f ≠ 0) : chF f g = f := if_pos h
theorem okF_bad (hT : T.length ≤ 1000) {x : Int32} (h0 : 1 ≤ x) (h1 : x ≤ 5) : okF (bad T x j) := Or.inr (wr_gt hT h0 h1 j)
theorem nnE_ok (hT : T.length ≤ 1000) : okF (nnE T L j) := by
  unfold nnE
  split
  · split
    · exact okF_bad hT (by decide) (by decide)
    · exact Or.inl rfl
  · exact okF_bad hT (by decide) (by decide)
theorem nuE_ok (hT : T.length ≤ 1000) {lo hi : Int32} : okF (nuE T lo hi j) := by
  unfold nuE
  split
  · split
    · exact okF_bad hT (by decide) (by decide)
    · exact Or.inl rfl
  · exact okF_bad hT (by decide) (by decide)
theorem afE_ok (hT : T.length ≤ 1000) {x : Nat} {lo hi : Int32} : okF (afE T x lo hi j) := by
  unfold afE
  split
  · exact nuE_ok hT
  · exact okF_bad hT (by decide) (by decide)
theorem onE_ok (hT : T.length ≤ 1000) {fr mn : Nat} : okF (onE T fr mn j) := by
  unfold onE
  split
  · exact okF_bad hT (by decide) (by decide)
  · exact Or.inl rfl
theorem toE_ok (hT : T.length ≤ 1000) {fr but : Int32} : okF (toE T L fr but j) := by
  unfold toE
  split
  · split
    · split
      · exact okF_bad hT (by decide) (by decide)
      · exact Or.inl rfl
    · exact okF_bad hT (by decide) (by decide)
  · exact okF_bad hT (by decide) (by decide)
theorem afE_lt {x : Nat} {lo hi : Int32} (hT : T.length ≤ 1000) (h : afE T x lo hi j = 0) : j + 1 < (toks T).length ∧ isW T j x = true ∧ isU T (j + 1) = true ∧ lo ≤ numA T (j + 1) ∧ numA T (j + 1) ≤ hi := by
  unfold afE at h
  split at h
  · rename_i h1
    unfold nuE at h
    split at h
    · rename_i h2
      split at h
      · exact absurd h (wr_gt2 hT (by decide) (by decide) _)
      · rename_i h3
        exact ⟨isU_lt h2, h1, h2, Int32.not_lt.mp (fun q => h3 (Or.inl q)), Int32.not_lt.mp (fun q => h3 (Or.inr q))⟩
    · exact absurd h (wr_gt2 hT (by decide) (by decide) _)
  · exact absurd h (wr_gt2 hT (by decide) (by decide) _)
theorem isNm_lt (h : isNm T j = true) : j < (toks T).length := tokAt_end (by rw [(isNm_1 h).1]; decide)
theorem q_takeAfterG {x : Nat} {xi lo hi : Int32} (hx : x < 24 ∧ xi = nI x) (hB : rdB I J T) (hf : F 226 8 = f) (ok : okF f) (hj : f = 0 → F 226 7 = nI j ∧ j ≤ (toks T).length) : Y e 3 M_X12_takeAfter [.ref 226, .int xi, .int lo, .int hi] (F, I, G, J, P0 ha hb ea eb, Q0, S0) (tgP F I G J ha hb ea eb (chF f (afE T x lo hi j)) (numA T (j + 1)) (j + 2)) := by
  rcases ok with rfl | h9
  · rw [chF_00]
    exact q_takeAfterH hx hB (hj rfl).2 (hj rfl).1 hf
  · have h8 : f ≠ 0 := fun q => h9 (by rw [q]; decide)
    rw [chF_n h8]
    refine Y.post (q_takeAfter_f (by rw [hf]; exact h8) (by rw [hf]; exact h9)) ?_
    rintro w M' ⟨rfl, rfl⟩
    exact ⟨by rw [if_neg h8], _, rfl, to7.refl _, hf, fun q => absurd q h8⟩
theorem q_takeOneG {fr mn : Nat} {xi yi : Int32} (hx : xi = nI fr ∧ yi = nI mn ∧ fr + mn ≤ 24) (hB : rdB I J T) (hf : F 226 8 = f) (ok : okF f) (hj : f = 0 → F 226 7 = nI j ∧ j ≤ (toks T).length) : Y e 2 M_X12_takeOne [.ref 226, .int xi, .int yi] (F, I, G, J, P0 ha hb ea eb, Q0, S0) (tgP F I G J ha hb ea eb (chF f (onE T fr mn j)) (onK T j fr mn) (j + 1)) := by
  rcases ok with rfl | h9
  · rw [chF_00]
    exact q_takeOneH hx hB (hj rfl).2 (hj rfl).1 hf
  · have h8 : f ≠ 0 := fun q => h9 (by rw [q]; decide)
    rw [chF_n h8]
    refine Y.post (q_takeOne_f (by rw [hf]; exact h8) (by rw [hf]; exact h9)) ?_
    rintro w M' ⟨rfl, rfl⟩
    exact ⟨by rw [if_neg h8], _, rfl, to7.refl _, hf, fun q => absurd q h8⟩
theorem rnP.fr {mi fr n : Nat} {fl : Int32} (hmi : mi ≤ 1) (o1 : ∀ c k, ¬ (c = 226 ∧ (k = 7 ∨ k = 8 ∨ k = 19)) → F' c k = F c k) (off : fl ≠ 0 → I' = I ∧ J' = J) (on : fl = 0 → F' 226 7 = nI (j + 2) ∧ F' 226 19 = nI (L.length + 1) ∧ I' = xv (xv I 238 (nI L.length) (nI (fr + n))) 232 (40 + nI mi) (nI (n + 1)) ∧ J' = xv J 236 (nI L.length) (p37 (txA T (j + 1)) 0)) : rfF F F' I I' J J' ∧ (∀ x, 42 ≤ x → I' 232 x = I 232 x) := by
  have hf : ∀ c k, ¬ (c = 226 ∧ (k = 7 ∨ k = 8 ∨ k = 13 ∨ k = 19 ∨ k = 20)) → F' c k = F c k := fun c k hc => o1 c k (by omega)
  have b0 : 0 ≤ nI mi := nI_pos' (by omega)
  have b1 : nI mi ≤ 1 := (nI_leI (b := 1) (by omega) (by omega)).mpr (by omega)
  by_cases h : fl = 0
  · obtain ⟨-, -, rfl, rfl⟩ := on h
    refine ⟨⟨hf, fun c h1 h2 h3 h4 => by rw [xv_ne h1, xv_ne h4], fun x hx => ?_, fun x hx => ⟨by rw [xv_ne (by decide), xv_ne (by decide)], by rw [xv_ne (by decide), xv_ne (by decide)]⟩, fun c hc => ?_⟩, fun x hx => ?_⟩
    · rw [xv_row, row_same, up_ne (by grind), xv_ne (by decide)]
    · funext i
      unfold xv
      exact if_neg (fun q => hc q.1)
    · rw [xv_row, row_same, up_ne (by grind), xv_ne (by decide)]
  · obtain ⟨rfl, rfl⟩ := off h
    exact ⟨⟨hf, fun _ _ _ _ _ => rfl, fun _ _ => rfl, fun _ _ => ⟨rfl, rfl⟩, fun _ _ => rfl⟩, fun _ _ => rfl⟩
set_option maxHeartbeats 1000000 in
theorem q_seatLoop {n : Nat} {r a : Int32} {h : HV} {post : Option Value → xM → Prop} (hn : n ≤ 7) (hRA : ∀ s, 0 ≤ s → s < 7 → I 232 (44 + 2 * s) = hRow h s ∧ I 232 (44 + 2 * s + 1) = hAt h s) (cont : ∀ L', lle [some (.ref 226), some (.int (nI n)), some (.int r), some (.int a), some (.int (bI (hadQ h r a n))), none] L' → X e d M_X12_readSeat.2.2 59 L' [] (F, I, G, J, P0 ha hb ea eb, Q0, S0) post) : ∀ L', lle [some (.ref 226), some (.int (nI n)), some (.int r), some (.int a), none, none] L' → X e d M_X12_readSeat.2.2 22 L' [] (F, I, G, J, P0 ha hb ea eb, Q0, S0) post := by
  intro L' hL
  refine X.weak hL ?_
  iterate 4 ((refine X.f rfl ?_; first | refine z_iload rfl ?_ | refine z_aload rfl ?_ | refine z_push ?_ | refine z_istoreN rfl rfl ?_ | refine z_astoreN rfl rfl ?_ | refine z_istore rfl ?_ | refine z_astore rfl ?_ | refine z_gP rfl rfl ?_ | refine z_gI rfl ?_ | refine z_gotoF rfl ?_ | refine z_iadd ?_ | refine z_isub ?_ | refine z_imul ?_ | refine z_iand ?_ | refine z_ior ?_ | refine z_ishl ?_ | refine z_ishr ?_ | refine z_ixor ?_ | refine z_ineg ?_ | refine z_pI rfl ?_ | refine z_inc80 rfl ?_ | refine z_inc81 rfl ?_ | refine z_dup ?_ | refine z_dupr ?_ | refine z_dup2 ?_ | refine z_pop ?_ | (refine z_idiv ?sd1 ?_; (case sd1 => decide)) | (refine z_irem ?sd1 ?_; (case sd1 => decide)) | (refine z_iaload rfl ?sd1 ?sd2 ?sd3 ?_; (case sd1 => first | with_reducible assumption | decide | grind); (case sd2 => first | with_reducible assumption | decide | grind); (case sd3 => decide)) | (refine z_iastore rfl ?sd1 ?sd2 ?sd3 ?_; (case sd1 => first | with_reducible assumption | decide | grind); (case sd2 => first | with_reducible assumption | decide | grind); (case sd3 => decide))))
  refine x_for n (fun i => [some (.ref 226), some (.int (nI n)), some (.int r), some (.int a), some (.int (bI (hadQ h r a i))), some (.int (nI i))]) (fun _ => (F, I, G, J, P0 ha hb ea eb, Q0, S0)) (fun i hi k => ?_) ?_ (by repeat (first | exact trivial | refine ⟨by first | with_reducible rfl | exact congrArg (fun q => some (Value.int q)) (by first | with_reducible rfl | with_reducible assumption | exact (nI_succ _).symm | grind [nI_0]) | rfl, ?_⟩))
  · obtain ⟨h0, h1, -⟩ := nI_lt7 hi hn
    have h2' : ¬ nI n ≤ nI i := by rw [nI_leI (by omega) (by omega)]; omega
    obtain ⟨q1, q2⟩ := hRA (nI i) h0 h1
    have b0 : 0 ≤ 44 + 2 * nI i := by grind
    have b1 : 44 + 2 * nI i < 80 := by grind
    have b2 : 0 ≤ 44 + 2 * nI i + 1 := by grind
    have b3 : 44 + 2 * nI i + 1 < 80 := by grind
    have hq : hadQ h r a (i + 1) = (hadQ h r a i || (decide (hRow h (nI i) = r) && decide (hAt h (nI i) = a))) := rfl
    rw [hq] at k
    iterate 2 ((refine X.f rfl ?_; first | refine z_iload rfl ?_ | refine z_aload rfl ?_ | refine z_push ?_ | refine z_istoreN rfl rfl ?_ | refine z_astoreN rfl rfl ?_ | refine z_istore rfl ?_ | refine z_astore rfl ?_ | refine z_gP rfl rfl ?_ | refine z_gI rfl ?_ | refine z_gotoF rfl ?_ | refine z_iadd ?_ | refine z_isub ?_ | refine z_imul ?_ | refine z_iand ?_ | refine z_ior ?_ | refine z_ishl ?_ | refine z_ishr ?_ | refine z_ixor ?_ | refine z_ineg ?_ | refine z_pI rfl ?_ | refine z_inc80 rfl ?_ | refine z_inc81 rfl ?_ | refine z_dup ?_ | refine z_dupr ?_ | refine z_dup2 ?_ | refine z_pop ?_ | (refine z_idiv ?sd1 ?_; (case sd1 => decide)) | (refine z_irem ?sd1 ?_; (case sd1 => decide)) | (refine z_iaload rfl ?sd1 ?sd2 ?sd3 ?_; (case sd1 => first | with_reducible assumption | decide | grind); (case sd2 => first | with_reducible assumption | decide | grind); (case sd3 => decide)) | (refine z_iastore rfl ?sd1 ?sd2 ?sd3 ?_; (case sd1 => first | with_reducible assumption | decide | grind); (case sd2 => first | with_reducible assumption | decide | grind); (case sd3 => decide))))
    ((refine X.f rfl ?_; first | refine z_ifeq (fun c => ?_) (fun c => ?_) | refine z_ifne (fun c => ?_) (fun c => ?_) | refine z_iflt (fun c => ?_) (fun c => ?_) | refine z_ifge (fun c => ?_) (fun c => ?_) | refine z_ifgt (fun c => ?_) (fun c => ?_) | refine z_ifle (fun c => ?_) (fun c => ?_) | refine z_ieq (fun c => ?_) (fun c => ?_) | refine z_ine (fun c => ?_) (fun c => ?_) | refine z_ilt (fun c => ?_) (fun c => ?_) | refine z_ige (fun c => ?_) (fun c => ?_) | refine z_igt (fun c => ?_) (fun c => ?_) | refine z_ile (fun c => ?_) (fun c => ?_)) <;> try (exfalso; first | (with_reducible exact absurd rfl c) | (with_reducible exact absurd (Int32.le_refl _) c) | (exact absurd c (by decide)) | (exact absurd c (by with_reducible assumption)) | (exact absurd (by with_reducible assumption) c)))
    iterate 1 ((refine X.f rfl ?_; first | refine z_iload rfl ?_ | refine z_aload rfl ?_ | refine z_push ?_ | refine z_istoreN rfl rfl ?_ | refine z_astoreN rfl rfl ?_ | refine z_istore rfl ?_ | refine z_astore rfl ?_ | refine z_gP rfl rfl ?_ | refine z_gI rfl ?_ | refine z_gotoF rfl ?_ | refine z_iadd ?_ | refine z_isub ?_ | refine z_imul ?_ | refine z_iand ?_ | refine z_ior ?_ | refine z_ishl ?_ | refine z_ishr ?_ | refine z_ixor ?_ | refine z_ineg ?_ | refine z_pI rfl ?_ | refine z_inc80 rfl ?_ | refine z_inc81 rfl ?_ | refine z_dup ?_ | refine z_dupr ?_ | refine z_dup2 ?_ | refine z_pop ?_ | (refine z_idiv ?sd1 ?_; (case sd1 => decide)) | (refine z_irem ?sd1 ?_; (case sd1 => decide)) | (refine z_iaload rfl ?sd1 ?sd2 ?sd3 ?_; (case sd1 => first | with_reducible assumption | decide | grind); (case sd2 => first | with_reducible assumption | decide | grind); (case sd3 => decide)) | (refine z_iastore rfl ?sd1 ?sd2 ?sd3 ?_; (case sd1 => first | with_reducible assumption | decide | grind); (case sd2 => first | with_reducible assumption | decide | grind); (case sd3 => decide))))
    cases hh : hadQ h r a i
    · rw [hh, Bool.false_or] at k
      ((refine X.f rfl ?_; first | refine z_ifeq (fun c => ?_) (fun c => ?_) | refine z_ifne (fun c => ?_) (fun c => ?_) | refine z_iflt (fun c => ?_) (fun c => ?_) | refine z_ifge (fun c => ?_) (fun c => ?_) | refine z_ifgt (fun c => ?_) (fun c => ?_) | refine z_ifle (fun c => ?_) (fun c => ?_) | refine z_ieq (fun c => ?_) (fun c => ?_) | refine z_ine (fun c => ?_) (fun c => ?_) | refine z_ilt (fun c => ?_) (fun c => ?_) | refine z_ige (fun c => ?_) (fun c => ?_) | refine z_igt (fun c => ?_) (fun c => ?_) | refine z_ile (fun c => ?_) (fun c => ?_)) <;> try (exfalso; first | (with_reducible exact absurd rfl c) | (with_reducible exact absurd (Int32.le_refl _) c) | (exact absurd c (by decide)) | (exact absurd c (by with_reducible assumption)) | (exact absurd (by with_reducible assumption) c)))
      iterate 8 ((refine X.f rfl ?_; first | refine z_iload rfl ?_ | refine z_aload rfl ?_ | refine z_push ?_ | refine z_istoreN rfl rfl ?_ | refine z_astoreN rfl rfl ?_ | refine z_istore rfl ?_ | refine z_astore rfl ?_ | refine z_gP rfl rfl ?_ | refine z_gI rfl ?_ | refine z_gotoF rfl ?_ | refine z_iadd ?_ | refine z_isub ?_ | refine z_imul ?_ | refine z_iand ?_ | refine z_ior ?_ | refine z_ishl ?_ | refine z_ishr ?_ | refine z_ixor ?_ | refine z_ineg ?_ | refine z_pI rfl ?_ | refine z_inc80 rfl ?_ | refine z_inc81 rfl ?_ | refine z_dup ?_ | refine z_dupr ?_ | refine z_dup2 ?_ | refine z_pop ?_ | (refine z_idiv ?sd1 ?_; (case sd1 => decide)) | (refine z_irem ?sd1 ?_; (case sd1 => decide)) | (refine z_iaload rfl ?sd1 ?sd2 ?sd3 ?_; (case sd1 => first | with_reducible assumption | decide | grind); (case sd2 => first | with_reducible assumption | decide | grind); (case sd3 => decide)) | (refine z_iastore rfl ?sd1 ?sd2 ?sd3 ?_; (case sd1 => first | with_reducible assumption | decide | grind); (case sd2 => first | with_reducible assumption | decide | grind); (case sd3 => decide))))
      rw [q1]
      iterate 1 ((refine X.f rfl ?_; first | refine z_iload rfl ?_ | refine z_aload rfl ?_ | refine z_push ?_ | refine z_istoreN rfl rfl ?_ | refine z_astoreN rfl rfl ?_ | refine z_istore rfl ?_ | refine z_astore rfl ?_ | refine z_gP rfl rfl ?_ | refine z_gI rfl ?_ | refine z_gotoF rfl ?_ | refine z_iadd ?_ | refine z_isub ?_ | refine z_imul ?_ | refine z_iand ?_ | refine z_ior ?_ | refine z_ishl ?_ | refine z_ishr ?_ | refine z_ixor ?_ | refine z_ineg ?_ | refine z_pI rfl ?_ | refine z_inc80 rfl ?_ | refine z_inc81 rfl ?_ | refine z_dup ?_ | refine z_dupr ?_ | refine z_dup2 ?_ | refine z_pop ?_ | (refine z_idiv ?sd1 ?_; (case sd1 => decide)) | (refine z_irem ?sd1 ?_; (case sd1 => decide)) | (refine z_iaload rfl ?sd1 ?sd2 ?sd3 ?_; (case sd1 => first | with_reducible assumption | decide | grind); (case sd2 => first | with_reducible assumption | decide | grind); (case sd3 => decide)) | (refine z_iastore rfl ?sd1 ?sd2 ?sd3 ?_; (case sd1 => first | with_reducible assumption | decide | grind); (case sd2 => first | with_reducible assumption | decide | grind); (case sd3 => decide))))
      first | refine X.f rfl (z_ifeq (fun c => ?_) (fun c => ?_)) | refine X.f rfl (z_ifne (fun c => ?_) (fun c => ?_)) | refine X.f rfl (z_iflt (fun c => ?_) (fun c => ?_)) | refine X.f rfl (z_ifge (fun c => ?_) (fun c => ?_)) | refine X.f rfl (z_ifgt (fun c => ?_) (fun c => ?_)) | refine X.f rfl (z_ifle (fun c => ?_) (fun c => ?_)) | refine X.f rfl (z_ieq (fun c => ?_) (fun c => ?_)) | refine X.f rfl (z_ine (fun c => ?_) (fun c => ?_)) | refine X.f rfl (z_ilt (fun c => ?_) (fun c => ?_)) | refine X.f rfl (z_ige (fun c => ?_) (fun c => ?_)) | refine X.f rfl (z_igt (fun c => ?_) (fun c => ?_)) | refine X.f rfl (z_ile (fun c => ?_) (fun c => ?_))
      · rw [decide_eq_false c, Bool.false_and] at k
        repeat' (first | fail | (refine X.f rfl ?_; first | refine z_iload rfl ?_ | refine z_aload rfl ?_ | refine z_push ?_ | refine z_istoreN rfl rfl ?_ | refine z_astoreN rfl rfl ?_ | refine z_istore rfl ?_ | refine z_astore rfl ?_ | refine z_gP rfl rfl ?_ | refine z_gI rfl ?_ | refine z_gotoF rfl ?_ | refine z_iadd ?_ | refine z_isub ?_ | refine z_imul ?_ | refine z_iand ?_ | refine z_ior ?_ | refine z_ishl ?_ | refine z_ishr ?_ | refine z_ixor ?_ | refine z_ineg ?_ | refine z_pI rfl ?_ | refine z_inc80 rfl ?_ | refine z_inc81 rfl ?_ | refine z_dup ?_ | refine z_dupr ?_ | refine z_dup2 ?_ | refine z_pop ?_ | (refine z_idiv ?sd1 ?_; (case sd1 => decide)) | (refine z_irem ?sd1 ?_; (case sd1 => decide)) | (refine z_iaload rfl ?sd1 ?sd2 ?sd3 ?_; (case sd1 => first | with_reducible assumption | decide | grind); (case sd2 => first | with_reducible assumption | decide | grind); (case sd3 => decide)) | (refine z_iastore rfl ?sd1 ?sd2 ?sd3 ?_; (case sd1 => first | with_reducible assumption | decide | grind); (case sd2 => first | with_reducible assumption | decide | grind); (case sd3 => decide))) | fail)
        (refine X.f rfl (z_goto (k _ ?_)); repeat (first | exact trivial | refine ⟨by first | with_reducible rfl | exact congrArg (fun q => some (Value.int q)) (by first | with_reducible rfl | with_reducible assumption | exact (nI_succ _).symm | grind [nI_0]) | rfl, ?_⟩))
      · rw [decide_eq_true (Classical.not_not.mp c), Bool.true_and] at k
        iterate 10 ((refine X.f rfl ?_; first | refine z_iload rfl ?_ | refine z_aload rfl ?_ | refine z_push ?_ | refine z_istoreN rfl rfl ?_ | refine z_astoreN rfl rfl ?_ | refine z_istore rfl ?_ | refine z_astore rfl ?_ | refine z_gP rfl rfl ?_ | refine z_gI rfl ?_ | refine z_gotoF rfl ?_ | refine z_iadd ?_ | refine z_isub ?_ | refine z_imul ?_ | refine z_iand ?_ | refine z_ior ?_ | refine z_ishl ?_ | refine z_ishr ?_ | refine z_ixor ?_ | refine z_ineg ?_ | refine z_pI rfl ?_ | refine z_inc80 rfl ?_ | refine z_inc81 rfl ?_ | refine z_dup ?_ | refine z_dupr ?_ | refine z_dup2 ?_ | refine z_pop ?_ | (refine z_idiv ?sd1 ?_; (case sd1 => decide)) | (refine z_irem ?sd1 ?_; (case sd1 => decide)) | (refine z_iaload rfl ?sd1 ?sd2 ?sd3 ?_; (case sd1 => first | with_reducible assumption | decide | grind); (case sd2 => first | with_reducible assumption | decide | grind); (case sd3 => decide)) | (refine z_iastore rfl ?sd1 ?sd2 ?sd3 ?_; (case sd1 => first | with_reducible assumption | decide | grind); (case sd2 => first | with_reducible assumption | decide | grind); (case sd3 => decide))))
        rw [q2]
        iterate 1 ((refine X.f rfl ?_; first | refine z_iload rfl ?_ | refine z_aload rfl ?_ | refine z_push ?_ | refine z_istoreN rfl rfl ?_ | refine z_astoreN rfl rfl ?_ | refine z_istore rfl ?_ | refine z_astore rfl ?_ | refine z_gP rfl rfl ?_ | refine z_gI rfl ?_ | refine z_gotoF rfl ?_ | refine z_iadd ?_ | refine z_isub ?_ | refine z_imul ?_ | refine z_iand ?_ | refine z_ior ?_ | refine z_ishl ?_ | refine z_ishr ?_ | refine z_ixor ?_ | refine z_ineg ?_ | refine z_pI rfl ?_ | refine z_inc80 rfl ?_ | refine z_inc81 rfl ?_ | refine z_dup ?_ | refine z_dupr ?_ | refine z_dup2 ?_ | refine z_pop ?_ | (refine z_idiv ?sd1 ?_; (case sd1 => decide)) | (refine z_irem ?sd1 ?_; (case sd1 => decide)) | (refine z_iaload rfl ?sd1 ?sd2 ?sd3 ?_; (case sd1 => first | with_reducible assumption | decide | grind); (case sd2 => first | with_reducible assumption | decide | grind); (case sd3 => decide)) | (refine z_iastore rfl ?sd1 ?sd2 ?sd3 ?_; (case sd1 => first | with_reducible assumption | decide | grind); (case sd2 => first | with_reducible assumption | decide | grind); (case sd3 => decide))))
        first | refine X.f rfl (z_ifeq (fun c => ?_) (fun c => ?_)) | refine X.f rfl (z_ifne (fun c => ?_) (fun c => ?_)) | refine X.f rfl (z_iflt (fun c => ?_) (fun c => ?_)) | refine X.f rfl (z_ifge (fun c => ?_) (fun c => ?_)) | refine X.f rfl (z_ifgt (fun c => ?_) (fun c => ?_)) | refine X.f rfl (z_ifle (fun c => ?_) (fun c => ?_)) | refine X.f rfl (z_ieq (fun c => ?_) (fun c => ?_)) | refine X.f rfl (z_ine (fun c => ?_) (fun c => ?_)) | refine X.f rfl (z_ilt (fun c => ?_) (fun c => ?_)) | refine X.f rfl (z_ige (fun c => ?_) (fun c => ?_)) | refine X.f rfl (z_igt (fun c => ?_) (fun c => ?_)) | refine X.f rfl (z_ile (fun c => ?_) (fun c => ?_))
        · rw [decide_eq_false c] at k
          repeat' (first | fail | (refine X.f rfl ?_; first | refine z_iload rfl ?_ | refine z_aload rfl ?_ | refine z_push ?_ | refine z_istoreN rfl rfl ?_ | refine z_astoreN rfl rfl ?_ | refine z_istore rfl ?_ | refine z_astore rfl ?_ | refine z_gP rfl rfl ?_ | refine z_gI rfl ?_ | refine z_gotoF rfl ?_ | refine z_iadd ?_ | refine z_isub ?_ | refine z_imul ?_ | refine z_iand ?_ | refine z_ior ?_ | refine z_ishl ?_ | refine z_ishr ?_ | refine z_ixor ?_ | refine z_ineg ?_ | refine z_pI rfl ?_ | refine z_inc80 rfl ?_ | refine z_inc81 rfl ?_ | refine z_dup ?_ | refine z_dupr ?_ | refine z_dup2 ?_ | refine z_pop ?_ | (refine z_idiv ?sd1 ?_; (case sd1 => decide)) | (refine z_irem ?sd1 ?_; (case sd1 => decide)) | (refine z_iaload rfl ?sd1 ?sd2 ?sd3 ?_; (case sd1 => first | with_reducible assumption | decide | grind); (case sd2 => first | with_reducible assumption | decide | grind); (case sd3 => decide)) | (refine z_iastore rfl ?sd1 ?sd2 ?sd3 ?_; (case sd1 => first | with_reducible assumption | decide | grind); (case sd2 => first | with_reducible assumption | decide | grind); (case sd3 => decide))) | fail)
          (refine X.f rfl (z_goto (k _ ?_)); repeat (first | exact trivial | refine ⟨by first | with_reducible rfl | exact congrArg (fun q => some (Value.int q)) (by first | with_reducible rfl | with_reducible assumption | exact (nI_succ _).symm | grind [nI_0]) | rfl, ?_⟩))
        · rw [decide_eq_true (Classical.not_not.mp c)] at k
          repeat' (first | fail | (refine X.f rfl ?_; first | refine z_iload rfl ?_ | refine z_aload rfl ?_ | refine z_push ?_ | refine z_istoreN rfl rfl ?_ | refine z_astoreN rfl rfl ?_ | refine z_istore rfl ?_ | refine z_astore rfl ?_ | refine z_gP rfl rfl ?_ | refine z_gI rfl ?_ | refine z_gotoF rfl ?_ | refine z_iadd ?_ | refine z_isub ?_ | refine z_imul ?_ | refine z_iand ?_ | refine z_ior ?_ | refine z_ishl ?_ | refine z_ishr ?_ | refine z_ixor ?_ | refine z_ineg ?_ | refine z_pI rfl ?_ | refine z_inc80 rfl ?_ | refine z_inc81 rfl ?_ | refine z_dup ?_ | refine z_dupr ?_ | refine z_dup2 ?_ | refine z_pop ?_ | (refine z_idiv ?sd1 ?_; (case sd1 => decide)) | (refine z_irem ?sd1 ?_; (case sd1 => decide)) | (refine z_iaload rfl ?sd1 ?sd2 ?sd3 ?_; (case sd1 => first | with_reducible assumption | decide | grind); (case sd2 => first | with_reducible assumption | decide | grind); (case sd3 => decide)) | (refine z_iastore rfl ?sd1 ?sd2 ?sd3 ?_; (case sd1 => first | with_reducible assumption | decide | grind); (case sd2 => first | with_reducible assumption | decide | grind); (case sd3 => decide))) | fail)
          (refine X.f rfl (z_goto (k _ ?_)); repeat (first | exact trivial | refine ⟨by first | with_reducible rfl | exact congrArg (fun q => some (Value.int q)) (by first | with_reducible rfl | with_reducible assumption | exact (nI_succ _).symm | grind [nI_0]) | rfl, ?_⟩))
    · rw [hh, Bool.true_or] at k
      ((refine X.f rfl ?_; first | refine z_ifeq (fun c => ?_) (fun c => ?_) | refine z_ifne (fun c => ?_) (fun c => ?_) | refine z_iflt (fun c => ?_) (fun c => ?_) | refine z_ifge (fun c => ?_) (fun c => ?_) | refine z_ifgt (fun c => ?_) (fun c => ?_) | refine z_ifle (fun c => ?_) (fun c => ?_) | refine z_ieq (fun c => ?_) (fun c => ?_) | refine z_ine (fun c => ?_) (fun c => ?_) | refine z_ilt (fun c => ?_) (fun c => ?_) | refine z_ige (fun c => ?_) (fun c => ?_) | refine z_igt (fun c => ?_) (fun c => ?_) | refine z_ile (fun c => ?_) (fun c => ?_)) <;> try (exfalso; first | (with_reducible exact absurd rfl c) | (with_reducible exact absurd (Int32.le_refl _) c) | (exact absurd c (by decide)) | (exact absurd c (by with_reducible assumption)) | (exact absurd (by with_reducible assumption) c)))
      repeat' (first | fail | (refine X.f rfl ?_; first | refine z_iload rfl ?_ | refine z_aload rfl ?_ | refine z_push ?_ | refine z_istoreN rfl rfl ?_ | refine z_astoreN rfl rfl ?_ | refine z_istore rfl ?_ | refine z_astore rfl ?_ | refine z_gP rfl rfl ?_ | refine z_gI rfl ?_ | refine z_gotoF rfl ?_ | refine z_iadd ?_ | refine z_isub ?_ | refine z_imul ?_ | refine z_iand ?_ | refine z_ior ?_ | refine z_ishl ?_ | refine z_ishr ?_ | refine z_ixor ?_ | refine z_ineg ?_ | refine z_pI rfl ?_ | refine z_inc80 rfl ?_ | refine z_inc81 rfl ?_ | refine z_dup ?_ | refine z_dupr ?_ | refine z_dup2 ?_ | refine z_pop ?_ | (refine z_idiv ?sd1 ?_; (case sd1 => decide)) | (refine z_irem ?sd1 ?_; (case sd1 => decide)) | (refine z_iaload rfl ?sd1 ?sd2 ?sd3 ?_; (case sd1 => first | with_reducible assumption | decide | grind); (case sd2 => first | with_reducible assumption | decide | grind); (case sd3 => decide)) | (refine z_iastore rfl ?sd1 ?sd2 ?sd3 ?_; (case sd1 => first | with_reducible assumption | decide | grind); (case sd2 => first | with_reducible assumption | decide | grind); (case sd3 => decide))) | fail)
      (refine X.f rfl (z_goto (k _ ?_)); repeat (first | exact trivial | refine ⟨by first | with_reducible rfl | exact congrArg (fun q => some (Value.int q)) (by first | with_reducible rfl | with_reducible assumption | exact (nI_succ _).symm | grind [nI_0]) | rfl, ?_⟩))
  · iterate 2 ((refine X.f rfl ?_; first | refine z_iload rfl ?_ | refine z_aload rfl ?_ | refine z_push ?_ | refine z_istoreN rfl rfl ?_ | refine z_astoreN rfl rfl ?_ | refine z_istore rfl ?_ | refine z_astore rfl ?_ | refine z_gP rfl rfl ?_ | refine z_gI rfl ?_ | refine z_gotoF rfl ?_ | refine z_iadd ?_ | refine z_isub ?_ | refine z_imul ?_ | refine z_iand ?_ | refine z_ior ?_ | refine z_ishl ?_ | refine z_ishr ?_ | refine z_ixor ?_ | refine z_ineg ?_ | refine z_pI rfl ?_ | refine z_inc80 rfl ?_ | refine z_inc81 rfl ?_ | refine z_dup ?_ | refine z_dupr ?_ | refine z_dup2 ?_ | refine z_pop ?_ | (refine z_idiv ?sd1 ?_; (case sd1 => decide)) | (refine z_irem ?sd1 ?_; (case sd1 => decide)) | (refine z_iaload rfl ?sd1 ?sd2 ?sd3 ?_; (case sd1 => first | with_reducible assumption | decide | grind); (case sd2 => first | with_reducible assumption | decide | grind); (case sd3 => decide)) | (refine z_iastore rfl ?sd1 ?sd2 ?sd3 ?_; (case sd1 => first | with_reducible assumption | decide | grind); (case sd2 => first | with_reducible assumption | decide | grind); (case sd3 => decide))))
    ((refine X.f rfl ?_; first | refine z_ifeq (fun c => ?_) (fun c => ?_) | refine z_ifne (fun c => ?_) (fun c => ?_) | refine z_iflt (fun c => ?_) (fun c => ?_) | refine z_ifge (fun c => ?_) (fun c => ?_) | refine z_ifgt (fun c => ?_) (fun c => ?_) | refine z_ifle (fun c => ?_) (fun c => ?_) | refine z_ieq (fun c => ?_) (fun c => ?_) | refine z_ine (fun c => ?_) (fun c => ?_) | refine z_ilt (fun c => ?_) (fun c => ?_) | refine z_ige (fun c => ?_) (fun c => ?_) | refine z_igt (fun c => ?_) (fun c => ?_) | refine z_ile (fun c => ?_) (fun c => ?_)) <;> try (exfalso; first | (with_reducible exact absurd rfl c) | (with_reducible exact absurd (Int32.le_refl _) c) | (exact absurd c (by decide)) | (exact absurd c (by with_reducible assumption)) | (exact absurd (by with_reducible assumption) c)))
    exact cont _ (by repeat (first | exact trivial | refine ⟨by first | with_reducible rfl | exact congrArg (fun q => some (Value.int q)) (by first | with_reducible rfl | with_reducible assumption | exact (nI_succ _).symm | grind [nI_0]) | rfl, ?_⟩))
end RB
