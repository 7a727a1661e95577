/-! THE REFERENCE reads a hall: foes, what is told once, a line -/
section RE
variable {e : Bool × Int32 × (Int32 → Int32)} {d : Nat} {F F' F'' : Nat → Nat → Int32} {I I' I'' : Nat → Int32 → Int32} {G : Nat → Nat → Int64} {J J' J'' : Nat → Int32 → Int64} {ha hb ea eb : Nat} {T : List Int32} {j : Nat} {f g : Int32} {L : ND} {D : DV}
theorem rfD.foe {a b : Int32} (hD : rfD F I J D) (a0 : 0 ≤ a) (a1 : a < 5) (b0 : 0 ≤ b) (b1 : b < 5) (f13 : F' 226 13 = F 226 13) (f19 : F' 226 19 = F 226 19) (f20 : F' 226 20 = F 226 20) (e232 : I' 232 = up (up (I 232) (58 + 3 * a + 2) (hFoes D.1 a ||| (1 <<< (b &&& 31)))) (58 + 3 * b + 2) (hFoes (foeD1 D.1 a b) b ||| (1 <<< (a &&& 31)))) (e238 : I' 238 = I 238) (e233 : I' 233 = I 233) (e234 : I' 234 = I 234) (hJ : J' = J) : rfD F' I' J' (foeD1 (foeD1 D.1 a b) b a, D.2) := by
  obtain ⟨a40, a7, a41, a5, a42, aR, aP, aN, aL, a20, aC⟩ := hD
  refine ⟨?_, a7, ?_, a5, ?_, fun s s0 s7 => ⟨?_, ?_⟩, fun p p0 p5 => ⟨?_, ?_, ?_⟩, ?_, aL, f20.trans a20, aC.off f13 ?_ e233 e234⟩
  · rw [e232, up_ne (by grind), up_ne (by grind)]
    exact a40
  · rw [e232, up_ne (by grind), up_ne (by grind)]
    exact a41
  · rw [e232, up_ne (by grind), up_ne (by grind)]
    exact a42
  · rw [e232, up_ne (by grind), up_ne (by grind)]
    show _ = if (0 : Nat) = 4 ∧ s = b then hFoes (foeD1 D.1 a b) b ||| (1 <<< (a &&& 31)) else if (0 : Nat) = 4 ∧ s = a then hFoes D.1 a ||| (1 <<< (b &&& 31)) else hRow D.1 s
    rw [if_neg (fun q => absurd q.1 (by decide)), if_neg (fun q => absurd q.1 (by decide))]
    exact (aR s s0 s7).1
  · rw [e232, up_ne (by grind), up_ne (by grind)]
    show _ = if (5 : Nat) = 4 ∧ s = b then hFoes (foeD1 D.1 a b) b ||| (1 <<< (a &&& 31)) else if (5 : Nat) = 4 ∧ s = a then hFoes D.1 a ||| (1 <<< (b &&& 31)) else hAt D.1 s
    rw [if_neg (fun q => absurd q.1 (by decide)), if_neg (fun q => absurd q.1 (by decide))]
    exact (aR s s0 s7).2
  · rw [e232, up_ne (by grind), up_ne (by grind)]
    show _ = if (2 : Nat) = 4 ∧ p = b then hFoes (foeD1 D.1 a b) b ||| (1 <<< (a &&& 31)) else if (2 : Nat) = 4 ∧ p = a then hFoes D.1 a ||| (1 <<< (b &&& 31)) else hKind D.1 p
    rw [if_neg (fun q => absurd q.1 (by decide)), if_neg (fun q => absurd q.1 (by decide))]
    exact (aP p p0 p5).1
  · rw [e232, up_ne (by grind), up_ne (by grind)]
    show _ = if (3 : Nat) = 4 ∧ p = b then hFoes (foeD1 D.1 a b) b ||| (1 <<< (a &&& 31)) else if (3 : Nat) = 4 ∧ p = a then hFoes D.1 a ||| (1 <<< (b &&& 31)) else hTold D.1 p
    rw [if_neg (fun q => absurd q.1 (by decide)), if_neg (fun q => absurd q.1 (by decide))]
    exact (aP p p0 p5).2.1
  · rw [e232]
    show _ = if (4 : Nat) = 4 ∧ p = b then hFoes (foeD1 D.1 a b) b ||| (1 <<< (a &&& 31)) else if (4 : Nat) = 4 ∧ p = a then hFoes D.1 a ||| (1 <<< (b &&& 31)) else hFoes D.1 p
    by_cases hb : p = b
    · rw [hb, up_self, if_pos ⟨rfl, rfl⟩]
    · rw [up_ne (by grind), if_neg (fun q => hb q.2)]
      by_cases ha : p = a
      · rw [ha, up_self, if_pos ⟨rfl, rfl⟩]
      · rw [up_ne (by grind), if_neg (fun q => ha q.2)]
        exact (aP p p0 p5).2.2
  · rw [f19, e238, hJ]
    exact aN
  · rw [e232, up_ne (by grind), up_ne (by grind)]
theorem foeD1_at {h : HV} {a b p : Int32} : hFoes (foeD1 h a b) p = if p = a then hFoes h a ||| (1 <<< (b &&& 31)) else hFoes h p := by
  show (if (4 : Nat) = 4 ∧ p = a then hFoes h a ||| (1 <<< (b &&& 31)) else hFoes h p) = _
  by_cases q : p = a
  · rw [if_pos ⟨rfl, q⟩, if_pos q]
  · rw [if_neg (fun z => q z.2), if_neg q]
set_option maxHeartbeats 4000000 in
theorem q_lineFoe (hD : rfD F I J D) (hd : okNd D) (hB : rdB I J T) (hj : j < (toks T).length) (h7 : F 226 7 = nI j) (h8 : F 226 8 = 0) : ∀ L', lle [some (.ref 226), none, none, none] L' → X e 4 M_X12_readLine.2.2 56 L' [] (F, I, G, J, P0 ha hb ea eb, Q0, S0) (lnP F I G J ha hb ea eb T (foeF T j D) (j + 3) (foeD T j D)) := by
  intro L' hL'
  obtain ⟨a40, a7, a41, a5, a42, aR, aP, aN, aL, a20, aC⟩ := id hD
  have hT := hB.1
  have eF : foeF T j D = chF (toE T D.2.1 20 0 (j + 1)) (toE T D.2.1 20 (foeB T j D) (j + 2)) := rfl
  rw [eF]
  have e7 : nI j + 1 = nI (j + 1) := (nI_succ j).symm
  refine X.weak hL' ?_
  clear hL'
  iterate 3 ((refine X.f rfl ?_; first | refine z_iload rfl ?_ | refine z_aload rfl ?_ | refine z_push ?_ | refine z_istoreN rfl rfl ?_ | refine z_astoreN rfl rfl ?_ | refine z_istore rfl ?_ | refine z_astore rfl ?_ | refine z_gP rfl rfl ?_ | refine z_gI rfl ?_ | refine z_gotoF rfl ?_ | refine z_iadd ?_ | refine z_isub ?_ | refine z_imul ?_ | refine z_iand ?_ | refine z_ior ?_ | refine z_ishl ?_ | refine z_ishr ?_ | refine z_ixor ?_ | refine z_ineg ?_ | refine z_pI rfl ?_ | refine z_inc80 rfl ?_ | refine z_inc81 rfl ?_ | refine z_dup ?_ | refine z_dupr ?_ | refine z_dup2 ?_ | refine z_pop ?_ | (refine z_idiv ?sd1 ?_; (case sd1 => decide)) | (refine z_irem ?sd1 ?_; (case sd1 => decide)) | (refine z_iaload rfl ?sd1 ?sd2 ?sd3 ?_; (case sd1 => first | with_reducible assumption | decide | grind); (case sd2 => first | with_reducible assumption | decide | grind); (case sd3 => decide)) | (refine z_iastore rfl ?sd1 ?sd2 ?sd3 ?_; (case sd1 => first | with_reducible assumption | decide | grind); (case sd2 => first | with_reducible assumption | decide | grind); (case sd3 => decide))))
  rw [h7]
  iterate 2 ((refine X.f rfl ?_; first | refine z_iload rfl ?_ | refine z_aload rfl ?_ | refine z_push ?_ | refine z_istoreN rfl rfl ?_ | refine z_astoreN rfl rfl ?_ | refine z_istore rfl ?_ | refine z_astore rfl ?_ | refine z_gP rfl rfl ?_ | refine z_gI rfl ?_ | refine z_gotoF rfl ?_ | refine z_iadd ?_ | refine z_isub ?_ | refine z_imul ?_ | refine z_iand ?_ | refine z_ior ?_ | refine z_ishl ?_ | refine z_ishr ?_ | refine z_ixor ?_ | refine z_ineg ?_ | refine z_pI rfl ?_ | refine z_inc80 rfl ?_ | refine z_inc81 rfl ?_ | refine z_dup ?_ | refine z_dupr ?_ | refine z_dup2 ?_ | refine z_pop ?_ | (refine z_idiv ?sd1 ?_; (case sd1 => decide)) | (refine z_irem ?sd1 ?_; (case sd1 => decide)) | (refine z_iaload rfl ?sd1 ?sd2 ?sd3 ?_; (case sd1 => first | with_reducible assumption | decide | grind); (case sd2 => first | with_reducible assumption | decide | grind); (case sd3 => decide)) | (refine z_iastore rfl ?sd1 ?sd2 ?sd3 ?_; (case sd1 => first | with_reducible assumption | decide | grind); (case sd2 => first | with_reducible assumption | decide | grind); (case sd3 => decide))))
  rw [e7]
  have t1 : to7 F (xu F 226 7 (nI (j + 1))) := to7.at
  have k7 : xu F 226 7 (nI (j + 1)) 226 7 = nI (j + 1) := xu_same
  have k8 : xu F 226 7 (nI (j + 1)) 226 8 = 0 := by rw [xu_ne (by omega)]; exact h8
  iterate 1 ((refine X.f rfl ?_; first | refine z_iload rfl ?_ | refine z_aload rfl ?_ | refine z_push ?_ | refine z_istoreN rfl rfl ?_ | refine z_astoreN rfl rfl ?_ | refine z_istore rfl ?_ | refine z_astore rfl ?_ | refine z_gP rfl rfl ?_ | refine z_gI rfl ?_ | refine z_gotoF rfl ?_ | refine z_iadd ?_ | refine z_isub ?_ | refine z_imul ?_ | refine z_iand ?_ | refine z_ior ?_ | refine z_ishl ?_ | refine z_ishr ?_ | refine z_ixor ?_ | refine z_ineg ?_ | refine z_pI rfl ?_ | refine z_inc80 rfl ?_ | refine z_inc81 rfl ?_ | refine z_dup ?_ | refine z_dupr ?_ | refine z_dup2 ?_ | refine z_pop ?_ | (refine z_idiv ?sd1 ?_; (case sd1 => decide)) | (refine z_irem ?sd1 ?_; (case sd1 => decide)) | (refine z_iaload rfl ?sd1 ?sd2 ?sd3 ?_; (case sd1 => first | with_reducible assumption | decide | grind); (case sd2 => first | with_reducible assumption | decide | grind); (case sd3 => decide)) | (refine z_iastore rfl ?sd1 ?sd2 ?sd3 ?_; (case sd1 => first | with_reducible assumption | decide | grind); (case sd2 => first | with_reducible assumption | decide | grind); (case sd3 => decide))))
  generalize xu F 226 7 (nI (j + 1)) = F1 at *
  have k19 : F1 226 19 = F 226 19 := t1 226 19 (by omega)
  iterate 4 ((refine X.f rfl ?_; first | refine z_iload rfl ?_ | refine z_aload rfl ?_ | refine z_push ?_ | refine z_istoreN rfl rfl ?_ | refine z_astoreN rfl rfl ?_ | refine z_istore rfl ?_ | refine z_astore rfl ?_ | refine z_gP rfl rfl ?_ | refine z_gI rfl ?_ | refine z_gotoF rfl ?_ | refine z_iadd ?_ | refine z_isub ?_ | refine z_imul ?_ | refine z_iand ?_ | refine z_ior ?_ | refine z_ishl ?_ | refine z_ishr ?_ | refine z_ixor ?_ | refine z_ineg ?_ | refine z_pI rfl ?_ | refine z_inc80 rfl ?_ | refine z_inc81 rfl ?_ | refine z_dup ?_ | refine z_dupr ?_ | refine z_dup2 ?_ | refine z_pop ?_ | (refine z_idiv ?sd1 ?_; (case sd1 => decide)) | (refine z_irem ?sd1 ?_; (case sd1 => decide)) | (refine z_iaload rfl ?sd1 ?sd2 ?sd3 ?_; (case sd1 => first | with_reducible assumption | decide | grind); (case sd2 => first | with_reducible assumption | decide | grind); (case sd3 => decide)) | (refine z_iastore rfl ?sd1 ?sd2 ?sd3 ?_; (case sd1 => first | with_reducible assumption | decide | grind); (case sd2 => first | with_reducible assumption | decide | grind); (case sd3 => decide))))
  refine X.f rfl (z_cv (q_takeToldG (j := j + 1) (f := 0) hB (by rw [k19]; exact aN) k8 (Or.inl rfl) (fun _ => ⟨k7, hj⟩)) rfl (by rfl) (by rfl) rfl rfl rfl rfl ?_)
  rintro _ _ ⟨rfl, F2, rfl, t2, f2, j2⟩
  dsimp only [Option.toList, List.singleton_append]
  rw [chF_00] at f2 j2
  rw [chF_00]
  have okA : okF (toE T D.2.1 20 0 (j + 1)) := toE_ok hT
  have in1 := fun q => toE_per (but := 0) (j := j + 1) hT a7 a5 hd q
  have va : 0 ≤ (if toE T D.2.1 20 0 (j + 1) = 0 then toV T D.2.1 20 (j + 1) else 0) ∧ (if toE T D.2.1 20 0 (j + 1) = 0 then toV T D.2.1 20 (j + 1) else 0) < 5 := by
    split
    · rename_i q
      obtain ⟨-, -, k, k1, k2, -⟩ := in1 q
      rw [k2]
      exact ⟨nI_pos' (by omega), (nI_ltI (b := 5) (by omega) (by omega)).mpr (by omega)⟩
    · decide
  have ha0 : toE T D.2.1 20 0 (j + 1) = 0 → (if toE T D.2.1 20 0 (j + 1) = 0 then toV T D.2.1 20 (j + 1) else 0) = toV T D.2.1 20 (j + 1) := fun q => if_pos q
  have eB : foeB T j D = hFoes D.1 (toV T D.2.1 20 (j + 1)) ||| (1 <<< (toV T D.2.1 20 (j + 1) &&& 31)) := rfl
  have eD : foeD T j D = (foeD1 (foeD1 D.1 (toV T D.2.1 20 (j + 1)) (toV T D.2.1 20 (j + 2))) (toV T D.2.1 20 (j + 2)) (toV T D.2.1 20 (j + 1)), D.2) := rfl
  rw [eD]
  rw [eB]
  generalize (if toE T D.2.1 20 0 (j + 1) = 0 then toV T D.2.1 20 (j + 1) else 0) = a at *
  obtain ⟨va0, va1⟩ := va
  have c0 : 0 ≤ 58 + 3 * a + 2 := by grind
  have c1 : 58 + 3 * a + 2 < 80 := by grind
  have hfa := (aP a va0 va1).2.2
  have k19' : F2 226 19 = F 226 19 := (t2 226 19 (by omega)).trans k19
  iterate 16 ((refine X.f rfl ?_; first | refine z_iload rfl ?_ | refine z_aload rfl ?_ | refine z_push ?_ | refine z_istoreN rfl rfl ?_ | refine z_astoreN rfl rfl ?_ | refine z_istore rfl ?_ | refine z_astore rfl ?_ | refine z_gP rfl rfl ?_ | refine z_gI rfl ?_ | refine z_gotoF rfl ?_ | refine z_iadd ?_ | refine z_isub ?_ | refine z_imul ?_ | refine z_iand ?_ | refine z_ior ?_ | refine z_ishl ?_ | refine z_ishr ?_ | refine z_ixor ?_ | refine z_ineg ?_ | refine z_pI rfl ?_ | refine z_inc80 rfl ?_ | refine z_inc81 rfl ?_ | refine z_dup ?_ | refine z_dupr ?_ | refine z_dup2 ?_ | refine z_pop ?_ | (refine z_idiv ?sd1 ?_; (case sd1 => decide)) | (refine z_irem ?sd1 ?_; (case sd1 => decide)) | (refine z_iaload rfl ?sd1 ?sd2 ?sd3 ?_; (case sd1 => first | with_reducible assumption | decide | grind); (case sd2 => first | with_reducible assumption | decide | grind); (case sd3 => decide)) | (refine z_iastore rfl ?sd1 ?sd2 ?sd3 ?_; (case sd1 => first | with_reducible assumption | decide | grind); (case sd2 => first | with_reducible assumption | decide | grind); (case sd3 => decide))))
  rw [hfa]
  iterate 4 ((refine X.f rfl ?_; first | refine z_iload rfl ?_ | refine z_aload rfl ?_ | refine z_push ?_ | refine z_istoreN rfl rfl ?_ | refine z_astoreN rfl rfl ?_ | refine z_istore rfl ?_ | refine z_astore rfl ?_ | refine z_gP rfl rfl ?_ | refine z_gI rfl ?_ | refine z_gotoF rfl ?_ | refine z_iadd ?_ | refine z_isub ?_ | refine z_imul ?_ | refine z_iand ?_ | refine z_ior ?_ | refine z_ishl ?_ | refine z_ishr ?_ | refine z_ixor ?_ | refine z_ineg ?_ | refine z_pI rfl ?_ | refine z_inc80 rfl ?_ | refine z_inc81 rfl ?_ | refine z_dup ?_ | refine z_dupr ?_ | refine z_dup2 ?_ | refine z_pop ?_ | (refine z_idiv ?sd1 ?_; (case sd1 => decide)) | (refine z_irem ?sd1 ?_; (case sd1 => decide)) | (refine z_iaload rfl ?sd1 ?sd2 ?sd3 ?_; (case sd1 => first | with_reducible assumption | decide | grind); (case sd2 => first | with_reducible assumption | decide | grind); (case sd3 => decide)) | (refine z_iastore rfl ?sd1 ?sd2 ?sd3 ?_; (case sd1 => first | with_reducible assumption | decide | grind); (case sd2 => first | with_reducible assumption | decide | grind); (case sd3 => decide))))
  refine X.f rfl (z_cv (q_takeToldG (j := j + 2) (f := toE T D.2.1 20 0 (j + 1)) (but := hFoes D.1 a ||| (1 <<< (a &&& 31))) hB (by rw [k19']; exact aN) f2 okA (fun q => ⟨j2 q, isNm_lt (in1 q).1⟩)) rfl (by rfl) (by rfl) rfl rfl rfl rfl ?_)
  rintro _ _ ⟨rfl, F3, rfl, t3, f3, j3⟩
  dsimp only [Option.toList, List.singleton_append]
  have r3 : rfF F F3 I I J J := ((rfF.f7 t1).trans (rfF.f7 t2)).trans (rfF.f7 t3)
  have sw : chF (toE T D.2.1 20 0 (j + 1)) (toE T D.2.1 20 (hFoes D.1 a ||| (1 <<< (a &&& 31))) (j + 2)) = chF (toE T D.2.1 20 0 (j + 1)) (toE T D.2.1 20 (hFoes D.1 (toV T D.2.1 20 (j + 1)) ||| (1 <<< (toV T D.2.1 20 (j + 1) &&& 31))) (j + 2)) := by
    by_cases q : toE T D.2.1 20 0 (j + 1) = 0
    · rw [ha0 q]
    · rw [chF_n q, chF_n q]
  rw [← sw]
  iterate 3 ((refine X.f rfl ?_; first | refine z_iload rfl ?_ | refine z_aload rfl ?_ | refine z_push ?_ | refine z_istoreN rfl rfl ?_ | refine z_astoreN rfl rfl ?_ | refine z_istore rfl ?_ | refine z_astore rfl ?_ | refine z_gP rfl rfl ?_ | refine z_gI rfl ?_ | refine z_gotoF rfl ?_ | refine z_iadd ?_ | refine z_isub ?_ | refine z_imul ?_ | refine z_iand ?_ | refine z_ior ?_ | refine z_ishl ?_ | refine z_ishr ?_ | refine z_ixor ?_ | refine z_ineg ?_ | refine z_pI rfl ?_ | refine z_inc80 rfl ?_ | refine z_inc81 rfl ?_ | refine z_dup ?_ | refine z_dupr ?_ | refine z_dup2 ?_ | refine z_pop ?_ | (refine z_idiv ?sd1 ?_; (case sd1 => decide)) | (refine z_irem ?sd1 ?_; (case sd1 => decide)) | (refine z_iaload rfl ?sd1 ?sd2 ?sd3 ?_; (case sd1 => first | with_reducible assumption | decide | grind); (case sd2 => first | with_reducible assumption | decide | grind); (case sd3 => decide)) | (refine z_iastore rfl ?sd1 ?sd2 ?sd3 ?_; (case sd1 => first | with_reducible assumption | decide | grind); (case sd2 => first | with_reducible assumption | decide | grind); (case sd3 => decide))))
  rw [f3]
  first | refine X.f rfl (z_ifeq (fun c => ?_) (fun c => ?_)) | refine X.f rfl (z_ifne (fun c => ?_) (fun c => ?_)) | refine X.f rfl (z_iflt (fun c => ?_) (fun c => ?_)) | refine X.f rfl (z_ifge (fun c => ?_) (fun c => ?_)) | refine X.f rfl (z_ifgt (fun c => ?_) (fun c => ?_)) | refine X.f rfl (z_ifle (fun c => ?_) (fun c => ?_)) | refine X.f rfl (z_ieq (fun c => ?_) (fun c => ?_)) | refine X.f rfl (z_ine (fun c => ?_) (fun c => ?_)) | refine X.f rfl (z_ilt (fun c => ?_) (fun c => ?_)) | refine X.f rfl (z_ige (fun c => ?_) (fun c => ?_)) | refine X.f rfl (z_igt (fun c => ?_) (fun c => ?_)) | refine X.f rfl (z_ile (fun c => ?_) (fun c => ?_))
  · iterate 1 ((refine X.f rfl ?_; first | refine z_iload rfl ?_ | refine z_aload rfl ?_ | refine z_push ?_ | refine z_istoreN rfl rfl ?_ | refine z_astoreN rfl rfl ?_ | refine z_istore rfl ?_ | refine z_astore rfl ?_ | refine z_gP rfl rfl ?_ | refine z_gI rfl ?_ | refine z_gotoF rfl ?_ | refine z_iadd ?_ | refine z_isub ?_ | refine z_imul ?_ | refine z_iand ?_ | refine z_ior ?_ | refine z_ishl ?_ | refine z_ishr ?_ | refine z_ixor ?_ | refine z_ineg ?_ | refine z_pI rfl ?_ | refine z_inc80 rfl ?_ | refine z_inc81 rfl ?_ | refine z_dup ?_ | refine z_dupr ?_ | refine z_dup2 ?_ | refine z_pop ?_ | (refine z_idiv ?sd1 ?_; (case sd1 => decide)) | (refine z_irem ?sd1 ?_; (case sd1 => decide)) | (refine z_iaload rfl ?sd1 ?sd2 ?sd3 ?_; (case sd1 => first | with_reducible assumption | decide | grind); (case sd2 => first | with_reducible assumption | decide | grind); (case sd3 => decide)) | (refine z_iastore rfl ?sd1 ?sd2 ?sd3 ?_; (case sd1 => first | with_reducible assumption | decide | grind); (case sd2 => first | with_reducible assumption | decide | grind); (case sd3 => decide))))
    exact x_ret rfl rfl ⟨rfl, F3, I, J, rfl, r3, f3, fun q => absurd q c⟩
  · have z3 := Classical.not_not.mp c
    have z1 := (chF_0 z3).1
    have z2 := (chF_0 z3).2
    rw [z3] at f3
    rw [if_pos z3, z3, ← ha0 z1]
    obtain ⟨-, -, k, k1, k2, -⟩ := toE_per (j := j + 2) hT a7 a5 hd z2
    have b0 : 0 ≤ toV T D.2.1 20 (j + 2) := by rw [k2]; exact nI_pos' (by omega)
    have b1 : toV T D.2.1 20 (j + 2) < 5 := by rw [k2]; exact (nI_ltI (b := 5) (by omega) (by omega)).mpr (by omega)
    have g7 := j3 z3
    clear k2 sw eD eB ha0 in1
    generalize toV T D.2.1 20 (j + 2) = b at *
    have d0 : 0 ≤ 58 + 3 * b + 2 := by grind
    have d1 : 58 + 3 * b + 2 < 80 := by grind
    have hfb : ∀ x, xv I 232 (58 + 3 * a + 2) x 232 (58 + 3 * b + 2) = if b = a then x else hFoes D.1 b := by
      intro x
      rw [xv_row, row_same]
      by_cases q : b = a
      · rw [if_pos q, q, up_self]
      · rw [if_neg q, up_ne (by grind)]
        exact (aP b b0 b1).2.2
    iterate 5 ((refine X.f rfl ?_; first | refine z_iload rfl ?_ | refine z_aload rfl ?_ | refine z_push ?_ | refine z_istoreN rfl rfl ?_ | refine z_astoreN rfl rfl ?_ | refine z_istore rfl ?_ | refine z_astore rfl ?_ | refine z_gP rfl rfl ?_ | refine z_gI rfl ?_ | refine z_gotoF rfl ?_ | refine z_iadd ?_ | refine z_isub ?_ | refine z_imul ?_ | refine z_iand ?_ | refine z_ior ?_ | refine z_ishl ?_ | refine z_ishr ?_ | refine z_ixor ?_ | refine z_ineg ?_ | refine z_pI rfl ?_ | refine z_inc80 rfl ?_ | refine z_inc81 rfl ?_ | refine z_dup ?_ | refine z_dupr ?_ | refine z_dup2 ?_ | refine z_pop ?_ | (refine z_idiv ?sd1 ?_; (case sd1 => decide)) | (refine z_irem ?sd1 ?_; (case sd1 => decide)) | (refine z_iaload rfl ?sd1 ?sd2 ?sd3 ?_; (case sd1 => first | with_reducible assumption | decide | grind); (case sd2 => first | with_reducible assumption | decide | grind); (case sd3 => decide)) | (refine z_iastore rfl ?sd1 ?sd2 ?sd3 ?_; (case sd1 => first | with_reducible assumption | decide | grind); (case sd2 => first | with_reducible assumption | decide | grind); (case sd3 => decide))))
    rw [hfa]
    iterate 16 ((refine X.f rfl ?_; first | refine z_iload rfl ?_ | refine z_aload rfl ?_ | refine z_push ?_ | refine z_istoreN rfl rfl ?_ | refine z_astoreN rfl rfl ?_ | refine z_istore rfl ?_ | refine z_astore rfl ?_ | refine z_gP rfl rfl ?_ | refine z_gI rfl ?_ | refine z_gotoF rfl ?_ | refine z_iadd ?_ | refine z_isub ?_ | refine z_imul ?_ | refine z_iand ?_ | refine z_ior ?_ | refine z_ishl ?_ | refine z_ishr ?_ | refine z_ixor ?_ | refine z_ineg ?_ | refine z_pI rfl ?_ | refine z_inc80 rfl ?_ | refine z_inc81 rfl ?_ | refine z_dup ?_ | refine z_dupr ?_ | refine z_dup2 ?_ | refine z_pop ?_ | (refine z_idiv ?sd1 ?_; (case sd1 => decide)) | (refine z_irem ?sd1 ?_; (case sd1 => decide)) | (refine z_iaload rfl ?sd1 ?sd2 ?sd3 ?_; (case sd1 => first | with_reducible assumption | decide | grind); (case sd2 => first | with_reducible assumption | decide | grind); (case sd3 => decide)) | (refine z_iastore rfl ?sd1 ?sd2 ?sd3 ?_; (case sd1 => first | with_reducible assumption | decide | grind); (case sd2 => first | with_reducible assumption | decide | grind); (case sd3 => decide))))
    rw [hfb]
    iterate 6 ((refine X.f rfl ?_; first | refine z_iload rfl ?_ | refine z_aload rfl ?_ | refine z_push ?_ | refine z_istoreN rfl rfl ?_ | refine z_astoreN rfl rfl ?_ | refine z_istore rfl ?_ | refine z_astore rfl ?_ | refine z_gP rfl rfl ?_ | refine z_gI rfl ?_ | refine z_gotoF rfl ?_ | refine z_iadd ?_ | refine z_isub ?_ | refine z_imul ?_ | refine z_iand ?_ | refine z_ior ?_ | refine z_ishl ?_ | refine z_ishr ?_ | refine z_ixor ?_ | refine z_ineg ?_ | refine z_pI rfl ?_ | refine z_inc80 rfl ?_ | refine z_inc81 rfl ?_ | refine z_dup ?_ | refine z_dupr ?_ | refine z_dup2 ?_ | refine z_pop ?_ | (refine z_idiv ?sd1 ?_; (case sd1 => decide)) | (refine z_irem ?sd1 ?_; (case sd1 => decide)) | (refine z_iaload rfl ?sd1 ?sd2 ?sd3 ?_; (case sd1 => first | with_reducible assumption | decide | grind); (case sd2 => first | with_reducible assumption | decide | grind); (case sd3 => decide)) | (refine z_iastore rfl ?sd1 ?sd2 ?sd3 ?_; (case sd1 => first | with_reducible assumption | decide | grind); (case sd2 => first | with_reducible assumption | decide | grind); (case sd3 => decide))))
    refine x_ret rfl rfl ⟨rfl, F3, _, J, rfl, r3.trans ⟨fun _ _ _ => rfl, fun c h1 _ _ _ => by rw [xv_ne h1, xv_ne h1], fun x hx => ?_, fun x hx => ⟨by rw [xv_ne (by decide), xv_ne (by decide)], by rw [xv_ne (by decide), xv_ne (by decide)]⟩, fun _ _ => rfl⟩, f3, fun _ => ⟨g7, hD.foe va0 va1 b0 b1 ?_ ?_ ?_ ?_ ?_ ?_ ?_ rfl⟩⟩
    · rw [xv_row, row_same, up_ne (by grind), xv_row, row_same, up_ne (by grind)]
    · rw [t3 226 13 (by omega), t2 226 13 (by omega), t1 226 13 (by omega)]
    · rw [t3 226 19 (by omega)]
      exact k19'
    · rw [t3 226 20 (by omega), t2 226 20 (by omega), t1 226 20 (by omega)]
    · rw [xv_row, row_same, xv_row, row_same, foeD1_at]
    · rw [xv_ne (by decide), xv_ne (by decide)]
    · rw [xv_ne (by decide), xv_ne (by decide)]
    · rw [xv_ne (by decide), xv_ne (by decide)]
theorem q_emitP {x y : Int32} {n : Nat} (h13 : F 226 13 = nI n) (hn : n < 1100) : A' e 0 M_X12_emit [.ref 226, .int x, .int y] (F, I, G, J, P0 ha hb ea eb, Q0, S0) none (xu F 226 13 (nI (n + 1)), xv (xv I 233 (1100 + nI n) x) 234 (1100 + nI n) y, G, J, P0 ha hb ea eb, Q0, S0) := by
  have e1 : (1100 : Int32) + nI n = nI (1100 + n) := by rw [nI_addN]; rfl
  have j0 : 0 ≤ 1100 + nI n := by
    rw [e1]
    exact nI_pos' (by omega)
  have j1 : 1100 + nI n < 2200 := by
    rw [e1, show (2200 : Int32) = nI 2200 from rfl, nI_ltI (by omega) (by omega)]
    omega
  unfold A' Y
  repeat' (first | rw [h13] | (refine X.f rfl ?_; first | refine z_iload rfl ?_ | refine z_aload rfl ?_ | refine z_push ?_ | refine z_istoreN rfl rfl ?_ | refine z_astoreN rfl rfl ?_ | refine z_istore rfl ?_ | refine z_astore rfl ?_ | refine z_gP rfl rfl ?_ | refine z_gI rfl ?_ | refine z_gotoF rfl ?_ | refine z_iadd ?_ | refine z_isub ?_ | refine z_imul ?_ | refine z_iand ?_ | refine z_ior ?_ | refine z_ishl ?_ | refine z_ishr ?_ | refine z_ixor ?_ | refine z_ineg ?_ | refine z_pI rfl ?_ | refine z_inc80 rfl ?_ | refine z_inc81 rfl ?_ | refine z_dup ?_ | refine z_dupr ?_ | refine z_dup2 ?_ | refine z_pop ?_ | (refine z_idiv ?sd1 ?_; (case sd1 => decide)) | (refine z_irem ?sd1 ?_; (case sd1 => decide)) | (refine z_iaload rfl ?sd1 ?sd2 ?sd3 ?_; (case sd1 => first | with_reducible assumption | decide | grind); (case sd2 => first | with_reducible assumption | decide | grind); (case sd3 => decide)) | (refine z_iastore rfl ?sd1 ?sd2 ?sd3 ?_; (case sd1 => first | with_reducible assumption | decide | grind); (case sd2 => first | with_reducible assumption | decide | grind); (case sd3 => decide))) | fail)
  rw [← nI_succ]
  exact x_ret rfl rfl ⟨rfl, rfl⟩
theorem onK_62 : onK T j 6 2 = if isW T j 7 then 1 else if isW T j 6 then 0 else -1 := rfl
theorem onc_bit {q : Bool × Bool} : (tb (onc q) 0 = q.1 ∧ tb (onc q) 1 = q.2) ∧ onc q ||| (1 <<< ((0 : Int32) &&& 31)) = onc (true, q.2) ∧ onc q ||| (1 <<< ((1 : Int32) &&& 31)) = onc (q.1, true) := by
  obtain ⟨a, b⟩ := q
  cases a <;> cases b <;> decide
end RE
