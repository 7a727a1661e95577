/-! THE REFERENCE reads a hall: readSeat -/
section RC
variable {e : Bool × Int32 × (Int32 → Int32)} {d : Nat} {F F' F'' : Nat → Nat → Int32} {I I' I'' : Nat → Int32 → Int32} {G : Nat → Nat → Int64} {J J' J'' : Nat → Int32 → Int64} {ha hb ea eb : Nat} {T : List Int32} {j : Nat} {f g : Int32} {L : ND} {D : DV}
theorem lawD.off {C : List Int32} {w : Bool} (h : lawD F I C w) (a : F' 226 13 = F 226 13) (b : I' 232 43 = I 232 43) (c : I' 233 = I 233) (d : I' 234 = I 234) : lawD F' I' C w := by
  unfold lawD
  rw [a, b, c, d]
  exact h
theorem rfD.seat {ro at0 : Int32} {x : List Int32} (hD : rfD F I J D) (hx : okNm x) (h7 : hN D.1 < 7) (f13 : F' 226 13 = F 226 13) (f19 : F' 226 19 = nI (D.2.1.length + 1)) (f20 : F' 226 20 = F 226 20) (e232 : I' 232 = up (up (up (I 232) (40 + nI 0) (nI (hN D.1 + 1))) (44 + 2 * nI (hN D.1)) ro) (44 + 2 * nI (hN D.1) + 1) at0) (e238 : I' 238 = up (I 238) (nI D.2.1.length) (nI (0 + hN D.1))) (e233 : I' 233 = I 233) (e234 : I' 234 = I 234) (hJ : J' = xv J 236 (nI D.2.1.length) (p37 x 0)) : rfD F' I' J' (((hN D.1 + 1, (cel (cel D.1 0 (nI (hN D.1)) ro) 5 (nI (hN D.1)) at0).2) : HV), D.2.1 ++ [(x, hN D.1)], D.2.2) := by
  obtain ⟨a40, a7, a41, a5, a42, aR, aP, aN, aL, a20, aC⟩ := hD
  have n0 : 0 ≤ nI (hN D.1) := nI_pos' (by omega)
  have n7 : nI (hN D.1) < 7 := (nI_ltI (b := 7) (by omega) (by omega)).mpr h7
  have z0 : (40 : Int32) + nI 0 = 40 := by decide
  rw [z0] at e232
  generalize hn : nI (hN D.1) = n at *
  refine ⟨?_, h7, ?_, a5, ?_, fun s s0 s7 => ⟨?_, ?_⟩, fun p p0 p5 => ⟨?_, ?_, ?_⟩, nmR.snoc aN (by omega) f19 (fun i hi => ?_) ?_ (fun i hi => ?_) ?_ hx (by omega), ?_, f20.trans a20, aC.off f13 ?_ e233 e234⟩
  · rw [e232, up_ne (by grind), up_ne (by grind), up_self]
  · rw [e232, up_ne (by grind), up_ne (by grind), up_ne (by grind)]
    exact a41
  · rw [e232, up_ne (by grind), up_ne (by grind), up_ne (by grind)]
    exact a42
  · show _ = if (0 : Nat) = 5 ∧ s = n then at0 else if (0 : Nat) = 0 ∧ s = n then ro else hRow D.1 s
    rw [if_neg (fun q => absurd q.1 (by decide)), e232, up_ne (by grind)]
    by_cases hs : s = n
    · rw [hs, up_self, if_pos ⟨rfl, rfl⟩]
    · rw [if_neg (fun q => hs q.2), up_ne (by grind), up_ne (by grind)]
      exact (aR s s0 s7).1
  · show _ = if (5 : Nat) = 5 ∧ s = n then at0 else if (5 : Nat) = 0 ∧ s = n then ro else hAt D.1 s
    rw [if_neg (c := (5 : Nat) = 0 ∧ s = n) (fun q => absurd q.1 (by decide)), e232]
    by_cases hs : s = n
    · rw [hs, up_self, if_pos ⟨rfl, rfl⟩]
    · rw [if_neg (fun q => hs q.2), up_ne (by grind), up_ne (by grind), up_ne (by grind)]
      exact (aR s s0 s7).2
  · rw [e232, up_ne (by grind), up_ne (by grind), up_ne (by grind)]
    exact (aP p p0 p5).1
  · rw [e232, up_ne (by grind), up_ne (by grind), up_ne (by grind)]
    exact (aP p p0 p5).2.1
  · rw [e232, up_ne (by grind), up_ne (by grind), up_ne (by grind)]
    exact (aP p p0 p5).2.2
  · rw [hJ]
    unfold xv
    exact if_neg (fun q => nI_ne (by omega) (by omega) (by omega) q.2)
  · rw [hJ]
    unfold xv
    exact if_pos ⟨rfl, rfl⟩
  · rw [e238]
    exact up_ne (nI_ne (by omega) (by omega) (by omega))
  · rw [e238, up_self, Nat.zero_add]
  · show (D.2.1 ++ [(x, hN D.1)]).length = hN D.1 + 1 + hP D.1
    rw [List.length_append, aL]
    show hN D.1 + hP D.1 + 1 = _
    omega
  · rw [e232, up_ne (by grind), up_ne (by grind), up_ne (by grind)]
set_option maxHeartbeats 4000000 in
theorem q_readSeat (hD : rfD F I J D) (hB : rdB I J T) (hw : isW T j 0 = true) (h7 : F 226 7 = nI j) (h8 : F 226 8 = 0) : Y e 4 M_X12_readSeat [.ref 226] (F, I, G, J, P0 ha hb ea eb, Q0, S0) (lnP F I G J ha hb ea eb T (seatF T j D) (j + 6) (seatD T j D)) := by
  obtain ⟨a40, a7, a41, a5, a42, aR, aP, aN, aL, a20, aC⟩ := id hD
  have hT := hB.1
  have hj := isW_lt hw
  have z0 : (40 : Int32) + nI 0 = 40 := by decide
  have eF : seatF T j D = chF (chF (chF (if hN D.1 = 7 then bad T 5 j else nnE T D.2.1 (j + 1)) (afE T 1 0 4 (j + 2))) (afE T 2 0 9 (j + 4))) (if hadQ D.1 (numA T (j + 3)) (numA T (j + 5)) (hN D.1) then bad T 3 (j + 5) else 0) := by
    unfold seatF
    by_cases q : hN D.1 = 7
    · rw [if_pos q, if_pos q]
      have := wr_gt2 hT (x := 5) (by decide) (by decide) j
      rw [chF_n (f := bad T 5 j) this, chF_n (f := bad T 5 j) this, chF_n (f := bad T 5 j) this]
    · rw [if_neg q, if_neg q]
      unfold chF
      by_cases q1 : nnE T D.2.1 (j + 1) = 0
      · simp only [q1, ne_eq, not_true_eq_false, if_false]
        by_cases q2 : afE T 1 0 4 (j + 2) = 0
        · simp only [q2, ne_eq, not_true_eq_false, if_false]
        · simp only [q2, ne_eq, not_false_eq_true, if_true]
      · simp only [q1, ne_eq, not_false_eq_true, if_true]
  have ok1 : okF (if hN D.1 = 7 then bad T 5 j else nnE T D.2.1 (j + 1)) := by
    split
    · exact okF_bad hT (by decide) (by decide)
    · exact nnE_ok hT
  have in1 : (if hN D.1 = 7 then bad T 5 j else nnE T D.2.1 (j + 1)) = 0 → hN D.1 < 7 ∧ isNm T (j + 1) = true := by
    intro q
    split at q
    · exact absurd q (wr_gt2 hT (by decide) (by decide) j)
    · exact ⟨by omega, (nnE_0 hT q).1⟩
  rw [eF]
  unfold Y
  iterate 4 ((refine X.f rfl ?_; first | refine z_iload rfl ?_ | refine z_aload rfl ?_ | refine z_push ?_ | refine z_istoreN rfl rfl ?_ | refine z_astoreN rfl rfl ?_ | refine z_istore rfl ?_ | refine z_astore rfl ?_ | refine z_gP rfl rfl ?_ | refine z_gI rfl ?_ | refine z_gotoF rfl ?_ | refine z_iadd ?_ | refine z_isub ?_ | refine z_imul ?_ | refine z_iand ?_ | refine z_ior ?_ | refine z_ishl ?_ | refine z_ishr ?_ | refine z_ixor ?_ | refine z_ineg ?_ | refine z_pI rfl ?_ | refine z_inc80 rfl ?_ | refine z_inc81 rfl ?_ | refine z_dup ?_ | refine z_dupr ?_ | refine z_dup2 ?_ | refine z_pop ?_ | (refine z_idiv ?sd1 ?_; (case sd1 => decide)) | (refine z_irem ?sd1 ?_; (case sd1 => decide)) | (refine z_iaload rfl ?sd1 ?sd2 ?sd3 ?_; (case sd1 => first | with_reducible assumption | decide | grind); (case sd2 => first | with_reducible assumption | decide | grind); (case sd3 => decide)) | (refine z_iastore rfl ?sd1 ?sd2 ?sd3 ?_; (case sd1 => first | with_reducible assumption | decide | grind); (case sd2 => first | with_reducible assumption | decide | grind); (case sd3 => decide))))
  rw [a40]
  iterate 5 ((refine X.f rfl ?_; first | refine z_iload rfl ?_ | refine z_aload rfl ?_ | refine z_push ?_ | refine z_istoreN rfl rfl ?_ | refine z_astoreN rfl rfl ?_ | refine z_istore rfl ?_ | refine z_astore rfl ?_ | refine z_gP rfl rfl ?_ | refine z_gI rfl ?_ | refine z_gotoF rfl ?_ | refine z_iadd ?_ | refine z_isub ?_ | refine z_imul ?_ | refine z_iand ?_ | refine z_ior ?_ | refine z_ishl ?_ | refine z_ishr ?_ | refine z_ixor ?_ | refine z_ineg ?_ | refine z_pI rfl ?_ | refine z_inc80 rfl ?_ | refine z_inc81 rfl ?_ | refine z_dup ?_ | refine z_dupr ?_ | refine z_dup2 ?_ | refine z_pop ?_ | (refine z_idiv ?sd1 ?_; (case sd1 => decide)) | (refine z_irem ?sd1 ?_; (case sd1 => decide)) | (refine z_iaload rfl ?sd1 ?sd2 ?sd3 ?_; (case sd1 => first | with_reducible assumption | decide | grind); (case sd2 => first | with_reducible assumption | decide | grind); (case sd3 => decide)) | (refine z_iastore rfl ?sd1 ?sd2 ?sd3 ?_; (case sd1 => first | with_reducible assumption | decide | grind); (case sd2 => first | with_reducible assumption | decide | grind); (case sd3 => decide))))
  refine X.f rfl (z_cv (q_readName (mi := 0) (most := 7) (fr := 0) (n := hN D.1) ⟨rfl, rfl, rfl⟩ (by omega) (by omega) (by omega) (by rw [z0]; exact a40) a7 hB hj h7 h8 aN (fun q => by omega)) rfl (by rfl) (by rfl) rfl rfl rfl rfl ?_)
  rintro _ _ ⟨rfl, F1, I1, J1, rfl, o1, f1, off1, on1⟩
  dsimp only [Option.toList, List.nil_append]
  generalize (if hN D.1 = 7 then bad T 5 j else nnE T D.2.1 (j + 1)) = fA at *
  obtain ⟨r1, u1⟩ := rnP.fr (mi := 0) (by omega) o1 off1 on1
  have hB1 := r1.B hB
  have aR1 : ∀ s, 0 ≤ s → s < 7 → I1 232 (44 + 2 * s) = hRow D.1 s ∧ I1 232 (44 + 2 * s + 1) = hAt D.1 s := fun s s0 s7 => by
    rw [u1 _ (by grind), u1 _ (by grind)]
    exact aR s s0 s7
  iterate 4 ((refine X.f rfl ?_; first | refine z_iload rfl ?_ | refine z_aload rfl ?_ | refine z_push ?_ | refine z_istoreN rfl rfl ?_ | refine z_astoreN rfl rfl ?_ | refine z_istore rfl ?_ | refine z_astore rfl ?_ | refine z_gP rfl rfl ?_ | refine z_gI rfl ?_ | refine z_gotoF rfl ?_ | refine z_iadd ?_ | refine z_isub ?_ | refine z_imul ?_ | refine z_iand ?_ | refine z_ior ?_ | refine z_ishl ?_ | refine z_ishr ?_ | refine z_ixor ?_ | refine z_ineg ?_ | refine z_pI rfl ?_ | refine z_inc80 rfl ?_ | refine z_inc81 rfl ?_ | refine z_dup ?_ | refine z_dupr ?_ | refine z_dup2 ?_ | refine z_pop ?_ | (refine z_idiv ?sd1 ?_; (case sd1 => decide)) | (refine z_irem ?sd1 ?_; (case sd1 => decide)) | (refine z_iaload rfl ?sd1 ?sd2 ?sd3 ?_; (case sd1 => first | with_reducible assumption | decide | grind); (case sd2 => first | with_reducible assumption | decide | grind); (case sd3 => decide)) | (refine z_iastore rfl ?sd1 ?sd2 ?sd3 ?_; (case sd1 => first | with_reducible assumption | decide | grind); (case sd2 => first | with_reducible assumption | decide | grind); (case sd3 => decide))))
  refine X.f rfl (z_cv (q_takeAfterG (x := 1) (j := j + 2) ⟨by omega, rfl⟩ hB1 f1 ok1 (fun q => ⟨(on1 q).1, isNm_lt (in1 q).2⟩)) rfl (by rfl) (by rfl) rfl rfl rfl rfl ?_)
  rintro _ _ ⟨rfl, F2, rfl, t2, f2, j2⟩
  dsimp only [Option.toList, List.singleton_append]
  iterate 5 ((refine X.f rfl ?_; first | refine z_iload rfl ?_ | refine z_aload rfl ?_ | refine z_push ?_ | refine z_istoreN rfl rfl ?_ | refine z_astoreN rfl rfl ?_ | refine z_istore rfl ?_ | refine z_astore rfl ?_ | refine z_gP rfl rfl ?_ | refine z_gI rfl ?_ | refine z_gotoF rfl ?_ | refine z_iadd ?_ | refine z_isub ?_ | refine z_imul ?_ | refine z_iand ?_ | refine z_ior ?_ | refine z_ishl ?_ | refine z_ishr ?_ | refine z_ixor ?_ | refine z_ineg ?_ | refine z_pI rfl ?_ | refine z_inc80 rfl ?_ | refine z_inc81 rfl ?_ | refine z_dup ?_ | refine z_dupr ?_ | refine z_dup2 ?_ | refine z_pop ?_ | (refine z_idiv ?sd1 ?_; (case sd1 => decide)) | (refine z_irem ?sd1 ?_; (case sd1 => decide)) | (refine z_iaload rfl ?sd1 ?sd2 ?sd3 ?_; (case sd1 => first | with_reducible assumption | decide | grind); (case sd2 => first | with_reducible assumption | decide | grind); (case sd3 => decide)) | (refine z_iastore rfl ?sd1 ?sd2 ?sd3 ?_; (case sd1 => first | with_reducible assumption | decide | grind); (case sd2 => first | with_reducible assumption | decide | grind); (case sd3 => decide))))
  refine X.f rfl (z_cv (q_takeAfterG (x := 2) (j := j + 4) ⟨by omega, rfl⟩ hB1 f2 (ok1.ch (afE_ok hT)) (fun q => ⟨j2 q, (afE_lt hT (chF_0 q).2).1⟩)) rfl (by rfl) (by rfl) rfl rfl rfl rfl ?_)
  rintro _ _ ⟨rfl, F3, rfl, t3, f3, j3⟩
  dsimp only [Option.toList, List.singleton_append]
  iterate 1 ((refine X.f rfl ?_; first | refine z_iload rfl ?_ | refine z_aload rfl ?_ | refine z_push ?_ | refine z_istoreN rfl rfl ?_ | refine z_astoreN rfl rfl ?_ | refine z_istore rfl ?_ | refine z_astore rfl ?_ | refine z_gP rfl rfl ?_ | refine z_gI rfl ?_ | refine z_gotoF rfl ?_ | refine z_iadd ?_ | refine z_isub ?_ | refine z_imul ?_ | refine z_iand ?_ | refine z_ior ?_ | refine z_ishl ?_ | refine z_ishr ?_ | refine z_ixor ?_ | refine z_ineg ?_ | refine z_pI rfl ?_ | refine z_inc80 rfl ?_ | refine z_inc81 rfl ?_ | refine z_dup ?_ | refine z_dupr ?_ | refine z_dup2 ?_ | refine z_pop ?_ | (refine z_idiv ?sd1 ?_; (case sd1 => decide)) | (refine z_irem ?sd1 ?_; (case sd1 => decide)) | (refine z_iaload rfl ?sd1 ?sd2 ?sd3 ?_; (case sd1 => first | with_reducible assumption | decide | grind); (case sd2 => first | with_reducible assumption | decide | grind); (case sd3 => decide)) | (refine z_iastore rfl ?sd1 ?sd2 ?sd3 ?_; (case sd1 => first | with_reducible assumption | decide | grind); (case sd2 => first | with_reducible assumption | decide | grind); (case sd3 => decide))))
  have r3 : rfF F F3 I I1 J J1 := (r1.trans (rfF.f7 t2)).trans (rfF.f7 t3)
  have ok3 := (ok1.ch (afE_ok (j := j + 2) (x := 1) (lo := 0) (hi := 4) hT)).ch (afE_ok (j := j + 4) (x := 2) (lo := 0) (hi := 9) hT)
  refine q_seatLoop a7 aR1 (fun L' hL' => ?_) _ (by repeat (first | exact trivial | refine ⟨by first | with_reducible rfl | exact congrArg (fun q => some (Value.int q)) (by first | with_reducible rfl | with_reducible assumption | exact (nI_succ _).symm | grind [nI_0]) | rfl, ?_⟩))
  refine X.weak hL' ?_
  clear hL'
  iterate 2 ((refine X.f rfl ?_; first | refine z_iload rfl ?_ | refine z_aload rfl ?_ | refine z_push ?_ | refine z_istoreN rfl rfl ?_ | refine z_astoreN rfl rfl ?_ | refine z_istore rfl ?_ | refine z_astore rfl ?_ | refine z_gP rfl rfl ?_ | refine z_gI rfl ?_ | refine z_gotoF rfl ?_ | refine z_iadd ?_ | refine z_isub ?_ | refine z_imul ?_ | refine z_iand ?_ | refine z_ior ?_ | refine z_ishl ?_ | refine z_ishr ?_ | refine z_ixor ?_ | refine z_ineg ?_ | refine z_pI rfl ?_ | refine z_inc80 rfl ?_ | refine z_inc81 rfl ?_ | refine z_dup ?_ | refine z_dupr ?_ | refine z_dup2 ?_ | refine z_pop ?_ | (refine z_idiv ?sd1 ?_; (case sd1 => decide)) | (refine z_irem ?sd1 ?_; (case sd1 => decide)) | (refine z_iaload rfl ?sd1 ?sd2 ?sd3 ?_; (case sd1 => first | with_reducible assumption | decide | grind); (case sd2 => first | with_reducible assumption | decide | grind); (case sd3 => decide)) | (refine z_iastore rfl ?sd1 ?sd2 ?sd3 ?_; (case sd1 => first | with_reducible assumption | decide | grind); (case sd2 => first | with_reducible assumption | decide | grind); (case sd3 => decide))))
  rw [f3]
  first | refine X.f rfl (z_ifeq (fun c => ?_) (fun c => ?_)) | refine X.f rfl (z_ifne (fun c => ?_) (fun c => ?_)) | refine X.f rfl (z_iflt (fun c => ?_) (fun c => ?_)) | refine X.f rfl (z_ifge (fun c => ?_) (fun c => ?_)) | refine X.f rfl (z_ifgt (fun c => ?_) (fun c => ?_)) | refine X.f rfl (z_ifle (fun c => ?_) (fun c => ?_)) | refine X.f rfl (z_ieq (fun c => ?_) (fun c => ?_)) | refine X.f rfl (z_ine (fun c => ?_) (fun c => ?_)) | refine X.f rfl (z_ilt (fun c => ?_) (fun c => ?_)) | refine X.f rfl (z_ige (fun c => ?_) (fun c => ?_)) | refine X.f rfl (z_igt (fun c => ?_) (fun c => ?_)) | refine X.f rfl (z_ile (fun c => ?_) (fun c => ?_))
  · iterate 2 ((refine X.f rfl ?_; first | refine z_iload rfl ?_ | refine z_aload rfl ?_ | refine z_push ?_ | refine z_istoreN rfl rfl ?_ | refine z_astoreN rfl rfl ?_ | refine z_istore rfl ?_ | refine z_astore rfl ?_ | refine z_gP rfl rfl ?_ | refine z_gI rfl ?_ | refine z_gotoF rfl ?_ | refine z_iadd ?_ | refine z_isub ?_ | refine z_imul ?_ | refine z_iand ?_ | refine z_ior ?_ | refine z_ishl ?_ | refine z_ishr ?_ | refine z_ixor ?_ | refine z_ineg ?_ | refine z_pI rfl ?_ | refine z_inc80 rfl ?_ | refine z_inc81 rfl ?_ | refine z_dup ?_ | refine z_dupr ?_ | refine z_dup2 ?_ | refine z_pop ?_ | (refine z_idiv ?sd1 ?_; (case sd1 => decide)) | (refine z_irem ?sd1 ?_; (case sd1 => decide)) | (refine z_iaload rfl ?sd1 ?sd2 ?sd3 ?_; (case sd1 => first | with_reducible assumption | decide | grind); (case sd2 => first | with_reducible assumption | decide | grind); (case sd3 => decide)) | (refine z_iastore rfl ?sd1 ?sd2 ?sd3 ?_; (case sd1 => first | with_reducible assumption | decide | grind); (case sd2 => first | with_reducible assumption | decide | grind); (case sd3 => decide))))
    rw [f3]
    first | refine X.f rfl (z_ifeq (fun c => ?_) (fun c => ?_)) | refine X.f rfl (z_ifne (fun c => ?_) (fun c => ?_)) | refine X.f rfl (z_iflt (fun c => ?_) (fun c => ?_)) | refine X.f rfl (z_ifge (fun c => ?_) (fun c => ?_)) | refine X.f rfl (z_ifgt (fun c => ?_) (fun c => ?_)) | refine X.f rfl (z_ifle (fun c => ?_) (fun c => ?_)) | refine X.f rfl (z_ieq (fun c => ?_) (fun c => ?_)) | refine X.f rfl (z_ine (fun c => ?_) (fun c => ?_)) | refine X.f rfl (z_ilt (fun c => ?_) (fun c => ?_)) | refine X.f rfl (z_ige (fun c => ?_) (fun c => ?_)) | refine X.f rfl (z_igt (fun c => ?_) (fun c => ?_)) | refine X.f rfl (z_ile (fun c => ?_) (fun c => ?_))
    · exact x_ret rfl rfl ⟨rfl, F3, I1, J1, rfl, r3, by rw [chF_n c]; exact f3, fun q => absurd (chF_0 q).1 c⟩
    · rename_i c1
      exact absurd (Classical.not_not.mp c) c1
  · have z3 := Classical.not_not.mp c
    have z2 := (chF_0 z3).1
    have z1 := (chF_0 z2).1
    rw [z3, chF_00]
    rw [z3] at f3
    obtain ⟨n7, hnm⟩ := in1 z1
    obtain ⟨-, e19, e1, eJ⟩ := on1 z1
    have w1 := (afE_lt hT (chF_0 z2).2)
    have w2 := (afE_lt hT (chF_0 z3).2)
    rw [if_pos z2, if_pos rfl]
    iterate 1 ((refine X.f rfl ?_; first | refine z_iload rfl ?_ | refine z_aload rfl ?_ | refine z_push ?_ | refine z_istoreN rfl rfl ?_ | refine z_astoreN rfl rfl ?_ | refine z_istore rfl ?_ | refine z_astore rfl ?_ | refine z_gP rfl rfl ?_ | refine z_gI rfl ?_ | refine z_gotoF rfl ?_ | refine z_iadd ?_ | refine z_isub ?_ | refine z_imul ?_ | refine z_iand ?_ | refine z_ior ?_ | refine z_ishl ?_ | refine z_ishr ?_ | refine z_ixor ?_ | refine z_ineg ?_ | refine z_pI rfl ?_ | refine z_inc80 rfl ?_ | refine z_inc81 rfl ?_ | refine z_dup ?_ | refine z_dupr ?_ | refine z_dup2 ?_ | refine z_pop ?_ | (refine z_idiv ?sd1 ?_; (case sd1 => decide)) | (refine z_irem ?sd1 ?_; (case sd1 => decide)) | (refine z_iaload rfl ?sd1 ?sd2 ?sd3 ?_; (case sd1 => first | with_reducible assumption | decide | grind); (case sd2 => first | with_reducible assumption | decide | grind); (case sd3 => decide)) | (refine z_iastore rfl ?sd1 ?sd2 ?sd3 ?_; (case sd1 => first | with_reducible assumption | decide | grind); (case sd2 => first | with_reducible assumption | decide | grind); (case sd3 => decide))))
    have g7 := j3 z3
    cases hh : hadQ D.1 (numA T (j + 3)) (numA T (j + 5)) (hN D.1)
    · rw [if_neg Bool.false_ne_true]
      ((refine X.f rfl ?_; first | refine z_ifeq (fun c => ?_) (fun c => ?_) | refine z_ifne (fun c => ?_) (fun c => ?_) | refine z_iflt (fun c => ?_) (fun c => ?_) | refine z_ifge (fun c => ?_) (fun c => ?_) | refine z_ifgt (fun c => ?_) (fun c => ?_) | refine z_ifle (fun c => ?_) (fun c => ?_) | refine z_ieq (fun c => ?_) (fun c => ?_) | refine z_ine (fun c => ?_) (fun c => ?_) | refine z_ilt (fun c => ?_) (fun c => ?_) | refine z_ige (fun c => ?_) (fun c => ?_) | refine z_igt (fun c => ?_) (fun c => ?_) | refine z_ile (fun c => ?_) (fun c => ?_)) <;> try (exfalso; first | (with_reducible exact absurd rfl c) | (with_reducible exact absurd (Int32.le_refl _) c) | (exact absurd c (by decide)) | (exact absurd c (by with_reducible assumption)) | (exact absurd (by with_reducible assumption) c)))
      iterate 2 ((refine X.f rfl ?_; first | refine z_iload rfl ?_ | refine z_aload rfl ?_ | refine z_push ?_ | refine z_istoreN rfl rfl ?_ | refine z_astoreN rfl rfl ?_ | refine z_istore rfl ?_ | refine z_astore rfl ?_ | refine z_gP rfl rfl ?_ | refine z_gI rfl ?_ | refine z_gotoF rfl ?_ | refine z_iadd ?_ | refine z_isub ?_ | refine z_imul ?_ | refine z_iand ?_ | refine z_ior ?_ | refine z_ishl ?_ | refine z_ishr ?_ | refine z_ixor ?_ | refine z_ineg ?_ | refine z_pI rfl ?_ | refine z_inc80 rfl ?_ | refine z_inc81 rfl ?_ | refine z_dup ?_ | refine z_dupr ?_ | refine z_dup2 ?_ | refine z_pop ?_ | (refine z_idiv ?sd1 ?_; (case sd1 => decide)) | (refine z_irem ?sd1 ?_; (case sd1 => decide)) | (refine z_iaload rfl ?sd1 ?sd2 ?sd3 ?_; (case sd1 => first | with_reducible assumption | decide | grind); (case sd2 => first | with_reducible assumption | decide | grind); (case sd3 => decide)) | (refine z_iastore rfl ?sd1 ?sd2 ?sd3 ?_; (case sd1 => first | with_reducible assumption | decide | grind); (case sd2 => first | with_reducible assumption | decide | grind); (case sd3 => decide))))
      rw [f3]
      ((refine X.f rfl ?_; first | refine z_ifeq (fun c => ?_) (fun c => ?_) | refine z_ifne (fun c => ?_) (fun c => ?_) | refine z_iflt (fun c => ?_) (fun c => ?_) | refine z_ifge (fun c => ?_) (fun c => ?_) | refine z_ifgt (fun c => ?_) (fun c => ?_) | refine z_ifle (fun c => ?_) (fun c => ?_) | refine z_ieq (fun c => ?_) (fun c => ?_) | refine z_ine (fun c => ?_) (fun c => ?_) | refine z_ilt (fun c => ?_) (fun c => ?_) | refine z_ige (fun c => ?_) (fun c => ?_) | refine z_igt (fun c => ?_) (fun c => ?_) | refine z_ile (fun c => ?_) (fun c => ?_)) <;> try (exfalso; first | (with_reducible exact absurd rfl c) | (with_reducible exact absurd (Int32.le_refl _) c) | (exact absurd c (by decide)) | (exact absurd c (by with_reducible assumption)) | (exact absurd (by with_reducible assumption) c)))
      have b0 : 0 ≤ nI (hN D.1) := nI_pos' (by omega)
      have b1 : nI (hN D.1) < 7 := (nI_ltI (b := 7) (by omega) (by omega)).mpr n7
      have c0 : 0 ≤ 44 + 2 * nI (hN D.1) := by grind
      have c1 : 44 + 2 * nI (hN D.1) < 80 := by grind
      have c2 : 0 ≤ 44 + 2 * nI (hN D.1) + 1 := by grind
      have c3 : 44 + 2 * nI (hN D.1) + 1 < 80 := by grind
      iterate 20 ((refine X.f rfl ?_; first | refine z_iload rfl ?_ | refine z_aload rfl ?_ | refine z_push ?_ | refine z_istoreN rfl rfl ?_ | refine z_astoreN rfl rfl ?_ | refine z_istore rfl ?_ | refine z_astore rfl ?_ | refine z_gP rfl rfl ?_ | refine z_gI rfl ?_ | refine z_gotoF rfl ?_ | refine z_iadd ?_ | refine z_isub ?_ | refine z_imul ?_ | refine z_iand ?_ | refine z_ior ?_ | refine z_ishl ?_ | refine z_ishr ?_ | refine z_ixor ?_ | refine z_ineg ?_ | refine z_pI rfl ?_ | refine z_inc80 rfl ?_ | refine z_inc81 rfl ?_ | refine z_dup ?_ | refine z_dupr ?_ | refine z_dup2 ?_ | refine z_pop ?_ | (refine z_idiv ?sd1 ?_; (case sd1 => decide)) | (refine z_irem ?sd1 ?_; (case sd1 => decide)) | (refine z_iaload rfl ?sd1 ?sd2 ?sd3 ?_; (case sd1 => first | with_reducible assumption | decide | grind); (case sd2 => first | with_reducible assumption | decide | grind); (case sd3 => decide)) | (refine z_iastore rfl ?sd1 ?sd2 ?sd3 ?_; (case sd1 => first | with_reducible assumption | decide | grind); (case sd2 => first | with_reducible assumption | decide | grind); (case sd3 => decide))))
      have fr : ∀ k, k ≠ 7 → k ≠ 8 → F3 226 k = F1 226 k := fun k h1 h2 => by rw [t3 226 k (by omega), t2 226 k (by omega)]
      refine x_ret rfl rfl ⟨rfl, F3, _, J1, rfl, r3.trans ⟨fun _ _ _ => rfl, fun c h1 _ _ _ => by rw [xv_ne h1, xv_ne h1], fun x hx => ?_, fun x hx => ⟨by rw [xv_ne (by decide), xv_ne (by decide)], by rw [xv_ne (by decide), xv_ne (by decide)]⟩, fun _ _ => rfl⟩, f3, fun _ => ⟨g7, hD.seat (isNm_1 hnm).2 n7 ?_ ?_ ?_ ?_ ?_ ?_ ?_ eJ⟩⟩
      · rw [xv_row, row_same, up_ne (by grind), xv_row, row_same, up_ne (by grind)]
      · rw [fr 13 (by decide) (by decide)]
        exact o1 226 13 (by omega)
      · rw [fr 19 (by decide) (by decide)]
        exact e19
      · rw [fr 20 (by decide) (by decide)]
        exact o1 226 20 (by omega)
      · rw [xv_row, row_same, xv_row, row_same, e1, xv_row, row_same, xv_ne (by decide)]
      · rw [xv_ne (by decide), xv_ne (by decide), e1, xv_ne (by decide), xv_row, row_same]
      · rw [xv_ne (by decide), xv_ne (by decide), e1, xv_ne (by decide), xv_ne (by decide)]
      · rw [xv_ne (by decide), xv_ne (by decide), e1, xv_ne (by decide), xv_ne (by decide)]
    · rw [if_pos rfl]
      ((refine X.f rfl ?_; first | refine z_ifeq (fun c => ?_) (fun c => ?_) | refine z_ifne (fun c => ?_) (fun c => ?_) | refine z_iflt (fun c => ?_) (fun c => ?_) | refine z_ifge (fun c => ?_) (fun c => ?_) | refine z_ifgt (fun c => ?_) (fun c => ?_) | refine z_ifle (fun c => ?_) (fun c => ?_) | refine z_ieq (fun c => ?_) (fun c => ?_) | refine z_ine (fun c => ?_) (fun c => ?_) | refine z_ilt (fun c => ?_) (fun c => ?_) | refine z_ige (fun c => ?_) (fun c => ?_) | refine z_igt (fun c => ?_) (fun c => ?_) | refine z_ile (fun c => ?_) (fun c => ?_)) <;> try (exfalso; first | (with_reducible exact absurd rfl c) | (with_reducible exact absurd (Int32.le_refl _) c) | (exact absurd c (by decide)) | (exact absurd c (by with_reducible assumption)) | (exact absurd (by with_reducible assumption) c)))
      have e5 : nI (j + 4 + 2) - 1 = nI (j + 5) := nI_sub1
      have h10 := wr_gt2 hT (x := 3) (by decide) (by decide) (j + 5)
      iterate 3 ((refine X.f rfl ?_; first | refine z_iload rfl ?_ | refine z_aload rfl ?_ | refine z_push ?_ | refine z_istoreN rfl rfl ?_ | refine z_astoreN rfl rfl ?_ | refine z_istore rfl ?_ | refine z_astore rfl ?_ | refine z_gP rfl rfl ?_ | refine z_gI rfl ?_ | refine z_gotoF rfl ?_ | refine z_iadd ?_ | refine z_isub ?_ | refine z_imul ?_ | refine z_iand ?_ | refine z_ior ?_ | refine z_ishl ?_ | refine z_ishr ?_ | refine z_ixor ?_ | refine z_ineg ?_ | refine z_pI rfl ?_ | refine z_inc80 rfl ?_ | refine z_inc81 rfl ?_ | refine z_dup ?_ | refine z_dupr ?_ | refine z_dup2 ?_ | refine z_pop ?_ | (refine z_idiv ?sd1 ?_; (case sd1 => decide)) | (refine z_irem ?sd1 ?_; (case sd1 => decide)) | (refine z_iaload rfl ?sd1 ?sd2 ?sd3 ?_; (case sd1 => first | with_reducible assumption | decide | grind); (case sd2 => first | with_reducible assumption | decide | grind); (case sd3 => decide)) | (refine z_iastore rfl ?sd1 ?sd2 ?sd3 ?_; (case sd1 => first | with_reducible assumption | decide | grind); (case sd2 => first | with_reducible assumption | decide | grind); (case sd3 => decide))))
      rw [g7]
      iterate 2 ((refine X.f rfl ?_; first | refine z_iload rfl ?_ | refine z_aload rfl ?_ | refine z_push ?_ | refine z_istoreN rfl rfl ?_ | refine z_astoreN rfl rfl ?_ | refine z_istore rfl ?_ | refine z_astore rfl ?_ | refine z_gP rfl rfl ?_ | refine z_gI rfl ?_ | refine z_gotoF rfl ?_ | refine z_iadd ?_ | refine z_isub ?_ | refine z_imul ?_ | refine z_iand ?_ | refine z_ior ?_ | refine z_ishl ?_ | refine z_ishr ?_ | refine z_ixor ?_ | refine z_ineg ?_ | refine z_pI rfl ?_ | refine z_inc80 rfl ?_ | refine z_inc81 rfl ?_ | refine z_dup ?_ | refine z_dupr ?_ | refine z_dup2 ?_ | refine z_pop ?_ | (refine z_idiv ?sd1 ?_; (case sd1 => decide)) | (refine z_irem ?sd1 ?_; (case sd1 => decide)) | (refine z_iaload rfl ?sd1 ?sd2 ?sd3 ?_; (case sd1 => first | with_reducible assumption | decide | grind); (case sd2 => first | with_reducible assumption | decide | grind); (case sd3 => decide)) | (refine z_iastore rfl ?sd1 ?sd2 ?sd3 ?_; (case sd1 => first | with_reducible assumption | decide | grind); (case sd2 => first | with_reducible assumption | decide | grind); (case sd3 => decide))))
      rw [e5]
      iterate 1 ((refine X.f rfl ?_; first | refine z_iload rfl ?_ | refine z_aload rfl ?_ | refine z_push ?_ | refine z_istoreN rfl rfl ?_ | refine z_astoreN rfl rfl ?_ | refine z_istore rfl ?_ | refine z_astore rfl ?_ | refine z_gP rfl rfl ?_ | refine z_gI rfl ?_ | refine z_gotoF rfl ?_ | refine z_iadd ?_ | refine z_isub ?_ | refine z_imul ?_ | refine z_iand ?_ | refine z_ior ?_ | refine z_ishl ?_ | refine z_ishr ?_ | refine z_ixor ?_ | refine z_ineg ?_ | refine z_pI rfl ?_ | refine z_inc80 rfl ?_ | refine z_inc81 rfl ?_ | refine z_dup ?_ | refine z_dupr ?_ | refine z_dup2 ?_ | refine z_pop ?_ | (refine z_idiv ?sd1 ?_; (case sd1 => decide)) | (refine z_irem ?sd1 ?_; (case sd1 => decide)) | (refine z_iaload rfl ?sd1 ?sd2 ?sd3 ?_; (case sd1 => first | with_reducible assumption | decide | grind); (case sd2 => first | with_reducible assumption | decide | grind); (case sd3 => decide)) | (refine z_iastore rfl ?sd1 ?sd2 ?sd3 ?_; (case sd1 => first | with_reducible assumption | decide | grind); (case sd2 => first | with_reducible assumption | decide | grind); (case sd3 => decide))))
      iterate 2 ((refine X.f rfl ?_; first | refine z_iload rfl ?_ | refine z_aload rfl ?_ | refine z_push ?_ | refine z_istoreN rfl rfl ?_ | refine z_astoreN rfl rfl ?_ | refine z_istore rfl ?_ | refine z_astore rfl ?_ | refine z_gP rfl rfl ?_ | refine z_gI rfl ?_ | refine z_gotoF rfl ?_ | refine z_iadd ?_ | refine z_isub ?_ | refine z_imul ?_ | refine z_iand ?_ | refine z_ior ?_ | refine z_ishl ?_ | refine z_ishr ?_ | refine z_ixor ?_ | refine z_ineg ?_ | refine z_pI rfl ?_ | refine z_inc80 rfl ?_ | refine z_inc81 rfl ?_ | refine z_dup ?_ | refine z_dupr ?_ | refine z_dup2 ?_ | refine z_pop ?_ | (refine z_idiv ?sd1 ?_; (case sd1 => decide)) | (refine z_irem ?sd1 ?_; (case sd1 => decide)) | (refine z_iaload rfl ?sd1 ?sd2 ?sd3 ?_; (case sd1 => first | with_reducible assumption | decide | grind); (case sd2 => first | with_reducible assumption | decide | grind); (case sd3 => decide)) | (refine z_iastore rfl ?sd1 ?sd2 ?sd3 ?_; (case sd1 => first | with_reducible assumption | decide | grind); (case sd2 => first | with_reducible assumption | decide | grind); (case sd3 => decide))))
      refine X.f rfl (z_cv (q_wrongH (j := j + 5) hB1 (by omega) xu_same (by rw [xu_ne (by omega)]; exact f3)) rfl (by rfl) (by rfl) rfl rfl rfl rfl ?_)
      rintro _ _ ⟨rfl, rfl⟩
      dsimp only [Option.toList, List.nil_append]
      have h9 : xu (xu F3 226 7 (nI (j + 5))) 226 8 (bad T 3 (j + 5)) 226 8 = bad T 3 (j + 5) := xu_same
      iterate 2 ((refine X.f rfl ?_; first | refine z_iload rfl ?_ | refine z_aload rfl ?_ | refine z_push ?_ | refine z_istoreN rfl rfl ?_ | refine z_astoreN rfl rfl ?_ | refine z_istore rfl ?_ | refine z_astore rfl ?_ | refine z_gP rfl rfl ?_ | refine z_gI rfl ?_ | refine z_gotoF rfl ?_ | refine z_iadd ?_ | refine z_isub ?_ | refine z_imul ?_ | refine z_iand ?_ | refine z_ior ?_ | refine z_ishl ?_ | refine z_ishr ?_ | refine z_ixor ?_ | refine z_ineg ?_ | refine z_pI rfl ?_ | refine z_inc80 rfl ?_ | refine z_inc81 rfl ?_ | refine z_dup ?_ | refine z_dupr ?_ | refine z_dup2 ?_ | refine z_pop ?_ | (refine z_idiv ?sd1 ?_; (case sd1 => decide)) | (refine z_irem ?sd1 ?_; (case sd1 => decide)) | (refine z_iaload rfl ?sd1 ?sd2 ?sd3 ?_; (case sd1 => first | with_reducible assumption | decide | grind); (case sd2 => first | with_reducible assumption | decide | grind); (case sd3 => decide)) | (refine z_iastore rfl ?sd1 ?sd2 ?sd3 ?_; (case sd1 => first | with_reducible assumption | decide | grind); (case sd2 => first | with_reducible assumption | decide | grind); (case sd3 => decide))))
      rw [h9]
      first | refine X.f rfl (z_ifeq (fun c => ?_) (fun c => ?_)) | refine X.f rfl (z_ifne (fun c => ?_) (fun c => ?_)) | refine X.f rfl (z_iflt (fun c => ?_) (fun c => ?_)) | refine X.f rfl (z_ifge (fun c => ?_) (fun c => ?_)) | refine X.f rfl (z_ifgt (fun c => ?_) (fun c => ?_)) | refine X.f rfl (z_ifle (fun c => ?_) (fun c => ?_)) | refine X.f rfl (z_ieq (fun c => ?_) (fun c => ?_)) | refine X.f rfl (z_ine (fun c => ?_) (fun c => ?_)) | refine X.f rfl (z_ilt (fun c => ?_) (fun c => ?_)) | refine X.f rfl (z_ige (fun c => ?_) (fun c => ?_)) | refine X.f rfl (z_igt (fun c => ?_) (fun c => ?_)) | refine X.f rfl (z_ile (fun c => ?_) (fun c => ?_))
      · exact x_ret rfl rfl ⟨rfl, _, I1, J1, rfl, (r3.trans (rfF.f7 to7.at)).trans (rfF.f7 to7.fl), h9, fun q => absurd q h10⟩
      · exact absurd (Classical.not_not.mp c) h10
end RC
