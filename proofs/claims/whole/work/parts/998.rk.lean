/-! THE REFERENCE: hall -/
/-- what a hall that is read leaves as it was, also behind a fault -/
def hlF (F F' : Nat → Nat → Int32) (I I' : Nat → Int32 → Int32) (J J' : Nat → Int32 → Int64) : Prop := (∀ c k, ¬ (c = 226 ∧ (k = 0 ∨ k = 2 ∨ k = 3 ∨ k = 7 ∨ k = 8 ∨ k = 13 ∨ k = 19 ∨ k = 20)) → F' c k = F c k) ∧ (∀ c, c ≠ 228 → c ≠ 229 → c ≠ 232 → c ≠ 233 → c ≠ 234 → c ≠ 238 → I' c = I c) ∧ (∀ x, x < 40 → I' 232 x = I 232 x) ∧ (∀ x, x < 1100 → I' 233 x = I 233 x ∧ I' 234 x = I 234 x) ∧ ∀ c, c ≠ 230 → c ≠ 236 → J' c = J c
def khP (F : Nat → Nat → Int32) (I : Nat → Int32 → Int32) (G : Nat → Nat → Int64) (J : Nat → Int32 → Int64) (ha hb ea eb : Nat) (T : List Int32) (w : Option Value) (M' : xM) : Prop := w = some (.int (hallP T).1) ∧ ∃ F' I' J', M' = (F', I', G, J', P0 ha hb ea eb, Q0, S0) ∧ F' 226 2 = 0 ∧ ((hallP T).1 ≠ 0 → hlF F F' I I' J J') ∧ ((hallP T).1 = 0 → (∀ c k, c ≠ 226 → F' c k = F c k) ∧ (∀ c, c < 226 → I' c = I c) ∧ (∀ c, c < 226 ∨ c = 231 → J' c = J c) ∧ HR I' (nearH (hallP T).2.2.1) ∧ HR2 I' (nearH (hallP T).2.2.1) ∧ nmR (F' 226 18) (J' 235) (I' 237) (hallP T).2.2.2.1 ∧ svR (I' 242) (hP (hallP T).2.2.1) 0 = startS (hP (hallP T).2.2.1) (hTold (hallP T).2.2.1) ∧ I' 242 25 = 0 ∧ I' 239 0 = 0 ∧ (∀ k, k < 4 → I' 243 (nI k) = 0) ∧ F' 226 25 = 0 ∧ F' 999 = F 999 ∧ I' 232 3 ≤ 0)
section RK
variable {e : Bool × Int32 × (Int32 → Int32)} {d : Nat} {F F' F'' : Nat → Nat → Int32} {I I' I'' : Nat → Int32 → Int32} {G : Nat → Nat → Int64} {J J' J'' : Nat → Int32 → Int64} {ha hb ea eb : Nat} {T : List Int32} {j : Nat} {f g : Int32} {L : ND} {D : DV}
theorem rfD_0 (h13 : F 226 13 = 0) (h19 : F 226 19 = 0) (h20 : F 226 20 = 0) (hI : ∀ x, I' 232 x = if 40 ≤ x ∧ x < 40 + 40 then (if x = 40 + 3 then -1 else if x = 40 + 2 then 6 else 0) else I 232 x) : rfD F I' J D0 := by
  refine ⟨?_, by decide, ?_, by decide, ?_, fun s s0 s7 => ⟨?_, ?_⟩, fun p p0 p5 => ⟨?_, ?_, ?_⟩, ⟨h19, Nat.zero_le _, fun k t v hk => by cases hk⟩, rfl, h20, Or.inl ⟨rfl, rfl, ?_, h13⟩⟩
  · rw [hI, if_pos (by decide), if_neg (by decide), if_neg (by decide)]
    rfl
  · rw [hI, if_pos (by decide), if_neg (by decide), if_neg (by decide)]
    rfl
  · rw [hI, if_pos (by decide), if_neg (by decide), if_pos (by decide)]
    rfl
  · rw [hI, if_pos ⟨by grind, by grind⟩, if_neg (by grind), if_neg (by grind)]
    rfl
  · rw [hI, if_pos ⟨by grind, by grind⟩, if_neg (by grind), if_neg (by grind)]
    rfl
  · rw [hI, if_pos ⟨by grind, by grind⟩, if_neg (by grind), if_neg (by grind)]
    rfl
  · rw [hI, if_pos ⟨by grind, by grind⟩, if_neg (by grind), if_neg (by grind)]
    rfl
  · rw [hI, if_pos ⟨by grind, by grind⟩, if_neg (by grind), if_neg (by grind)]
    rfl
  · rw [hI, if_pos (by decide), if_pos (by decide)]
theorem nearR_128 {R A : Int32 → Int32} {N : Nat} {s : Int32} (hN : N ≤ 7) : 0 ≤ nearR R A N s ∧ nearR R A N s < 128 := by
  unfold nearR
  split
  · exact bset_128 hN
  · decide
theorem HR_read {n : Nat} (hD : rfD F I J D) (hk : okD D) (hn : F 226 13 = nI n) (e0 : I' 232 = cpR (I 232) (fun x => I 232 (40 + x)) 40) (e1 : I' 233 = cpR (I 233) (fun x => I 233 (1100 + x)) n) (e2 : I' 234 = cpR (I 234) (fun x => I 234 (1100 + x)) n) (hne : ∀ k, k < 7 → I' 244 (nI k) = nearR (hRow D.1) (hAt D.1) (hN D.1) (nI k)) (hn1 : n ≤ 1000) : HR I' (nearH D.1) ∧ HR2 I' (nearH D.1) ∧ I' 232 3 ≤ 0 := by
  obtain ⟨a40, a7, a41, a5, a42, aR, aP, aN, aL, a20, aC⟩ := hD
  have e40 : nI 40 = 40 := rfl
  have rd : ∀ x, 0 ≤ x → x < 40 → I' 232 x = I 232 (40 + x) := fun x x0 x1 => by rw [e0, cpR_on x0 (by rw [e40]; exact x1)]
  refine ⟨⟨?_, a7, ?_, a5, ?_, fun s s0 s7 => ⟨?_, ?_, ?_⟩, fun p p0 p5 => ⟨?_, ?_, ?_⟩, ?_⟩, fun s s0 s7 => ?_, ?_⟩
  · rw [rd 0 (by decide) (by decide)]
    exact a40
  · rw [rd 1 (by decide) (by decide)]
    exact a41
  · rw [rd 2 (by decide) (by decide)]
    exact a42
  · rw [rd _ (by grind) (by grind), show 40 + (4 + 2 * s + 0) = 44 + 2 * s by grind]
    exact (aR s s0 s7).1
  · obtain ⟨k, hk7, rfl⟩ := nI_ex (P := 7) (by omega) s0 s7
    exact hne k hk7
  · exact nearR_128 a7
  · rw [rd _ (by grind) (by grind), show 40 + (18 + 3 * p + 0) = 58 + 3 * p by grind]
    exact (aP p p0 p5).1
  · rw [rd _ (by grind) (by grind), show 40 + (18 + 3 * p + 1) = 58 + 3 * p + 1 by grind]
    exact (aP p p0 p5).2.1
  · rw [rd _ (by grind) (by grind), show 40 + (18 + 3 * p + 2) = 58 + 3 * p + 2 by grind]
    exact (aP p p0 p5).2.2
  · rw [rd 3 (by decide) (by decide)]
    show codeR (I 232 43) (I' 233) (I' 234) (hCode D.1)
    obtain ⟨⟨-, -, -, -, -, -, -, w1, w2, w3⟩, -, -, k11⟩ := hk
    rcases aC with ⟨-, q2, q3, -⟩ | ⟨q1, q2, q3, q4, q5, q6⟩
    · exact Or.inl ⟨q2, by rw [q3]; decide⟩
    · rw [q3]
      have hnn : n = (hCode D.1).length + 1 := by
        rw [q4] at hn
        exact ((nI_eq (by omega) (by omega)).mp hn).symm
      have z0 : ∀ k, (0 : Int32) + nI k = nI k := fun k => by grind
      have rc : ∀ k, k ≤ (hCode D.1).length → I' 233 (nI k) = I 233 (1100 + nI k) ∧ I' 234 (nI k) = I 234 (1100 + nI k) := fun k hk => by
        have k0 : 0 ≤ nI k := nI_pos' (by omega)
        have k1 : nI k < nI n := (nI_ltI (by omega) (by omega)).mpr (by omega)
        exact ⟨by rw [e1, cpR_on k0 k1], by rw [e2, cpR_on k0 k1]⟩
      refine Or.inr ⟨k11 q1, by decide, w1, by decide, fun k o hk => ?_, ?_, w2 (k11 q1)⟩
      · have hk2 := (List.getElem?_eq_some_iff.mp hk).1
        rw [z0, (rc k (by omega)).1, (rc k (by omega)).2]
        exact ⟨(q5 k o hk).1, (q5 k o hk).2, w3 o (List.mem_of_getElem? hk)⟩
      · rw [z0, (rc _ (Nat.le_refl _)).1]
        exact q6
  · rw [rd _ (by grind) (by grind), show 40 + (4 + 2 * s + 1) = 44 + 2 * s + 1 by grind]
    exact (aR s s0 s7).2
  · rw [rd 3 (by decide) (by decide)]
    show I 232 43 ≤ 0
    rcases aC with ⟨-, -, q3, -⟩ | ⟨-, -, q3, -⟩
    · rw [q3]
      decide
    · rw [q3]
      decide
set_option maxHeartbeats 4000000 in
theorem k_hall (hn2 : T.length ≤ 1000) (hT : tapR (F 226 2) (I 227) T) (hw : ∀ x, x < 24 → J 231 (nI x) = p37 (wdx x) 0) : Y e 58 M_X12_hall [.ref 226] (F, I, G, J, P0 ha hb ea eb, Q0, S0) (khP F I G J ha hb ea eb T) := by
  unfold Y
  iterate 4 ((refine X.f rfl ?_; first | refine z_iload rfl ?_ | refine z_aload rfl ?_ | refine z_push ?_ | refine z_istoreN rfl rfl ?_ | refine z_astoreN rfl rfl ?_ | refine z_istore rfl ?_ | refine z_astore rfl ?_ | refine z_gP rfl rfl ?_ | refine z_gI rfl ?_ | refine z_gotoF rfl ?_ | refine z_iadd ?_ | refine z_isub ?_ | refine z_imul ?_ | refine z_iand ?_ | refine z_ior ?_ | refine z_ishl ?_ | refine z_ishr ?_ | refine z_ixor ?_ | refine z_ineg ?_ | refine z_pI rfl ?_ | refine z_inc80 rfl ?_ | refine z_inc81 rfl ?_ | refine z_dup ?_ | refine z_dupr ?_ | refine z_dup2 ?_ | refine z_pop ?_ | (refine z_idiv ?sd1 ?_; (case sd1 => decide)) | (refine z_irem ?sd1 ?_; (case sd1 => decide)) | (refine z_iaload rfl ?sd1 ?sd2 ?sd3 ?_; (case sd1 => first | with_reducible assumption | decide | grind); (case sd2 => first | with_reducible assumption | decide | grind); (case sd3 => decide)) | (refine z_iastore rfl ?sd1 ?sd2 ?sd3 ?_; (case sd1 => first | with_reducible assumption | decide | grind); (case sd2 => first | with_reducible assumption | decide | grind); (case sd3 => decide))))
  refine X.f rfl (z_cv (q_cutAll hn2 (show tapR (xu F 226 0 0 226 2) (I 227) T by rw [xu_ne (by omega)]; exact hT)) rfl (by rfl) (by rfl) rfl rfl rfl rfl ?_)
  rintro _ _ ⟨rfl, I1, J1, rfl, i1, j1, tk, e228, e229⟩
  dsimp only [Option.toList, List.nil_append]
  have hB1 : rdB I1 J1 T := ⟨hn2, tk, e228, e229, fun x hx => by rw [j1 231 (by decide)]; exact hw x hx⟩
  iterate 10 ((refine X.f rfl ?_; first | refine z_iload rfl ?_ | refine z_aload rfl ?_ | refine z_push ?_ | refine z_istoreN rfl rfl ?_ | refine z_astoreN rfl rfl ?_ | refine z_istore rfl ?_ | refine z_astore rfl ?_ | refine z_gP rfl rfl ?_ | refine z_gI rfl ?_ | refine z_gotoF rfl ?_ | refine z_iadd ?_ | refine z_isub ?_ | refine z_imul ?_ | refine z_iand ?_ | refine z_ior ?_ | refine z_ishl ?_ | refine z_ishr ?_ | refine z_ixor ?_ | refine z_ineg ?_ | refine z_pI rfl ?_ | refine z_inc80 rfl ?_ | refine z_inc81 rfl ?_ | refine z_dup ?_ | refine z_dupr ?_ | refine z_dup2 ?_ | refine z_pop ?_ | (refine z_idiv ?sd1 ?_; (case sd1 => decide)) | (refine z_irem ?sd1 ?_; (case sd1 => decide)) | (refine z_iaload rfl ?sd1 ?sd2 ?sd3 ?_; (case sd1 => first | with_reducible assumption | decide | grind); (case sd2 => first | with_reducible assumption | decide | grind); (case sd3 => decide)) | (refine z_iastore rfl ?sd1 ?sd2 ?sd3 ?_; (case sd1 => first | with_reducible assumption | decide | grind); (case sd2 => first | with_reducible assumption | decide | grind); (case sd3 => decide))))
  generalize hF2 : xu (xu (xu (xu (xu (xu (xu (xu F 226 0 0) 226 3 (nI T.length)) 226 2 0) 226 7 0) 226 8 0) 226 13 0) 226 19 0) 226 20 0 = F2
  have fr : ∀ c k, ¬ (c = 226 ∧ (k = 0 ∨ k = 2 ∨ k = 3 ∨ k = 7 ∨ k = 8 ∨ k = 13 ∨ k = 19 ∨ k = 20)) → F2 c k = F c k := fun c k hc => by
    rw [← hF2, xu_ne (by omega), xu_ne (by omega), xu_ne (by omega), xu_ne (by omega), xu_ne (by omega), xu_ne (by omega), xu_ne (by omega), xu_ne (by omega)]
  have f2 : F2 226 2 = 0 := by rw [← hF2]; simp [xu]
  have f7 : F2 226 7 = nI 0 := by rw [← hF2]; simp [xu]; rfl
  have f8 : F2 226 8 = 0 := by rw [← hF2]; simp [xu]
  have f13 : F2 226 13 = 0 := by rw [← hF2]; simp [xu]
  have f19 : F2 226 19 = 0 := by rw [← hF2]; simp [xu]
  have f20 : F2 226 20 = 0 := by rw [← hF2]; simp [xu]
  clear hF2
  iterate 1 ((refine X.f rfl ?_; first | refine z_iload rfl ?_ | refine z_aload rfl ?_ | refine z_push ?_ | refine z_istoreN rfl rfl ?_ | refine z_astoreN rfl rfl ?_ | refine z_istore rfl ?_ | refine z_astore rfl ?_ | refine z_gP rfl rfl ?_ | refine z_gI rfl ?_ | refine z_gotoF rfl ?_ | refine z_iadd ?_ | refine z_isub ?_ | refine z_imul ?_ | refine z_iand ?_ | refine z_ior ?_ | refine z_ishl ?_ | refine z_ishr ?_ | refine z_ixor ?_ | refine z_ineg ?_ | refine z_pI rfl ?_ | refine z_inc80 rfl ?_ | refine z_inc81 rfl ?_ | refine z_dup ?_ | refine z_dupr ?_ | refine z_dup2 ?_ | refine z_pop ?_ | (refine z_idiv ?sd1 ?_; (case sd1 => decide)) | (refine z_irem ?sd1 ?_; (case sd1 => decide)) | (refine z_iaload rfl ?sd1 ?sd2 ?sd3 ?_; (case sd1 => first | with_reducible assumption | decide | grind); (case sd2 => first | with_reducible assumption | decide | grind); (case sd3 => decide)) | (refine z_iastore rfl ?sd1 ?sd2 ?sd3 ?_; (case sd1 => first | with_reducible assumption | decide | grind); (case sd2 => first | with_reducible assumption | decide | grind); (case sd3 => decide))))
  refine X.f rfl (z_cv (q_standsAsAlways (at0 := 40) (by decide) (by decide)) rfl (by rfl) (by rfl) rfl rfl rfl rfl ?_)
  rintro _ _ ⟨rfl, I2, rfl, i2, s2⟩
  dsimp only [Option.toList, List.nil_append]
  have hB2 : rdB I2 J1 T := hB1.off (i2 228 (by decide)) (i2 229 (by decide)) rfl rfl
  refine q_hallLoop 1000 0 D0 F2 I2 J1 (by have := toks_len T; omega) (Nat.zero_le _) f7 f8 hB2 (rfD_0 f13 f19 f20 s2) okD_0 (fun F3 I3 J3 L' r3 f3 n3 hL => ?_) _ (by repeat (first | exact trivial | refine ⟨by first | with_reducible rfl | exact congrArg (fun q => some (Value.int q)) (by first | with_reducible rfl | with_reducible assumption | exact (nI_succ _).symm | grind [nI_0]) | rfl, ?_⟩))
  refine X.weak hL ?_
  clear hL
  have ok := linesP_okF hn2 1000 0 D0
  have hk := linesP_ok hn2 1000 0 D0 okD_0
  change F3 226 8 = (hallP T).1 at f3
  change (hallP T).1 = 0 → rfD F3 I3 J3 (hallP T).2.2 at n3
  change okF (hallP T).1 at ok
  change (hallP T).1 = 0 → okD (hallP T).2.2 at hk
  have g2 : F3 226 2 = 0 := (r3.1 226 2 (by omega)).trans f2
  have e40 : ∀ x : Int32, x < 40 → I2 232 x = I1 232 x := fun x hx => by rw [s2, if_neg (fun z => absurd hx (Int32.not_lt.mpr z.1))]
  unfold khP
  generalize hallP T = R at *
  iterate 2 ((refine X.f rfl ?_; first | refine z_iload rfl ?_ | refine z_aload rfl ?_ | refine z_push ?_ | refine z_istoreN rfl rfl ?_ | refine z_astoreN rfl rfl ?_ | refine z_istore rfl ?_ | refine z_astore rfl ?_ | refine z_gP rfl rfl ?_ | refine z_gI rfl ?_ | refine z_gotoF rfl ?_ | refine z_iadd ?_ | refine z_isub ?_ | refine z_imul ?_ | refine z_iand ?_ | refine z_ior ?_ | refine z_ishl ?_ | refine z_ishr ?_ | refine z_ixor ?_ | refine z_ineg ?_ | refine z_pI rfl ?_ | refine z_inc80 rfl ?_ | refine z_inc81 rfl ?_ | refine z_dup ?_ | refine z_dupr ?_ | refine z_dup2 ?_ | refine z_pop ?_ | (refine z_idiv ?sd1 ?_; (case sd1 => decide)) | (refine z_irem ?sd1 ?_; (case sd1 => decide)) | (refine z_iaload rfl ?sd1 ?sd2 ?sd3 ?_; (case sd1 => first | with_reducible assumption | decide | grind); (case sd2 => first | with_reducible assumption | decide | grind); (case sd3 => decide)) | (refine z_iastore rfl ?sd1 ?sd2 ?sd3 ?_; (case sd1 => first | with_reducible assumption | decide | grind); (case sd2 => first | with_reducible assumption | decide | grind); (case sd3 => decide))))
  rw [f3]
  first | refine X.f rfl (z_ifeq (fun c => ?_) (fun c => ?_)) | refine X.f rfl (z_ifne (fun c => ?_) (fun c => ?_)) | refine X.f rfl (z_iflt (fun c => ?_) (fun c => ?_)) | refine X.f rfl (z_ifge (fun c => ?_) (fun c => ?_)) | refine X.f rfl (z_ifgt (fun c => ?_) (fun c => ?_)) | refine X.f rfl (z_ifle (fun c => ?_) (fun c => ?_)) | refine X.f rfl (z_ieq (fun c => ?_) (fun c => ?_)) | refine X.f rfl (z_ine (fun c => ?_) (fun c => ?_)) | refine X.f rfl (z_ilt (fun c => ?_) (fun c => ?_)) | refine X.f rfl (z_ige (fun c => ?_) (fun c => ?_)) | refine X.f rfl (z_igt (fun c => ?_) (fun c => ?_)) | refine X.f rfl (z_ile (fun c => ?_) (fun c => ?_))
  rotate_left
  · iterate 2 ((refine X.f rfl ?_; first | refine z_iload rfl ?_ | refine z_aload rfl ?_ | refine z_push ?_ | refine z_istoreN rfl rfl ?_ | refine z_astoreN rfl rfl ?_ | refine z_istore rfl ?_ | refine z_astore rfl ?_ | refine z_gP rfl rfl ?_ | refine z_gI rfl ?_ | refine z_gotoF rfl ?_ | refine z_iadd ?_ | refine z_isub ?_ | refine z_imul ?_ | refine z_iand ?_ | refine z_ior ?_ | refine z_ishl ?_ | refine z_ishr ?_ | refine z_ixor ?_ | refine z_ineg ?_ | refine z_pI rfl ?_ | refine z_inc80 rfl ?_ | refine z_inc81 rfl ?_ | refine z_dup ?_ | refine z_dupr ?_ | refine z_dup2 ?_ | refine z_pop ?_ | (refine z_idiv ?sd1 ?_; (case sd1 => decide)) | (refine z_irem ?sd1 ?_; (case sd1 => decide)) | (refine z_iaload rfl ?sd1 ?sd2 ?sd3 ?_; (case sd1 => first | with_reducible assumption | decide | grind); (case sd2 => first | with_reducible assumption | decide | grind); (case sd3 => decide)) | (refine z_iastore rfl ?sd1 ?sd2 ?sd3 ?_; (case sd1 => first | with_reducible assumption | decide | grind); (case sd2 => first | with_reducible assumption | decide | grind); (case sd3 => decide))))
    rw [f3]
    have hn0 : R.1 ≠ 0 := fun q => c (by rw [q]; decide)
    refine x_ret rfl rfl ⟨rfl, F3, I3, J3, rfl, g2, fun _ => ⟨fun c k hc => ?_, fun c c1 c2 c3 c4 c5 c6 => ?_, fun x hx => ?_, fun x hx => ⟨?_, ?_⟩, fun c c1 c2 => ?_⟩, fun q => absurd q hn0⟩
    · rw [r3.1 c k (by omega), fr c k hc]
    · rw [r3.2.1 c c3 c4 c5 c6, i2 c c3, i1 c c1 c2]
    · rw [r3.2.2.1 x hx, e40 x hx, i1 232 (by decide) (by decide)]
    · rw [(r3.2.2.2.1 x hx).1, i2 233 (by decide), i1 233 (by decide) (by decide)]
    · rw [(r3.2.2.2.1 x hx).2, i2 234 (by decide), i1 234 (by decide) (by decide)]
    · rw [r3.2.2.2.2 c c2, j1 c c1]
  · have h0 : R.1 = 0 := ok.resolve_right (fun q => q c)
    have hD := n3 h0
    have hkd := hk h0
    clear c
    rw [h0]
    obtain ⟨a40, a7, a41, a5, a42, aR, aP, aN, aL, a20, aC⟩ := id hD
    obtain ⟨n, hn, hn1⟩ : ∃ n, F3 226 13 = nI n ∧ n ≤ 1000 := by
      rcases aC with q | q
      · exact ⟨0, q.2.2.2, Nat.zero_le _⟩
      · exact ⟨_, q.2.2.2.1, by have := q.2.1; omega⟩
    refine q_hallCopy hn hn1 aN.1 aN.2.1 (fun I4 J4 L' c0 c1 c2 c3 c4 c5 c6 hL => ?_) _ (by repeat (first | exact trivial | refine ⟨by first | with_reducible rfl | exact congrArg (fun q => some (Value.int q)) (by first | with_reducible rfl | with_reducible assumption | exact (nI_succ _).symm | grind [nI_0]) | rfl, ?_⟩))
    refine X.weak hL ?_
    clear hL
    have e40' : nI 40 = 40 := rfl
    have rd : ∀ x, 0 ≤ x → x < 40 → I4 232 x = I3 232 (40 + x) := fun x x0 x1 => by rw [c2, cpR_on x0 (by rw [e40']; exact x1)]
    iterate 3 ((refine X.f rfl ?_; first | refine z_iload rfl ?_ | refine z_aload rfl ?_ | refine z_push ?_ | refine z_istoreN rfl rfl ?_ | refine z_astoreN rfl rfl ?_ | refine z_istore rfl ?_ | refine z_astore rfl ?_ | refine z_gP rfl rfl ?_ | refine z_gI rfl ?_ | refine z_gotoF rfl ?_ | refine z_iadd ?_ | refine z_isub ?_ | refine z_imul ?_ | refine z_iand ?_ | refine z_ior ?_ | refine z_ishl ?_ | refine z_ishr ?_ | refine z_ixor ?_ | refine z_ineg ?_ | refine z_pI rfl ?_ | refine z_inc80 rfl ?_ | refine z_inc81 rfl ?_ | refine z_dup ?_ | refine z_dupr ?_ | refine z_dup2 ?_ | refine z_pop ?_ | (refine z_idiv ?sd1 ?_; (case sd1 => decide)) | (refine z_irem ?sd1 ?_; (case sd1 => decide)) | (refine z_iaload rfl ?sd1 ?sd2 ?sd3 ?_; (case sd1 => first | with_reducible assumption | decide | grind); (case sd2 => first | with_reducible assumption | decide | grind); (case sd3 => decide)) | (refine z_iastore rfl ?sd1 ?sd2 ?sd3 ?_; (case sd1 => first | with_reducible assumption | decide | grind); (case sd2 => first | with_reducible assumption | decide | grind); (case sd3 => decide))))
    rw [aN.1]
    iterate 2 ((refine X.f rfl ?_; first | refine z_iload rfl ?_ | refine z_aload rfl ?_ | refine z_push ?_ | refine z_istoreN rfl rfl ?_ | refine z_astoreN rfl rfl ?_ | refine z_istore rfl ?_ | refine z_astore rfl ?_ | refine z_gP rfl rfl ?_ | refine z_gI rfl ?_ | refine z_gotoF rfl ?_ | refine z_iadd ?_ | refine z_isub ?_ | refine z_imul ?_ | refine z_iand ?_ | refine z_ior ?_ | refine z_ishl ?_ | refine z_ishr ?_ | refine z_ixor ?_ | refine z_ineg ?_ | refine z_pI rfl ?_ | refine z_inc80 rfl ?_ | refine z_inc81 rfl ?_ | refine z_dup ?_ | refine z_dupr ?_ | refine z_dup2 ?_ | refine z_pop ?_ | (refine z_idiv ?sd1 ?_; (case sd1 => decide)) | (refine z_irem ?sd1 ?_; (case sd1 => decide)) | (refine z_iaload rfl ?sd1 ?sd2 ?sd3 ?_; (case sd1 => first | with_reducible assumption | decide | grind); (case sd2 => first | with_reducible assumption | decide | grind); (case sd3 => decide)) | (refine z_iastore rfl ?sd1 ?sd2 ?sd3 ?_; (case sd1 => first | with_reducible assumption | decide | grind); (case sd2 => first | with_reducible assumption | decide | grind); (case sd3 => decide))))
    refine X.f rfl (z_cv (q_begins (N := hN R.2.2.1) (P := hP R.2.2.1) (R := hRow R.2.2.1) (A := hAt R.2.2.1) (T := hTold R.2.2.1) (by rw [rd 0 (by decide) (by decide)]; exact a40) a7 (by rw [rd 1 (by decide) (by decide)]; exact a41) a5 (fun s s0 s7 => ⟨by rw [rd _ (by grind) (by grind), show 40 + (4 + 2 * s + 0) = 44 + 2 * s by grind]; exact (aR s s0 s7).1, by rw [rd _ (by grind) (by grind), show 40 + (4 + 2 * s + 1) = 44 + 2 * s + 1 by grind]; exact (aR s s0 s7).2⟩) (fun p p0 p5 => by rw [rd _ (by grind) (by grind), show 40 + (18 + 3 * p + 1) = 58 + 3 * p + 1 by grind]; exact (aP p p0 p5).2.1)) rfl (by rfl) (by rfl) rfl rfl rfl rfl ?_)
    rintro _ _ ⟨rfl, I5, rfl, b1, b2, b3, b4, b5, b6⟩
    dsimp only [Option.toList, List.nil_append]
    iterate 1 ((refine X.f rfl ?_; first | refine z_iload rfl ?_ | refine z_aload rfl ?_ | refine z_push ?_ | refine z_istoreN rfl rfl ?_ | refine z_astoreN rfl rfl ?_ | refine z_istore rfl ?_ | refine z_astore rfl ?_ | refine z_gP rfl rfl ?_ | refine z_gI rfl ?_ | refine z_gotoF rfl ?_ | refine z_iadd ?_ | refine z_isub ?_ | refine z_imul ?_ | refine z_iand ?_ | refine z_ior ?_ | refine z_ishl ?_ | refine z_ishr ?_ | refine z_ixor ?_ | refine z_ineg ?_ | refine z_pI rfl ?_ | refine z_inc80 rfl ?_ | refine z_inc81 rfl ?_ | refine z_dup ?_ | refine z_dupr ?_ | refine z_dup2 ?_ | refine z_pop ?_ | (refine z_idiv ?sd1 ?_; (case sd1 => decide)) | (refine z_irem ?sd1 ?_; (case sd1 => decide)) | (refine z_iaload rfl ?sd1 ?sd2 ?sd3 ?_; (case sd1 => first | with_reducible assumption | decide | grind); (case sd2 => first | with_reducible assumption | decide | grind); (case sd3 => decide)) | (refine z_iastore rfl ?sd1 ?sd2 ?sd3 ?_; (case sd1 => first | with_reducible assumption | decide | grind); (case sd2 => first | with_reducible assumption | decide | grind); (case sd3 => decide))))
    obtain ⟨hr1, hr2, hr3⟩ := HR_read (I' := I5) hD hkd hn (by rw [b1 232 (by decide) (by decide) (by decide) (by decide)]; exact c2) (by rw [b1 233 (by decide) (by decide) (by decide) (by decide)]; exact c3) (by rw [b1 234 (by decide) (by decide) (by decide) (by decide)]; exact c4) b2 hn1
    refine x_ret rfl rfl ⟨rfl, _, I5, J4, rfl, by rw [xu_ne (by omega), xu_ne (by omega)]; exact g2, fun q => absurd rfl q, fun _ => ⟨fun c k hc => ?_, fun c hc => ?_, fun c hc => ?_, hr1, hr2, ?_, b3, b4, b5, b6, xu_same, ?_, hr3⟩⟩
    · rw [xu_ne (by omega), xu_ne (by omega), r3.1 c k (by omega), fr c k (by omega)]
    · rw [b1 c (by omega) (by omega) (by omega) (by omega), c0 c (by omega) (by omega) (by omega) (by omega), r3.2.1 c (by omega) (by omega) (by omega) (by omega), i2 c (by omega), i1 c (by omega) (by omega)]
    · rw [c1 c (by omega), r3.2.2.2.2 c (by omega), j1 c (by omega)]
    · rw [xu_ne (by omega), xu_same, b1 237 (by decide) (by decide) (by decide) (by decide), c5, c6]
      obtain ⟨n1, n2, n3⟩ := aN
      refine ⟨rfl, n2, fun k t v hk => ?_⟩
      have hk2 := (List.getElem?_eq_some_iff.mp hk).1
      have k0 : 0 ≤ nI k := nI_pos' (by omega)
      have k1 : nI k < nI R.2.2.2.1.length := (nI_ltI (by omega) (by omega)).mpr hk2
      rw [cpR_on k0 k1, show cpJ (J3 235) (J3 236) R.2.2.2.1.length (nI k) = J3 236 (nI k) from if_pos ⟨k0, k1⟩]
      exact n3 k t v hk
    · funext k
      rw [xu_ne (by omega), xu_ne (by omega), r3.1 999 k (by omega), fr 999 k (by omega)]
end RK
