/-! THE CONSTRUCTORS: the past, looking ahead, the class -/
section VF
variable {e : Bool × Int32 × (Int32 → Int32)} {F : Nat → Nat → Int32} {I : Nat → Int32 → Int32} {J : Nat → Int32 → Int64} {P : Nat → Nat → Option Nat} {Q : Nat → Int32 → Option Nat}
def l44 : List (Nat × Nat) := [(3, 48), (2, 47), (1, 46), (0, 45)]
/-- the past is being made -/
def I5 (B : B4) (J : Nat → Int32 → Int64) (n k m p : Nat) (M : xM) : Prop := ∃ F I P Q, M = (F, I, Gz, J, P, Q, S0.take n) ∧ CU 44 n B I0v (qA k m p) J F I P Q l44
theorem noQ_sc {b c : Nat} (h : 48 ≤ b) (h2 : b ≤ c) (h3 : c < 217) : noQ c = true := by
  unfold noQ
  simp only [Bool.and_eq_true, Bool.not_eq_true', beq_eq_false_iff_ne]
  exact ⟨⟨⟨by omega, by omega⟩, by omega⟩, by omega⟩
set_option maxHeartbeats 4000000 in
theorem n_X5 (hbl : bl 44 F I J P Q) : Y e 2 M_X5_init [.ref 44] (F, I, Gz, J, P, Q, S0.take 45) (NP 44 205 F I J P Q) := by
  unfold Y
  refine X.f rfl (z_aload rfl ?_)
  refine X.f rfl (z_67 (by decide) (by decide) ?_)
  have C := CU.start (iv := I0v) (qv := qA 0 0 0) hbl
  generalize hB : ((F, I, P, Q) : B4) = B at C
  have fin : ∀ M', I5 B J 205 16 4 4 M' → NP 44 205 F I J P Q none M' := by
    rintro _ ⟨F', I', P', Q', rfl, C'⟩
    refine ⟨rfl, F', I', P', Q', rfl, ?_⟩
    rw [hB]
    refine (C'.qch (fun c _ h => qA_16 h)).fin (by decide) (by decide) (by decide) ?_
    funext k
    match k with
    | 0 => rfl
    | 1 => rfl
    | 2 => rfl
    | 3 => rfl
    | 4 => rfl
    | 5 => rfl
    | 6 => rfl
    | 7 => rfl
    | 8 => rfl
    | 9 => rfl
    | 10 => rfl
    | 11 => rfl
    | 12 => rfl
    | k + 13 => rfl
  refine x_cq C rfl rfl rfl rfl rfl (by decide +kernel) (by decide +kernel) (by decide) (by decide) (by decide) (by decide) (by decide) (by decide) (by decide) (fl_eq (by decide)) qA_0 (fun P C => ?_)
  refine x_cq C rfl rfl rfl rfl rfl (by decide +kernel) (by decide +kernel) (by decide) (by decide) (by decide) (by decide) (by decide) (by decide) (by decide) (fl_eq (by decide)) qA_0 (fun P C => ?_)
  refine x_cq C rfl rfl rfl rfl rfl (by decide +kernel) (by decide +kernel) (by decide) (by decide) (by decide) (by decide) (by decide) (by decide) (by decide) (fl_eq (by decide)) qA_0 (fun P C => ?_)
  refine x_ca C rfl rfl rfl rfl rfl (by decide +kernel) (by decide +kernel) (by decide) (by decide) (by decide) (by decide) (by decide) (by decide) (fl_eq (by decide)) qA_0 (fun P C => ?_)
  refine X.f rfl (z_push ?_)
  refine X.f rfl (z_istore rfl ?_)
  clear hbl
  refine x_forR 16 (fun i (_ : Unit) => [some (.ref 44), some (.int (nI i))]) (fun i _ M => I5 B J (49 + 7 * i) i 0 0 M) (fun i _ M hi hM k => ?_) (fun _ M hM => ?_) (i := 0) (a := ()) (by omega) ⟨_, _, _, _, rfl, C⟩ (by repeat (first | exact trivial | refine ⟨by first | with_reducible rfl | exact congrArg (fun q => some (Value.int q)) (by first | with_reducible rfl | with_reducible assumption | exact (nI_succ _).symm | grind [nI_0]) | rfl, ?_⟩))
  · obtain ⟨F, I, P, Q, rfl, C⟩ := hM
    have i0 : 0 ≤ nI i := nI_pos' (by omega)
    have i1 : nI i < 16 := (nI_ltI (b := 16) (by omega) (by omega)).mpr hi
    have i2 : ¬ 16 ≤ nI i := Int32.not_le.mpr i1
    have hs := sc_step hi
    obtain ⟨s0, -⟩ := sc_S hs
    have z := C.2.2.2.1
    have zn := z _ (Nat.le_refl _)
    have hp : P 44 0 = some 45 := congrFun C.2.2.2.2.2.2.1 0
    refine X.f rfl (z_iload rfl ?_)
    refine X.f rfl (z_push ?_)
    refine X.f rfl (z_ige (fun c => absurd c i2) (fun _ => ?_))
    refine X.f rfl (z_aload rfl ?_)
    refine X.f rfl (z_gP (tk_is (x := 0) (by omega) (by decide +kernel)) hp ?_)
    refine X.f rfl (z_iload rfl ?_)
    refine X.f rfl (z_new (ci := 6) s0 (by omega) zn.1 zn.2.2.2.1 ?_)
    refine X.f rfl (z_dupr ?_)
    refine X.f rfl (z_cv (n_X6 hs z) rfl (by rfl) (by rfl) rfl rfl (tk_is (by omega) s0) rfl ?_)
    rintro _ _ ⟨rfl, F', I', P', Q', rfl, D⟩
    have C1 := C.sub (by omega) D (fun _ _ _ => rfl) (fun c h1 h2 => qA_no (noQ_sc (b := 48) (by omega) (by omega) (by omega)))
    refine X.f rfl (z_aast (Or.inl ⟨tk_in (m := 16) (by omega) (by decide +kernel) i0 i1, tk_is (by omega) s0⟩) ?_)
    have C2 := C1.aset (c0 := 45) (x := 49 + 7 * i) (i := nI i) (qv' := qA (i + 1) 0 0) (by omega) (by omega) (fun c _ _ => by rw [qA_5 hi])
    refine X.f rfl (z_inc80 rfl ?_)
    refine X.f rfl (z_goto (k () _ _ ⟨_, _, _, _, rfl, C2⟩ ?_))
    repeat (first | exact trivial | refine ⟨by first | with_reducible rfl | exact congrArg (fun q => some (Value.int q)) (by first | with_reducible rfl | with_reducible assumption | exact (nI_succ _).symm | grind [nI_0]) | rfl, ?_⟩)
  · have e16 : nI 16 = 16 := rfl
    refine X.f rfl (z_iload rfl ?_)
    refine X.f rfl (z_push ?_)
    refine X.f rfl (z_ige (fun _ => ?_) (fun c => absurd (by decide) c))
    refine X.f rfl (z_push ?_)
    refine X.f rfl (z_istore rfl ?_)
    refine x_forR 4 (fun i (_ : Unit) => [some (.ref 44), some (.int (nI i))]) (fun i _ M => I5 B J (161 + 11 * i) 16 i i M) (fun i _ M hi hM k => ?_) (fun _ M hM => ?_) (i := 0) (a := ()) (by omega) hM (by repeat (first | exact trivial | refine ⟨by first | with_reducible rfl | exact congrArg (fun q => some (Value.int q)) (by first | with_reducible rfl | with_reducible assumption | exact (nI_succ _).symm | grind [nI_0]) | rfl, ?_⟩))
    · obtain ⟨F, I, P, Q, rfl, C⟩ := hM
      have i0 : 0 ≤ nI i := nI_pos' (by omega)
      have i1 : nI i < 4 := (nI_ltI (b := 4) (by omega) (by omega)).mpr hi
      have i2 : ¬ 4 ≤ nI i := Int32.not_le.mpr i1
      have hs := sc_mark hi
      obtain ⟨s0, -⟩ := sc_S hs
      have z := C.2.2.2.1
      have zn := z _ (Nat.le_refl _)
      have hp : P 44 1 = some 46 := congrFun C.2.2.2.2.2.2.1 1
      refine X.f rfl (z_iload rfl ?_)
      refine X.f rfl (z_push ?_)
      refine X.f rfl (z_ige (fun c => absurd c i2) (fun _ => ?_))
      refine X.f rfl (z_aload rfl ?_)
      refine X.f rfl (z_gP (tk_is (x := 0) (by omega) (by decide +kernel)) hp ?_)
      refine X.f rfl (z_iload rfl ?_)
      refine X.f rfl (z_new (ci := 6) s0 (by omega) zn.1 zn.2.2.2.1 ?_)
      refine X.f rfl (z_dupr ?_)
      refine X.f rfl (z_cv (n_X6 hs z) rfl (by rfl) (by rfl) rfl rfl (tk_is (by omega) s0) rfl ?_)
      rintro _ _ ⟨rfl, F', I', P', Q', rfl, D⟩
      have C1 := C.sub (by omega) D (fun _ _ _ => rfl) (fun c h1 h2 => qA_no (noQ_sc (b := 48) (by omega) (by omega) (by omega)))
      refine X.f rfl (z_aast (Or.inl ⟨tk_in (m := 4) (by omega) (by decide +kernel) i0 i1, tk_is (by omega) s0⟩) ?_)
      have C2 := C1.aset (c0 := 46) (x := 161 + 11 * i) (i := nI i) (qv' := qA 16 (i + 1) i) (by omega) (by omega) (fun c _ _ => by rw [qA_6 hi])
      clear C C1 D z zn
      generalize xv Q' 46 (nI i) (some (161 + 11 * i)) = Q at *
      have hn : isSn (161 + 11 * i + 7) := by
        have : i = 0 ∨ i = 1 ∨ i = 2 ∨ i = 3 := by omega
        rcases this with rfl | rfl | rfl | rfl <;> (unfold isSn; decide)
      have sn : S0[161 + 11 * i + 7]? = some (17, 0) := by
        have : i = 0 ∨ i = 1 ∨ i = 2 ∨ i = 3 := by omega
        rcases this with rfl | rfl | rfl | rfl <;> decide +kernel
      have z := C2.2.2.2.1
      have zn := z _ (Nat.le_refl _)
      have hp2 : P' 44 2 = some 47 := congrFun C2.2.2.2.2.2.2.1 2
      refine X.f rfl (z_aload rfl ?_)
      refine X.f rfl (z_gP (tk_is (x := 0) (by omega) (by decide +kernel)) hp2 ?_)
      refine X.f rfl (z_iload rfl ?_)
      refine X.f rfl (z_new (ci := 7) sn (by omega) zn.1 zn.2.2.2.1 ?_)
      refine X.f rfl (z_dupr ?_)
      refine X.f rfl (z_cv (n_X7 hn z) rfl (by rfl) (by rfl) rfl rfl (tk_is (by omega) sn) rfl ?_)
      rintro _ _ ⟨rfl, F2, I2, P2, Q2, rfl, D2⟩
      have C3 := C2.sub (by omega) D2 (fun _ _ _ => rfl) (fun c h1 h2 => qA_no (noQ_sc (b := 48) (by omega) (by omega) (by omega)))
      refine X.f rfl (z_aast (Or.inr ⟨tk_in (m := 4) (by omega) (by decide +kernel) i0 i1, tk_is (by omega) sn⟩) ?_)
      have C4 := C3.aset (c0 := 47) (x := 161 + 11 * i + 7) (i := nI i) (qv' := qA 16 (i + 1) (i + 1)) (by omega) (by omega) (fun c _ _ => by rw [qA_7 hi, show 161 + 11 * i + 7 = 168 + 11 * i by omega])
      refine X.f rfl (z_inc80 rfl ?_)
      refine X.f rfl (z_goto (k () _ _ ⟨_, _, _, _, rfl, C4⟩ ?_))
      repeat (first | exact trivial | refine ⟨by first | with_reducible rfl | exact congrArg (fun q => some (Value.int q)) (by first | with_reducible rfl | with_reducible assumption | exact (nI_succ _).symm | grind [nI_0]) | rfl, ?_⟩)
    · refine X.f rfl (z_iload rfl ?_)
      refine X.f rfl (z_push ?_)
      refine X.f rfl (z_ige (fun _ => ?_) (fun c => absurd (by decide) c))
      exact x_ret rfl rfl (fin _ hM)
end VF
