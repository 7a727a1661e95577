/-! THE CONSTRUCTORS: the class's small ones -/
section VC
variable {e : Bool × Int32 × (Int32 → Int32)} {d : Nat} {F : Nat → Nat → Int32} {I : Nat → Int32 → Int32} {G : Nat → Nat → Int64} {J : Nat → Int32 → Int64} {P : Nat → Nat → Option Nat} {Q : Nat → Int32 → Option Nat} {n n' b : Nat} {B : B4} {iv : Nat → Int32 → Int32} {qv : Nat → Int32 → Option Nat} {l : List (Nat × Nat)}
theorem n_X10 (hbl : bl 1 F I J P Q) : Y e 1 M_X10_init [.ref 1] (F, I, Gz, J, P, Q, S0.take 2) (NP 1 4 F I J P Q) := by
  unfold Y
  refine X.f rfl (z_aload rfl ?_)
  refine X.f rfl (z_67 (by decide) (by decide) ?_)
  have C := CU.start (iv := I0v) (qv := Q0) hbl
  refine x_co C rfl rfl rfl rfl rfl rfl (by decide +kernel) (by decide +kernel) rfl rfl rfl rfl (by decide) (by decide) (fun h => n_X9 h) (fun c _ _ => rfl) (fun c _ _ => rfl) (fun F I P Q C => ?_)
  refine x_ret rfl rfl ⟨rfl, _, _, _, _, rfl, C.fin (by decide) (by decide) (by decide) ?_⟩
  funext k
  match k with
  | 0 => rfl
  | 1 => rfl
  | 2 => rfl
  | 3 => rfl
  | 4 => rfl
  | 5 => rfl
  | 6 => rfl
  | 7 => rfl
  | 8 => rfl
  | 9 => rfl
  | 10 => rfl
  | 11 => rfl
  | 12 => rfl
  | k + 13 => rfl
theorem n_X3c (hbl : bl 4 F I J P Q) : Y e 0 M_X3_init [.ref 4] (F, I, Gz, J, P, Q, S0.take 5) (NP 4 5 F I J P Q) := by
  unfold Y
  refine X.f rfl (z_aload rfl ?_)
  refine X.f rfl (z_67 (by decide) (by decide) ?_)
  have C := CU.start (iv := I0v) (qv := Q0) hbl
  refine x_ret rfl rfl ⟨rfl, _, _, _, _, rfl, C.fin (by decide) (by decide) (by decide) ?_⟩
  funext k
  match k with
  | 0 => rfl
  | 1 => rfl
  | 2 => rfl
  | 3 => rfl
  | 4 => rfl
  | 5 => rfl
  | 6 => rfl
  | 7 => rfl
  | 8 => rfl
  | 9 => rfl
  | 10 => rfl
  | 11 => rfl
  | 12 => rfl
  | k + 13 => rfl
theorem n_X4 (hb : b = 14 ∨ b = 26) (hbl : bl b F I J P Q) : Y e 0 M_X4_init [.ref b] (F, I, Gz, J, P, Q, S0.take (b + 1)) (NP b (b + 3) F I J P Q) := by
  rcases hb with rfl | rfl
  · unfold Y
    refine X.f rfl (z_aload rfl ?_)
    refine X.f rfl (z_67 (by decide) (by decide) ?_)
    have C := CU.start (iv := I0v) (qv := Q0) hbl
    refine x_ca C rfl rfl rfl rfl rfl (by decide +kernel) (by decide +kernel) (by decide) (by decide) (by decide) (by decide) (by decide) (by decide) (fl_eq (by decide)) (noQ_eq (by decide)) (fun P C => ?_)
    refine x_ca C rfl rfl rfl rfl rfl (by decide +kernel) (by decide +kernel) (by decide) (by decide) (by decide) (by decide) (by decide) (by decide) (fl_eq (by decide)) (noQ_eq (by decide)) (fun P C => ?_)
    refine x_ret rfl rfl ⟨rfl, _, _, _, _, rfl, C.fin (by decide) (by decide) (by decide) ?_⟩
    funext k
    match k with
    | 0 => rfl
    | 1 => rfl
    | 2 => rfl
    | 3 => rfl
    | 4 => rfl
    | 5 => rfl
    | 6 => rfl
    | 7 => rfl
    | 8 => rfl
    | 9 => rfl
    | 10 => rfl
    | 11 => rfl
    | 12 => rfl
    | k + 13 => rfl
  · unfold Y
    refine X.f rfl (z_aload rfl ?_)
    refine X.f rfl (z_67 (by decide) (by decide) ?_)
    have C := CU.start (iv := I0v) (qv := Q0) hbl
    refine x_ca C rfl rfl rfl rfl rfl (by decide +kernel) (by decide +kernel) (by decide) (by decide) (by decide) (by decide) (by decide) (by decide) (fl_eq (by decide)) (noQ_eq (by decide)) (fun P C => ?_)
    refine x_ca C rfl rfl rfl rfl rfl (by decide +kernel) (by decide +kernel) (by decide) (by decide) (by decide) (by decide) (by decide) (by decide) (fl_eq (by decide)) (noQ_eq (by decide)) (fun P C => ?_)
    refine x_ret rfl rfl ⟨rfl, _, _, _, _, rfl, C.fin (by decide) (by decide) (by decide) ?_⟩
    funext k
    match k with
    | 0 => rfl
    | 1 => rfl
    | 2 => rfl
    | 3 => rfl
    | 4 => rfl
    | 5 => rfl
    | 6 => rfl
    | 7 => rfl
    | 8 => rfl
    | 9 => rfl
    | 10 => rfl
    | 11 => rfl
    | 12 => rfl
    | k + 13 => rfl
theorem n_X1 (hb : b = 29 ∨ b = 33) (hbl : bl b F I J P Q) : Y e 0 M_X1_init [.ref b] (F, I, Gz, J, P, Q, S0.take (b + 1)) (NP b (b + 4) F I J P Q) := by
  rcases hb with rfl | rfl
  · unfold Y
    refine X.f rfl (z_aload rfl ?_)
    refine X.f rfl (z_67 (by decide) (by decide) ?_)
    have C := CU.start (iv := I0v) (qv := Q0) hbl
    refine x_ca C rfl rfl rfl rfl rfl (by decide +kernel) (by decide +kernel) (by decide) (by decide) (by decide) (by decide) (by decide) (by decide) (fl_eq (by decide)) (noQ_eq (by decide)) (fun P C => ?_)
    refine x_ca C rfl rfl rfl rfl rfl (by decide +kernel) (by decide +kernel) (by decide) (by decide) (by decide) (by decide) (by decide) (by decide) (fl_eq (by decide)) (noQ_eq (by decide)) (fun P C => ?_)
    refine x_ca C rfl rfl rfl rfl rfl (by decide +kernel) (by decide +kernel) (by decide) (by decide) (by decide) (by decide) (by decide) (by decide) (fl_eq (by decide)) (noQ_eq (by decide)) (fun P C => ?_)
    refine x_ret rfl rfl ⟨rfl, _, _, _, _, rfl, C.fin (by decide) (by decide) (by decide) ?_⟩
    funext k
    match k with
    | 0 => rfl
    | 1 => rfl
    | 2 => rfl
    | 3 => rfl
    | 4 => rfl
    | 5 => rfl
    | 6 => rfl
    | 7 => rfl
    | 8 => rfl
    | 9 => rfl
    | 10 => rfl
    | 11 => rfl
    | 12 => rfl
    | k + 13 => rfl
  · unfold Y
    refine X.f rfl (z_aload rfl ?_)
    refine X.f rfl (z_67 (by decide) (by decide) ?_)
    have C := CU.start (iv := I0v) (qv := Q0) hbl
    refine x_ca C rfl rfl rfl rfl rfl (by decide +kernel) (by decide +kernel) (by decide) (by decide) (by decide) (by decide) (by decide) (by decide) (fl_eq (by decide)) (noQ_eq (by decide)) (fun P C => ?_)
    refine x_ca C rfl rfl rfl rfl rfl (by decide +kernel) (by decide +kernel) (by decide) (by decide) (by decide) (by decide) (by decide) (by decide) (fl_eq (by decide)) (noQ_eq (by decide)) (fun P C => ?_)
    refine x_ca C rfl rfl rfl rfl rfl (by decide +kernel) (by decide +kernel) (by decide) (by decide) (by decide) (by decide) (by decide) (by decide) (fl_eq (by decide)) (noQ_eq (by decide)) (fun P C => ?_)
    refine x_ret rfl rfl ⟨rfl, _, _, _, _, rfl, C.fin (by decide) (by decide) (by decide) ?_⟩
    funext k
    match k with
    | 0 => rfl
    | 1 => rfl
    | 2 => rfl
    | 3 => rfl
    | 4 => rfl
    | 5 => rfl
    | 6 => rfl
    | 7 => rfl
    | 8 => rfl
    | 9 => rfl
    | 10 => rfl
    | 11 => rfl
    | 12 => rfl
    | k + 13 => rfl
theorem n_X8 (hbl : bl 223 F I J P Q) : Y e 0 M_X8_init [.ref 223] (F, I, Gz, J, P, Q, S0.take 224) (NP 223 226 F I J P Q) := by
  unfold Y
  refine X.f rfl (z_aload rfl ?_)
  refine X.f rfl (z_67 (by decide) (by decide) ?_)
  have C := CU.start (iv := I0v) (qv := Q0) hbl
  refine x_ca C rfl rfl rfl rfl rfl (by decide +kernel) (by decide +kernel) (by decide) (by decide) (by decide) (by decide) (by decide) (by decide) (fl_eq (by decide)) (noQ_eq (by decide)) (fun P C => ?_)
  refine x_ca C rfl rfl rfl rfl rfl (by decide +kernel) (by decide +kernel) (by decide) (by decide) (by decide) (by decide) (by decide) (by decide) (fl_eq (by decide)) (noQ_eq (by decide)) (fun P C => ?_)
  refine x_ret rfl rfl ⟨rfl, _, _, _, _, rfl, C.fin (by decide) (by decide) (by decide) ?_⟩
  funext k
  match k with
  | 0 => rfl
  | 1 => rfl
  | 2 => rfl
  | 3 => rfl
  | 4 => rfl
  | 5 => rfl
  | 6 => rfl
  | 7 => rfl
  | 8 => rfl
  | 9 => rfl
  | 10 => rfl
  | 11 => rfl
  | 12 => rfl
  | k + 13 => rfl
theorem n_X7 (hb : isSn b) (hbl : bl b F I J P Q) : Y e 0 M_X7_init [.ref b] (F, I, Gz, J, P, Q, S0.take (b + 1)) (NP b (b + 4) F I J P Q) := by
  rcases hb with rfl | rfl | rfl | rfl | rfl
  · unfold Y
    refine X.f rfl (z_aload rfl ?_)
    refine X.f rfl (z_67 (by decide) (by decide) ?_)
    have C := CU.start (iv := I0v) (qv := Q0) hbl
    refine x_ca C rfl rfl rfl rfl rfl (by decide +kernel) (by decide +kernel) (by decide) (by decide) (by decide) (by decide) (by decide) (by decide) (fl_eq (by decide)) (noQ_eq (by decide)) (fun P C => ?_)
    refine x_ca C rfl rfl rfl rfl rfl (by decide +kernel) (by decide +kernel) (by decide) (by decide) (by decide) (by decide) (by decide) (by decide) (fl_eq (by decide)) (noQ_eq (by decide)) (fun P C => ?_)
    refine x_ca C rfl rfl rfl rfl rfl (by decide +kernel) (by decide +kernel) (by decide) (by decide) (by decide) (by decide) (by decide) (by decide) (fl_eq (by decide)) (noQ_eq (by decide)) (fun P C => ?_)
    refine x_ret rfl rfl ⟨rfl, _, _, _, _, rfl, C.fin (by decide) (by decide) (by decide) ?_⟩
    funext k
    match k with
    | 0 => rfl
    | 1 => rfl
    | 2 => rfl
    | 3 => rfl
    | 4 => rfl
    | 5 => rfl
    | 6 => rfl
    | 7 => rfl
    | 8 => rfl
    | 9 => rfl
    | 10 => rfl
    | 11 => rfl
    | 12 => rfl
    | k + 13 => rfl
  · unfold Y
    refine X.f rfl (z_aload rfl ?_)
    refine X.f rfl (z_67 (by decide) (by decide) ?_)
    have C := CU.start (iv := I0v) (qv := Q0) hbl
    refine x_ca C rfl rfl rfl rfl rfl (by decide +kernel) (by decide +kernel) (by decide) (by decide) (by decide) (by decide) (by decide) (by decide) (fl_eq (by decide)) (noQ_eq (by decide)) (fun P C => ?_)
    refine x_ca C rfl rfl rfl rfl rfl (by decide +kernel) (by decide +kernel) (by decide) (by decide) (by decide) (by decide) (by decide) (by decide) (fl_eq (by decide)) (noQ_eq (by decide)) (fun P C => ?_)
    refine x_ca C rfl rfl rfl rfl rfl (by decide +kernel) (by decide +kernel) (by decide) (by decide) (by decide) (by decide) (by decide) (by decide) (fl_eq (by decide)) (noQ_eq (by decide)) (fun P C => ?_)
    refine x_ret rfl rfl ⟨rfl, _, _, _, _, rfl, C.fin (by decide) (by decide) (by decide) ?_⟩
    funext k
    match k with
    | 0 => rfl
    | 1 => rfl
    | 2 => rfl
    | 3 => rfl
    | 4 => rfl
    | 5 => rfl
    | 6 => rfl
    | 7 => rfl
    | 8 => rfl
    | 9 => rfl
    | 10 => rfl
    | 11 => rfl
    | 12 => rfl
    | k + 13 => rfl
  · unfold Y
    refine X.f rfl (z_aload rfl ?_)
    refine X.f rfl (z_67 (by decide) (by decide) ?_)
    have C := CU.start (iv := I0v) (qv := Q0) hbl
    refine x_ca C rfl rfl rfl rfl rfl (by decide +kernel) (by decide +kernel) (by decide) (by decide) (by decide) (by decide) (by decide) (by decide) (fl_eq (by decide)) (noQ_eq (by decide)) (fun P C => ?_)
    refine x_ca C rfl rfl rfl rfl rfl (by decide +kernel) (by decide +kernel) (by decide) (by decide) (by decide) (by decide) (by decide) (by decide) (fl_eq (by decide)) (noQ_eq (by decide)) (fun P C => ?_)
    refine x_ca C rfl rfl rfl rfl rfl (by decide +kernel) (by decide +kernel) (by decide) (by decide) (by decide) (by decide) (by decide) (by decide) (fl_eq (by decide)) (noQ_eq (by decide)) (fun P C => ?_)
    refine x_ret rfl rfl ⟨rfl, _, _, _, _, rfl, C.fin (by decide) (by decide) (by decide) ?_⟩
    funext k
    match k with
    | 0 => rfl
    | 1 => rfl
    | 2 => rfl
    | 3 => rfl
    | 4 => rfl
    | 5 => rfl
    | 6 => rfl
    | 7 => rfl
    | 8 => rfl
    | 9 => rfl
    | 10 => rfl
    | 11 => rfl
    | 12 => rfl
    | k + 13 => rfl
  · unfold Y
    refine X.f rfl (z_aload rfl ?_)
    refine X.f rfl (z_67 (by decide) (by decide) ?_)
    have C := CU.start (iv := I0v) (qv := Q0) hbl
    refine x_ca C rfl rfl rfl rfl rfl (by decide +kernel) (by decide +kernel) (by decide) (by decide) (by decide) (by decide) (by decide) (by decide) (fl_eq (by decide)) (noQ_eq (by decide)) (fun P C => ?_)
    refine x_ca C rfl rfl rfl rfl rfl (by decide +kernel) (by decide +kernel) (by decide) (by decide) (by decide) (by decide) (by decide) (by decide) (fl_eq (by decide)) (noQ_eq (by decide)) (fun P C => ?_)
    refine x_ca C rfl rfl rfl rfl rfl (by decide +kernel) (by decide +kernel) (by decide) (by decide) (by decide) (by decide) (by decide) (by decide) (fl_eq (by decide)) (noQ_eq (by decide)) (fun P C => ?_)
    refine x_ret rfl rfl ⟨rfl, _, _, _, _, rfl, C.fin (by decide) (by decide) (by decide) ?_⟩
    funext k
    match k with
    | 0 => rfl
    | 1 => rfl
    | 2 => rfl
    | 3 => rfl
    | 4 => rfl
    | 5 => rfl
    | 6 => rfl
    | 7 => rfl
    | 8 => rfl
    | 9 => rfl
    | 10 => rfl
    | 11 => rfl
    | 12 => rfl
    | k + 13 => rfl
  · unfold Y
    refine X.f rfl (z_aload rfl ?_)
    refine X.f rfl (z_67 (by decide) (by decide) ?_)
    have C := CU.start (iv := I0v) (qv := Q0) hbl
    refine x_ca C rfl rfl rfl rfl rfl (by decide +kernel) (by decide +kernel) (by decide) (by decide) (by decide) (by decide) (by decide) (by decide) (fl_eq (by decide)) (noQ_eq (by decide)) (fun P C => ?_)
    refine x_ca C rfl rfl rfl rfl rfl (by decide +kernel) (by decide +kernel) (by decide) (by decide) (by decide) (by decide) (by decide) (by decide) (fl_eq (by decide)) (noQ_eq (by decide)) (fun P C => ?_)
    refine x_ca C rfl rfl rfl rfl rfl (by decide +kernel) (by decide +kernel) (by decide) (by decide) (by decide) (by decide) (by decide) (by decide) (fl_eq (by decide)) (noQ_eq (by decide)) (fun P C => ?_)
    refine x_ret rfl rfl ⟨rfl, _, _, _, _, rfl, C.fin (by decide) (by decide) (by decide) ?_⟩
    funext k
    match k with
    | 0 => rfl
    | 1 => rfl
    | 2 => rfl
    | 3 => rfl
    | 4 => rfl
    | 5 => rfl
    | 6 => rfl
    | 7 => rfl
    | 8 => rfl
    | 9 => rfl
    | 10 => rfl
    | 11 => rfl
    | 12 => rfl
    | k + 13 => rfl
theorem CU.finH (C : CU b n B I0v Q0 J F I P Q l) (hb : b = 5 ∨ b = 17) (hI : fl b = none) (hQ : noQ b = true) (hP : rowP l = P0v b) : dn b n B (xu F b 11 6) I P Q := by
  obtain ⟨c0, c1, c2, c3, c4, c5, c6, c7⟩ := C
  refine ⟨fun c hc => ?_, fun c h1 h2 => ?_, fun c hc => ?_⟩
  · rw [xu_other (by omega)]
    exact c1 c hc
  · by_cases q : c = b
    · subst q
      rw [fl_eq hI, noQ_eq hQ, ← hP]
      refine ⟨?_, c5, c6, c7⟩
      funext k
      unfold F0v xu
      rw [if_pos hb, c4]
      unfold zF
      by_cases h : k = 11
      · rw [if_pos ⟨rfl, h⟩, if_pos h]
      · rw [if_neg (fun z => h z.2), if_neg h]
    · rw [xu_other q]
      exact c2 c (by omega) h2
  · rw [xu_other (by omega)]
    exact ⟨(c3 c hc).1, (c3 c hc).2.1, (c3 c hc).2.2.2.1, (c3 c hc).2.2.2.2⟩
theorem n_X2 (hb : b = 5 ∨ b = 17) (hbl : bl b F I J P Q) : Y e 1 M_X2_init [.ref b] (F, I, Gz, J, P, Q, S0.take (b + 1)) (NP b (b + 12) F I J P Q) := by
  rcases hb with rfl | rfl
  · unfold Y
    refine X.f rfl (z_aload rfl ?_)
    refine X.f rfl (z_67 (by decide) (by decide) ?_)
    have C := CU.start (iv := I0v) (qv := Q0) hbl
    iterate 8 (refine x_ca C rfl rfl rfl rfl rfl (by decide +kernel) (by decide +kernel) (by decide) (by decide) (by decide) (by decide) (by decide) (by decide) (fl_eq (by decide)) (noQ_eq (by decide)) (fun P C => ?_))
    refine x_co C rfl rfl rfl rfl rfl rfl (by decide +kernel) (by decide +kernel) rfl rfl rfl rfl (by decide) (by decide) (fun h => n_X4 (b := 14) (Or.inl rfl) h) (fun c _ _ => rfl) (fun c _ _ => rfl) (fun F I P Q C => ?_)
    refine X.f rfl (z_aload rfl ?_)
    refine X.f rfl (z_push ?_)
    refine X.f rfl (z_pI (tk_is (x := 0) (by decide) (by decide +kernel)) ?_)
    refine x_ret rfl rfl ⟨rfl, _, _, _, _, rfl, C.finH (Or.inl rfl) (by decide) (by decide) ?_⟩
    funext k
    match k with
    | 0 => rfl
    | 1 => rfl
    | 2 => rfl
    | 3 => rfl
    | 4 => rfl
    | 5 => rfl
    | 6 => rfl
    | 7 => rfl
    | 8 => rfl
    | 9 => rfl
    | 10 => rfl
    | 11 => rfl
    | 12 => rfl
    | k + 13 => rfl
  · unfold Y
    refine X.f rfl (z_aload rfl ?_)
    refine X.f rfl (z_67 (by decide) (by decide) ?_)
    have C := CU.start (iv := I0v) (qv := Q0) hbl
    iterate 8 (refine x_ca C rfl rfl rfl rfl rfl (by decide +kernel) (by decide +kernel) (by decide) (by decide) (by decide) (by decide) (by decide) (by decide) (fl_eq (by decide)) (noQ_eq (by decide)) (fun P C => ?_))
    refine x_co C rfl rfl rfl rfl rfl rfl (by decide +kernel) (by decide +kernel) rfl rfl rfl rfl (by decide) (by decide) (fun h => n_X4 (b := 26) (Or.inr rfl) h) (fun c _ _ => rfl) (fun c _ _ => rfl) (fun F I P Q C => ?_)
    refine X.f rfl (z_aload rfl ?_)
    refine X.f rfl (z_push ?_)
    refine X.f rfl (z_pI (tk_is (x := 0) (by decide) (by decide +kernel)) ?_)
    refine x_ret rfl rfl ⟨rfl, _, _, _, _, rfl, C.finH (Or.inr rfl) (by decide) (by decide) ?_⟩
    funext k
    match k with
    | 0 => rfl
    | 1 => rfl
    | 2 => rfl
    | 3 => rfl
    | 4 => rfl
    | 5 => rfl
    | 6 => rfl
    | 7 => rfl
    | 8 => rfl
    | 9 => rfl
    | 10 => rfl
    | 11 => rfl
    | 12 => rfl
    | k + 13 => rfl
end VC
