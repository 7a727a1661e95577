/-! AT FIRST: the reference's constructor (written by genX12.py) -/
section VJ
set_option maxRecDepth 10000
variable {e : Bool × Int32 × (Int32 → Int32)} {d : Nat} {F F' : Nat → Nat → Int32} {I I' : Nat → Int32 → Int32} {J J' : Nat → Int32 → Int64} {P : Nat → Nat → Option Nat} {Q : Nat → Int32 → Option Nat} {B : B4} {l : List (Nat × Nat)} {n b : Nat} {iv : Nat → Int32 → Int32} {qv : Nat → Int32 → Option Nat}
theorem CU.jch (C : CU b n B iv qv J F I P Q l) (h : ∀ c, n ≤ c → J' c = J c) : CU b n B iv qv J' F I P Q l := by
  obtain ⟨c0, c1, c2, c3, c4, c5, c6, c7⟩ := C
  exact ⟨c0, c1, c2, fun c hc => by rw [h c hc]; exact c3 c hc, c4, c5, c6, c7⟩
theorem noP_big {c : Nat} (h : 227 ≤ c) : noP c = true ∧ noQ c = true := by
  have hs : isSc c = false := by
    cases q : isSc c with
    | false => rfl
    | true =>
      have := sc_S q
      omega
  unfold noP noQ
  rw [hs]
  simp only [Bool.and_eq_true, Bool.not_eq_true', Bool.or_eq_false_iff, beq_eq_false_iff_ne]
  repeat' apply And.intro
  all_goals (first | trivial | omega | rfl)
theorem X.at_J {J J' : Nat → Int32 → Int64} {F : Nat → Nat → Int32} {I : Nat → Int32 → Int32} {G : Nat → Nat → Int64} {P : Nat → Nat → Option Nat} {Q : Nat → Int32 → Option Nat} {S : List (Nat × Int32)} {K : List xA} {ix : Nat} {L : xL} {st : List Value} {r : Option Value → xM → Prop} (h : J = J') (k : X e d K ix L st (F, I, G, J', P, Q, S) r) : X e d K ix L st (F, I, G, J, P, Q, S) r := h ▸ k
theorem Jw_c : ∀ c, 232 ≤ c → Jw c = zJ := fun c hc => Jw_ne (by omega)
set_option maxHeartbeats 8000000 in
theorem n_X12 (hP : ∀ c, c < 226 → P c = P0v c ∧ Q c = Q0 c) (hbl : bl 226 F I (fun _ _ => 0) P Q) : Y e 3 M_X12_init [.ref 226] (F, I, Gz, fun _ _ => 0, P, Q, S0.take 227) (fun w M' => w = none ∧ ∃ F' I', M' = (F', I', Gz, Jw, P0 5 17 29 33, Q0, S0.take 249) ∧ (∀ c, c ≠ 226 → F' c = F c) ∧ (∀ c, c < 226 → I' c = I c) ∧ (∀ c, 249 ≤ c → I' c = zI) ∧ rfR F' I' Jw X00) := by
  unfold Y
  refine X.f rfl (z_aload rfl ?_)
  refine X.f rfl (z_67 (by decide) (by decide) ?_)
  have C := CU.start (iv := I0v) (qv := Q0) hbl
  refine x_ca C rfl rfl rfl rfl rfl (by decide +kernel) (by decide +kernel) (by decide) (by decide) (by decide) (by decide) (by decide) (by decide) (fl_eq (by decide)) (noQ_eq (by decide)) (fun P C => ?_)
  refine x_ca C rfl rfl rfl rfl rfl (by decide +kernel) (by decide +kernel) (by decide) (by decide) (by decide) (by decide) (by decide) (by decide) (fl_eq (by decide)) (noQ_eq (by decide)) (fun P C => ?_)
  refine x_ca C rfl rfl rfl rfl rfl (by decide +kernel) (by decide +kernel) (by decide) (by decide) (by decide) (by decide) (by decide) (by decide) (fl_eq (by decide)) (noQ_eq (by decide)) (fun P C => ?_)
  refine x_ca C rfl rfl rfl rfl rfl (by decide +kernel) (by decide +kernel) (by decide) (by decide) (by decide) (by decide) (by decide) (by decide) (fl_eq (by decide)) (noQ_eq (by decide)) (fun P C => ?_)
  have sW : (S0.take 232)[231]? = some (1, 24) := by decide +kernel
  have zn := C.2.2.2.1 231 (Nat.le_refl _)
  refine X.f rfl (z_aload rfl ?_)
  refine X.f rfl (z_push ?_)
  refine X.f rfl (z_newI (n := 231) (kk := 1) (m := 24) (by decide +kernel) (by decide) zn.2.1 zn.2.2.1 (by decide) (by decide) (by decide) ?_)
  refine X.f rfl (z_dupr ?_)
  refine X.f rfl (z_push ?_)
  refine X.f rfl (z_push ?_)
  refine X.f rfl (z_lastore (n := 24) sW (by decide) (by decide) (by decide) ?_)
  refine X.f rfl (z_dupr ?_)
  refine X.f rfl (z_push ?_)
  refine X.f rfl (z_push ?_)
  refine X.f rfl (z_lastore (n := 24) sW (by decide) (by decide) (by decide) ?_)
  refine X.f rfl (z_dupr ?_)
  refine X.f rfl (z_push ?_)
  refine X.f rfl (z_push ?_)
  refine X.f rfl (z_lastore (n := 24) sW (by decide) (by decide) (by decide) ?_)
  refine X.f rfl (z_dupr ?_)
  refine X.f rfl (z_push ?_)
  refine X.f rfl (z_push ?_)
  refine X.f rfl (z_lastore (n := 24) sW (by decide) (by decide) (by decide) ?_)
  refine X.f rfl (z_dupr ?_)
  refine X.f rfl (z_push ?_)
  refine X.f rfl (z_push ?_)
  refine X.f rfl (z_lastore (n := 24) sW (by decide) (by decide) (by decide) ?_)
  refine X.f rfl (z_dupr ?_)
  refine X.f rfl (z_push ?_)
  refine X.f rfl (z_push ?_)
  refine X.f rfl (z_lastore (n := 24) sW (by decide) (by decide) (by decide) ?_)
  refine X.f rfl (z_dupr ?_)
  refine X.f rfl (z_push ?_)
  refine X.f rfl (z_push ?_)
  refine X.f rfl (z_lastore (n := 24) sW (by decide) (by decide) (by decide) ?_)
  refine X.f rfl (z_dupr ?_)
  refine X.f rfl (z_push ?_)
  refine X.f rfl (z_push ?_)
  refine X.f rfl (z_lastore (n := 24) sW (by decide) (by decide) (by decide) ?_)
  refine X.f rfl (z_dupr ?_)
  refine X.f rfl (z_push ?_)
  refine X.f rfl (z_push ?_)
  refine X.f rfl (z_lastore (n := 24) sW (by decide) (by decide) (by decide) ?_)
  refine X.f rfl (z_dupr ?_)
  refine X.f rfl (z_push ?_)
  refine X.f rfl (z_push ?_)
  refine X.f rfl (z_lastore (n := 24) sW (by decide) (by decide) (by decide) ?_)
  refine X.f rfl (z_dupr ?_)
  refine X.f rfl (z_push ?_)
  refine X.f rfl (z_push ?_)
  refine X.f rfl (z_lastore (n := 24) sW (by decide) (by decide) (by decide) ?_)
  refine X.f rfl (z_dupr ?_)
  refine X.f rfl (z_push ?_)
  refine X.f rfl (z_push ?_)
  refine X.f rfl (z_lastore (n := 24) sW (by decide) (by decide) (by decide) ?_)
  refine X.f rfl (z_dupr ?_)
  refine X.f rfl (z_push ?_)
  refine X.f rfl (z_push ?_)
  refine X.f rfl (z_lastore (n := 24) sW (by decide) (by decide) (by decide) ?_)
  refine X.f rfl (z_dupr ?_)
  refine X.f rfl (z_push ?_)
  refine X.f rfl (z_push ?_)
  refine X.f rfl (z_lastore (n := 24) sW (by decide) (by decide) (by decide) ?_)
  refine X.f rfl (z_dupr ?_)
  refine X.f rfl (z_push ?_)
  refine X.f rfl (z_push ?_)
  refine X.f rfl (z_lastore (n := 24) sW (by decide) (by decide) (by decide) ?_)
  refine X.f rfl (z_dupr ?_)
  refine X.f rfl (z_push ?_)
  refine X.f rfl (z_push ?_)
  refine X.f rfl (z_lastore (n := 24) sW (by decide) (by decide) (by decide) ?_)
  refine X.f rfl (z_dupr ?_)
  refine X.f rfl (z_push ?_)
  refine X.f rfl (z_push ?_)
  refine X.f rfl (z_lastore (n := 24) sW (by decide) (by decide) (by decide) ?_)
  refine X.f rfl (z_dupr ?_)
  refine X.f rfl (z_push ?_)
  refine X.f rfl (z_push ?_)
  refine X.f rfl (z_lastore (n := 24) sW (by decide) (by decide) (by decide) ?_)
  refine X.f rfl (z_dupr ?_)
  refine X.f rfl (z_push ?_)
  refine X.f rfl (z_push ?_)
  refine X.f rfl (z_lastore (n := 24) sW (by decide) (by decide) (by decide) ?_)
  refine X.f rfl (z_dupr ?_)
  refine X.f rfl (z_push ?_)
  refine X.f rfl (z_push ?_)
  refine X.f rfl (z_lastore (n := 24) sW (by decide) (by decide) (by decide) ?_)
  refine X.f rfl (z_dupr ?_)
  refine X.f rfl (z_push ?_)
  refine X.f rfl (z_push ?_)
  refine X.f rfl (z_lastore (n := 24) sW (by decide) (by decide) (by decide) ?_)
  refine X.f rfl (z_dupr ?_)
  refine X.f rfl (z_push ?_)
  refine X.f rfl (z_push ?_)
  refine X.f rfl (z_lastore (n := 24) sW (by decide) (by decide) (by decide) ?_)
  refine X.f rfl (z_dupr ?_)
  refine X.f rfl (z_push ?_)
  refine X.f rfl (z_push ?_)
  refine X.f rfl (z_lastore (n := 24) sW (by decide) (by decide) (by decide) ?_)
  refine X.f rfl (z_dupr ?_)
  refine X.f rfl (z_push ?_)
  refine X.f rfl (z_push ?_)
  refine X.f rfl (z_lastore (n := 24) sW (by decide) (by decide) (by decide) ?_)
  refine X.f rfl (z_pP (tk_is (x := 0) (by decide) (by decide +kernel)) (by rw [tk_len (by omega)]; omega) ?_)
  have C := (C.arr (k0 := 9) (by decide) (by decide) (fl_eq (by decide)) (noQ_eq (by decide))).jch (J' := Jw) (fun c hc => Jw_c c hc)
  generalize xu P 226 9 (some 231) = P at *
  refine X.at_J (J' := Jw) rfl ?_
  refine x_ca C rfl rfl rfl rfl rfl (by decide +kernel) (by decide +kernel) (by decide) (by decide) (by decide) (by decide) (by decide) (by decide) (fl_eq (by decide)) (noQ_eq (by decide)) (fun P C => ?_)
  refine x_ca C rfl rfl rfl rfl rfl (by decide +kernel) (by decide +kernel) (by decide) (by decide) (by decide) (by decide) (by decide) (by decide) (fl_eq (by decide)) (noQ_eq (by decide)) (fun P C => ?_)
  refine x_ca C rfl rfl rfl rfl rfl (by decide +kernel) (by decide +kernel) (by decide) (by decide) (by decide) (by decide) (by decide) (by decide) (fl_eq (by decide)) (noQ_eq (by decide)) (fun P C => ?_)
  refine x_ca C rfl rfl rfl rfl rfl (by decide +kernel) (by decide +kernel) (by decide) (by decide) (by decide) (by decide) (by decide) (by decide) (fl_eq (by decide)) (noQ_eq (by decide)) (fun P C => ?_)
  refine x_ca C rfl rfl rfl rfl rfl (by decide +kernel) (by decide +kernel) (by decide) (by decide) (by decide) (by decide) (by decide) (by decide) (fl_eq (by decide)) (noQ_eq (by decide)) (fun P C => ?_)
  refine x_ca C rfl rfl rfl rfl rfl (by decide +kernel) (by decide +kernel) (by decide) (by decide) (by decide) (by decide) (by decide) (by decide) (fl_eq (by decide)) (noQ_eq (by decide)) (fun P C => ?_)
  refine x_ca C rfl rfl rfl rfl rfl (by decide +kernel) (by decide +kernel) (by decide) (by decide) (by decide) (by decide) (by decide) (by decide) (fl_eq (by decide)) (noQ_eq (by decide)) (fun P C => ?_)
  refine x_ca C rfl rfl rfl rfl rfl (by decide +kernel) (by decide +kernel) (by decide) (by decide) (by decide) (by decide) (by decide) (by decide) (fl_eq (by decide)) (noQ_eq (by decide)) (fun P C => ?_)
  refine x_ca C rfl rfl rfl rfl rfl (by decide +kernel) (by decide +kernel) (by decide) (by decide) (by decide) (by decide) (by decide) (by decide) (fl_eq (by decide)) (noQ_eq (by decide)) (fun P C => ?_)
  refine x_ca C rfl rfl rfl rfl rfl (by decide +kernel) (by decide +kernel) (by decide) (by decide) (by decide) (by decide) (by decide) (by decide) (fl_eq (by decide)) (noQ_eq (by decide)) (fun P C => ?_)
  refine x_ca C rfl rfl rfl rfl rfl (by decide +kernel) (by decide +kernel) (by decide) (by decide) (by decide) (by decide) (by decide) (by decide) (fl_eq (by decide)) (noQ_eq (by decide)) (fun P C => ?_)
  refine x_ca C rfl rfl rfl rfl rfl (by decide +kernel) (by decide +kernel) (by decide) (by decide) (by decide) (by decide) (by decide) (by decide) (fl_eq (by decide)) (noQ_eq (by decide)) (fun P C => ?_)
  refine x_ca C rfl rfl rfl rfl rfl (by decide +kernel) (by decide +kernel) (by decide) (by decide) (by decide) (by decide) (by decide) (by decide) (fl_eq (by decide)) (noQ_eq (by decide)) (fun P C => ?_)
  refine x_ca C rfl rfl rfl rfl rfl (by decide +kernel) (by decide +kernel) (by decide) (by decide) (by decide) (by decide) (by decide) (by decide) (fl_eq (by decide)) (noQ_eq (by decide)) (fun P C => ?_)
  refine x_ca C rfl rfl rfl rfl rfl (by decide +kernel) (by decide +kernel) (by decide) (by decide) (by decide) (by decide) (by decide) (by decide) (fl_eq (by decide)) (noQ_eq (by decide)) (fun P C => ?_)
  refine x_ca C rfl rfl rfl rfl rfl (by decide +kernel) (by decide +kernel) (by decide) (by decide) (by decide) (by decide) (by decide) (by decide) (fl_eq (by decide)) (noQ_eq (by decide)) (fun P C => ?_)
  refine x_ca C rfl rfl rfl rfl rfl (by decide +kernel) (by decide +kernel) (by decide) (by decide) (by decide) (by decide) (by decide) (by decide) (fl_eq (by decide)) (noQ_eq (by decide)) (fun P C => ?_)
  obtain ⟨c0, c1, c2, c3, c4, c5, c6, c7⟩ := C
  have r226 : P 226 = P0v 226 := by
    rw [c6]
    funext k
    match k with
    | 0 => rfl
    | 1 => rfl
    | 2 => rfl
    | 3 => rfl
    | 4 => rfl
    | 5 => rfl
    | 6 => rfl
    | 7 => rfl
    | 8 => rfl
    | 9 => rfl
    | 10 => rfl
    | 11 => rfl
    | 12 => rfl
    | 13 => rfl
    | 14 => rfl
    | 15 => rfl
    | 16 => rfl
    | 17 => rfl
    | 18 => rfl
    | 19 => rfl
    | 20 => rfl
    | 21 => rfl
    | 22 => rfl
    | 23 => rfl
    | 24 => rfl
    | 25 => rfl
    | 26 => rfl
    | 27 => rfl
    | 28 => rfl
    | 29 => rfl
    | 30 => rfl
    | 31 => rfl
    | 32 => rfl
    | 33 => rfl
    | 34 => rfl
    | 35 => rfl
    | 36 => rfl
    | 37 => rfl
    | 38 => rfl
    | 39 => rfl
    | k + 40 => rfl
  have eP : P = P0 5 17 29 33 := by
    funext c
    by_cases h : c < 226
    · rw [(c1 c h).2.2.1]
      exact (hP c h).1
    · by_cases h2 : c = 226
      · rw [h2, r226]
        rfl
      · by_cases h3 : c < 249
        · exact (c2 c (by omega) h3).2.2.1
        · rw [(c3 c (by omega)).2.2.2.1]
          exact (noP_eq (noP_big (by omega)).1).symm
  have eQ : Q = Q0 := by
    funext c
    by_cases h : c < 226
    · exact (hP c h).2
    · rw [(hbl c (by omega)).2.2.2.2]
      by_cases h2 : c = 226
      · rw [h2]
        exact (noQ_eq (by decide)).symm
      · exact (noQ_eq (noP_big (by omega)).2).symm
  have i232 : ∀ x, I 232 x = 0 := fun x => by
    rw [(hbl 232 (by omega)).2.1]
    rfl
  rw [eP, eQ, show 248 + 1 = 249 from rfl, S1_eq]
  refine X.f rfl (z_aload rfl ?_)
  refine X.f rfl (z_push ?_)
  refine X.f rfl (z_cv (q_standsAsAlwaysB (at0 := 0) (by decide) (by decide)) rfl (by rfl) (by rfl) rfl rfl rfl rfl ?_)
  rintro _ _ ⟨rfl, I1, rfl, o1, v1⟩
  have v : ∀ x, I1 232 x = if 0 ≤ x ∧ x < 40 then (if x = 3 then -1 else if x = 2 then 6 else 0) else 0 := fun x => by
    rw [v1, i232]
    rfl
  have z : ∀ x, x ≠ 3 → x ≠ 2 → I1 232 x = 0 := fun x h3 h2 => by
    rw [v, if_neg h3, if_neg h2]
    split <;> rfl
  refine X.f rfl (z_aload rfl ?_)
  refine X.f rfl (z_cv (q_beginsB (N := 0) (P := 0) (R := fun _ => 0) (A := fun _ => 0) (T := fun _ => 0) (z 0 (by decide) (by decide)) (by decide) (z 1 (by decide) (by decide)) (by decide) (fun s s0 s7 => ⟨z _ (by grind) (by grind), z _ (by grind) (by grind)⟩) (fun p p0 p5 => z _ (by grind) (by grind))) rfl (by rfl) (by rfl) rfl rfl rfl rfl ?_)
  rintro _ _ ⟨rfl, I2, rfl, o2, v2, v3, v4, v5, v6⟩
  have f226 : ∀ k, F 226 k = 0 := fun k => by
    rw [(hbl 226 (Nat.le_refl _)).1]
    rfl
  refine x_ret rfl rfl ⟨rfl, _, I2, rfl, fun c hc => xu_other hc, fun c hc => ?_, fun c hc => ?_, rfR_0 (fun k => ?_) rfl (fun x => ?_) (fun k hk => ?_) v3 v4 v5 v6⟩
  · rw [o2 c (by omega) (by omega) (by omega) (by omega), o1 c (by omega)]
  · rw [o2 c (by omega) (by omega) (by omega) (by omega), o1 c (by omega)]
    exact (c3 c hc).2.1
  · by_cases h : k = 25
    · rw [h, xu_same]
    · rw [xu_ne (by omega)]
      exact f226 k
  · rw [o2 232 (by decide) (by decide) (by decide) (by decide)]
    exact v x
  · rw [v2 k hk]
    unfold nearR
    split <;> rfl
end VJ
