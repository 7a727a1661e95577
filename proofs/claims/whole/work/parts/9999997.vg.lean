/-! THE CONSTRUCTORS: looking ahead, the class -/
section VG
variable {e : Bool × Int32 × (Int32 → Int32)} {d : Nat} {K : List xA} {ix : Nat} {L : xL} {st : List Value} {r : Option Value → xM → Prop} {F : Nat → Nat → Int32} {I : Nat → Int32 → Int32} {G : Nat → Nat → Int64} {J : Nat → Int32 → Int64} {P : Nat → Nat → Option Nat} {Q : Nat → Int32 → Option Nat} {B : B4} {iv : Nat → Int32 → Int32} {l : List (Nat × Nat)}
def qPl (Q : Nat → Int32 → Option Nat) : Nat → Int32 → Option Nat := fun a b => if a = 217 then (if 0 ≤ b ∧ b < 5 then some (218 + b.toNatClampNeg) else none) else Q a b
theorem z_53 (hI : ∀ c, 217 ≤ c → I c = zI) (k : X e d K (ix + 1) L (.ref 217 :: st) (F, I, G, J, P, qPl Q, S0.take 223) r) : Z (.inr (.inr (53, []))) e d K ix L (.int 7 :: .int 5 :: st) (F, I, G, J, P, Q, S0.take 217) r := fun hk => X.of_step hk rfl rfl (by
  have h1 := tk_len (n := 217) (by omega)
  have e1 : (fun a b => if 217 < a ∧ a < 217 + 6 then 0 else I a b) = I := by
    funext a b
    split
    · rename_i q
      rw [hI a (by omega)]
      rfl
    · rfl
  have e4 : S0.take 217 ++ [(6, 5), (0, 7), (0, 7), (0, 7), (0, 7), (0, 7)] = S0.take 223 := by decide +kernel
  simp only [xstep, xjmp, xinc, xhO, h1]
  rw [if_pos (Or.inr (by decide)), if_pos ⟨by decide, by decide, by decide⟩, e1, e4]
  rfl) k
theorem qPl_eq {c : Nat} (h : 209 < c) (h2 : c < 223) (hQ : c ≠ 217 → Q c = Q0 c) : qPl Q c = Q0 c := by
  funext i
  unfold qPl
  by_cases q : c = 217
  · subst q
    rw [if_pos rfl]
    by_cases z : 0 ≤ i ∧ i < 5
    · rw [if_pos z]
      unfold Q0
      rw [if_neg (fun w => absurd w.1 (by decide)), if_neg (fun w => absurd w.1 (by decide)), if_neg (fun w => absurd w.1 (by decide)), if_pos ⟨rfl, z⟩]
    · rw [if_neg z]
      unfold Q0
      rw [if_neg (fun w => absurd w.1 (by decide)), if_neg (fun w => absurd w.1 (by decide)), if_neg (fun w => absurd w.1 (by decide)), if_neg (fun w => z w.2)]
  · rw [if_neg q, hQ q]
theorem n_X0 (hbl : bl 209 F I J P Q) : Y e 2 M_X0_init [.ref 209] (F, I, Gz, J, P, Q, S0.take 210) (NP 209 223 F I J P Q) := by
  unfold Y
  refine X.f rfl (z_aload rfl ?_)
  refine X.f rfl (z_67 (by decide) (by decide) ?_)
  have C := CU.start (iv := I0v) (qv := Q0) hbl
  generalize hB : ((F, I, P, Q) : B4) = B at C
  refine x_co C rfl rfl rfl rfl rfl rfl (by decide +kernel) (by decide +kernel) rfl rfl rfl rfl (by decide) (by decide) (fun h => n_X6 (b := 210) rfl h) (fun c _ _ => rfl) (fun c _ _ => rfl) (fun F I P Q C => ?_)
  obtain ⟨c0, c1, c2, c3, c4, c5, c6, c7⟩ := C
  refine X.f rfl (z_aload rfl ?_)
  refine X.f rfl (z_push ?_)
  refine X.f rfl (z_push ?_)
  refine X.f rfl (z_53 (fun c hc => (c3 c hc).2.1) ?_)
  refine X.f rfl (z_pP (tk_is (x := 0) (by decide) (by decide +kernel)) (by rw [tk_len (by omega)]; omega) ?_)
  have qo : ∀ c, c ≠ 217 → qPl Q c = Q c := fun c hc => by
    funext i
    unfold qPl
    rw [if_neg hc]
  have C : CU 209 223 B I0v Q0 J F I (xu P 209 1 (some 217)) (qPl Q) [(1, 217), (0, 210)] := by
    refine ⟨by decide, fun c hc => ?_, fun c h1 h2 => ?_, fun c hc => ?_, c4, c5, xuP_self c6, ?_⟩
    · rw [xu_other (by omega), qo c (by omega)]
      exact c1 c hc
    · rw [xu_other (by omega)]
      by_cases q : c < 217
      · obtain ⟨a1, a2, a3, a4⟩ := c2 c h1 q
        exact ⟨a1, a2, a3, qPl_eq (by omega) h2 (fun _ => a4)⟩
      · obtain ⟨a1, a2, -, a3, a4⟩ := c3 c (by omega)
        have ok : ∀ c, c < 223 → 217 ≤ c → noF c = true ∧ noP c = true ∧ fl c = none ∧ (c ≠ 217 → noQ c = true) := by decide +kernel
        obtain ⟨o1, o2, o3, o4⟩ := ok c h2 (by omega)
        rw [noF_eq o1, noP_eq o2, fl_eq o3]
        exact ⟨a1, a2, a3, qPl_eq (by omega) h2 (fun q => by rw [a4, noQ_eq (o4 q)])⟩
    · rw [xu_other (by omega), qo c (by omega)]
      exact c3 c (by omega)
    · rw [qo 209 (by decide)]
      exact c7
  subst hB
  refine x_ret rfl rfl ⟨rfl, _, _, _, _, rfl, C.fin (by decide) (by decide) (by decide) ?_⟩
  funext k
  match k with
  | 0 => rfl
  | 1 => rfl
  | 2 => rfl
  | 3 => rfl
  | 4 => rfl
  | 5 => rfl
  | 6 => rfl
  | 7 => rfl
  | 8 => rfl
  | 9 => rfl
  | 10 => rfl
  | 11 => rfl
  | 12 => rfl
  | k + 13 => rfl
set_option maxHeartbeats 4000000 in
theorem n_X11 (hbl : bl 0 F I J P Q) : Y e 3 M_X11_init [.ref 0] (F, I, Gz, J, P, Q, S0.take 1) (NP 0 226 F I J P Q) := by
  unfold Y
  refine X.f rfl (z_aload rfl ?_)
  refine X.f rfl (z_67 (by decide) (by decide) ?_)
  have C := CU.start (iv := I0v) (qv := Q0) hbl
  refine x_co C rfl rfl rfl rfl rfl rfl (by decide +kernel) (by decide +kernel) rfl rfl rfl rfl (by decide) (by decide) (fun h => n_X10 h) (fun c _ _ => rfl) (fun c _ _ => rfl) (fun F I P Q C => ?_)
  refine x_co C rfl rfl rfl rfl rfl rfl (by decide +kernel) (by decide +kernel) rfl rfl rfl rfl (by decide) (by decide) (fun h => n_X3c h) (fun c _ _ => rfl) (fun c _ _ => rfl) (fun F I P Q C => ?_)
  refine x_co C rfl rfl rfl rfl rfl rfl (by decide +kernel) (by decide +kernel) rfl rfl rfl rfl (by decide) (by decide) (fun h => n_X2 (b := 5) (Or.inl rfl) h) (fun c _ _ => rfl) (fun c _ _ => rfl) (fun F I P Q C => ?_)
  refine x_co C rfl rfl rfl rfl rfl rfl (by decide +kernel) (by decide +kernel) rfl rfl rfl rfl (by decide) (by decide) (fun h => n_X2 (b := 17) (Or.inr rfl) h) (fun c _ _ => rfl) (fun c _ _ => rfl) (fun F I P Q C => ?_)
  refine x_co C rfl rfl rfl rfl rfl rfl (by decide +kernel) (by decide +kernel) rfl rfl rfl rfl (by decide) (by decide) (fun h => n_X1 (b := 29) (Or.inl rfl) h) (fun c _ _ => rfl) (fun c _ _ => rfl) (fun F I P Q C => ?_)
  refine x_co C rfl rfl rfl rfl rfl rfl (by decide +kernel) (by decide +kernel) rfl rfl rfl rfl (by decide) (by decide) (fun h => n_X1 (b := 33) (Or.inr rfl) h) (fun c _ _ => rfl) (fun c _ _ => rfl) (fun F I P Q C => ?_)
  refine x_co C rfl rfl rfl rfl rfl rfl (by decide +kernel) (by decide +kernel) rfl rfl rfl rfl (by decide) (by decide) (fun h => n_X6 (b := 37) rfl h) (fun c _ _ => rfl) (fun c _ _ => rfl) (fun F I P Q C => ?_)
  refine x_co C rfl rfl rfl rfl rfl rfl (by decide +kernel) (by decide +kernel) rfl rfl rfl rfl (by decide) (by decide) (fun h => n_X5 h) (fun c _ _ => rfl) (fun c _ _ => rfl) (fun F I P Q C => ?_)
  refine x_co C rfl rfl rfl rfl rfl rfl (by decide +kernel) (by decide +kernel) rfl rfl rfl rfl (by decide) (by decide) (fun h => n_X7 (b := 205) (by unfold isSn; decide) h) (fun c _ _ => rfl) (fun c _ _ => rfl) (fun F I P Q C => ?_)
  refine x_co C rfl rfl rfl rfl rfl rfl (by decide +kernel) (by decide +kernel) rfl rfl rfl rfl (by decide) (by decide) (fun h => n_X0 h) (fun c _ _ => rfl) (fun c _ _ => rfl) (fun F I P Q C => ?_)
  refine x_co C rfl rfl rfl rfl rfl rfl (by decide +kernel) (by decide +kernel) rfl rfl rfl rfl (by decide) (by decide) (fun h => n_X8 h) (fun c _ _ => rfl) (fun c _ _ => rfl) (fun F I P Q C => ?_)
  refine x_ret rfl rfl ⟨rfl, _, _, _, _, rfl, C.fin (by decide) (by decide) (by decide) ?_⟩
  funext k
  match k with
  | 0 => rfl
  | 1 => rfl
  | 2 => rfl
  | 3 => rfl
  | 4 => rfl
  | 5 => rfl
  | 6 => rfl
  | 7 => rfl
  | 8 => rfl
  | 9 => rfl
  | 10 => rfl
  | 11 => rfl
  | 12 => rfl
  | k + 13 => rfl
end VG
