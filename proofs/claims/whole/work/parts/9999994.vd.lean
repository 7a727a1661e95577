/-! THE CONSTRUCTORS: a scene -/
section VD
variable {e : Bool × Int32 × (Int32 → Int32)} {d : Nat} {F : Nat → Nat → Int32} {I : Nat → Int32 → Int32} {G : Nat → Nat → Int64} {J : Nat → Int32 → Int64} {P : Nat → Nat → Option Nat} {Q : Nat → Int32 → Option Nat} {n n' b : Nat} {B : B4} {iv : Nat → Int32 → Int32} {qv : Nat → Int32 → Option Nat} {l : List (Nat × Nat)}
def scX (b : Nat) : Bool := noF b && noQ b && (fl b).isNone && (noF (b + 1) && noP (b + 1) && noQ (b + 1) && fl (b + 1) == some 7) && (noF (b + 2) && noP (b + 2) && noQ (b + 2) && fl (b + 2) == none) && (noF (b + 3) && noP (b + 3) && noQ (b + 3) && fl (b + 3) == some 7) && (noF (b + 4) && noP (b + 4) && noQ (b + 4) && fl (b + 4) == none) && (noF (b + 5) && noP (b + 5) && noQ (b + 5) && fl (b + 5) == some 5) && (noF (b + 6) && noP (b + 6) && noQ (b + 6) && fl (b + 6) == none)
theorem sc_X (hs : isSc b = true) : scX b = true := by
  have h := sc_S hs
  have a : ∀ b, b < 211 → isSc b = true → scX b = true := by decide +kernel
  exact a b (by omega) hs
theorem P0v_sc (hs : isSc b = true) (h1 : b ≠ 226) (h2 : b ≠ 0) : P0v b = rowP [(6, b + 6), (4, b + 5), (3, b + 4), (2, b + 3), (1, b + 2), (0, b + 1)] := by
  have e : P0v b = fun k => if k < 5 then some (b + 1 + k) else if k = 6 then some (b + 6) else none := by
    funext k
    unfold P0v P0
    rw [if_neg h1, if_neg h2, if_pos hs]
  rw [e]
  funext k
  match k with
  | 0 => rfl
  | 1 => rfl
  | 2 => rfl
  | 3 => rfl
  | 4 => rfl
  | 5 => rfl
  | 6 => rfl
  | k + 7 => rfl
theorem fill_z {m : Nat} {f : Int32 → Int32} (hf : f = zI) {c : Nat} (h : fl c = some m) : (fun i => if 0 ≤ i ∧ i < nI m then (-1 : Int32) else f i) = I0v c := by
  unfold I0v
  rw [h, hf]
  rfl
set_option maxHeartbeats 4000000 in
theorem n_X6 (hs : isSc b = true) (hbl : bl b F I J P Q) : Y e 1 M_X6_init [.ref b] (F, I, Gz, J, P, Q, S0.take (b + 1)) (NP b (b + 7) F I J P Q) := by
  obtain ⟨s0, s1, s2, s3, s4, s5, s6, b37, b210⟩ := sc_S hs
  have hx := sc_X hs
  unfold scX at hx
  simp only [Bool.and_eq_true, Option.isNone_iff_eq_none, beq_iff_eq] at hx
  obtain ⟨⟨⟨⟨⟨⟨⟨⟨xF, xQ⟩, xI⟩, ⟨⟨a1, p1⟩, q1⟩, f1⟩, ⟨⟨a2, p2⟩, q2⟩, f2⟩, ⟨⟨a3, p3⟩, q3⟩, f3⟩, ⟨⟨a4, p4⟩, q4⟩, f4⟩, ⟨⟨a5, p5⟩, q5⟩, f5⟩, ⟨⟨a6, p6⟩, q6⟩, f6⟩ := hx
  unfold Y
  refine X.f rfl (z_aload rfl ?_)
  refine X.f rfl (z_67 (by omega) (by omega) ?_)
  have C := CU.start (iv := fun _ => zI) (qv := Q0) hbl
  refine x_ca C rfl rfl rfl rfl rfl s0 s1 (by omega) (by decide) (by decide) (by decide) a1 p1 rfl (noQ_eq q1) (fun P C => ?_)
  refine x_ca C rfl rfl rfl rfl rfl s0 s2 (by omega) (by decide) (by decide) (by decide) a2 p2 rfl (noQ_eq q2) (fun P C => ?_)
  refine x_ca C rfl rfl rfl rfl rfl s0 s3 (by omega) (by decide) (by decide) (by decide) a3 p3 rfl (noQ_eq q3) (fun P C => ?_)
  refine x_ca C rfl rfl rfl rfl rfl s0 s4 (by omega) (by decide) (by decide) (by decide) a4 p4 rfl (noQ_eq q4) (fun P C => ?_)
  refine x_ca C rfl rfl rfl rfl rfl s0 s5 (by omega) (by decide) (by decide) (by decide) a5 p5 rfl (noQ_eq q5) (fun P C => ?_)
  refine x_ca C rfl rfl rfl rfl rfl s0 s6 (by omega) (by decide) (by decide) (by decide) a6 p6 rfl (noQ_eq q6) (fun P C => ?_)
  have hp := C.2.2.2.2.2.2.1
  have iz : ∀ c, b ≤ c → I c = zI := fun c hc => (hbl c hc).2.1
  have p0 : P b 0 = some (b + 1) := congrFun hp 0
  have p2' : P b 2 = some (b + 3) := congrFun hp 2
  have p4' : P b 4 = some (b + 5) := congrFun hp 4
  have hI : xis (S0.take (b + 7)) b (10 + 6) = true := tk_is (by omega) s0
  refine X.f rfl (z_aload rfl ?_)
  refine X.f rfl (z_gP hI p0 ?_)
  refine X.f rfl (z_push ?_)
  refine X.f rfl (z_cs (g_fill (n := 7) ((tk_at (by omega)).trans s1) (by decide) (by omega)) rfl (by rfl) (by rfl) rfl rfl rfl ?_)
  rintro _ _ ⟨rfl, rfl⟩
  refine X.f rfl (z_aload rfl ?_)
  refine X.f rfl (z_gP hI p2' ?_)
  refine X.f rfl (z_push ?_)
  refine X.f rfl (z_cs (g_fill (n := 7) ((tk_at (by omega)).trans s3) (by decide) (by omega)) rfl (by rfl) (by rfl) rfl rfl rfl ?_)
  rintro _ _ ⟨rfl, rfl⟩
  refine X.f rfl (z_aload rfl ?_)
  refine X.f rfl (z_gP hI p4' ?_)
  refine X.f rfl (z_push ?_)
  refine X.f rfl (z_cs (g_fill (n := 5) ((tk_at (by omega)).trans s5) (by decide) (by omega)) rfl (by rfl) (by rfl) rfl rfl rfl ?_)
  rintro _ _ ⟨rfl, rfl⟩
  refine x_ret rfl rfl ⟨rfl, _, _, _, _, rfl, ?_⟩
  rw [fill_z (iz (b + 1) (by omega)) f1, row_ne (by omega), fill_z (iz (b + 3) (by omega)) f3, row_ne (by omega), row_ne (by omega), fill_z (iz (b + 5) (by omega)) f5]
  obtain ⟨c0, c1, c2, c3, c4, c5, c6, c7⟩ := C
  refine ⟨fun c hc => ?_, fun c h1 h2 => ?_, fun c hc => ?_⟩
  · rw [row_ne (by omega), row_ne (by omega), row_ne (by omega)]
    exact c1 c hc
  · have hc : c = b ∨ c = b + 1 ∨ c = b + 2 ∨ c = b + 3 ∨ c = b + 4 ∨ c = b + 5 ∨ c = b + 6 := by omega
    rcases hc with rfl | rfl | rfl | rfl | rfl | rfl | rfl
    · rw [row_ne (by omega), row_ne (by omega), row_ne (by omega), noF_eq xF, noQ_eq xQ, fl_eq xI, P0v_sc hs (by omega) (by omega)]
      exact ⟨c4, c5, c6, c7⟩
    · obtain ⟨z1, -, z3, z4⟩ := c2 (b + 1) (by omega) (by omega)
      rw [row_ne (by omega), row_ne (by omega), row_same]
      exact ⟨z1, rfl, z3, z4⟩
    · obtain ⟨z1, z2, z3, z4⟩ := c2 (b + 2) (by omega) (by omega)
      rw [row_ne (by omega), row_ne (by omega), row_ne (by omega), fl_eq f2]
      exact ⟨z1, z2, z3, z4⟩
    · obtain ⟨z1, -, z3, z4⟩ := c2 (b + 3) (by omega) (by omega)
      rw [row_ne (by omega), row_same]
      exact ⟨z1, rfl, z3, z4⟩
    · obtain ⟨z1, z2, z3, z4⟩ := c2 (b + 4) (by omega) (by omega)
      rw [row_ne (by omega), row_ne (by omega), row_ne (by omega), fl_eq f4]
      exact ⟨z1, z2, z3, z4⟩
    · obtain ⟨z1, -, z3, z4⟩ := c2 (b + 5) (by omega) (by omega)
      rw [row_same]
      exact ⟨z1, rfl, z3, z4⟩
    · obtain ⟨z1, z2, z3, z4⟩ := c2 (b + 6) (by omega) (by omega)
      rw [row_ne (by omega), row_ne (by omega), row_ne (by omega), fl_eq f6]
      exact ⟨z1, z2, z3, z4⟩
  · rw [row_ne (by omega), row_ne (by omega), row_ne (by omega)]
    obtain ⟨z1, z2, -, z4, z5⟩ := c3 c hc
    exact ⟨z1, z2, z4, z5⟩
end VD
