/-! THE LAW, WHOLE: from its entry to its end -/
section VK
variable {e : Bool × Int32 × (Int32 → Int32)}
def M00 : xM := (fun _ _ => 0, fun _ _ => 0, Gz, fun _ _ => 0, fun _ _ => none, fun _ _ => none, [])
def lawEnd (w : Option Value) (M' : xM) : Prop := w = some (.int 1) ∧ mS M' = S0 ∧ xgh M' ≤ 513
theorem law_run {n : Nat} (hpr : e.1 = true) (hl : e.2.1 = nI n) (hn : n ≤ 3584) : X e 60 K_L_law 0 [some (.ref 2000), none, none, none, none, none, none] [] M00 lawEnd := by
  have b0 : bl 0 (fun _ _ => 0) (fun _ _ => 0) (fun _ _ => 0) (fun _ _ => none) (fun _ _ => none) := fun c _ => ⟨rfl, rfl, rfl, rfl, rfl⟩
  refine X.f rfl (z_new (n := 0) (ci := 11) (by decide) (by decide) rfl rfl ?_)
  refine X.f rfl (z_dupr ?_)
  refine X.f rfl (z_cv (n_X11 b0) rfl (by rfl) (by rfl) rfl rfl rfl rfl ?_)
  rintro _ _ ⟨rfl, F, I, P, Q, rfl, -, D, D3⟩
  have b226 : bl 226 F I (fun _ _ => 0) P Q := fun c hc => ⟨(D3 c hc).1, (D3 c hc).2.1, rfl, (D3 c hc).2.2.1, (D3 c hc).2.2.2⟩
  refine X.f rfl (z_astore rfl ?_)
  refine X.f rfl (z_new (n := 226) (ci := 12) (by decide +kernel) (by decide) (D3 226 (by omega)).1 (D3 226 (by omega)).2.2.1 ?_)
  refine X.f rfl (z_dupr ?_)
  have hv : xis (S0.take 227) 226 22 = true := tk_is (x := 0) (by decide) (by decide +kernel)
  refine X.f rfl (z_cv (n_X12 (fun c hc => ⟨(D c (by omega) hc).2.2.1, (D c (by omega) hc).2.2.2⟩) b226) rfl (by rfl) (by rfl) rfl rfl hv rfl ?_)
  rintro _ _ ⟨rfl, F', I', rfl, o1, o2, o3, hR⟩
  refine X.f rfl (z_astore rfl ?_)
  refine X.f rfl (z_push ?_)
  refine X.f rfl (z_newI (n := 249) (kk := 1) (m := 1) (by decide +kernel) (by decide) (o3 249 (by omega)) (Jw_ne (by decide)) (by decide) (by decide) (by decide) ?_)
  refine X.f rfl (z_astore rfl ?_)
  refine X.f rfl (z_push ?_)
  refine X.f rfl (z_istore rfl ?_)
  have eS : S0.take (249 + 1) = S0 := by decide +kernel
  rw [eS]
  have hC : clR F' I' Jw 5 17 29 33 X00 := clR_0 (fun c hc => by rw [o1 c (by omega)]; exact (D c (by omega) hc).1) (fun c hc => by rw [o2 c hc]; exact (D c (by omega) hc).2.1)
  have hg : F' 999 0 = nI 0 := by
    rw [o1 999 (by decide), (D3 999 (by omega)).1]
    rfl
  have hI : LI 0 X00 (F', I', Gz, Jw, P0 5 17 29 33, Q0, S0) := ⟨F', I', Gz, Jw, 5, 17, 29, 33, 0, rfl, hC, hR, okX_0, hg, Nat.le_refl _⟩
  refine law_loop (r := lawEnd) hpr hl hn (fun W M t h ht => ?_) 513 0 X00 _ rfl hI
  obtain ⟨F, I, G, J, ha, hb, ea, eb, c, rfl, -, -, -, hc, hct⟩ := h
  refine ⟨rfl, rfl, ?_⟩
  show (F 999 0).toNatClampNeg ≤ 513
  rw [hc, nI_clamp (by omega)]
  omega
end VK
