/-! THE LAW: deeds, side by side -/
def nV (X : XS) (v : SV) (u : UV) : XS := (XT X, XH X, XN X, v, u, XE X, XK X, XLn X)
/-- a call, on both sides: the same answer, the same state -/
def stp (e : Bool × Int32 × (Int32 → Int32)) (dc dr : Nat) (qc qr : xMeth) (ac ar : List Value) (t : Nat) (X : XS) : Prop := ∃ a X', CSt e dc qc ac X a X' ∧ RSt e dr qr ar X a X' ∧ okX (t + 1) X'
section UC
variable {e : Bool × Int32 × (Int32 → Int32)} {d t : Nat} {q : xMeth} {args : List Value} {X X' : XS} {a : Int32} {s p o w g x : Int32} {v : SV} {u : UV} {h : HV}
theorem CSt.ofK (h : ∀ F I G J ha hb ea eb, clR F I J ha hb ea eb X → Y e d q args (F, I, G, J, P0 ha hb ea eb, Q0, S0) (fun w M' => w = some (.int (a)) ∧ ∃ F' I', M' = (F', I', G, J, P0 ha hb ea eb, Q0, S0) ∧ frm pK F I F' I' ∧ svC F' I' 37 = v ∧ undoC F' I' (u))) : CSt e d q args X a (nV X v u) := by
  intro F I G J ha hb ea eb hX
  refine Y.post (h F I G J ha hb ea eb hX) ?_
  rintro _ _ ⟨rfl, F', I', rfl, o, hv, hu⟩
  obtain ⟨h1, h2, h3, h4, h5, h6, h7, h8, h9, h10⟩ := hX
  have ca : ha = 5 ∨ ha = 17 := h1.a
  have ce : ea = 29 ∨ ea = 33 := h2.a
  exact ⟨rfl, F', I', G, J, ha, hb, ea, eb, rfl, fun c hc => ⟨(o c (by unfold pK; omega)).1, (o c (by unfold pK; omega)).2, rfl⟩, h1, h2, h3.frm o (by unfold pK; omega) (by unfold pK; omega), h4.frm o (fun j hj => by unfold pK; omega), h5.frm (o ha (by unfold pK; omega)).1 rfl rfl, hv, hu, h8.frm o (fun j hj => by unfold pK; omega), h9.frm o (fun c hc => by unfold pK at hc; omega), h10.frm o (fun j hj => by unfold pK; omega)⟩
theorem rfR.keep {F F' : Nat → Nat → Int32} {I I' : Nat → Int32 → Int32} {J : Nat → Int32 → Int64} (hk : okX t X) (oF : keepF F F') (o : sameK I I') (hv : svR (I' 242) (hP (XH X)) 0 = v) (hu : undoR (F' 226 25) (I' 242) (hP (XH X)) u) (hX : rfR F I J X) : rfR F' I' J (nV X v u) := by
  obtain ⟨h1, h2, h3, h4, h5, h6, h7, h8, h9, h10⟩ := hX
  have hP5 := hk.1.2.1
  have e : ∀ c, c ≠ 240 → c ≠ 241 → c ≠ 242 → c ≠ 245 → I' c = I c := o.1
  refine ⟨?_, h2.off (e 232 (by decide) (by decide) (by decide) (by decide)) (e 233 (by decide) (by decide) (by decide) (by decide)) (e 234 (by decide) (by decide) (by decide) (by decide)) (e 244 (by decide) (by decide) (by decide) (by decide)), ?_, ?_, hv, hu, ?_, ?_, fun m hm => ?_, h10.1, by rw [e 232 (by decide) (by decide) (by decide) (by decide)]; exact h10.2⟩
  · rw [oF 226 2 (by omega), e 227 (by decide) (by decide) (by decide) (by decide)]
    exact h1
  · show HR2 I' (XH X)
    unfold HR2
    rw [e 232 (by decide) (by decide) (by decide) (by decide)]
    exact h3
  · rw [oF 226 18 (by omega), e 237 (by decide) (by decide) (by decide) (by decide)]
    exact h4
  · exact seeR_cut (by decide) (by decide) hk.2.2.2.2.2.2.1.1 (fun i i0 i1 => o.2 i ⟨by grind, by grind⟩) h7
  · rw [e 239 (by decide) (by decide) (by decide) (by decide)]
    exact h8
  · obtain ⟨m1, m2⟩ := h9 m hm
    rw [e 243 (by decide) (by decide) (by decide) (by decide)]
    refine ⟨m1, fun x hx => ?_⟩
    obtain ⟨y1, y2⟩ := m2 x hx
    obtain ⟨c0, c1⟩ := b50_1 hm
    refine ⟨?_, seeR_cut (by grind) (by grind) (hk.2.2.2.2.2.2.2.1 m x hm hx).2.2.1 (fun i i0 i1 => o.2 i ⟨by grind, by grind⟩) y2⟩
    show svR (I' 242) (hP (XH X)) (50 * (1 + nI m)) = x.1
    rw [svR_cut hP5 (by grind) (by grind) (fun i i0 i1 => o.2 i ⟨by grind, by grind⟩)]
    exact y1
theorem sameK.lo {I I' : Nat → Int32 → Int32} {F F' : Nat → Nat → Int32} {J : Nat → Int32 → Int64} (o : sameK I I') (hF : keepF F F') : loS F F' I I' J J ∧ F' 999 = F 999 := by
  refine ⟨fun c hc => ⟨?_, o.1 c (by omega) (by omega) (by omega) (by omega), rfl⟩, ?_⟩
  · funext k
    exact hF c k (by omega)
  · funext k
    exact hF 999 k (by omega)
theorem RSt.ofK (hk : okX t X) (h : ∀ F I G J ha hb ea eb, rfR F I J X → (let h := XH X; Y e d q args (F, I, G, J, P0 ha hb ea eb, Q0, S0) (fun w M' => w = some (.int (a)) ∧ ∃ F' I', M' = (F', I', G, J, P0 ha hb ea eb, Q0, S0) ∧ keepF F F' ∧ sameK I I' ∧ svR (I' 242) (hP h) 0 = v ∧ undoR (F' 226 25) (I' 242) (hP h) (u)))) : RSt e d q args X a (nV X v u) := by
  intro F I G J ha hb ea eb hX
  refine Y.post (h F I G J ha hb ea eb hX) ?_
  rintro _ _ ⟨rfl, F', I', rfl, oF, o, hv, hu⟩
  obtain ⟨l1, l2⟩ := o.lo (J := J) oF
  exact ⟨rfl, F', I', G, J, rfl, l1, l2, hX.keep hk oF o hv hu⟩
theorem poB.mono {t t' : Nat} (h : poB t v) (ht : t ≤ t') (h2 : t' ≤ 600) : poB t' v := fun k hk => ⟨(h k hk).1, Int32.le_trans (h k hk).2 ((nI_leI (by omega) (by omega)).mpr (by omega))⟩
theorem okX.mono {t' : Nat} (hk : okX t X) (ht : t ≤ t') (h2 : t' ≤ 600) : okX t' X := by
  obtain ⟨h1, h2', h3, h4, h5, h6, h7, h8, h9⟩ := hk
  exact ⟨h1, h2', h3, h4.mono ht h2, h5, fun k hk => ⟨(h6 k hk).1, (h6 k hk).2.mono ht h2⟩, h7, fun m x hm hx => ⟨(h8 m x hm hx).1, (h8 m x hm hx).2.1.mono ht h2, (h8 m x hm hx).2.2⟩, h9⟩
theorem stp.ask {dc dr : Nat} {qc qr : xMeth} {ac ar : List Value} (hk : okX t X) (ht : t ≤ 520) (h : CSt e dc qc ac X a X ∧ RSt e dr qr ar X a X) : stp e dc dr qc qr ac ar t X := ⟨a, X, h.1, h.2, hk.mono (by omega) (by omega)⟩
theorem okX.deed (hk : okX t X) (ht : t ≤ 520) (hv : okS (XH X) v) (hp : poB (t + 1) v) : okX (t + 1) (nV X v (pushU (XU X) (XV X))) := by
  obtain ⟨h1, h2, h3, h4, h5, h6, h7, h8, h9⟩ := hk.mono (t' := t + 1) (by omega) (by omega)
  refine ⟨h1, h2, hv, hp, ?_, fun k hk' => ?_, h7, h8, h9⟩
  · show (pushU (XU X) (XV X)).1 ≤ 16
    unfold pushU
    split
    · exact Nat.le_refl _
    · show (XU X).1 + 1 ≤ 16
      omega
  · have hk2 : k < (pushU (XU X) (XV X)).1 := hk'
    show okS (XH X) ((pushU (XU X) (XV X)).2 k) ∧ poB (t + 1) ((pushU (XU X) (XV X)).2 k)
    unfold pushU at hk2 ⊢
    by_cases c : (XU X).1 = 16
    · rw [if_pos c] at hk2 ⊢
      dsimp only at hk2 ⊢
      by_cases c2 : k = 15
      · rw [if_pos c2]
        exact ⟨h3, h4⟩
      · rw [if_neg c2]
        exact h6 (k + 1) (by omega)
    · rw [if_neg c] at hk2 ⊢
      dsimp only at hk2 ⊢
      by_cases c2 : k = (XU X).1
      · rw [if_pos c2]
        exact ⟨h3, h4⟩
      · rw [if_neg c2]
        exact h6 k (by omega)
theorem nV_self : nV X (XV X) (XU X) = X := rfl
theorem po_up {k : Nat} {i y : Int32} (hk : k ≠ 2) {j : Int32} : poS (upS v k i y) j = poS v j := by
  show (if 2 = k ∧ j = i then y else v.2 2 j) = v.2 2 j
  rw [if_neg (fun z => hk z.1.symm)]
theorem po_up2 {i y : Int32} {j : Int32} : poS (upS v 2 i y) j = if j = i then y else poS v j := by
  show (if 2 = 2 ∧ j = i then y else v.2 2 j) = _
  by_cases c : j = i
  · rw [if_pos ⟨rfl, c⟩, if_pos c]
  · rw [if_neg (fun z => c z.2), if_neg c]
theorem po_les {i y : Int32} {j : Int32} : poS (lesS v i y) j = poS v j := by
  unfold lesS clrS
  split
  · rw [po_up (by decide), po_up (by decide)]
  · rw [po_up (by decide)]
theorem po_passK {dd : Int32} {j : Int32} : ∀ k, poS (passK h v dd k) j = poS v j
  | 0 => rfl
  | k + 1 => by
    have ih := po_passK (dd := dd) (j := j) k
    unfold passK
    split
    · rw [po_les, ih]
    · exact ih
theorem poB.same {v' : SV} (h : poB t v) (ht : t ≤ 520) (he : ∀ j, poS v' j = poS v j) : poB (t + 1) v' := fun k hk => by
  rw [he]
  exact h.mono (t' := t + 1) (by omega) (by omega) k hk
theorem poB.lay (hp : poB t v) (ht : t ≤ 520) (h0 : 0 < poS v p) : poB (t + 1) (layS h v p s) := fun k hk => by
  obtain ⟨a, b⟩ := hp k hk
  have e : poS (layS h v p s) (nI k) = if nI k = p then poS v p - 1 else poS v (nI k) := by
    unfold layS putS
    rw [po_up (by decide), po_up (by decide), po_up2]
  have hb : nI (9 + t) ≤ 600 := (nI_leI (b := 600) (by omega) (by omega)).mpr (by omega)
  have hm : nI (9 + (t + 1)) = nI (9 + t) + 1 := by rw [show 9 + (t + 1) = (9 + t) + 1 by omega, nI_succ]
  have h9 : 0 ≤ nI (9 + t) := nI_pos' (by omega)
  rw [e, hm]
  split
  · rename_i c
    rw [c] at a b
    exact ⟨by grind, by grind⟩
  · exact ⟨a, by grind⟩
theorem poB.sit (hp : poB t v) (ht : t ≤ 520) : poB (t + 1) (sitS v p s) := fun k hk => by
  obtain ⟨a, b⟩ := hp k hk
  have hb : nI (9 + t) ≤ 600 := (nI_leI (b := 600) (by omega) (by omega)).mpr (by omega)
  have hm : nI (9 + (t + 1)) = nI (9 + t) + 1 := by rw [show 9 + (t + 1) = (9 + t) + 1 by omega, nI_succ]
  have h9 : 0 ≤ nI (9 + t) := nI_pos' (by omega)
  rw [hm]
  unfold sitS
  split
  · unfold clrS
    rw [po_up (by decide), po_up (by decide), po_up2]
    split
    · rename_i c
      rw [c] at a b
      exact ⟨by grind, by grind⟩
    · rw [po_up (by decide), po_up (by decide)]
      exact ⟨a, by grind⟩
  · rw [po_up (by decide), po_up (by decide)]
    exact ⟨a, by grind⟩
theorem b_lay (hk : okX t X) (ht : t ≤ 520) : stp e 5 6 M_X11_lay M_X12_lay_ [.ref 0, .int p, .int s] [.ref 226, .int p, .int s] t X := by
  by_cases c : cLay (XH X) (XV X) p s
  · obtain ⟨p0, p1, s0, s1, hm⟩ := id c
    refine ⟨_, _, CSt.ofK (fun _ _ _ _ _ _ _ _ ⟨_, _, _, h4, _, h6, h7, _⟩ => f_lay_yes h6 hk.2.2.1 h4 h7 c), RSt.ofK hk (fun _ _ _ _ _ _ _ _ ⟨_, h2, _, _, h5, h6, _⟩ => k_lay_yes h2 h5 h6 c), hk.deed ht (okS_lay hk.2.2.1 p0 p1 s1) (hk.2.2.2.1.lay ht ?_)⟩
    unfold mayLayS at hm
    rw [Bool.and_eq_true] at hm
    exact of_decide_eq_true hm.1
  · refine ⟨_, _, CSt.ofA (fun _ _ _ _ _ _ _ _ ⟨_, _, _, h4, _, h6, h7, _⟩ => f_lay_no h6 hk.2.2.1 h4 c), ?_, hk.mono (by omega) (by omega)⟩
    have := RSt.ofK (e := e) (a := -1) hk (fun _ _ _ _ _ _ _ _ ⟨_, h2, _, _, h5, h6, _⟩ => k_lay_no (p := p) (s := s) h2 h5 h6 c)
    exact this
theorem b_sit (hk : okX t X) (ht : t ≤ 520) : stp e 5 6 M_X11_sit M_X12_sit [.ref 0, .int p, .int s] [.ref 226, .int p, .int s] t X := by
  by_cases c : cSit (XH X) (XV X) p s
  · obtain ⟨p0, p1, s0, s1, hm⟩ := id c
    exact ⟨_, _, CSt.ofK (fun _ _ _ _ _ _ _ _ ⟨_, _, _, h4, _, h6, h7, _⟩ => f_sit_yes h6 hk.2.2.1 h4 h7 c), RSt.ofK hk (fun _ _ _ _ _ _ _ _ ⟨_, h2, _, _, h5, h6, _⟩ => k_sit_yes h2 h5 h6 c), hk.deed ht (okS_sit hk.2.2.1 hk.1.2.1 (nI_le7 hk.1.1) p0 p1 s0 s1 hm) (hk.2.2.2.1.sit ht)⟩
  · refine ⟨_, _, CSt.ofA (fun _ _ _ _ _ _ _ _ ⟨_, _, _, h4, _, h6, h7, _⟩ => f_sit_no h6 hk.2.2.1 h4 c), ?_, hk.mono (by omega) (by omega)⟩
    have := RSt.ofK (e := e) (a := -1) hk (fun _ _ _ _ _ _ _ _ ⟨_, h2, _, _, h5, h6, _⟩ => k_sit_no (p := p) (s := s) h2 h5 h6 c)
    exact this
theorem b_grate (hk : okX t X) (ht : t ≤ 520) : stp e 5 6 M_X11_grate M_X12_grate [.ref 0, .int p, .int s] [.ref 226, .int p, .int s] t X := by
  by_cases c : cGrate (XH X) (XV X) p s
  · exact ⟨_, _, CSt.ofK (fun _ _ _ _ _ _ _ _ ⟨_, _, _, h4, _, h6, h7, _⟩ => f_grate_yes h6 hk.2.2.1 h4 h7 c), RSt.ofK hk (fun _ _ _ _ _ _ _ _ ⟨_, h2, _, _, h5, h6, _⟩ => k_grate_yes h2 h5 hk.2.2.1 h6 c), hk.deed ht (okS_les hk.2.2.1) (hk.2.2.2.1.same ht (fun j => po_les))⟩
  · refine ⟨_, _, CSt.ofA (fun _ _ _ _ _ _ _ _ ⟨_, _, _, h4, _, h6, h7, _⟩ => f_grate_no h6 hk.2.2.1 h4 c), ?_, hk.mono (by omega) (by omega)⟩
    have := RSt.ofK (e := e) (a := -1) hk (fun _ _ _ _ _ _ _ _ ⟨_, h2, _, _, h5, h6, _⟩ => k_grate_no (p := p) (s := s) h2 h5 hk.2.2.1 h6 c)
    exact this
theorem b_rise (hk : okX t X) (ht : t ≤ 520) : stp e 5 6 M_X11_rise M_X12_rise [.ref 0, .int p] [.ref 226, .int p] t X := by
  by_cases c : cRise (XH X) (XV X) p
  · obtain ⟨p0, p1, hc⟩ := id c
    exact ⟨_, _, CSt.ofK (fun _ _ _ _ _ _ _ _ ⟨_, _, _, h4, _, h6, h7, _⟩ => f_rise_yes h6 hk.2.2.1 h4 h7 c), RSt.ofK hk (fun _ _ _ _ _ _ _ _ ⟨_, h2, _, _, h5, h6, _⟩ => k_rise_yes h2 h5 hk.2.2.1 h6 c), hk.deed ht (okS_rise hk.2.2.1 hk.1.2.1 (nI_le7 hk.1.1) p0 p1 hc) (hk.2.2.2.1.same ht (fun j => by unfold riseS; rw [po_up (by decide), po_up (by decide)]))⟩
  · refine ⟨_, _, CSt.ofA (fun _ _ _ _ _ _ _ _ ⟨_, _, _, h4, _, h6, h7, _⟩ => f_rise_no h6 hk.2.2.1 h4 c), ?_, hk.mono (by omega) (by omega)⟩
    have := RSt.ofK (e := e) (a := -1) hk (fun _ _ _ _ _ _ _ _ ⟨_, h2, _, _, h5, h6, _⟩ => k_rise_no (p := p) h2 h5 h6 c)
    exact this
theorem b_hour (hk : okX t X) (ht : t ≤ 520) : stp e 5 6 M_X11_hour M_X12_hour [.ref 0] [.ref 226] t X :=
  ⟨_, _, CSt.ofK (fun _ _ _ _ _ _ _ _ ⟨_, _, _, h4, _, h6, h7, _⟩ => f_hour h6 hk.2.2.1 h4 h7), RSt.ofK hk (fun _ _ _ _ _ _ _ _ ⟨_, h2, _, _, h5, h6, _⟩ => k_hour h2 h5 hk.2.2.1 h6), hk.deed ht (okS_pass hk.2.2.1) (hk.2.2.2.1.same ht (fun j => po_passK (hN (XH X))))⟩
theorem b_undo (hk : okX t X) (ht : t ≤ 520) : stp e 5 6 M_X11_undo M_X12_undo [.ref 0] [.ref 226] t X := by
  by_cases c : (XU X).1 = 0
  · exact ⟨_, _, CSt.ofA (fun _ _ _ _ _ _ _ _ ⟨_, _, _, h4, _, h6, h7, _⟩ => f_undo_no h7 c), RSt.ofA hk (fun _ _ _ _ _ _ _ _ ⟨_, h2, _, _, h5, h6, _⟩ => k_undo_no (by rw [h6.1, c]; rfl)), hk.mono (by omega) (by omega)⟩
  · refine ⟨_, _, CSt.ofK (fun _ _ _ _ _ _ _ _ ⟨_, _, _, h4, _, h6, h7, _⟩ => f_undo_yes h7 c), RSt.ofK hk (fun _ _ _ _ _ _ _ _ ⟨_, h2, _, _, h5, h6, _⟩ => k_undo_yes h2 h6 c), ?_⟩
    obtain ⟨h1, h2, h3, h4, h5, h6, h7, h8, h9⟩ := hk.mono (t' := t + 1) (by omega) (by omega)
    obtain ⟨g1, g2⟩ := h6 ((XU X).1 - 1) (by omega)
    exact ⟨h1, h2, g1, g2, by show (XU X).1 - 1 ≤ 16; omega, fun k hk' => h6 k (by have : k < (XU X).1 - 1 := hk'; omega), h7, h8, h9⟩
end UC
