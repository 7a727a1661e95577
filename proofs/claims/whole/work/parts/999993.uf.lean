/-! THE LAW: hall, evening, side by side -/
section UF
variable {e : Bool × Int32 × (Int32 → Int32)} {d t : Nat} {q : xMeth} {args : List Value} {X X' : XS} {a : Int32} {s p o w g : Int32} {v : SV} {u : UV} {h : HV} {T : List Int32} {L : ND} {D : DV} {j : Nat} {E : LN}
def nHl (X : XS) (D : DV) : XS := ([], nearH D.1, D.2.1, startS (hP D.1) (hTold D.1), (0, (XU X).2), (0, (XE X).2), fun _ => none, lv0)
def nLn (X : XS) (l : LV) : XS := ([], XH X, XN X, XV X, XU X, XE X, XK X, l)
theorem tapC_nil {F : Nat → Nat → Int32} {I : Nat → Int32 → Int32} (h : F 2 1 = 0) : tapC F I [] := ⟨⟨h, Nat.zero_le _, fun k c hk => by cases hk⟩, fun c hc => absurd hc List.not_mem_nil⟩
theorem tapR_nil {n : Int32} {st : Int32 → Int32} (h : n = 0) : tapR n st [] := ⟨h, Nat.zero_le _, fun k c hk => by cases hk⟩
theorem nearOK_H (hk : okD D) : nearOK (nearH D.1) := by
  have h7 : hN D.1 ≤ 7 := hk.1.1
  have en : ∀ s, hNear (nearH D.1) s = nearR (hRow D.1) (hAt D.1) (hN D.1) s := fun s => rfl
  refine ⟨fun i j hi hj hiN hh => ?_, fun s s0 s7 => by rw [en]; exact nearR_128 h7⟩
  have hiN' : i < hN D.1 := hiN
  rw [en] at hh ⊢
  have hi2 : nI i < nI (hN D.1) := (nI_ltI (by omega) (by omega)).mpr hiN'
  unfold nearR at hh ⊢
  rw [if_pos hi2, tb_bset hj (by omega), Bool.and_eq_true] at hh
  have hjN : j < hN D.1 := of_decide_eq_true hh.1
  have hj2 : nI j < nI (hN D.1) := (nI_ltI (by omega) (by omega)).mpr hjN
  refine ⟨hjN, fun z => ?_, ?_⟩
  · have := hh.2
    rw [z, nearQ_self] at this
    cases this
  · rw [if_pos hj2, tb_bset hi (by omega), Bool.and_eq_true, nearQ_sym]
    exact ⟨decide_eq_true hiN', hh.2⟩
theorem okH_near (hk : okH h) : okH (nearH h) := by
  obtain ⟨a1, a2, a3, a4, a5, a6, a7, a8⟩ := hk
  exact ⟨a1, a2, a3, fun s s0 s1 => a4 s s0 s1, fun p p0 p1 => a5 p p0 p1, fun p q hp hq hh => a6 p q hp hq hh, fun p hp => a7 p hp, a8⟩
theorem poB_start (hk : okH h) (ht : t ≤ 520) : poB (t + 1) (startS (hP h) (hTold h)) := fun k hk5 => by
  obtain ⟨k0, k5, -⟩ := nI_lt5 hk5 (Nat.le_refl 5)
  have e2 : poS (startS (hP h) (hTold h)) (nI k) = if nI k < nI (hP h) then hTold h (nI k) else 0 := if_pos ⟨k0, k5⟩
  have h9 : (9 : Int32) ≤ nI (9 + (t + 1)) := (nI_leI (a := 9) (by omega) (by omega)).mpr (by omega)
  rw [e2]
  split
  · rename_i hlt
    obtain ⟨-, -, b1, b2⟩ := hk.2.2.2.2.1 (nI k) k0 hlt
    exact ⟨b1, Int32.le_trans b2 h9⟩
  · exact ⟨Int32.le_refl _, Int32.le_trans (by decide) h9⟩
theorem okX.hall (hk : okX t X) (ht : t ≤ 520) (hD : okD D) : okX (t + 1) (nHl X D) := by
  have h7 : hN (nearH D.1) ≤ 7 := hD.1.1
  have h5 : hP (nearH D.1) ≤ 5 := hD.1.2.1
  exact ⟨okH_near hD.1, nearOK_H hD, okS_start (h := nearH D.1) h5 h7, poB_start hD.1 ht, Nat.zero_le _, fun k hk' => absurd hk' (Nat.not_lt_zero _), ⟨Nat.zero_le _, fun k hk' => absurd hk' (Nat.not_lt_zero _)⟩, fun m x hm hx => (by cases hx), ⟨Nat.zero_le _, fun k hk' => absurd hk' (Nat.not_lt_zero _)⟩, hD.2.1⟩
theorem codeR_hl {a : Int32} {f g f' g' : Int32 → Int32} {cs : List Int32} (h : codeR a f g cs) (ha : a ≤ 0) (o : ∀ x, x < 1100 → f' x = f x ∧ g' x = g x) : codeR a f' g' cs := by
  rcases h with h | ⟨b1, b2, b3, b4, b5, b6, b7⟩
  · exact Or.inl h
  · refine Or.inr ⟨b1, b2, b3, b4, fun k c hk => ?_, ?_, b7⟩
    · have hk2 := (List.getElem?_eq_some_iff.mp hk).1
      have k0 : 0 ≤ nI k := nI_pos' (by omega)
      have k1 : nI k < 1000 := (nI_ltI (b := 1000) (by omega) (by omega)).mpr (by omega)
      obtain ⟨o1, o2⟩ := o (a + nI k) (by grind)
      rw [o1, o2]
      exact b5 k c hk
    · have k0 : 0 ≤ nI cs.length := nI_pos' (by omega)
      have k1 : nI cs.length ≤ 1000 := (nI_leI (b := 1000) (by omega) (by omega)).mpr b3
      rw [(o (a + nI cs.length) (by grind)).1]
      exact b6
theorem rfR.fault {F F' : Nat → Nat → Int32} {I I' : Nat → Int32 → Int32} {J J' : Nat → Int32 → Int64} (hl : hlF F F' I I' J J') (h2' : F' 226 2 = 0) (hX : rfR F I J X) : rfR F' I' J' (nT X []) := by
  obtain ⟨oF, oI, o2, o3, oJ⟩ := hl
  obtain ⟨h1, h2, h3, h4, h5, h6, h7, h8', h9, h10⟩ := hX
  have e : ∀ c, c ≠ 228 → c ≠ 229 → c ≠ 232 → c ≠ 233 → c ≠ 234 → c ≠ 238 → I' c = I c := oI
  have e44 : I' 244 = I 244 := e 244 (by decide) (by decide) (by decide) (by decide) (by decide) (by decide)
  have e42 : I' 242 = I 242 := e 242 (by decide) (by decide) (by decide) (by decide) (by decide) (by decide)
  refine ⟨tapR_nil h2', ?_, ?_, ?_, ?_, ?_, ?_, ?_, fun m hm => ?_, fun x hx => ?_, ?_⟩
  · obtain ⟨a1, a2, a3, a4, a5, a6, a7, a8⟩ := h2
    refine ⟨by rw [o2 0 (by decide)]; exact a1, a2, by rw [o2 1 (by decide)]; exact a3, a4, by rw [o2 2 (by decide)]; exact a5, fun s s0 s7 => ?_, fun p p0 p5 => ?_, ?_⟩
    · rw [o2 _ (by grind), e44]
      exact a6 s s0 s7
    · rw [o2 _ (by grind), o2 _ (by grind), o2 _ (by grind)]
      exact a7 p p0 p5
    · rw [o2 3 (by decide)]
      exact codeR_hl a8 h10.2 o3
  · intro s s0 s7
    rw [o2 _ (by grind)]
    exact h3 s s0 s7
  · rw [oF 226 18 (by omega), oJ 235 (by decide) (by decide), e 237 (by decide) (by decide) (by decide) (by decide) (by decide) (by decide)]
    exact h4
  · rw [e42]
    exact h5
  · rw [oF 226 25 (by omega), e42]
    exact h6
  · rw [e42]
    exact h7
  · rw [e 239 (by decide) (by decide) (by decide) (by decide) (by decide) (by decide)]
    exact h8'
  · rw [e42, e 243 (by decide) (by decide) (by decide) (by decide) (by decide) (by decide)]
    exact h9 m hm
  · rw [oJ 231 (by decide) (by decide)]
    exact h10.1 x hx
  · rw [o2 3 (by decide)]
    exact h10.2
set_option maxHeartbeats 4000000 in
theorem b_hall (hk : okX t X) (ht : t ≤ 520) (hTl : (XT X).length ≤ 1000) : stp e 43 58 M_X11_hall M_X12_hall [.ref 0] [.ref 226] t X := by
  have hok := hallP_ok (T := XT X) hTl
  by_cases hf : (hallP (XT X)).1 = 0
  · refine ⟨(hallP (XT X)).1, nHl X (hallP (XT X)).2.2, ?_, ?_, hk.hall ht (hok hf)⟩
    · intro F I G J ha hb ea eb hX
      obtain ⟨h1, h2, h3, h4, h5, h6, h7, h8', h9, h10⟩ := hX
      refine Y.post (f_hall h1 h2 h3 h7) ?_
      rintro _ _ ⟨rfl, F', I', G', J', ha', hb', rfl, z2, hi, -, on⟩
      obtain ⟨rfl, rfl, c1, c2, c3, c4, c5, c6, c7, c8⟩ := on hf
      refine ⟨rfl, F', I', G', J', ha', hb', ea, eb, rfl, fun c hc => ⟨(hi c hc).1, (hi c hc).2.1, (hi c hc).2.2.2⟩, h1.s, h2, tapC_nil z2, c1, c2, c3, c7, ⟨c5, Nat.zero_le _, fun k hk' => absurd hk' (Nat.not_lt_zero _), fun k hk8 => ?_⟩, c8, linC_0 h2.a c4⟩
      show I' 208 (nI k) = 0 ∨ I' 208 (nI k) = 1
      rw [c6 k hk8]
      exact h8'.2.2.2 k hk8
    · intro F I G J ha hb ea eb hX
      obtain ⟨h1, h2, h3, h4, h5, h6, h7, h8', h9, h10⟩ := hX
      refine Y.post (k_hall hTl h1 h10.1) ?_
      rintro _ _ ⟨rfl, F', I', J', rfl, z2, -, on⟩
      obtain ⟨c1, c2, c3, c4, c5, c6, c7, c8, c9, c10, c11, c12, c13⟩ := on hf
      refine ⟨rfl, F', I', G, J', rfl, fun c hc => ⟨?_, c2 c hc, c3 c (Or.inl hc)⟩, c12, tapR_nil z2, c4, c5, c6, c7, ⟨c11, Nat.zero_le _, fun k hk' => absurd hk' (Nat.not_lt_zero _)⟩, ⟨?_, fun k hk' => absurd hk' (Nat.not_lt_zero _)⟩, ⟨c9, fun k hk' => absurd hk' (Nat.not_lt_zero _)⟩, fun m hm => ⟨c10 m hm, fun x hx => by cases hx⟩, fun x hx => ?_, c13⟩
      · funext k
        exact c1 c k (by omega)
      · have z : (0 : Int32) + 25 = 25 := by decide
        rw [z]
        exact c8
      · rw [c3 231 (Or.inr rfl)]
        exact h10.1 x hx
  · refine ⟨(hallP (XT X)).1, nT X [], ?_, ?_, hk.mono (by omega) (by omega)⟩
    · intro F I G J ha hb ea eb hX
      obtain ⟨h1, h2, h3, h4, h5, h6, h7, h8', h9, h10⟩ := hX
      refine Y.post (f_hall h1 h2 h3 h7) ?_
      rintro _ _ ⟨rfl, F', I', G', J', ha', hb', rfl, z2, hi, off, -⟩
      obtain ⟨rfl, rfl, o, oj⟩ := off hf
      have cb : (ha' = 5 ∧ hb' = 17) ∨ (ha' = 17 ∧ hb' = 5) := h1
      have ce : ea = 29 ∨ ea = 33 := h2.a
      refine ⟨rfl, F', I', G', J', ha', hb', ea, eb, rfl, fun c hc => ⟨(hi c hc).1, (hi c hc).2.1, (hi c hc).2.2.2⟩, h1, h2, tapC_nil z2, h4.frm o (fun j hj => by unfold pR; omega), h5.frm (o ha' (by unfold pR; omega)).1 (oj _ (by unfold pD; omega)) (oj _ (by unfold pD; omega)), ?_, h7.no (fun c hc => by unfold pR at hc; omega) o, h8'.frm o (fun j hj => by unfold pR; omega), h9.frm o (fun c hc => by unfold pR at hc; omega), h10.frm o (fun j hj => by unfold pR; omega)⟩
      show svC F' I' 37 = XV X
      rw [o.sv (fun j hj => by unfold pR; omega)]
      exact h6
    · intro F I G J ha hb ea eb hX
      refine Y.post (k_hall hTl hX.1 hX.2.2.2.2.2.2.2.2.2.1) ?_
      rintro _ _ ⟨rfl, F', I', J', rfl, z2, off, -⟩
      have hl := off hf
      refine ⟨rfl, F', I', G, J', rfl, fun c hc => ⟨?_, hl.2.1 c (by omega) (by omega) (by omega) (by omega) (by omega) (by omega), hl.2.2.2.2 c (by omega) (by omega)⟩, ?_, hX.fault hl z2⟩
      · funext k
        exact hl.1 c k (by omega)
      · funext k
        exact hl.1 999 k (by omega)
theorem toE_sea {N P : Nat} {but : Int32} (hT : T.length ≤ 1000) (hN : N ≤ 7) (hP : P ≤ 5) (hL : ∀ q ∈ L, q.2 < N ∨ (20 ≤ q.2 ∧ q.2 < 20 + P)) (h : toE T L 0 but j = 0) : ∃ k, k < N ∧ toV T L 0 j = nI k := by
  obtain ⟨-, v0, v6⟩ := toE_nm hT h
  unfold toV at v0 v6 ⊢
  rcases nmF_rng (x := txA T j) L with q | ⟨q, q1, q2⟩
  · rw [q] at v0
    exact absurd v0 (by decide)
  · rw [q2] at v0 v6 ⊢
    have e0 : nI q.2 - 0 = nI q.2 := by grind
    rw [e0] at v6 ⊢
    rcases hL q q1 with r | ⟨r1, r2⟩
    · exact ⟨q.2, r, rfl⟩
    · have : nI q.2 ≤ nI 6 := v6
      rw [nI_leI (by omega) (by omega)] at this
      omega
theorem evL_ok (hT : T.length ≤ 1000) (hN7 : hN h ≤ 7) (hP5 : hP h ≤ 5) (hL : ∀ q ∈ L, q.2 < hN h ∨ (20 ≤ q.2 ∧ q.2 < 20 + hP h)) {n : Nat} (hf : evF T L n j = 0) : okLine h (evL T L j).1 (evL T L j).2.1 (evL T L j).2.2 := by
  unfold evF at hf
  split at hf
  · exact absurd hf (wr_gt2 hT (by decide) (by decide) _)
  rename_i hv
  split at hf
  · exact absurd hf (wr_gt2 hT (by decide) (by decide) _)
  obtain ⟨k, k1, k2, -⟩ := onK_neg (by omega) hv
  have e1 : (evL T L j).1 = onK T j 8 5 := rfl
  have e2 : (evL T L j).2.1 = if onK T j 8 5 = 4 then 0 else toV T L 20 (j + 1) := rfl
  have e3 : (evL T L j).2.2 = if onK T j 8 5 = 4 ∨ onK T j 8 5 = 2 then 0 else toV T L 0 (j + 2) := rfl
  rw [e1, e2, e3]
  refine ⟨?_, fun h4 => ?_, fun h4 h2 => ?_⟩
  · rw [k2]
    have : k = 0 ∨ k = 1 ∨ k = 2 ∨ k = 3 ∨ k = 4 := by omega
    rcases this with rfl | rfl | rfl | rfl | rfl <;> decide
  · rw [if_neg h4] at hf ⊢
    split at hf
    · contradiction
    rename_i hq
    obtain ⟨-, -, i, i1, i2, -⟩ := toE_per hT hN7 hP5 hL (Classical.not_not.mp hq)
    rw [i2]
    exact ⟨nI_pos' (by omega), (nI_ltI (by omega) (by omega)).mpr i1⟩
  · rw [if_neg h4] at hf
    rw [if_neg (fun z => z.elim h4 h2)]
    split at hf
    · contradiction
    obtain ⟨i, i1, i2⟩ := toE_sea hT hN7 hP5 hL hf
    rw [i2]
    exact ⟨nI_pos' (by omega), (nI_ltI (by omega) (by omega)).mpr i1⟩
theorem evsP_ok (hT : T.length ≤ 1000) (hN7 : hN h ≤ 7) (hP5 : hP h ≤ 5) (hL : ∀ q ∈ L, q.2 < hN h ∨ (20 ≤ q.2 ∧ q.2 < 20 + hP h)) : ∀ (m j : Nat) (E : LN), (∀ x ∈ E, okLine h x.1 x.2.1 x.2.2) → (evsP T L m j E).1 = 0 → ∀ x ∈ (evsP T L m j E).2.2, okLine h x.1 x.2.1 x.2.2
  | 0, _, _, hE, _ => hE
  | m + 1, j, E, hE, hf => by
    unfold evsP at hf ⊢
    split at hf
    · rename_i c
      rw [if_pos c]
      exact hE
    rename_i c
    rw [if_neg c]
    split at hf
    · contradiction
    rename_i c1
    rw [if_neg c1]
    split at hf
    · rename_i c2
      rw [if_pos c2]
      refine evsP_ok hT hN7 hP5 hL m _ _ (fun x hx => ?_) hf
      rcases List.mem_append.mp hx with z | z
      · exact hE x z
      · rw [List.mem_singleton] at z
        rw [z]
        exact evL_ok hT hN7 hP5 hL (Classical.not_not.mp c1)
    · exact absurd hf (wr_gt2 hT (by decide) (by decide) _)
theorem lvE_ok (hl : E.length ≤ 40) (hE : ∀ x ∈ E, okLine h x.1 x.2.1 x.2.2) : okLn h (lvE E) := by
  refine ⟨hl, fun k hk => ?_⟩
  have hk' : k < E.length := hk
  have e0 := fun c => lvE_at (c := c) (List.getElem?_eq_getElem hk')
  rw [e0, e0, e0]
  exact hE _ (List.getElem_mem hk')
set_option maxHeartbeats 4000000 in
theorem b_evening (hk : okX t X) (ht : t ≤ 520) (hTl : (XT X).length ≤ 1000) : stp e 6 4 M_X11_evening M_X12_evening [.ref 0] [.ref 226] t X := by
  have hN7 := hk.1.1
  have hP5 := hk.1.2.1
  have hnm := hk.2.2.2.2.2.2.2.2.2
  by_cases hf : (evenP (XT X) (XN X)).1 = 0
  · have hle := evsP_ok (h := XH X) hTl hN7 hP5 hnm 1000 0 [] (fun x hx => absurd hx List.not_mem_nil) hf
    by_cases hl4 : (evenP (XT X) (XN X)).2.2.length ≤ 40
    · refine ⟨(evenP (XT X) (XN X)).1, nLn X (lvE (evenP (XT X) (XN X)).2.2), ?_, ?_, ?_⟩
      · intro F I G J ha hb ea eb hX
        obtain ⟨h1, h2, h3, h4, h5, h6, h7, h8', h9, h10⟩ := hX
        have ca : ha = 5 ∨ ha = 17 := h1.a
        have ce : eb = 29 ∨ eb = 33 := h2.b
        refine Y.post (f_evening h1.a h2 h3 h5) ?_
        rintro _ _ ⟨rfl, F', I', G', ea', eb', rfl, z2, o, -, -, on⟩
        obtain ⟨rfl, rfl, hE⟩ := on hf
        refine ⟨rfl, F', I', G', J, ha, hb, ea', eb', rfl, fun c hc => ⟨(o c (by unfold pV; omega)).1, (o c (by unfold pV; omega)).2, rfl⟩, h1, h2.s, tapC_nil z2, h4.frm o (fun j hj => by unfold pV; omega), h5.frm (o ha (by unfold pV; omega)).1 rfl rfl, ?_, h7.no (fun c hc => by unfold pV at hc; omega) o, h8'.frm o (fun j hj => by unfold pV; omega), h9.frm o (fun c hc => by unfold pV at hc; omega), hE.lin h2.b⟩
        show svC F' I' 37 = XV X
        rw [o.sv (fun j hj => by unfold pV; omega)]
        exact h6
      · intro F I G J ha hb ea eb hX
        obtain ⟨h1, h2, h3, h4, h5, h6, h7, h8', h9, h10⟩ := hX
        refine Y.post (k_evening hTl h1 h10.1 h4) ?_
        rintro _ _ ⟨rfl, F', I', J', rfl, z2, oF, oI, oJ, -, on⟩
        obtain ⟨c1, c2, c3⟩ := on hf
        have e42 : I' 242 = I 242 := oI 242 (by decide) (by decide) (by decide)
        refine ⟨rfl, F', I', G, J', rfl, fun c hc => ⟨?_, oI c (by omega) (by omega) (by omega), oJ c (by omega)⟩, ?_, tapR_nil z2, h2.off (oI 232 (by decide) (by decide) (by decide)) (oI 233 (by decide) (by decide) (by decide)) (oI 234 (by decide) (by decide) (by decide)) (oI 244 (by decide) (by decide) (by decide)), ?_, ?_, ?_, ?_, ?_, ⟨c1, fun k hk' => ?_⟩, fun m hm => ?_, fun x hx => ?_, ?_⟩
        · funext k
          exact oF c k (by omega)
        · funext k
          exact oF 999 k (by omega)
        · show HR2 I' (XH X)
          unfold HR2
          rw [oI 232 (by decide) (by decide) (by decide)]
          exact h3
        · rw [oF 226 18 (by omega), oJ 235 (by decide), oI 237 (by decide) (by decide) (by decide)]
          exact h4
        · rw [e42]
          exact h5
        · rw [oF 226 25 (by omega), e42]
          exact h6
        · rw [e42]
          exact h7
        · have hk2 : k < (evenP (XT X) (XN X)).2.2.length := hk'
          have e0 := fun c => lvE_at (c := c) (List.getElem?_eq_getElem hk2)
          show I' 239 (1 + 3 * nI k) = (lvE (evenP (XT X) (XN X)).2.2).2 0 k ∧ I' 239 (2 + 3 * nI k) = (lvE (evenP (XT X) (XN X)).2.2).2 1 k ∧ I' 239 (3 + 3 * nI k) = (lvE (evenP (XT X) (XN X)).2.2).2 2 k
          rw [e0, e0, e0]
          exact c3 k _ _ _ (List.getElem?_eq_getElem hk2)
        · rw [e42, oI 243 (by decide) (by decide) (by decide)]
          exact h9 m hm
        · rw [oJ 231 (by decide)]
          exact h10.1 x hx
        · rw [oI 232 (by decide) (by decide) (by decide)]
          exact h10.2
      · obtain ⟨h1, h2, h3, h4, h5, h6, h7, h8, h9, h10⟩ := hk.mono (t' := t + 1) (by omega) (by omega)
        exact ⟨h1, h2, h3, h4, h5, h6, h7, h8, lvE_ok hl4 hle, h10⟩
    · -- never so long: the class's reader says so
      refine ⟨(evenP (XT X) (XN X)).1, nT X [], ?_, ?_, hk.mono (by omega) (by omega)⟩
      · intro F I G J ha hb ea eb hX
        obtain ⟨h1, h2, h3, h4, h5, h6, h7, h8', h9, h10⟩ := hX
        refine Y.post (f_evening h1.a h2 h3 h5) ?_
        rintro _ _ ⟨rfl, F', I', G', ea', eb', rfl, z2, o, -, -, on⟩
        exact absurd (on hf).2.2.2.1 hl4
      · intro F I G J ha hb ea eb hX
        refine Y.post (k_evening hTl hX.1 hX.2.2.2.2.2.2.2.2.2.1 hX.2.2.2.1) ?_
        rintro _ _ ⟨rfl, F', I', J', rfl, z2, oF, oI, oJ, -, on⟩
        exact absurd (on hf).2.1 hl4
  · refine ⟨(evenP (XT X) (XN X)).1, nT X [], ?_, ?_, hk.mono (by omega) (by omega)⟩
    · intro F I G J ha hb ea eb hX
      obtain ⟨h1, h2, h3, h4, h5, h6, h7, h8', h9, h10⟩ := hX
      have ca : ha = 5 ∨ ha = 17 := h1.a
      have ce : (ea = 29 ∧ eb = 33) ∨ (ea = 33 ∧ eb = 29) := h2
      refine Y.post (f_evening h1.a h2 h3 h5) ?_
      rintro _ _ ⟨rfl, F', I', G', ea', eb', rfl, z2, o, -, off, -⟩
      obtain ⟨rfl, rfl⟩ := off hf
      refine ⟨rfl, F', I', G', J, ha, hb, ea', eb', rfl, fun c hc => ⟨(o c (by unfold pV; omega)).1, (o c (by unfold pV; omega)).2, rfl⟩, h1, h2, tapC_nil z2, h4.frm o (fun j hj => by unfold pV; omega), h5.frm (o ha (by unfold pV; omega)).1 rfl rfl, ?_, h7.no (fun c hc => by unfold pV at hc; omega) o, h8'.frm o (fun j hj => by unfold pV; omega), h9.frm o (fun c hc => by unfold pV at hc; omega), h10.frm o (fun j hj => by unfold pV; omega)⟩
      show svC F' I' 37 = XV X
      rw [o.sv (fun j hj => by unfold pV; omega)]
      exact h6
    · intro F I G J ha hb ea eb hX
      obtain ⟨h1, h2, h3, h4, h5, h6, h7, h8', h9, h10⟩ := hX
      refine Y.post (k_evening hTl h1 h10.1 h4) ?_
      rintro _ _ ⟨rfl, F', I', J', rfl, z2, oF, oI, oJ, off, -⟩
      have ol := off hf
      have e42 : I' 242 = I 242 := oI 242 (by decide) (by decide) (by decide)
      refine ⟨rfl, F', I', G, J', rfl, fun c hc => ⟨?_, oI c (by omega) (by omega) (by omega), oJ c (by omega)⟩, ?_, tapR_nil z2, h2.off (oI 232 (by decide) (by decide) (by decide)) (oI 233 (by decide) (by decide) (by decide)) (oI 234 (by decide) (by decide) (by decide)) (oI 244 (by decide) (by decide) (by decide)), ?_, ?_, ?_, ?_, ?_, ?_, fun m hm => ?_, fun x hx => ?_, ?_⟩
      · funext k
        exact oF c k (by omega)
      · funext k
        exact oF 999 k (by omega)
      · show HR2 I' (XH X)
        unfold HR2
        rw [oI 232 (by decide) (by decide) (by decide)]
        exact h3
      · rw [oF 226 18 (by omega), oJ 235 (by decide), oI 237 (by decide) (by decide) (by decide)]
        exact h4
      · rw [e42]
        exact h5
      · rw [oF 226 25 (by omega), e42]
        exact h6
      · rw [e42]
        exact h7
      · obtain ⟨l1, l2⟩ := h8'
        have hl40 : (XLn X).1 ≤ 40 := hk.2.2.2.2.2.2.2.2.1.1
        refine ⟨by rw [ol 0 (by decide)]; exact l1, fun k hk' => ?_⟩
        have hk2 : k < (XLn X).1 := hk'
        have k0 : 0 ≤ nI k := nI_pos' (by omega)
        have k1 : nI k < 40 := (nI_ltI (b := 40) (by omega) (by omega)).mpr (by omega)
        rw [ol _ (by grind), ol _ (by grind), ol _ (by grind)]
        exact l2 k hk2
      · rw [e42, oI 243 (by decide) (by decide) (by decide)]
        exact h9 m hm
      · rw [oJ 231 (by decide)]
        exact h10.1 x hx
      · rw [oI 232 (by decide) (by decide) (by decide)]
        exact h10.2
end UF
