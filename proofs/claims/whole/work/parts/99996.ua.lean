/-! THE LAW: what both sides hold -/
abbrev KVX : Type := Nat → Option (SV × NV)
/-- tape, hall, names, scene, what can be undone, seen, marks, lines -/
abbrev XS : Type := List Int32 × HV × ND × SV × UV × NV × KVX × LV
abbrev XT (X : XS) : List Int32 := X.1
abbrev XH (X : XS) : HV := X.2.1
abbrev XN (X : XS) : ND := X.2.2.1
abbrev XV (X : XS) : SV := X.2.2.2.1
abbrev XU (X : XS) : UV := X.2.2.2.2.1
abbrev XE (X : XS) : NV := X.2.2.2.2.2.1
abbrev XK (X : XS) : KVX := X.2.2.2.2.2.2.1
abbrev XLn (X : XS) : LV := X.2.2.2.2.2.2.2
def clR (F : Nat → Nat → Int32) (I : Nat → Int32 → Int32) (J : Nat → Int32 → Int64) (ha hb ea eb : Nat) (X : XS) : Prop := hP2 ha hb ∧ eP2 ea eb ∧ tapC F I (XT X) ∧ HC F I ha (XH X) ∧ nmC F J ha (hN (XH X)) (hP (XH X)) (XN X) ∧ svC F I 37 = XV X ∧ undoC F I (XU X) ∧ seeC F I 205 (XE X) ∧ markC F I (XK X) ∧ linC F I ea (XLn X)
def rfR (F : Nat → Nat → Int32) (I : Nat → Int32 → Int32) (J : Nat → Int32 → Int64) (X : XS) : Prop := tapR (F 226 2) (I 227) (XT X) ∧ HR I (XH X) ∧ HR2 I (XH X) ∧ nmR (F 226 18) (J 235) (I 237) (XN X) ∧ svR (I 242) (hP (XH X)) 0 = XV X ∧ undoR (F 226 25) (I 242) (hP (XH X)) (XU X) ∧ seeR (I 242) 0 (XE X) ∧ linR (I 239) (XLn X) ∧ (∀ m, m < 4 → I 243 (nI m) = bI (XK X m).isSome ∧ ∀ x, XK X m = some x → svR (I 242) (hP (XH X)) (50 * (1 + nI m)) = x.1 ∧ seeR (I 242) (50 * (1 + nI m)) x.2) ∧ (∀ x, x < 24 → J 231 (nI x) = p37 (wdx x) 0) ∧ I 232 3 ≤ 0
/-- pockets, by how many calls at most -/
def poB (t : Nat) (v : SV) : Prop := ∀ k, k < 5 → 0 ≤ poS v (nI k) ∧ poS v (nI k) ≤ nI (9 + t)
def okX (t : Nat) (X : XS) : Prop := okH (XH X) ∧ nearOK (XH X) ∧ okS (XH X) (XV X) ∧ poB t (XV X) ∧ (XU X).1 ≤ 16 ∧ (∀ k, k < (XU X).1 → okS (XH X) ((XU X).2 k) ∧ poB t ((XU X).2 k)) ∧ okN (XH X) (XE X) ∧ (∀ m x, m < 4 → XK X m = some x → okS (XH X) x.1 ∧ poB t x.1 ∧ okN (XH X) x.2) ∧ okLn (XH X) (XLn X) ∧ (∀ q ∈ XN X, q.2 < hN (XH X) ∨ (20 ≤ q.2 ∧ q.2 < 20 + hP (XH X)))
/-- the class's cells stay; the reference's stay -/
def loS (F F' : Nat → Nat → Int32) (I I' : Nat → Int32 → Int32) (J J' : Nat → Int32 → Int64) : Prop := ∀ c, c < 226 → F' c = F c ∧ I' c = I c ∧ J' c = J c
def hiS (F F' : Nat → Nat → Int32) (I I' : Nat → Int32 → Int32) (J J' : Nat → Int32 → Int64) : Prop := ∀ c, 226 ≤ c → F' c = F c ∧ I' c = I c ∧ J' c = J c
section UA
variable {F F' : Nat → Nat → Int32} {I I' : Nat → Int32 → Int32} {J J' : Nat → Int32 → Int64} {ha hb ea eb c : Nat} {h : HV} {v : SV} {n : NV} {X : XS} {p : Nat → Prop}
theorem loS.frm (h : loS F F' I I' J J') : frm (fun c => 226 ≤ c) F I F' I' := fun c hc => ⟨(h c (by omega)).1, (h c (by omega)).2.1⟩
theorem seeC.frm (o : frm p F I F' I') (hc : ∀ j, j ≤ 3 → ¬ p (c + j)) (h : seeC F I c n) : seeC F' I' c n := by
  have e0 := o (c + 0) (hc 0 (by omega))
  have e1 := o (c + 1) (hc 1 (by omega))
  have e2 := o (c + 2) (hc 2 (by omega))
  have e3 := o (c + 3) (hc 3 (by omega))
  rw [Nat.add_zero] at e0
  unfold seeC at *
  rw [e0.1, e1.2, e2.2, e3.2]
  exact h
theorem markC.frm {mk : KVX} (o : frm p F I F' I') (hc : ∀ c, p c → ¬ (c = 48 ∨ (161 ≤ c ∧ c ≤ 204))) (h : markC F I mk) : markC F' I' mk := fun m hm => by
  obtain ⟨a, b⟩ := h m hm
  rw [(o 48 (fun q => hc _ q (Or.inl rfl))).2]
  refine ⟨a, fun x hx => ?_⟩
  obtain ⟨b1, b2⟩ := b x hx
  refine ⟨?_, b2.frm o (fun j hj q => hc _ q (Or.inr (by omega)))⟩
  rw [o.sv (fun j hj q => hc _ q (Or.inr (by omega)))]
  exact b1
theorem linC.frm {l : LV} (o : frm p F I F' I') (hc : ∀ j, j ≤ 3 → ¬ p (ea + j)) (h : linC F I ea l) : linC F' I' ea l := by
  have e0 := o (ea + 0) (hc 0 (by omega))
  have e1 := o (ea + 1) (hc 1 (by omega))
  have e2 := o (ea + 2) (hc 2 (by omega))
  have e3 := o (ea + 3) (hc 3 (by omega))
  rw [Nat.add_zero] at e0
  unfold linC at *
  rw [e0.1, e1.2, e2.2, e3.2]
  exact h
theorem tapC.frm {T : List Int32} (o : frm p F I F' I') (h2 : ¬ p 2) (h3 : ¬ p 3) (h : tapC F I T) : tapC F' I' T := by
  unfold tapC at *
  rw [(o 2 h2).1, (o 3 h3).2]
  exact h
theorem HC.frm (o : frm p F I F' I') (hc : ∀ j, j ≤ 10 → ¬ p (c + j)) (H : HC F I c h) : HC F' I' c h := by
  have e0 := o (c + 0) (hc 0 (by omega))
  have e : ∀ j, j ≤ 10 → F' (c + j) = F (c + j) ∧ I' (c + j) = I (c + j) := fun j hj => o _ (hc j hj)
  rw [Nat.add_zero] at e0
  unfold HC at *
  rw [e0.1, (e 9 (by omega)).1, (e 2 (by omega)).2, (e 3 (by omega)).2, (e 4 (by omega)).2, (e 6 (by omega)).2, (e 7 (by omega)).2, (e 8 (by omega)).2, (e 10 (by omega)).2]
  exact H
theorem nmC.frm {N P : Nat} {L : ND} (e0 : F' c = F c) (e1 : J' (c + 1) = J (c + 1)) (e5 : J' (c + 5) = J (c + 5)) (hn : nmC F J c N P L) : nmC F' J' c N P L := by
  unfold nmC at *
  rw [e0, e1, e5]
  exact hn
/-- the class's part where other cells are written -/
theorem clR.frm (o : frm p F I F' I') (oj : J' = J) (hp : ∀ c, p c → (16 = c ∨ 28 = c) ∨ 209 ≤ c) (h : clR F I J ha hb ea eb X) : clR F' I' J' ha hb ea eb X := by
  obtain ⟨h1, h2, h3, h4, h5, h6, h7, h8, h9, h10⟩ := h
  have hh := h1.a
  have he := h2.a
  have ca : ha = 5 ∨ ha = 17 := hh
  have ce : ea = 29 ∨ ea = 33 := he
  subst oj
  refine ⟨h1, h2, h3.frm o (fun q => by have := hp _ q; omega) (fun q => by have := hp _ q; omega), h4.frm o (fun j hj q => by have := hp _ q; omega), h5.frm (o ha (fun q => by have := hp _ q; omega)).1 rfl rfl, ?_, h7.no (fun c hc q => by have := hp _ hc; omega) o, h8.frm o (fun j hj q => by have := hp _ q; omega), h9.frm o (fun c hc q => by have := hp _ hc; omega), h10.frm o (fun j hj q => by have := hp _ q; omega)⟩
  rw [o.sv (fun j hj q => by have := hp _ q; omega)]
  exact h6
theorem clR.lo (o : loS F F' I I' J J') (h : clR F I J ha hb ea eb X) : clR F' I' J' ha hb ea eb X := by
  have h1 := h.1
  have ca : ha = 5 ∨ ha = 17 := h1.a
  have k := clR.frm (J' := J) o.frm rfl (fun c hc => Or.inr (by omega)) h
  obtain ⟨k1, k2, k3, k4, k5, k6⟩ := k
  refine ⟨k1, k2, k3, k4, ?_, k6⟩
  exact k5.frm rfl (o (ha + 1) (by omega)).2.2 (o (ha + 5) (by omega)).2.2
theorem rfR.hi (o : hiS F F' I I' J J') (h : rfR F I J X) : rfR F' I' J' X := by
  have e : ∀ c, 226 ≤ c → F' c = F c ∧ I' c = I c ∧ J' c = J c := o
  unfold rfR HR HR2 at *
  rw [(e 226 (by omega)).1, (e 227 (by omega)).2.1, (e 232 (by omega)).2.1, (e 233 (by omega)).2.1, (e 234 (by omega)).2.1, (e 235 (by omega)).2.2, (e 237 (by omega)).2.1, (e 239 (by omega)).2.1, (e 242 (by omega)).2.1, (e 243 (by omega)).2.1, (e 244 (by omega)).2.1, (e 231 (by omega)).2.2]
  exact h
theorem b50 {k : Nat} (hk : k ≤ 20) : 0 ≤ 50 * nI k ∧ 50 * nI k ≤ 1000 := by
  have k0 : 0 ≤ nI k := nI_pos' (by omega)
  have k1 : nI k ≤ 20 := (nI_leI (b := 20) (by omega) (by omega)).mpr hk
  exact ⟨by grind, by grind⟩
theorem b50_5 {k : Nat} (hk : k < 16) : 0 ≤ 50 * (5 + nI k) ∧ 50 * (5 + nI k) ≤ 1000 := by
  have e : (5 : Int32) + nI k = nI (5 + k) := by rw [nI_addN]; rfl
  rw [e]
  exact b50 (by omega)
theorem b50_1 {m : Nat} (hm : m < 4) : 50 ≤ 50 * (1 + nI m) ∧ 50 * (1 + nI m) ≤ 200 := by
  have k0 : 0 ≤ nI m := nI_pos' (by omega)
  have k1 : nI m < 4 := (nI_ltI (b := 4) (by omega) (by omega)).mpr hm
  exact ⟨by grind, by grind⟩
/-- a state's block out of its cells -/
theorem svR_cut {st st' : Int32 → Int32} {P : Nat} {b : Int32} (hP : P ≤ 5) (b0 : 0 ≤ b) (b1 : b ≤ 1000) (o : ∀ i, b ≤ i → i < b + 25 → st' i = st i) : svR st' P b = svR st P b := svR_ext hP ⟨b0, by grind⟩ o
theorem seeR_cut {st st' : Int32 → Int32} {b : Int32} {n : NV} (b0 : 0 ≤ b) (b1 : b ≤ 1000) (hn : n.1 ≤ 8) (o : ∀ i, b + 25 ≤ i → i < b + 50 → st' i = st i) (h : seeR st b n) : seeR st' b n := by
  obtain ⟨s1, s2⟩ := h
  refine ⟨by rw [o _ (by grind) (by grind)]; exact s1, fun k hk => ?_⟩
  have k0 : 0 ≤ nI k := nI_pos' (by omega)
  have k1 : nI k < 8 := (nI_ltI (b := 8) (by omega) (by omega)).mpr (by omega)
  rw [o _ (by grind) (by grind), o _ (by grind) (by grind), o _ (by grind) (by grind)]
  exact s2 k hk
/-- the reference's part behind a question -/
theorem rfR.ask {t : Nat} (hk : okX t X) (hF : F' 226 2 = F 226 2 ∧ F' 226 18 = F 226 18 ∧ F' 226 25 = F 226 25) (o : sameQ I I') (h : rfR F I J X) : rfR F' I' J X := by
  obtain ⟨h1, h2, h3, h4, h5, h6, h7, h8, h9, h10⟩ := h
  have hP5 := hk.1.2.1
  have hu := hk.2.2.2.2.1
  have e : ∀ c, c ≠ 240 → c ≠ 241 → c ≠ 242 → c ≠ 245 → c ≠ 246 → c ≠ 247 → c ≠ 248 → I' c = I c := o.1
  obtain ⟨f2, f18, f25⟩ := hF
  refine ⟨?_, o.HR h2, ?_, ?_, ?_, ?_, ?_, ?_, fun m hm => ?_, h10.1, by rw [e 232 (by decide) (by decide) (by decide) (by decide) (by decide) (by decide) (by decide)]; exact h10.2⟩
  · rw [f2, e 227 (by decide) (by decide) (by decide) (by decide) (by decide) (by decide) (by decide)]
    exact h1
  · unfold HR2
    rw [e 232 (by decide) (by decide) (by decide) (by decide) (by decide) (by decide) (by decide)]
    exact h3
  · rw [f18, e 237 (by decide) (by decide) (by decide) (by decide) (by decide) (by decide) (by decide)]
    exact h4
  · rw [svR_cut hP5 (by decide) (by decide) (fun i _ i1 => o.2 i (by grind))]
    exact h5
  · obtain ⟨u1, u2, u3⟩ := h6
    refine ⟨by rw [f25]; exact u1, u2, fun k hk' => ?_⟩
    obtain ⟨c0, c1⟩ := b50_5 (k := k) (by omega)
    rw [svR_cut hP5 c0 c1 (fun i _ i1 => o.2 i (by grind))]
    exact u3 k hk'
  · exact seeR_cut (by decide) (by decide) hk.2.2.2.2.2.2.1.1 (fun i _ i1 => o.2 i (by grind)) h7
  · rw [e 239 (by decide) (by decide) (by decide) (by decide) (by decide) (by decide) (by decide)]
    exact h8
  · obtain ⟨m1, m2⟩ := h9 m hm
    rw [e 243 (by decide) (by decide) (by decide) (by decide) (by decide) (by decide) (by decide)]
    refine ⟨m1, fun x hx => ?_⟩
    obtain ⟨y1, y2⟩ := m2 x hx
    obtain ⟨c0, c1⟩ := b50_1 hm
    refine ⟨?_, seeR_cut (by grind) (by grind) (hk.2.2.2.2.2.2.2.1 m x hm hx).2.2.1 (fun i _ i1 => o.2 i (by grind)) y2⟩
    rw [svR_cut hP5 (by grind) (by grind) (fun i _ i1 => o.2 i (by grind))]
    exact y1
end UA
