/-! THE CONSTRUCTORS: an object while it is made -/
def noP (c : Nat) : Bool := !(c == 226) && !(c == 0) && !(isSc c) && !(c == 5 || c == 17) && !(c == 14 || c == 26) && !(c == 29 || c == 33 || c == 205 || c == 168 || c == 179 || c == 190 || c == 201) && !(c == 1) && !(c == 2) && !(c == 44) && !(c == 209) && !(c == 223)
def noQ (c : Nat) : Bool := !(c == 45) && !(c == 46) && !(c == 47) && !(c == 217)
def noF (c : Nat) : Bool := !(c == 5 || c == 17)
theorem noP_eq {c : Nat} (h : noP c = true) : P0v c = zP := by
  unfold noP at h
  simp only [Bool.and_eq_true, Bool.not_eq_true', Bool.or_eq_false_iff, beq_eq_false_iff_ne] at h
  obtain ⟨⟨⟨⟨⟨⟨⟨⟨⟨⟨h1, h2⟩, h3⟩, h4⟩, h5⟩, h6⟩, h7⟩, h8⟩, h9⟩, h10⟩, h11⟩ := h
  funext k
  unfold P0v P0 zP
  rw [if_neg h1, if_neg h2, if_neg (by rw [h3]; exact Bool.false_ne_true), if_neg (by omega), if_neg (by omega), if_neg (by omega), if_neg h7, if_neg h8, if_neg h9, if_neg h10, if_neg h11]
theorem noQ_eq {c : Nat} (h : noQ c = true) : Q0 c = zQ := by
  unfold noQ at h
  simp only [Bool.and_eq_true, Bool.not_eq_true', beq_eq_false_iff_ne] at h
  obtain ⟨⟨⟨h1, h2⟩, h3⟩, h4⟩ := h
  funext i
  unfold Q0 zQ
  rw [if_neg (fun z => h1 z.1), if_neg (fun z => h2 z.1), if_neg (fun z => h3 z.1), if_neg (fun z => h4 z.1)]
theorem noF_eq {c : Nat} (h : noF c = true) : F0v c = zF := by
  unfold noF at h
  simp only [Bool.not_eq_true', Bool.or_eq_false_iff, beq_eq_false_iff_ne] at h
  unfold F0v
  rw [if_neg (by omega)]
theorem fl_eq {c : Nat} (h : fl c = none) : I0v c = zI := by
  unfold I0v
  rw [h]
def rowP (l : List (Nat × Nat)) (k : Nat) : Option Nat := l.lookup k
/-- what was there before -/
abbrev B4 : Type := (Nat → Nat → Int32) × (Nat → Int32 → Int32) × (Nat → Nat → Option Nat) × (Nat → Int32 → Option Nat)
/-- the object b, its cells up to n: iv, qv what the arrays hold so far; l its fields so far -/
def CU (b n : Nat) (B : B4) (iv : Nat → Int32 → Int32) (qv : Nat → Int32 → Option Nat) (J : Nat → Int32 → Int64) (F : Nat → Nat → Int32) (I : Nat → Int32 → Int32) (P : Nat → Nat → Option Nat) (Q : Nat → Int32 → Option Nat) (l : List (Nat × Nat)) : Prop := b < n ∧ (∀ c, c < b → F c = B.1 c ∧ I c = B.2.1 c ∧ P c = B.2.2.1 c ∧ Q c = B.2.2.2 c) ∧ (∀ c, b < c → c < n → F c = F0v c ∧ I c = iv c ∧ P c = P0v c ∧ Q c = qv c) ∧ (∀ c, n ≤ c → F c = zF ∧ I c = zI ∧ J c = zJ ∧ P c = zP ∧ Q c = zQ) ∧ F b = zF ∧ I b = zI ∧ P b = rowP l ∧ Q b = zQ
def dn (b n : Nat) (B : B4) (F : Nat → Nat → Int32) (I : Nat → Int32 → Int32) (P : Nat → Nat → Option Nat) (Q : Nat → Int32 → Option Nat) : Prop := done b n B.1 F B.2.1 I B.2.2.1 P B.2.2.2 Q
/-- what a constructor leaves -/
def NP (b n : Nat) (F : Nat → Nat → Int32) (I : Nat → Int32 → Int32) (J : Nat → Int32 → Int64) (P : Nat → Nat → Option Nat) (Q : Nat → Int32 → Option Nat) (w : Option Value) (M' : xM) : Prop := w = none ∧ ∃ F' I' P' Q', M' = (F', I', Gz, J, P', Q', S0.take n) ∧ dn b n (F, I, P, Q) F' I' P' Q'
section VB
variable {e : Bool × Int32 × (Int32 → Int32)} {d : Nat} {K : List xA} {ix : Nat} {L : xL} {st : List Value} {r : Option Value → xM → Prop} {F : Nat → Nat → Int32} {I : Nat → Int32 → Int32} {G : Nat → Nat → Int64} {J : Nat → Int32 → Int64} {P : Nat → Nat → Option Nat} {Q : Nat → Int32 → Option Nat} {S : List (Nat × Int32)} {n n' b : Nat} {B : B4} {iv : Nat → Int32 → Int32} {qv : Nat → Int32 → Option Nat} {l : List (Nat × Nat)}
theorem xuP_self {k v : Nat} (h : P b = rowP l) : xu P b k (some v) b = rowP ((k, v) :: l) := by
  funext j
  unfold xu rowP
  rw [List.lookup_cons]
  by_cases q : j = k
  · subst q
    rw [if_pos ⟨rfl, rfl⟩]
    simp
  · rw [if_neg (fun z => q z.2), h]
    have : (j == k) = false := by simpa using q
    rw [this]
    rfl
theorem CU.start (h : bl b F I J P Q) : CU b (b + 1) (F, I, P, Q) iv qv J F I P Q [] := ⟨by omega, fun c _ => ⟨rfl, rfl, rfl, rfl⟩, fun c h1 h2 => by omega, fun c hc => h c (by omega), (h b (Nat.le_refl _)).1, (h b (Nat.le_refl _)).2.1, (h b (Nat.le_refl _)).2.2.2.1, (h b (Nat.le_refl _)).2.2.2.2⟩
theorem CU.arr {k0 : Nat} (C : CU b n B iv qv J F I P Q l) (hF : noF n = true) (hP : noP n = true) (hI : iv n = zI) (hQ : qv n = zQ) : CU b (n + 1) B iv qv J F I (xu P b k0 (some n)) Q ((k0, n) :: l) := by
  obtain ⟨c0, c1, c2, c3, c4, c5, c6, c7⟩ := C
  refine ⟨by omega, fun c hc => ?_, fun c h1 h2 => ?_, fun c hc => ?_, c4, c5, xuP_self c6, c7⟩
  · rw [xu_other (by omega)]
    exact c1 c hc
  · rw [xu_other (by omega)]
    by_cases q : c = n
    · subst q
      obtain ⟨z1, z2, -, z4, z5⟩ := c3 c (Nat.le_refl _)
      rw [noF_eq hF, hI, noP_eq hP, hQ]
      exact ⟨z1, z2, z4, z5⟩
    · exact c2 c h1 (by omega)
  · rw [xu_other (by omega)]
    exact c3 c (by omega)
theorem CU.obj {k0 : Nat} {F' : Nat → Nat → Int32} {I' : Nat → Int32 → Int32} {P' : Nat → Nat → Option Nat} {Q' : Nat → Int32 → Option Nat} (C : CU b n B iv qv J F I P Q l) (hn : n < n') (D : dn n n' (F, I, P, Q) F' I' P' Q') (hI : ∀ c, n ≤ c → c < n' → iv c = I0v c) (hQ : ∀ c, n ≤ c → c < n' → qv c = Q0 c) : CU b n' B iv qv J F' I' (xu P' b k0 (some n)) Q' ((k0, n) :: l) := by
  obtain ⟨c0, c1, c2, c3, c4, c5, c6, c7⟩ := C
  obtain ⟨d1, d2, d3⟩ := D
  have db := d1 b c0
  refine ⟨by omega, fun c hc => ?_, fun c h1 h2 => ?_, fun c hc => ?_, db.1.trans c4, db.2.1.trans c5, xuP_self (db.2.2.1.trans c6), db.2.2.2.trans c7⟩
  · rw [xu_other (by omega)]
    obtain ⟨a1, a2, a3, a4⟩ := d1 c (by omega)
    obtain ⟨b1, b2, b3, b4⟩ := c1 c hc
    exact ⟨a1.trans b1, a2.trans b2, a3.trans b3, a4.trans b4⟩
  · rw [xu_other (by omega)]
    by_cases q : c < n
    · obtain ⟨a1, a2, a3, a4⟩ := d1 c q
      obtain ⟨b1, b2, b3, b4⟩ := c2 c h1 q
      exact ⟨a1.trans b1, a2.trans b2, a3.trans b3, a4.trans b4⟩
    · obtain ⟨a1, a2, a3, a4⟩ := d2 c (by omega) h2
      rw [hI c (by omega) h2, hQ c (by omega) h2]
      exact ⟨a1, a2, a3, a4⟩
  · rw [xu_other (by omega)]
    obtain ⟨a1, a2, a3, a4⟩ := d3 c hc
    exact ⟨a1, a2, (c3 c (by omega)).2.2.1, a3, a4⟩
theorem CU.fin (C : CU b n B I0v Q0 J F I P Q l) (hF : noF b = true) (hI : fl b = none) (hQ : noQ b = true) (hP : rowP l = P0v b) : dn b n B F I P Q := by
  obtain ⟨c0, c1, c2, c3, c4, c5, c6, c7⟩ := C
  refine ⟨c1, fun c h1 h2 => ?_, fun c hc => ⟨(c3 c hc).1, (c3 c hc).2.1, (c3 c hc).2.2.2.1, (c3 c hc).2.2.2.2⟩⟩
  by_cases q : c = b
  · subst q
    rw [noF_eq hF, fl_eq hI, noQ_eq hQ, ← hP]
    exact ⟨c4, c5, c6, c7⟩
  · exact c2 c (by omega) h2
/-- a field of this object is a new array -/
theorem x_ca {ci k0 kk : Nat} {m : Int32} (C : CU b n B iv qv J F I P Q l) (h0 : K[ix]? = some (.inl (.aload 0))) (h1 : K[ix + 1]? = some (.inr (.inl (.int m)))) (h2 : K[ix + 2]? = some (.inr (.inr (51, [kk])))) (h3 : K[ix + 3]? = some (.inr (.inr (6, [ci, k0])))) (hL : L[0]? = some (some (.ref b))) (hSb : S0[b]? = some (10 + ci, 0)) (hSn : S0[n]? = some (kk, m)) (hn : n < 250) (h4 : kk < 4) (m0 : 0 ≤ m) (m1 : m < 5000) (hF : noF n = true) (hP : noP n = true) (hI : iv n = zI) (hQ : qv n = zQ) (k : ∀ P', CU b (n + 1) B iv qv J F I P' Q ((k0, n) :: l) → X e d K (ix + 4) L [] (F, I, G, J, P', Q, S0.take (n + 1)) r) : X e d K ix L [] (F, I, G, J, P, Q, S0.take n) r := by
  have z := C.2.2.2.1 n (Nat.le_refl _)
  exact x_fa h0 h1 h2 h3 hL hSb hSn C.1 hn z.2.1 z.2.2.1 h4 m0 m1 (k _ (C.arr hF hP hI hQ))
/-- a field of this object is a new object -/
theorem x_co {ci k0 ci2 kk dc : Nat} {q : xMeth} (C : CU b n B iv qv J F I P Q l) (h0 : K[ix]? = some (.inl (.aload 0))) (h1 : K[ix + 1]? = some (.inr (.inr (50, [ci2])))) (h2 : K[ix + 2]? = some (.inl .dup)) (h3 : K[ix + 3]? = some (.inr (.inr (41, [kk, ci2])))) (h5 : K[ix + 4]? = some (.inr (.inr (6, [ci, k0])))) (hL : L[0]? = some (some (.ref b))) (hSb : S0[b]? = some (10 + ci, 0)) (hSn : S0[n]? = some (10 + ci2, 0)) (hq : xMT[kk]? = some q) (hq1 : 1 = q.1) (hw : Nat.ble 1 q.2.1 = true) (hd : Nat.ble (dc + 1) d = true) (hn : n < n') (hn' : n' ≤ 250) (hN : bl n F I J P Q → Y e dc q [.ref n] (F, I, Gz, J, P, Q, S0.take (n + 1)) (NP n n' F I J P Q)) (hI : ∀ c, n ≤ c → c < n' → iv c = I0v c) (hQ : ∀ c, n ≤ c → c < n' → qv c = Q0 c) (k : ∀ F' I' P' Q', CU b n' B iv qv J F' I' P' Q' ((k0, n) :: l) → X e d K (ix + 5) L [] (F', I', Gz, J, P', Q', S0.take n') r) : X e d K ix L [] (F, I, Gz, J, P, Q, S0.take n) r := by
  have z := C.2.2.2.1
  have zn := z n (Nat.le_refl _)
  have cb := C.1
  refine X.f h0 (z_aload hL ?_)
  refine X.f h1 (z_new hSn (by omega) zn.1 zn.2.2.2.1 ?_)
  refine X.f h2 (z_dupr ?_)
  refine X.f h3 (z_cv (hN z) hq (args := [.ref n]) (rest := [.ref n, .ref b]) rfl hq1 rfl hw (tk_is (by omega) hSn) hd ?_)
  rintro _ _ ⟨rfl, F', I', P', Q', rfl, D⟩
  refine X.f h5 (z_pP (tk_is (by omega) hSb) (by rw [tk_len (by omega)]; omega) ?_)
  exact k _ _ _ _ (C.obj hn D hI hQ)
theorem n_X9 (hbl : bl 2 F I J P Q) : Y e 0 M_X9_init [.ref 2] (F, I, Gz, J, P, Q, S0.take 3) (NP 2 4 F I J P Q) := by
  unfold Y
  refine X.f rfl (z_aload rfl ?_)
  refine X.f rfl (z_67 (by decide) (by decide) ?_)
  refine x_ca (CU.start hbl) rfl rfl rfl rfl rfl (by decide) (by decide) (by decide) (by decide) (by decide) (by decide) (by decide) (by decide) (fl_eq (by decide)) (noQ_eq (by decide)) (fun P1 C1 => ?_)
  refine x_ret rfl rfl ⟨rfl, _, _, _, _, rfl, C1.fin (by decide) (by decide) (by decide) ?_⟩
  funext k
  match k with
  | 0 => rfl
  | 1 => rfl
  | k + 2 => rfl
end VB
