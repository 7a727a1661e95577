/-! THE CONSTRUCTORS: the past, looking ahead, the class -/
section VE
variable {e : Bool × Int32 × (Int32 → Int32)} {d : Nat} {K : List xA} {ix : Nat} {L : xL} {st : List Value} {r : Option Value → xM → Prop} {F : Nat → Nat → Int32} {I : Nat → Int32 → Int32} {G : Nat → Nat → Int64} {J : Nat → Int32 → Int64} {P : Nat → Nat → Option Nat} {Q : Nat → Int32 → Option Nat} {S : List (Nat × Int32)} {n n' b : Nat} {B : B4} {iv : Nat → Int32 → Int32} {qv qv' : Nat → Int32 → Option Nat} {l : List (Nat × Nat)}
theorem CU.sub {F' : Nat → Nat → Int32} {I' : Nat → Int32 → Int32} {P' : Nat → Nat → Option Nat} {Q' : Nat → Int32 → Option Nat} (C : CU b n B iv qv J F I P Q l) (hn : n < n') (D : dn n n' (F, I, P, Q) F' I' P' Q') (hI : ∀ c, n ≤ c → c < n' → iv c = I0v c) (hQ : ∀ c, n ≤ c → c < n' → qv c = Q0 c) : CU b n' B iv qv J F' I' P' Q' l := by
  obtain ⟨c0, c1, c2, c3, c4, c5, c6, c7⟩ := C
  obtain ⟨d1, d2, d3⟩ := D
  have db := d1 b c0
  refine ⟨by omega, fun c hc => ?_, fun c h1 h2 => ?_, fun c hc => ?_, db.1.trans c4, db.2.1.trans c5, db.2.2.1.trans c6, db.2.2.2.trans c7⟩
  · obtain ⟨a1, a2, a3, a4⟩ := d1 c (by omega)
    obtain ⟨b1, b2, b3, b4⟩ := c1 c hc
    exact ⟨a1.trans b1, a2.trans b2, a3.trans b3, a4.trans b4⟩
  · by_cases q : c < n
    · obtain ⟨a1, a2, a3, a4⟩ := d1 c q
      obtain ⟨b1, b2, b3, b4⟩ := c2 c h1 q
      exact ⟨a1.trans b1, a2.trans b2, a3.trans b3, a4.trans b4⟩
    · obtain ⟨a1, a2, a3, a4⟩ := d2 c (by omega) h2
      rw [hI c (by omega) h2, hQ c (by omega) h2]
      exact ⟨a1, a2, a3, a4⟩
  · obtain ⟨a1, a2, a3, a4⟩ := d3 c hc
    exact ⟨a1, a2, (c3 c (by omega)).2.2.1, a3, a4⟩
theorem CU.aset {c0 x : Nat} {i : Int32} (C : CU b n B iv qv J F I P Q l) (h0 : b < c0) (h1 : c0 < n) (h : ∀ c, b < c → c < n → qv' c = xv qv c0 i (some x) c) : CU b n B iv qv' J F I P (xv Q c0 i (some x)) l := by
  obtain ⟨k0, c1, c2, c3, c4, c5, c6, c7⟩ := C
  have o : ∀ c, c ≠ c0 → xv Q c0 i (some x) c = Q c := fun c hc => by
    funext j
    unfold xv
    rw [if_neg (fun z => hc z.1)]
  refine ⟨k0, fun c hc => ?_, fun c h2 h3 => ?_, fun c hc => ?_, c4, c5, c6, ?_⟩
  · rw [o c (by omega)]
    exact c1 c hc
  · obtain ⟨z1, z2, z3, z4⟩ := c2 c h2 h3
    refine ⟨z1, z2, z3, ?_⟩
    rw [h c h2 h3]
    funext j
    unfold xv
    rw [z4]
  · rw [o c (by omega)]
    exact c3 c hc
  · rw [o b (by omega)]
    exact c7
theorem CU.qch (C : CU b n B iv qv J F I P Q l) (h : ∀ c, b < c → c < n → qv c = qv' c) : CU b n B iv qv' J F I P Q l := by
  obtain ⟨c0, c1, c2, c3, c4, c5, c6, c7⟩ := C
  exact ⟨c0, c1, fun c h1 h2 => ⟨(c2 c h1 h2).1, (c2 c h1 h2).2.1, (c2 c h1 h2).2.2.1, (c2 c h1 h2).2.2.2.trans (h c h1 h2)⟩, c3, c4, c5, c6, c7⟩
theorem z_aast {c x : Nat} {i : Int32} (h : ((xin S c 4 i = true) ∧ (xis S x 16 = true)) ∨ ((xin S c 5 i = true) ∧ (xis S x 17 = true))) (k : X e d K (ix + 1) L st (F, I, G, J, P, xv Q c i (some x), S) r) : Z (.inl .aastore) e d K ix L (.ref x :: .int i :: .ref c :: st) (F, I, G, J, P, Q, S) r := fun hk => X.of_step hk rfl rfl (by
  simp only [xstep, xpure, xhI, if_pos h]) k
theorem tk_in {c kind : Nat} {i m : Int32} (h : c < n) (hS : S0[c]? = some (kind, m)) (h0 : 0 ≤ i) (h1 : i < m) : xin (S0.take n) c kind i = true := by
  unfold xin
  rw [tk_at h, hS]
  simp [h0, h1]
/-- a field of this object is a new array of objects -/
theorem x_cq {ci k0 kk : Nat} {m : Int32} (C : CU b n B iv qv J F I P Q l) (h0 : K[ix]? = some (.inl (.aload 0))) (h1 : K[ix + 1]? = some (.inr (.inl (.int m)))) (h2 : K[ix + 2]? = some (.inr (.inr (52, [kk])))) (h3 : K[ix + 3]? = some (.inr (.inr (6, [ci, k0])))) (hL : L[0]? = some (some (.ref b))) (hSb : S0[b]? = some (10 + ci, 0)) (hSn : S0[n]? = some (kk, m)) (hn : n < 250) (h4 : 4 ≤ kk) (h6 : kk < 6) (m0 : 0 ≤ m) (m1 : m < 5000) (hF : noF n = true) (hP : noP n = true) (hI : iv n = zI) (hQ : qv n = zQ) (k : ∀ P', CU b (n + 1) B iv qv J F I P' Q ((k0, n) :: l) → X e d K (ix + 4) L [] (F, I, G, J, P', Q, S0.take (n + 1)) r) : X e d K ix L [] (F, I, G, J, P, Q, S0.take n) r := by
  have z := C.2.2.2.1 n (Nat.le_refl _)
  have hb := C.1
  refine X.f h0 (z_aload hL ?_)
  refine X.f h1 (z_push ?_)
  refine X.f h2 (z_newQ hSn hn z.2.2.2.2 h4 h6 m0 m1 ?_)
  refine X.f h3 (z_pP (tk_is (by omega) hSb) (by rw [tk_len (by omega)]; omega) ?_)
  exact k _ (C.arr hF hP hI hQ)
/-- the past's arrays, as far as they are filled -/
def qA (k m p : Nat) (c : Nat) (i : Int32) : Option Nat := if c = 45 ∧ 0 ≤ i ∧ i < nI k then some (49 + 7 * i.toNatClampNeg) else if c = 46 ∧ 0 ≤ i ∧ i < nI m then some (161 + 11 * i.toNatClampNeg) else if c = 47 ∧ 0 ≤ i ∧ i < nI p then some (168 + 11 * i.toNatClampNeg) else none
theorem up_iff {k a c : Nat} {i : Int32} (hk : k < 100) (w : ¬ (c = a ∧ i = nI k)) : (c = a ∧ 0 ≤ i ∧ i < nI (k + 1)) ↔ (c = a ∧ 0 ≤ i ∧ i < nI k) := by
  have k0 : 0 ≤ nI k := nI_pos' (by omega)
  have k1 : nI k < 100 := (nI_ltI (b := 100) (by omega) (by omega)).mpr hk
  rw [nI_succ]
  constructor
  · rintro ⟨h1, h2, h3⟩
    have : i ≠ nI k := fun z => w ⟨h1, z⟩
    exact ⟨h1, h2, by grind⟩
  · rintro ⟨h1, h2, h3⟩
    exact ⟨h1, h2, by grind⟩
theorem up_at {k : Nat} (hk : k < 100) : 0 ≤ nI k ∧ nI k < nI (k + 1) := ⟨nI_pos' (by omega), (nI_ltI (by omega) (by omega)).mpr (by omega)⟩
theorem qA_5 {k m p : Nat} (hk : k < 16) : qA (k + 1) m p = xv (qA k m p) 45 (nI k) (some (49 + 7 * k)) := by
  funext c i
  unfold xv qA
  by_cases w : c = 45 ∧ i = nI k
  · obtain ⟨rfl, rfl⟩ := w
    rw [if_pos ⟨rfl, up_at (by omega)⟩, if_pos ⟨rfl, rfl⟩, nI_clamp (by omega)]
  · rw [if_neg w]
    simp only [up_iff (by omega) w]
theorem qA_6 {k m p : Nat} (hm : m < 4) : qA k (m + 1) p = xv (qA k m p) 46 (nI m) (some (161 + 11 * m)) := by
  funext c i
  unfold xv qA
  by_cases w : c = 46 ∧ i = nI m
  · obtain ⟨rfl, rfl⟩ := w
    rw [if_neg (fun z => absurd z.1 (by decide)), if_pos ⟨rfl, up_at (by omega)⟩, if_pos ⟨rfl, rfl⟩, nI_clamp (by omega)]
  · rw [if_neg w]
    simp only [up_iff (by omega) w]
theorem qA_7 {k m p : Nat} (hm : p < 4) : qA k m (p + 1) = xv (qA k m p) 47 (nI p) (some (168 + 11 * p)) := by
  funext c i
  unfold xv qA
  by_cases w : c = 47 ∧ i = nI p
  · obtain ⟨rfl, rfl⟩ := w
    rw [if_neg (fun z => absurd z.1 (by decide)), if_neg (fun z => absurd z.1 (by decide)), if_pos ⟨rfl, up_at (by omega)⟩, if_pos ⟨rfl, rfl⟩, nI_clamp (by omega)]
  · rw [if_neg w]
    simp only [up_iff (by omega) w]
theorem qA_0 {c : Nat} : qA 0 0 0 c = zQ := by
  have h : ∀ {a : Nat} {i : Int32}, ¬ (c = a ∧ 0 ≤ i ∧ i < nI 0) := fun z => by
    have : nI 0 = 0 := rfl
    grind
  funext i
  unfold qA
  rw [if_neg h, if_neg h, if_neg h]
  rfl
theorem qA_16 {c : Nat} (hc : c < 205) : qA 16 4 4 c = Q0 c := by
  funext i
  unfold Q0
  rw [if_neg (c := c = 217 ∧ 0 ≤ i ∧ i < 5) (fun w => by omega)]
  rfl
theorem qA_no {c k m p : Nat} (h : noQ c = true) : qA k m p c = Q0 c := by
  rw [noQ_eq h]
  unfold noQ at h
  simp only [Bool.and_eq_true, Bool.not_eq_true', beq_eq_false_iff_ne] at h
  obtain ⟨⟨⟨h1, h2⟩, h3⟩, h4⟩ := h
  funext i
  unfold qA
  rw [if_neg (fun w => h1 w.1), if_neg (fun w => h2 w.1), if_neg (fun w => h3 w.1)]
  rfl
end VE
