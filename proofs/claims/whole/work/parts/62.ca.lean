/-! THE CLASS: its scenes and halls in their cells; rows for them -/
def svC (F : Nat → Nat → Int32) (I : Nat → Int32 → Int32) (b : Nat) : SV := (F b 5, fun k i => match k with
  | 0 => cut 7 (I (b + 1)) i
  | 1 => cut 7 (I (b + 2)) i
  | 2 => cut 5 (I (b + 4)) i
  | 3 => cut 5 (I (b + 5)) i
  | 4 => cut 7 (I (b + 3)) i
  | _ => 0)
def isHl (c : Nat) : Prop := c = 5 ∨ c = 17
def HC (F : Nat → Nat → Int32) (I : Nat → Int32 → Int32) (c : Nat) (h : HV) : Prop := isHl c ∧ F c 9 = nI (hN h) ∧ hN h ≤ 7 ∧ F c 10 = nI (hP h) ∧ hP h ≤ 5 ∧ F c 11 = hLasts h ∧ (∀ s, 0 ≤ s → s < nI (hN h) → I (c + 2) s = hRow h s ∧ I (c + 3) s = hAt h s ∧ I (c + 4) s = hNear h s) ∧ (∀ p, 0 ≤ p → p < nI (hP h) → I (c + 6) p = hKind h p ∧ I (c + 7) p = hTold h p ∧ I (c + 8) p = hFoes h p) ∧ F (c + 9) 2 = nI (hCode h).length ∧ (hCode h).length ≤ 1000 ∧ (∀ k o, (hCode h)[k]? = some o → I (c + 10) (nI k) = o ∧ -12 ≤ o) ∧ (hCode h ≠ [] → dpS (hCode h) 0 = some 1)
def scOK (b : Nat) : Bool := S0[b]? == some (16, 0) && S0[b + 1]? == some (0, 7) && S0[b + 2]? == some (0, 7) && S0[b + 3]? == some (0, 7) && S0[b + 4]? == some (0, 5) && S0[b + 5]? == some (0, 5) && S0[b + 6]? == some (0, 7) && decide (37 ≤ b) && decide (b ≤ 210)
theorem sc_S {b : Nat} (hs : isSc b = true) : S0[b]? = some (16, 0) ∧ S0[b + 1]? = some (0, 7) ∧ S0[b + 2]? = some (0, 7) ∧ S0[b + 3]? = some (0, 7) ∧ S0[b + 4]? = some (0, 5) ∧ S0[b + 5]? = some (0, 5) ∧ S0[b + 6]? = some (0, 7) ∧ 37 ≤ b ∧ b ≤ 210 := by
  have hle : b < 211 := by
    unfold isSc at hs
    simp only [Bool.or_eq_true, Bool.and_eq_true, beq_iff_eq, decide_eq_true_iff] at hs
    omega
  have : ∀ b, b < 211 → (!isSc b || scOK b) = true := by decide +kernel
  have h2 := this b hle
  rw [hs, Bool.not_true, Bool.false_or] at h2
  unfold scOK at h2
  simp only [Bool.and_eq_true, beq_iff_eq, decide_eq_true_iff] at h2
  obtain ⟨⟨⟨⟨⟨⟨⟨⟨a1, a2⟩, a3⟩, a4⟩, a5⟩, a6⟩, a7⟩, a8⟩, a9⟩ := h2
  exact ⟨a1, a2, a3, a4, a5, a6, a7, a8, a9⟩
theorem sc_far {b c : Nat} (hs : isSc b = true) (ht : isSc c = true) (hne : c ≠ b) : c + 6 < b ∨ b + 6 < c := by
  unfold isSc at hs ht
  simp only [Bool.or_eq_true, Bool.and_eq_true, beq_iff_eq, decide_eq_true_iff] at hs ht
  omega
theorem sc_x {b : Nat} (hs : isSc b = true) : xis S0 b 16 = true := by
  unfold xis
  rw [(sc_S hs).1]
  rfl
theorem sc_P {b k h1 h2 e1 e2 : Nat} (hs : isSc b = true) (hk : k < 5) : P0 h1 h2 e1 e2 b k = some (b + 1 + k) := by
  have h := sc_S hs
  unfold P0
  rw [if_neg (by omega), if_neg (by omega), if_pos hs, if_pos hk]
theorem sc_P6 {b h1 h2 e1 e2 : Nat} (hs : isSc b = true) : P0 h1 h2 e1 e2 b 6 = some (b + 6) := by
  have h := sc_S hs
  unfold P0
  rw [if_neg (by omega), if_neg (by omega), if_pos hs]
  rfl
theorem hl_x {c : Nat} (hc : isHl c) : xis S0 c 12 = true := by rcases hc with rfl | rfl <;> rfl
theorem hl_P {c k h1 h2 e1 e2 : Nat} (hc : isHl c) (hk : k < 9) : P0 h1 h2 e1 e2 c k = some (c + 1 + k) := by
  rcases hc with rfl | rfl
  · show (if k < 9 then some (5 + 1 + k) else none) = _
    rw [if_pos hk]
  · show (if k < 9 then some (17 + 1 + k) else none) = _
    rw [if_pos hk]
theorem hl_S {c : Nat} (hc : isHl c) : S0[c + 1]? = some (1, 7) ∧ S0[c + 2]? = some (0, 7) ∧ S0[c + 3]? = some (0, 7) ∧ S0[c + 4]? = some (0, 7) ∧ S0[c + 5]? = some (1, 5) ∧ S0[c + 6]? = some (0, 5) ∧ S0[c + 7]? = some (0, 5) ∧ S0[c + 8]? = some (0, 5) ∧ S0[c + 9]? = some (14, 0) ∧ S0[c + 10]? = some (0, 1000) ∧ S0[c + 11]? = some (0, 32) ∧ c < 18 := by
  rcases hc with rfl | rfl <;> decide
theorem svC_ow {F : Nat → Nat → Int32} {I : Nat → Int32 → Int32} {b : Nat} {s : Int32} (h0 : 0 ≤ s) (h1 : s < 7) : owS (svC F I b) s = I (b + 1) s := if_pos ⟨h0, h1⟩
theorem svC_fr {F : Nat → Nat → Int32} {I : Nat → Int32 → Int32} {b : Nat} {s : Int32} (h0 : 0 ≤ s) (h1 : s < 7) : frS (svC F I b) s = I (b + 2) s := if_pos ⟨h0, h1⟩
theorem svC_si {F : Nat → Nat → Int32} {I : Nat → Int32 → Int32} {b : Nat} {s : Int32} (h0 : 0 ≤ s) (h1 : s < 7) : siS (svC F I b) s = I (b + 3) s := if_pos ⟨h0, h1⟩
theorem svC_po {F : Nat → Nat → Int32} {I : Nat → Int32 → Int32} {b : Nat} {s : Int32} (h0 : 0 ≤ s) (h1 : s < 5) : poS (svC F I b) s = I (b + 4) s := if_pos ⟨h0, h1⟩
theorem svC_ch {F : Nat → Nat → Int32} {I : Nat → Int32 → Int32} {b : Nat} {s : Int32} (h0 : 0 ≤ s) (h1 : s < 5) : chS (svC F I b) s = I (b + 5) s := if_pos ⟨h0, h1⟩
/-- what a deed in the class's scene at b leaves as it was -/
def onS (b : Nat) (F : Nat → Nat → Int32) (I : Nat → Int32 → Int32) (F' : Nat → Nat → Int32) (I' : Nat → Int32 → Int32) : Prop := (∀ c k, ¬ (c = b ∧ k = 5) → F' c k = F c k) ∧ ∀ c, (c < b ∨ b + 6 < c) → c ≠ 16 → c ≠ 28 → I' c = I c
section CA0
variable {F F' F'' : Nat → Nat → Int32} {I I' I'' : Nat → Int32 → Int32} {b c : Nat} {h : HV} {v : SV}
theorem onS.refl : onS b F I F I := ⟨fun _ _ _ => rfl, fun _ _ _ _ => rfl⟩
theorem onS.trans (h1 : onS b F I F' I') (h2 : onS b F' I' F'' I'') : onS b F I F'' I'' := ⟨fun c k a => (h2.1 c k a).trans (h1.1 c k a), fun c a1 a2 a3 => (h2.2 c a1 a2 a3).trans (h1.2 c a1 a2 a3)⟩
/-- the same, the losses staying too -/
def onT (b : Nat) (F : Nat → Nat → Int32) (I : Nat → Int32 → Int32) (F' : Nat → Nat → Int32) (I' : Nat → Int32 → Int32) : Prop := onS b F I F' I' ∧ I' (b + 6) = I (b + 6)
theorem onT.refl : onT b F I F I := ⟨onS.refl, rfl⟩
theorem onT.trans (h1 : onT b F I F' I') (h2 : onT b F' I' F'' I'') : onT b F I F'' I'' := ⟨h1.1.trans h2.1, h2.2.trans h1.2⟩
theorem onS.put {i x : Int32} {j : Nat} (hj : 1 ≤ j ∧ j ≤ 6) : onS b F I F (xv I (b + j) i x) := ⟨fun _ _ _ => rfl, fun c a _ _ => xv_ne (by omega)⟩
theorem onT.put {i x : Int32} {j : Nat} (hj : 1 ≤ j ∧ j ≤ 5) : onT b F I F (xv I (b + j) i x) := ⟨onS.put (by omega), xv_ne (by omega)⟩
theorem onS.date {x : Int32} : onS b F I (xu F b 5 x) I := ⟨fun _ _ a => xu_ne a, fun _ _ _ _ => rfl⟩
theorem HC.on (hs : isSc b = true) (o : onS b F I F' I') (H : HC F I c h) : HC F' I' c h := by
  obtain ⟨a0, a1, a2, a3, a4, a5, a6, a7, a8, a9, a10, a11⟩ := H
  have hb := sc_S hs
  have hc := hl_S a0
  have n16 : c + 10 ≠ 16 ∧ c + 10 ≠ 28 := by rcases a0 with rfl | rfl <;> decide
  have eI : ∀ j, j ≤ 10 → c + j ≠ 16 → I' (c + j) = I (c + j) := fun j hj hq => o.2 (c + j) (Or.inl (by omega)) hq (by omega)
  have eF : ∀ j k, j ≤ 10 → F' (c + j) k = F (c + j) k := fun j k hj => o.1 (c + j) k (by omega)
  have q16 : ∀ j, 1 ≤ j → j ≤ 10 → c + j ≠ 16 := fun j h1 h2 => by rcases a0 with rfl | rfl <;> omega
  refine ⟨a0, (eF 0 9 (by omega)).trans a1, a2, (eF 0 10 (by omega)).trans a3, a4, (eF 0 11 (by omega)).trans a5, fun s s0 s1 => ?_, fun p p0 p1 => ?_, (eF 9 2 (by omega)).trans a8, a9, fun k o hk => ?_, a11⟩
  · rw [eI 2 (by omega) (q16 2 (by omega) (by omega)), eI 3 (by omega) (q16 3 (by omega) (by omega)), eI 4 (by omega) (q16 4 (by omega) (by omega))]
    exact a6 s s0 s1
  · rw [eI 6 (by omega) (q16 6 (by omega) (by omega)), eI 7 (by omega) (q16 7 (by omega) (by omega)), eI 8 (by omega) (q16 8 (by omega) (by omega))]
    exact a7 p p0 p1
  · rw [eI 10 (by omega) (q16 10 (by omega) (by omega))]
    exact a10 k o hk
theorem onS.sv (hs : isSc b = true) (ht : isSc c = true) (hne : c ≠ b) (o : onS b F I F' I') : svC F' I' c = svC F I c := by
  have h1 := sc_far hs ht hne
  have h2 := sc_S ht
  have eI : ∀ j, j ≤ 6 → I' (c + j) = I (c + j) := fun j hj => o.2 (c + j) (by omega) (by omega) (by omega)
  unfold svC
  rw [o.1 c 5 (by omega), eI 1 (by omega), eI 2 (by omega), eI 3 (by omega), eI 4 (by omega), eI 5 (by omega)]
theorem svC_up {i x : Int32} {j k N : Nat} (hi : 0 ≤ i ∧ i < (if j = 4 ∨ j = 5 then 5 else 7)) (hj : (j, k) ∈ [(1, 0), (2, 1), (4, 2), (5, 3), (3, 4)]) : svC F (xv I (b + j) i x) b = upS (svC F I b) k i x := by
  have e : ∀ m, m ≠ j → xv I (b + j) i x (b + m) = I (b + m) := fun m hm => xv_ne (by omega)
  have e2 : ∀ l, xv I (b + j) i x (b + j) l = if l = i then x else I (b + j) l := fun l => by
    rw [xv_row, row_same]
    rfl
  refine Prod.ext rfl ?_
  funext a l
  simp only [List.mem_cons, Prod.mk.injEq, List.not_mem_nil, or_false] at hj
  obtain ⟨i0, i1⟩ := hi
  have cq : ∀ (N y : Int32) (f : Int32 → Int32), i < N → cut N (fun l => if l = i then x else f l) l = if l = i then x else cut N f l := fun N y f hN => by
    unfold cut
    by_cases q : l = i
    · subst q
      rw [if_pos ⟨i0, hN⟩, if_pos rfl]
      exact if_pos rfl
    · simp only [q, if_false]
  rcases hj with ⟨rfl, rfl⟩ | ⟨rfl, rfl⟩ | ⟨rfl, rfl⟩ | ⟨rfl, rfl⟩ | ⟨rfl, rfl⟩
  all_goals
    have e3 := funext e2
    match a with
    | 0 => first | (simp only [svC, upS]; rw [e 1 (by decide), if_neg (by simp)]; done) | (simp only [svC, upS, e3, true_and]; exact cq 7 0 _ (by simpa using i1))
    | 1 => first | (simp only [svC, upS]; rw [e 2 (by decide), if_neg (by simp)]; done) | (simp only [svC, upS, e3, true_and]; exact cq 7 0 _ (by simpa using i1))
    | 2 => first | (simp only [svC, upS]; rw [e 4 (by decide), if_neg (by simp)]; done) | (simp only [svC, upS, e3, true_and]; exact cq 5 0 _ (by simpa using i1))
    | 3 => first | (simp only [svC, upS]; rw [e 5 (by decide), if_neg (by simp)]; done) | (simp only [svC, upS, e3, true_and]; exact cq 5 0 _ (by simpa using i1))
    | 4 => first | (simp only [svC, upS]; rw [e 3 (by decide), if_neg (by simp)]; done) | (simp only [svC, upS, e3, true_and]; exact cq 7 0 _ (by simpa using i1))
    | a + 5 => simp only [svC, upS]; rw [if_neg (by omega)]
theorem svC_u1 {i x : Int32} (h0 : 0 ≤ i) (h1 : i < 7) : svC F (xv I (b + 1) i x) b = upS (svC F I b) 0 i x := svC_up (j := 1) (k := 0) (N := 0) ⟨h0, by simpa using h1⟩ (by decide)
theorem svC_u2 {i x : Int32} (h0 : 0 ≤ i) (h1 : i < 7) : svC F (xv I (b + 2) i x) b = upS (svC F I b) 1 i x := svC_up (j := 2) (k := 1) (N := 0) ⟨h0, by simpa using h1⟩ (by decide)
theorem svC_u3 {i x : Int32} (h0 : 0 ≤ i) (h1 : i < 7) : svC F (xv I (b + 3) i x) b = upS (svC F I b) 4 i x := svC_up (j := 3) (k := 4) (N := 0) ⟨h0, by simpa using h1⟩ (by decide)
theorem svC_u4 {i x : Int32} (h0 : 0 ≤ i) (h1 : i < 5) : svC F (xv I (b + 4) i x) b = upS (svC F I b) 2 i x := svC_up (j := 4) (k := 2) (N := 0) ⟨h0, by simpa using h1⟩ (by decide)
theorem svC_u5 {i x : Int32} (h0 : 0 ≤ i) (h1 : i < 5) : svC F (xv I (b + 5) i x) b = upS (svC F I b) 3 i x := svC_up (j := 5) (k := 3) (N := 0) ⟨h0, by simpa using h1⟩ (by decide)
theorem svC_lo {i x : Int32} : svC F (xv I (b + 6) i x) b = svC F I b := by
  have e : ∀ m, m ≠ 6 → xv I (b + 6) i x (b + m) = I (b + m) := fun m hm => xv_ne (by omega)
  unfold svC
  rw [e 1 (by decide), e 2 (by decide), e 3 (by decide), e 4 (by decide), e 5 (by decide)]
theorem svC_date {x : Int32} : svC (xu F b 5 x) I b = (x, (svC F I b).2) := by
  unfold svC
  rw [xu_same]
end CA0
section CA1
variable {e : Bool × Int32 × (Int32 → Int32)} {d : Nat} {K : List xA} {ix : Nat} {L : xL} {st : List Value} {r : Option Value → xM → Prop} {F : Nat → Nat → Int32} {I : Nat → Int32 → Int32} {G : Nat → Nat → Int64} {J : Nat → Int32 → Int64} {ha hb ea eb b c : Nat} {h : HV} {v : SV} {i x : Int32}
theorem z_sO (hs : isSc b = true) (k : X e d K (ix + 1) L (.ref (b + 1) :: st) (F, I, G, J, P0 ha hb ea eb, Q0, S0) r) : Z (.inr (.inr (3, [6, 0]))) e d K ix L (.ref b :: st) (F, I, G, J, P0 ha hb ea eb, Q0, S0) r := z_gP (sc_x hs) (sc_P hs (by decide)) k
theorem z_sF (hs : isSc b = true) (k : X e d K (ix + 1) L (.ref (b + 2) :: st) (F, I, G, J, P0 ha hb ea eb, Q0, S0) r) : Z (.inr (.inr (3, [6, 1]))) e d K ix L (.ref b :: st) (F, I, G, J, P0 ha hb ea eb, Q0, S0) r := z_gP (sc_x hs) (sc_P hs (by decide)) k
theorem z_sS (hs : isSc b = true) (k : X e d K (ix + 1) L (.ref (b + 3) :: st) (F, I, G, J, P0 ha hb ea eb, Q0, S0) r) : Z (.inr (.inr (3, [6, 2]))) e d K ix L (.ref b :: st) (F, I, G, J, P0 ha hb ea eb, Q0, S0) r := z_gP (sc_x hs) (sc_P hs (by decide)) k
theorem z_sP (hs : isSc b = true) (k : X e d K (ix + 1) L (.ref (b + 4) :: st) (F, I, G, J, P0 ha hb ea eb, Q0, S0) r) : Z (.inr (.inr (3, [6, 3]))) e d K ix L (.ref b :: st) (F, I, G, J, P0 ha hb ea eb, Q0, S0) r := z_gP (sc_x hs) (sc_P hs (by decide)) k
theorem z_sC (hs : isSc b = true) (k : X e d K (ix + 1) L (.ref (b + 5) :: st) (F, I, G, J, P0 ha hb ea eb, Q0, S0) r) : Z (.inr (.inr (3, [6, 4]))) e d K ix L (.ref b :: st) (F, I, G, J, P0 ha hb ea eb, Q0, S0) r := z_gP (sc_x hs) (sc_P hs (by decide)) k
theorem z_sL (hs : isSc b = true) (k : X e d K (ix + 1) L (.ref (b + 6) :: st) (F, I, G, J, P0 ha hb ea eb, Q0, S0) r) : Z (.inr (.inr (3, [6, 6]))) e d K ix L (.ref b :: st) (F, I, G, J, P0 ha hb ea eb, Q0, S0) r := z_gP (sc_x hs) (sc_P6 hs) k
theorem z_sD (hs : isSc b = true) (hv : svC F I b = v) (k : X e d K (ix + 1) L (.int v.1 :: st) (F, I, G, J, P0 ha hb ea eb, Q0, S0) r) : Z (.inr (.inr (1, [6, 5]))) e d K ix L (.ref b :: st) (F, I, G, J, P0 ha hb ea eb, Q0, S0) r := z_gI (sc_x hs) (by rw [show F b 5 = v.1 by rw [← hv]; rfl]; exact k)
theorem z_spD (hs : isSc b = true) (hv : svC F I b = v) (k : ∀ F', onS b F I F' I → svC F' I b = (x, v.2) → X e d K (ix + 1) L st (F', I, G, J, P0 ha hb ea eb, Q0, S0) r) : Z (.inr (.inr (4, [6, 5]))) e d K ix L (.int x :: .ref b :: st) (F, I, G, J, P0 ha hb ea eb, Q0, S0) r := z_pI (sc_x hs) (k _ onS.date (by rw [svC_date, hv]))
theorem z_lO (hv : svC F I b = v) (hs : isSc b = true) (h0 : 0 ≤ i) (h1 : i < 7) (k : X e d K (ix + 1) L (.int (owS v i) :: st) (F, I, G, J, P0 ha hb ea eb, Q0, S0) r) : Z (.inl .iaload) e d K ix L (.int i :: .ref (b + 1) :: st) (F, I, G, J, P0 ha hb ea eb, Q0, S0) r := z_iaload (sc_S hs).2.1 h0 h1 (by have := sc_S hs; omega) (by rw [← svC_ow (F := F) (I := I) (b := b) h0 h1, hv]; exact k)
theorem z_lF (hv : svC F I b = v) (hs : isSc b = true) (h0 : 0 ≤ i) (h1 : i < 7) (k : X e d K (ix + 1) L (.int (frS v i) :: st) (F, I, G, J, P0 ha hb ea eb, Q0, S0) r) : Z (.inl .iaload) e d K ix L (.int i :: .ref (b + 2) :: st) (F, I, G, J, P0 ha hb ea eb, Q0, S0) r := z_iaload (sc_S hs).2.2.1 h0 h1 (by have := sc_S hs; omega) (by rw [← svC_fr (F := F) (I := I) (b := b) h0 h1, hv]; exact k)
theorem z_lS (hv : svC F I b = v) (hs : isSc b = true) (h0 : 0 ≤ i) (h1 : i < 7) (k : X e d K (ix + 1) L (.int (siS v i) :: st) (F, I, G, J, P0 ha hb ea eb, Q0, S0) r) : Z (.inl .iaload) e d K ix L (.int i :: .ref (b + 3) :: st) (F, I, G, J, P0 ha hb ea eb, Q0, S0) r := z_iaload (sc_S hs).2.2.2.1 h0 h1 (by have := sc_S hs; omega) (by rw [← svC_si (F := F) (I := I) (b := b) h0 h1, hv]; exact k)
theorem z_lP (hv : svC F I b = v) (hs : isSc b = true) (h0 : 0 ≤ i) (h1 : i < 5) (k : X e d K (ix + 1) L (.int (poS v i) :: st) (F, I, G, J, P0 ha hb ea eb, Q0, S0) r) : Z (.inl .iaload) e d K ix L (.int i :: .ref (b + 4) :: st) (F, I, G, J, P0 ha hb ea eb, Q0, S0) r := z_iaload (sc_S hs).2.2.2.2.1 h0 h1 (by have := sc_S hs; omega) (by rw [← svC_po (F := F) (I := I) (b := b) h0 h1, hv]; exact k)
theorem z_lC (hv : svC F I b = v) (hs : isSc b = true) (h0 : 0 ≤ i) (h1 : i < 5) (k : X e d K (ix + 1) L (.int (chS v i) :: st) (F, I, G, J, P0 ha hb ea eb, Q0, S0) r) : Z (.inl .iaload) e d K ix L (.int i :: .ref (b + 5) :: st) (F, I, G, J, P0 ha hb ea eb, Q0, S0) r := z_iaload (sc_S hs).2.2.2.2.2.1 h0 h1 (by have := sc_S hs; omega) (by rw [← svC_ch (F := F) (I := I) (b := b) h0 h1, hv]; exact k)
theorem z_tO (hv : svC F I b = v) (hs : isSc b = true) (h0 : 0 ≤ i) (h1 : i < 7) (k : ∀ I', onT b F I F I' → svC F I' b = upS v 0 i x → X e d K (ix + 1) L st (F, I', G, J, P0 ha hb ea eb, Q0, S0) r) : Z (.inl .iastore) e d K ix L (.int x :: .int i :: .ref (b + 1) :: st) (F, I, G, J, P0 ha hb ea eb, Q0, S0) r := z_iastore (sc_S hs).2.1 h0 h1 (by have := sc_S hs; omega) (k _ (onT.put (by omega)) (by rw [svC_u1 h0 h1, hv]))
theorem z_tF (hv : svC F I b = v) (hs : isSc b = true) (h0 : 0 ≤ i) (h1 : i < 7) (k : ∀ I', onT b F I F I' → svC F I' b = upS v 1 i x → X e d K (ix + 1) L st (F, I', G, J, P0 ha hb ea eb, Q0, S0) r) : Z (.inl .iastore) e d K ix L (.int x :: .int i :: .ref (b + 2) :: st) (F, I, G, J, P0 ha hb ea eb, Q0, S0) r := z_iastore (sc_S hs).2.2.1 h0 h1 (by have := sc_S hs; omega) (k _ (onT.put (by omega)) (by rw [svC_u2 h0 h1, hv]))
theorem z_tS (hv : svC F I b = v) (hs : isSc b = true) (h0 : 0 ≤ i) (h1 : i < 7) (k : ∀ I', onT b F I F I' → svC F I' b = upS v 4 i x → X e d K (ix + 1) L st (F, I', G, J, P0 ha hb ea eb, Q0, S0) r) : Z (.inl .iastore) e d K ix L (.int x :: .int i :: .ref (b + 3) :: st) (F, I, G, J, P0 ha hb ea eb, Q0, S0) r := z_iastore (sc_S hs).2.2.2.1 h0 h1 (by have := sc_S hs; omega) (k _ (onT.put (by omega)) (by rw [svC_u3 h0 h1, hv]))
theorem z_tP (hv : svC F I b = v) (hs : isSc b = true) (h0 : 0 ≤ i) (h1 : i < 5) (k : ∀ I', onT b F I F I' → svC F I' b = upS v 2 i x → X e d K (ix + 1) L st (F, I', G, J, P0 ha hb ea eb, Q0, S0) r) : Z (.inl .iastore) e d K ix L (.int x :: .int i :: .ref (b + 4) :: st) (F, I, G, J, P0 ha hb ea eb, Q0, S0) r := z_iastore (sc_S hs).2.2.2.2.1 h0 h1 (by have := sc_S hs; omega) (k _ (onT.put (by omega)) (by rw [svC_u4 h0 h1, hv]))
theorem z_tC (hv : svC F I b = v) (hs : isSc b = true) (h0 : 0 ≤ i) (h1 : i < 5) (k : ∀ I', onT b F I F I' → svC F I' b = upS v 3 i x → X e d K (ix + 1) L st (F, I', G, J, P0 ha hb ea eb, Q0, S0) r) : Z (.inl .iastore) e d K ix L (.int x :: .int i :: .ref (b + 5) :: st) (F, I, G, J, P0 ha hb ea eb, Q0, S0) r := z_iastore (sc_S hs).2.2.2.2.2.1 h0 h1 (by have := sc_S hs; omega) (k _ (onT.put (by omega)) (by rw [svC_u5 h0 h1, hv]))
theorem z_hN (H : HC F I c h) (k : X e d K (ix + 1) L (.int (nI (hN h)) :: st) (F, I, G, J, P0 ha hb ea eb, Q0, S0) r) : Z (.inr (.inr (1, [2, 9]))) e d K ix L (.ref c :: st) (F, I, G, J, P0 ha hb ea eb, Q0, S0) r := z_gI (hl_x H.1) (by rw [H.2.1]; exact k)
theorem z_hP (H : HC F I c h) (k : X e d K (ix + 1) L (.int (nI (hP h)) :: st) (F, I, G, J, P0 ha hb ea eb, Q0, S0) r) : Z (.inr (.inr (1, [2, 10]))) e d K ix L (.ref c :: st) (F, I, G, J, P0 ha hb ea eb, Q0, S0) r := z_gI (hl_x H.1) (by rw [H.2.2.2.1]; exact k)
theorem z_hLasts (H : HC F I c h) (k : X e d K (ix + 1) L (.int (hLasts h) :: st) (F, I, G, J, P0 ha hb ea eb, Q0, S0) r) : Z (.inr (.inr (1, [2, 11]))) e d K ix L (.ref c :: st) (F, I, G, J, P0 ha hb ea eb, Q0, S0) r := z_gI (hl_x H.1) (by rw [H.2.2.2.2.2.1]; exact k)
theorem z_hR (H : HC F I c h) (k : X e d K (ix + 1) L (.ref (c + 2) :: st) (F, I, G, J, P0 ha hb ea eb, Q0, S0) r) : Z (.inr (.inr (3, [2, 1]))) e d K ix L (.ref c :: st) (F, I, G, J, P0 ha hb ea eb, Q0, S0) r := z_gP (hl_x H.1) (hl_P H.1 (by decide)) k
theorem z_hA (H : HC F I c h) (k : X e d K (ix + 1) L (.ref (c + 3) :: st) (F, I, G, J, P0 ha hb ea eb, Q0, S0) r) : Z (.inr (.inr (3, [2, 2]))) e d K ix L (.ref c :: st) (F, I, G, J, P0 ha hb ea eb, Q0, S0) r := z_gP (hl_x H.1) (hl_P H.1 (by decide)) k
theorem z_hNe (H : HC F I c h) (k : X e d K (ix + 1) L (.ref (c + 4) :: st) (F, I, G, J, P0 ha hb ea eb, Q0, S0) r) : Z (.inr (.inr (3, [2, 3]))) e d K ix L (.ref c :: st) (F, I, G, J, P0 ha hb ea eb, Q0, S0) r := z_gP (hl_x H.1) (hl_P H.1 (by decide)) k
theorem z_hK (H : HC F I c h) (k : X e d K (ix + 1) L (.ref (c + 6) :: st) (F, I, G, J, P0 ha hb ea eb, Q0, S0) r) : Z (.inr (.inr (3, [2, 5]))) e d K ix L (.ref c :: st) (F, I, G, J, P0 ha hb ea eb, Q0, S0) r := z_gP (hl_x H.1) (hl_P H.1 (by decide)) k
theorem z_hT (H : HC F I c h) (k : X e d K (ix + 1) L (.ref (c + 7) :: st) (F, I, G, J, P0 ha hb ea eb, Q0, S0) r) : Z (.inr (.inr (3, [2, 6]))) e d K ix L (.ref c :: st) (F, I, G, J, P0 ha hb ea eb, Q0, S0) r := z_gP (hl_x H.1) (hl_P H.1 (by decide)) k
theorem z_hF (H : HC F I c h) (k : X e d K (ix + 1) L (.ref (c + 8) :: st) (F, I, G, J, P0 ha hb ea eb, Q0, S0) r) : Z (.inr (.inr (3, [2, 7]))) e d K ix L (.ref c :: st) (F, I, G, J, P0 ha hb ea eb, Q0, S0) r := z_gP (hl_x H.1) (hl_P H.1 (by decide)) k
theorem z_hW (H : HC F I c h) (k : X e d K (ix + 1) L (.ref (c + 9) :: st) (F, I, G, J, P0 ha hb ea eb, Q0, S0) r) : Z (.inr (.inr (3, [2, 8]))) e d K ix L (.ref c :: st) (F, I, G, J, P0 ha hb ea eb, Q0, S0) r := z_gP (hl_x H.1) (hl_P H.1 (by decide)) k
theorem HC.lt7 (H : HC F I c h) (h1 : i < nI (hN h)) : i < 7 := by have := nI_le7 H.2.2.1; grind
theorem HC.lt5 (H : HC F I c h) (h1 : i < nI (hP h)) : i < 5 := by have := nI_le5 H.2.2.2.2.1; grind
theorem z_lR (H : HC F I c h) (h0 : 0 ≤ i) (h1 : i < nI (hN h)) (k : X e d K (ix + 1) L (.int (hRow h i) :: st) (F, I, G, J, P0 ha hb ea eb, Q0, S0) r) : Z (.inl .iaload) e d K ix L (.int i :: .ref (c + 2) :: st) (F, I, G, J, P0 ha hb ea eb, Q0, S0) r := z_iaload (hl_S H.1).2.1 h0 (H.lt7 h1) (by have := hl_S H.1; omega) (by rw [(H.2.2.2.2.2.2.1 i h0 h1).1]; exact k)
theorem z_lA (H : HC F I c h) (h0 : 0 ≤ i) (h1 : i < nI (hN h)) (k : X e d K (ix + 1) L (.int (hAt h i) :: st) (F, I, G, J, P0 ha hb ea eb, Q0, S0) r) : Z (.inl .iaload) e d K ix L (.int i :: .ref (c + 3) :: st) (F, I, G, J, P0 ha hb ea eb, Q0, S0) r := z_iaload (hl_S H.1).2.2.1 h0 (H.lt7 h1) (by have := hl_S H.1; omega) (by rw [(H.2.2.2.2.2.2.1 i h0 h1).2.1]; exact k)
theorem z_lN (H : HC F I c h) (h0 : 0 ≤ i) (h1 : i < nI (hN h)) (k : X e d K (ix + 1) L (.int (hNear h i) :: st) (F, I, G, J, P0 ha hb ea eb, Q0, S0) r) : Z (.inl .iaload) e d K ix L (.int i :: .ref (c + 4) :: st) (F, I, G, J, P0 ha hb ea eb, Q0, S0) r := z_iaload (hl_S H.1).2.2.2.1 h0 (H.lt7 h1) (by have := hl_S H.1; omega) (by rw [(H.2.2.2.2.2.2.1 i h0 h1).2.2]; exact k)
theorem z_lK (H : HC F I c h) (h0 : 0 ≤ i) (h1 : i < nI (hP h)) (k : X e d K (ix + 1) L (.int (hKind h i) :: st) (F, I, G, J, P0 ha hb ea eb, Q0, S0) r) : Z (.inl .iaload) e d K ix L (.int i :: .ref (c + 6) :: st) (F, I, G, J, P0 ha hb ea eb, Q0, S0) r := z_iaload (hl_S H.1).2.2.2.2.2.1 h0 (H.lt5 h1) (by have := hl_S H.1; omega) (by rw [(H.2.2.2.2.2.2.2.1 i h0 h1).1]; exact k)
theorem z_lT (H : HC F I c h) (h0 : 0 ≤ i) (h1 : i < nI (hP h)) (k : X e d K (ix + 1) L (.int (hTold h i) :: st) (F, I, G, J, P0 ha hb ea eb, Q0, S0) r) : Z (.inl .iaload) e d K ix L (.int i :: .ref (c + 7) :: st) (F, I, G, J, P0 ha hb ea eb, Q0, S0) r := z_iaload (hl_S H.1).2.2.2.2.2.2.1 h0 (H.lt5 h1) (by have := hl_S H.1; omega) (by rw [(H.2.2.2.2.2.2.2.1 i h0 h1).2.1]; exact k)
theorem z_lE (H : HC F I c h) (h0 : 0 ≤ i) (h1 : i < nI (hP h)) (k : X e d K (ix + 1) L (.int (hFoes h i) :: st) (F, I, G, J, P0 ha hb ea eb, Q0, S0) r) : Z (.inl .iaload) e d K ix L (.int i :: .ref (c + 8) :: st) (F, I, G, J, P0 ha hb ea eb, Q0, S0) r := z_iaload (hl_S H.1).2.2.2.2.2.2.2.1 h0 (H.lt5 h1) (by have := hl_S H.1; omega) (by rw [(H.2.2.2.2.2.2.2.1 i h0 h1).2.2]; exact k)
theorem z_tL (hv : svC F I b = v) (hs : isSc b = true) (h0 : 0 ≤ i) (h1 : i < 7) (k : ∀ I', onS b F I F I' → svC F I' b = v → I' (b + 6) = up (I (b + 6)) i x → X e d K (ix + 1) L st (F, I', G, J, P0 ha hb ea eb, Q0, S0) r) : Z (.inl .iastore) e d K ix L (.int x :: .int i :: .ref (b + 6) :: st) (F, I, G, J, P0 ha hb ea eb, Q0, S0) r := z_iastore (sc_S hs).2.2.2.2.2.2.1 h0 h1 (by have := sc_S hs; omega) (k _ (onS.put (by omega)) (by rw [svC_lo, hv]) (by rw [xv_row, row_same]))
theorem z_lL (hs : isSc b = true) (h0 : 0 ≤ i) (h1 : i < 7) (k : X e d K (ix + 1) L (.int (I (b + 6) i) :: st) (F, I, G, J, P0 ha hb ea eb, Q0, S0) r) : Z (.inl .iaload) e d K ix L (.int i :: .ref (b + 6) :: st) (F, I, G, J, P0 ha hb ea eb, Q0, S0) r := z_iaload (sc_S hs).2.2.2.2.2.2.1 h0 h1 (by have := sc_S hs; omega) k
theorem z_wN (H : HC F I c h) (k : X e d K (ix + 1) L (.int (nI (hCode h).length) :: st) (F, I, G, J, P0 ha hb ea eb, Q0, S0) r) : Z (.inr (.inr (1, [4, 2]))) e d K ix L (.ref (c + 9) :: st) (F, I, G, J, P0 ha hb ea eb, Q0, S0) r := z_gI (by unfold xis; rw [(hl_S H.1).2.2.2.2.2.2.2.2.1]; rfl) (by rw [H.2.2.2.2.2.2.2.2.1]; exact k)
theorem z_wC (H : HC F I c h) (k : X e d K (ix + 1) L (.ref (c + 10) :: st) (F, I, G, J, P0 ha hb ea eb, Q0, S0) r) : Z (.inr (.inr (3, [4, 0]))) e d K ix L (.ref (c + 9) :: st) (F, I, G, J, P0 ha hb ea eb, Q0, S0) r := z_gP (by unfold xis; rw [(hl_S H.1).2.2.2.2.2.2.2.2.1]; rfl) (by rcases H.1 with rfl | rfl <;> rfl) k
theorem z_wS (hc : isHl c) (k : X e d K (ix + 1) L (.ref (c + 11) :: st) (F, I, G, J, P0 ha hb ea eb, Q0, S0) r) : Z (.inr (.inr (3, [4, 1]))) e d K ix L (.ref (c + 9) :: st) (F, I, G, J, P0 ha hb ea eb, Q0, S0) r := z_gP (by unfold xis; rw [(hl_S hc).2.2.2.2.2.2.2.2.1]; rfl) (by rcases hc with rfl | rfl <;> rfl) k
theorem z_wCn (hc : isHl c) (k : X e d K (ix + 1) L (.int 1000 :: st) (F, I, G, J, P0 ha hb ea eb, Q0, S0) r) : Z (.inl .arraylength) e d K ix L (.ref (c + 10) :: st) (F, I, G, J, P0 ha hb ea eb, Q0, S0) r := z_alen (hl_S hc).2.2.2.2.2.2.2.2.2.1 (by decide) (by have := hl_S hc; omega) k
theorem z_wSn (hc : isHl c) (k : X e d K (ix + 1) L (.int 32 :: st) (F, I, G, J, P0 ha hb ea eb, Q0, S0) r) : Z (.inl .arraylength) e d K ix L (.ref (c + 11) :: st) (F, I, G, J, P0 ha hb ea eb, Q0, S0) r := z_alen (hl_S hc).2.2.2.2.2.2.2.2.2.2.1 (by decide) (by have := hl_S hc; omega) k
theorem z_wL (hc : isHl c) (h0 : 0 ≤ i) (h1 : i < 1000) (k : X e d K (ix + 1) L (.int (I (c + 10) i) :: st) (F, I, G, J, P0 ha hb ea eb, Q0, S0) r) : Z (.inl .iaload) e d K ix L (.int i :: .ref (c + 10) :: st) (F, I, G, J, P0 ha hb ea eb, Q0, S0) r := z_iaload (hl_S hc).2.2.2.2.2.2.2.2.2.1 h0 h1 (by have := hl_S hc; omega) k
theorem z_wSl (hc : isHl c) (h0 : 0 ≤ i) (h1 : i < 32) (k : X e d K (ix + 1) L (.int (I (c + 11) i) :: st) (F, I, G, J, P0 ha hb ea eb, Q0, S0) r) : Z (.inl .iaload) e d K ix L (.int i :: .ref (c + 11) :: st) (F, I, G, J, P0 ha hb ea eb, Q0, S0) r := z_iaload (hl_S hc).2.2.2.2.2.2.2.2.2.2.1 h0 h1 (by have := hl_S hc; omega) k
theorem z_wSt (hc : isHl c) (h0 : 0 ≤ i) (h1 : i < 32) (k : X e d K (ix + 1) L st (F, xv I (c + 11) i x, G, J, P0 ha hb ea eb, Q0, S0) r) : Z (.inl .iastore) e d K ix L (.int x :: .int i :: .ref (c + 11) :: st) (F, I, G, J, P0 ha hb ea eb, Q0, S0) r := z_iastore (hl_S hc).2.2.2.2.2.2.2.2.2.2.1 h0 h1 (by have := hl_S hc; omega) k
theorem xswi_d {lo d0 : Nat} {ts : List Nat} (hx : x.toInt < (lo : Int) - 100 ∨ (lo : Int) - 100 + ts.length ≤ x.toInt) : xswi lo d0 ts x = d0 := by
  unfold xswi
  split
  · rfl
  · rename_i hn
    rw [List.getD_eq_getElem?_getD, List.getElem?_eq_none (by omega)]
    rfl
theorem sc_recv {args : List Value} (hs : isSc b = true) : xrecv (some 6) (.ref b :: args) (F, I, G, J, P0 ha hb ea eb, Q0, S0) = true := sc_x hs
theorem hc_recv {F1 : Nat → Nat → Int32} {I1 : Nat → Int32 → Int32} {args : List Value} (H : HC F I c h) : xrecv (some 2) (.ref c :: args) (F1, I1, G, J, P0 ha hb ea eb, Q0, S0) = true := hl_x H.1
theorem wl_recv {F1 : Nat → Nat → Int32} {I1 : Nat → Int32 → Int32} {args : List Value} (H : HC F I c h) : xrecv (some 4) (.ref (c + 9) :: args) (F1, I1, G, J, P0 ha hb ea eb, Q0, S0) = true := by
  show xis S0 (c + 9) 14 = true
  unfold xis
  rw [(hl_S H.1).2.2.2.2.2.2.2.2.1]
  rfl
end CA1
