/-! THE REFERENCE: writes into a scene -/
theorem nI_le5 {P : Nat} (hP : P ≤ 5) : nI P ≤ 5 := (nI_leI (b := 5) (by omega) (by omega)).mpr hP
theorem nI_le7 {P : Nat} (hP : P ≤ 7) : nI P ≤ 7 := (nI_leI (b := 7) (by omega) (by omega)).mpr hP
theorem nI_ex {p : Int32} {P : Nat} (hP : P ≤ 1000) (p0 : 0 ≤ p) (p1 : p < nI P) : ∃ k, k < P ∧ p = nI k := by
  obtain ⟨j, hj, rfl⟩ := nI_of (x := p) (by grind)
  exact ⟨j, (nI_ltI hj (by omega)).mp p1, rfl⟩
theorem nI_ne {a b : Nat} (ha : a < 1000) (hb : b < 1000) (h : a ≠ b) : nI a ≠ nI b := fun q => h ((nI_eq (by omega) (by omega)).mp q)
theorem sitterF_none {f : Int32 → Int32} {s : Int32} : ∀ {P : Nat}, P ≤ 1000 → sitterF f s P < 0 → ∀ {k}, k < P → f (nI k) ≠ s
  | 0, _, _, k, hk => absurd hk (by omega)
  | P + 1, hP, h, k, hk => by
    unfold sitterF at h
    have h0 : 0 ≤ nI P := nI_pos' (by omega)
    split at h
    · grind
    · rename_i hne
      by_cases hkP : k = P
      · subst hkP; exact hne
      · exact sitterF_none (by omega) h (by omega)
theorem sitterF_ofnone {f : Int32 → Int32} {s : Int32} : ∀ {P : Nat}, (∀ k, k < P → f (nI k) ≠ s) → sitterF f s P = -1
  | 0, _ => rfl
  | P + 1, h => by
    unfold sitterF
    rw [if_neg (h P (by omega))]
    exact sitterF_ofnone (fun k hk => h k (by omega))
theorem sitterF_one {f : Int32 → Int32} {s : Int32} {k : Nat} : ∀ {P : Nat}, k < P → f (nI k) = s → (∀ j, j < P → j ≠ k → f (nI j) ≠ s) → sitterF f s P = nI k
  | 0, hk, _, _ => absurd hk (by omega)
  | P + 1, hk, hf, h => by
    unfold sitterF
    by_cases hkP : k = P
    · subst hkP; rw [if_pos hf]
    · rw [if_neg (h P (by omega) (fun q => hkP q.symm))]
      exact sitterF_one (by omega) hf (fun j hj => h j (by omega))
theorem sitterF_congr2 {f g : Int32 → Int32} {s : Int32} : ∀ {P : Nat}, (∀ k, k < P → (f (nI k) = s ↔ g (nI k) = s)) → sitterF f s P = sitterF g s P
  | 0, _ => rfl
  | P + 1, h => by
    unfold sitterF
    rw [sitterF_congr2 (P := P) (fun k hk => h k (by omega))]
    simp only [h P (by omega)]
theorem svR_up3 {st : Int32 → Int32} {P : Nat} {b p s : Int32} (hP : P ≤ 5) (hb : okB b) (p0 : 0 ≤ p) (p1 : p < nI P) (hs : 0 ≤ s) (hs1 : s < 7) (hc : st (b + 20 + p) < 0) (hn : sitterF (fun p => st (b + 20 + p)) s P < 0) : svR (up st (b + 20 + p) s) P b = upS (upS (svR st P b) 3 p s) 4 s p := by
  obtain ⟨hb0, hb1⟩ := hb
  have hp5 : p < 5 := by
    have := nI_le5 hP
    grind
  refine Prod.ext (by show up st _ _ b = st b; unfold up; grind) ?_
  funext k i
  match k with
  | 0 => simp only [svR, upS, cut, up]; grind
  | 1 => simp only [svR, upS, cut, up]; grind
  | 2 => simp only [svR, upS, cut, up]; grind
  | 3 => simp only [svR, upS, cut, up]; grind
  | 4 =>
    simp only [svR, upS, cut, true_and]
    obtain ⟨kp, hkp, rfl⟩ := nI_ex (by omega) p0 p1
    by_cases hi : i = s
    · subst hi
      rw [if_pos ⟨hs, hs1⟩, if_pos rfl]
      refine sitterF_one hkp (by unfold up; grind) (fun k hk hne => ?_)
      have h3 := sitterF_none (by omega) hn hk
      have hne' := nI_ne (by omega) (by omega) hne
      unfold up
      grind
    · rw [if_neg hi, if_neg (show ¬ ((4 : Nat) = 3 ∧ i = nI kp) by simp)]
      split
      · refine sitterF_congr2 (fun k hk => ?_)
        unfold up
        by_cases hq : k = kp
        · subst hq
          grind
        · have hne' := nI_ne (by omega) (by omega) hq
          rw [if_neg (by grind)]
      · rfl
  | k + 5 => simp only [svR, upS]; rw [if_neg (by omega), if_neg (by omega)]
theorem svR_rise {st : Int32 → Int32} {P : Nat} {b p c : Int32} (hP : P ≤ 5) (hb : okB b) (p0 : 0 ≤ p) (p1 : p < nI P) (hc : st (b + 20 + p) = c) (hs : 0 ≤ c) (hs1 : c < 7) (hn : ∀ k, k < P → nI k ≠ p → st (b + 20 + nI k) ≠ c) : svR (up st (b + 20 + p) (-1)) P b = upS (upS (svR st P b) 4 c (-1)) 3 p (-1) := by
  obtain ⟨hb0, hb1⟩ := hb
  have hp5 : p < 5 := by
    have := nI_le5 hP
    grind
  refine Prod.ext (by show up st _ _ b = st b; unfold up; grind) ?_
  funext k i
  match k with
  | 0 => simp only [svR, upS, cut, up]; grind
  | 1 => simp only [svR, upS, cut, up]; grind
  | 2 => simp only [svR, upS, cut, up]; grind
  | 3 => simp only [svR, upS, cut, up]; grind
  | 4 =>
    simp only [svR, upS, cut, true_and]
    obtain ⟨kp, hkp, rfl⟩ := nI_ex (by omega) p0 p1
    rw [if_neg (show ¬ ((4 : Nat) = 3 ∧ i = nI kp) by simp)]
    by_cases hi : i = c
    · subst hi
      rw [if_pos ⟨hs, hs1⟩, if_pos rfl]
      refine sitterF_ofnone (fun k hk => ?_)
      unfold up
      by_cases hq : k = kp
      · subst hq
        grind
      · have hne' := nI_ne (by omega) (by omega) hq
        have := hn k hk hne'
        grind
    · rw [if_neg hi]
      split
      · refine sitterF_congr2 (fun k hk => ?_)
        unfold up
        by_cases hq : k = kp
        · subst hq
          grind
        · have hne' := nI_ne (by omega) (by omega) hq
          rw [if_neg (by grind)]
      · rfl
  | k + 5 => simp only [svR, upS]; rw [if_neg (by omega), if_neg (by omega)]
theorem svR_date {st : Int32 → Int32} {P : Nat} {b x : Int32} (hP : P ≤ 5) (hb : okB b) : svR (up st b x) P b = (x, (svR st P b).2) := by
  obtain ⟨hb0, hb1⟩ := hb
  refine Prod.ext (by show up st _ _ b = x; unfold up; grind) ?_
  funext k i
  match k with
  | 0 => simp only [svR, cut, up]; grind
  | 1 => simp only [svR, cut, up]; grind
  | 2 => simp only [svR, cut, up]; grind
  | 3 => simp only [svR, cut, up]; grind
  | 4 =>
    simp only [svR, cut]
    split
    · refine sitterF_congr (fun k hk => ?_)
      obtain ⟨h0, h1, -⟩ := nI_lt5 hk hP
      unfold up
      grind
    · rfl
  | k + 5 => rfl
/-- what a deed in the scene at b leaves as it was -/
def sameR (I I' : Nat → Int32 → Int32) (b : Int32) : Prop := (∀ c, c ≠ 240 → c ≠ 241 → c ≠ 242 → c ≠ 245 → I' c = I c) ∧ ∀ i, (i < b ∨ b + 25 ≤ i) → I' 242 i = I 242 i
theorem sameR.refl {I : Nat → Int32 → Int32} {b : Int32} : sameR I I b := ⟨fun _ _ _ _ _ => rfl, fun _ _ => rfl⟩
theorem sameR.trans {I I' I'' : Nat → Int32 → Int32} {b : Int32} (h : sameR I I' b) (h' : sameR I' I'' b) : sameR I I'' b := ⟨fun c a1 a2 a3 a4 => (h'.1 c a1 a2 a3 a4).trans (h.1 c a1 a2 a3 a4), fun i hi => (h'.2 i hi).trans (h.2 i hi)⟩
theorem sameR.HR {I I' : Nat → Int32 → Int32} {b : Int32} {h : HV} (s : sameR I I' b) (H : HR I h) : HR I' h := H.off (s.1 232 (by decide) (by decide) (by decide) (by decide)) (s.1 233 (by decide) (by decide) (by decide) (by decide)) (s.1 234 (by decide) (by decide) (by decide) (by decide)) (s.1 244 (by decide) (by decide) (by decide) (by decide))
/-- nothing but the scene at b is written -/
def same2 (I I' : Nat → Int32 → Int32) (b : Int32) : Prop := (∀ c, c ≠ 242 → I' c = I c) ∧ ∀ i, (i < b ∨ b + 25 ≤ i) → I' 242 i = I 242 i
theorem same2.refl {I : Nat → Int32 → Int32} {b : Int32} : same2 I I b := ⟨fun _ _ => rfl, fun _ _ => rfl⟩
theorem same2.trans {I I' I'' : Nat → Int32 → Int32} {b : Int32} (h : same2 I I' b) (h' : same2 I' I'' b) : same2 I I'' b := ⟨fun c a => (h'.1 c a).trans (h.1 c a), fun i hi => (h'.2 i hi).trans (h.2 i hi)⟩
theorem same2.R {I I' : Nat → Int32 → Int32} {b : Int32} (h : same2 I I' b) : sameR I I' b := ⟨fun c _ _ a _ => h.1 c a, h.2⟩
theorem same2.HR {I I' : Nat → Int32 → Int32} {b : Int32} {h : HV} (s : same2 I I' b) (H : HR I h) : HR I' h := s.R.HR H
theorem same2.put {I : Nat → Int32 → Int32} {b i x : Int32} (h0 : b ≤ i) (h1 : i < b + 25) : same2 I (xv I 242 i x) b := by
  refine ⟨fun c hc => ?_, fun j hj => ?_⟩
  · funext j
    unfold xv
    rw [if_neg (fun q => hc q.1)]
  · unfold xv
    rw [if_neg (fun q => by grind)]
theorem HR.put {I : Nat → Int32 → Int32} {i x : Int32} {h : HV} (H : HR I h) : HR (xv I 242 i x) h := by
  have e : ∀ c, c ≠ 242 → xv I 242 i x c = I c := by
    intro c hc
    funext j
    unfold xv
    rw [if_neg (fun q => hc q.1)]
  exact H.off (e _ (by decide)) (e _ (by decide)) (e _ (by decide)) (e _ (by decide))
theorem xv_242 {I : Nat → Int32 → Int32} {i x : Int32} : xv I 242 i x 242 = up (I 242) i x := by rw [xv_row, row_same]
theorem x_zb {e : Bool × Int32 × (Int32 → Int32)} {d : Nat} {K : List xA} {ix : Nat} {L : xL} {M : xM} {r : Option Value → xM → Prop} {p : Prop} [Decidable p] (hr : r (some (.int (if p then 1 else 0))) M) (hk : K[ix]? = some (.inr (.inr (91, []))) := by rfl) : X e d K ix L [.int (if p then 1 else 0)] M r := by
  refine x_ret (v := some (.int (if p then 1 else 0))) hk ?_ hr
  split <;> rfl
section R3
variable {e : Bool × Int32 × (Int32 → Int32)} {F : Nat → Nat → Int32} {I : Nat → Int32 → Int32} {G : Nat → Nat → Int64} {J : Nat → Int32 → Int64} {ha hb ea eb : Nat} {h : HV} {b : Int32}
theorem q_puts {p s : Int32} (hH : HR I h) (hB : okB b) (p0 : 0 ≤ p) (p1 : p < 5) (h0 : 0 ≤ s) (h1 : s < 7) : Y e 2 M_X12_puts [.ref 226, .int b, .int p, .int s] (F, I, G, J, P0 ha hb ea eb, Q0, S0) (fun w M' => w = none ∧ ∃ I', M' = (F, I', G, J, P0 ha hb ea eb, Q0, S0) ∧ same2 I I' b ∧ svR (I' 242) (hP h) b = (putS h (svR (I 242) (hP h) b) p s)) := by
  obtain ⟨hB0, hB1⟩ := id hB
  unfold Y
  repeat (first | refine X.f rfl (z_iload rfl ?_) | refine X.f rfl (z_aload rfl ?_) | refine X.f rfl (z_push ?_) | refine X.f rfl (z_istore rfl ?_) | refine X.f rfl (z_gP rfl rfl ?_) | refine X.f rfl (z_gI rfl ?_) | refine X.f rfl (z_gotoF rfl ?_) | refine X.f rfl (z_iadd ?_) | refine X.f rfl (z_isub ?_) | refine X.f rfl (z_imul ?_) | refine X.f rfl (z_iand ?_) | refine X.f rfl (z_ior ?_) | refine X.f rfl (z_ishl ?_) | refine X.f rfl (z_ishr ?_) | refine X.f rfl (z_pI rfl ?_) | refine X.f rfl (z_inc80 rfl ?_) | refine X.f rfl (z_dup ?_) | refine X.f rfl (z_dupr ?_) | refine X.f rfl (z_dup2 ?_) | refine X.f rfl (z_pop ?_) | refine X.f rfl (z_ixor ?_) | refine X.f rfl (z_idiv (by decide) ?_) | refine X.f rfl (z_irem (by decide) ?_) | refine X.f rfl (z_ineg ?_) | refine X.f rfl (z_iaload rfl (by assumption) (by assumption) (by decide) ?_))
  refine X.f rfl (z_iastore rfl (by grind) (by grind) (by decide) ?_)
  repeat (first | refine X.f rfl (z_iload rfl ?_) | refine X.f rfl (z_aload rfl ?_) | refine X.f rfl (z_push ?_) | refine X.f rfl (z_istore rfl ?_) | refine X.f rfl (z_gP rfl rfl ?_) | refine X.f rfl (z_gI rfl ?_) | refine X.f rfl (z_gotoF rfl ?_) | refine X.f rfl (z_iadd ?_) | refine X.f rfl (z_isub ?_) | refine X.f rfl (z_imul ?_) | refine X.f rfl (z_iand ?_) | refine X.f rfl (z_ior ?_) | refine X.f rfl (z_ishl ?_) | refine X.f rfl (z_ishr ?_) | refine X.f rfl (z_pI rfl ?_) | refine X.f rfl (z_inc80 rfl ?_) | refine X.f rfl (z_dup ?_) | refine X.f rfl (z_dupr ?_) | refine X.f rfl (z_dup2 ?_) | refine X.f rfl (z_pop ?_) | refine X.f rfl (z_ixor ?_) | refine X.f rfl (z_idiv (by decide) ?_) | refine X.f rfl (z_irem (by decide) ?_) | refine X.f rfl (z_ineg ?_) | refine X.f rfl (z_iaload rfl (by assumption) (by assumption) (by decide) ?_))
  refine X.f rfl (z_cav (q_lifeOf hH.put p0 p1) rfl (by rfl) (by rfl) rfl rfl rfl rfl ?_)
  refine X.f rfl (z_iastore rfl (by grind) (by grind) (by decide) ?_)
  refine x_ret rfl rfl ⟨rfl, _, rfl, (same2.put (by grind) (by grind)).trans (same2.put (by grind) (by grind)), ?_⟩
  rw [xv_242, xv_242, svR_up1 hH.2.2.2.1 hB h0 h1, svR_up0 hH.2.2.2.1 hB h0 h1]
  rfl
theorem q_clears {s : Int32} (hH : HR I h) (hB : okB b) (h0 : 0 ≤ s) (h1 : s < 7) : Y e 0 M_X12_clears [.ref 226, .int b, .int s] (F, I, G, J, P0 ha hb ea eb, Q0, S0) (fun w M' => w = none ∧ ∃ I', M' = (F, I', G, J, P0 ha hb ea eb, Q0, S0) ∧ same2 I I' b ∧ svR (I' 242) (hP h) b = (clrS (svR (I 242) (hP h) b) s)) := by
  obtain ⟨hB0, hB1⟩ := id hB
  unfold Y
  repeat (first | refine X.f rfl (z_iload rfl ?_) | refine X.f rfl (z_aload rfl ?_) | refine X.f rfl (z_push ?_) | refine X.f rfl (z_istore rfl ?_) | refine X.f rfl (z_gP rfl rfl ?_) | refine X.f rfl (z_gI rfl ?_) | refine X.f rfl (z_gotoF rfl ?_) | refine X.f rfl (z_iadd ?_) | refine X.f rfl (z_isub ?_) | refine X.f rfl (z_imul ?_) | refine X.f rfl (z_iand ?_) | refine X.f rfl (z_ior ?_) | refine X.f rfl (z_ishl ?_) | refine X.f rfl (z_ishr ?_) | refine X.f rfl (z_pI rfl ?_) | refine X.f rfl (z_inc80 rfl ?_) | refine X.f rfl (z_dup ?_) | refine X.f rfl (z_dupr ?_) | refine X.f rfl (z_dup2 ?_) | refine X.f rfl (z_pop ?_) | refine X.f rfl (z_ixor ?_) | refine X.f rfl (z_idiv (by decide) ?_) | refine X.f rfl (z_irem (by decide) ?_) | refine X.f rfl (z_ineg ?_) | refine X.f rfl (z_iaload rfl (by assumption) (by assumption) (by decide) ?_))
  refine X.f rfl (z_iastore rfl (by grind) (by grind) (by decide) ?_)
  repeat (first | refine X.f rfl (z_iload rfl ?_) | refine X.f rfl (z_aload rfl ?_) | refine X.f rfl (z_push ?_) | refine X.f rfl (z_istore rfl ?_) | refine X.f rfl (z_gP rfl rfl ?_) | refine X.f rfl (z_gI rfl ?_) | refine X.f rfl (z_gotoF rfl ?_) | refine X.f rfl (z_iadd ?_) | refine X.f rfl (z_isub ?_) | refine X.f rfl (z_imul ?_) | refine X.f rfl (z_iand ?_) | refine X.f rfl (z_ior ?_) | refine X.f rfl (z_ishl ?_) | refine X.f rfl (z_ishr ?_) | refine X.f rfl (z_pI rfl ?_) | refine X.f rfl (z_inc80 rfl ?_) | refine X.f rfl (z_dup ?_) | refine X.f rfl (z_dupr ?_) | refine X.f rfl (z_dup2 ?_) | refine X.f rfl (z_pop ?_) | refine X.f rfl (z_ixor ?_) | refine X.f rfl (z_idiv (by decide) ?_) | refine X.f rfl (z_irem (by decide) ?_) | refine X.f rfl (z_ineg ?_) | refine X.f rfl (z_iaload rfl (by assumption) (by assumption) (by decide) ?_))
  refine X.f rfl (z_iastore rfl (by grind) (by grind) (by decide) ?_)
  refine x_ret rfl rfl ⟨rfl, _, rfl, (same2.put (by grind) (by grind)).trans (same2.put (by grind) (by grind)), ?_⟩
  rw [xv_242, xv_242, svR_up1 hH.2.2.2.1 hB h0 h1, svR_up0 hH.2.2.2.1 hB h0 h1]
  rfl
theorem q_lays {p s : Int32} (hH : HR I h) (hB : okB b) (p0 : 0 ≤ p) (p1 : p < 5) (h0 : 0 ≤ s) (h1 : s < 7) : Y e 3 M_X12_lays [.ref 226, .int b, .int p, .int s] (F, I, G, J, P0 ha hb ea eb, Q0, S0) (fun w M' => w = none ∧ ∃ I', M' = (F, I', G, J, P0 ha hb ea eb, Q0, S0) ∧ same2 I I' b ∧ svR (I' 242) (hP h) b = (layS h (svR (I 242) (hP h) b) p s)) := by
  obtain ⟨hB0, hB1⟩ := id hB
  unfold Y
  repeat (first | refine X.f rfl (z_iload rfl ?_) | refine X.f rfl (z_aload rfl ?_) | refine X.f rfl (z_push ?_) | refine X.f rfl (z_istore rfl ?_) | refine X.f rfl (z_gP rfl rfl ?_) | refine X.f rfl (z_gI rfl ?_) | refine X.f rfl (z_gotoF rfl ?_) | refine X.f rfl (z_iadd ?_) | refine X.f rfl (z_isub ?_) | refine X.f rfl (z_imul ?_) | refine X.f rfl (z_iand ?_) | refine X.f rfl (z_ior ?_) | refine X.f rfl (z_ishl ?_) | refine X.f rfl (z_ishr ?_) | refine X.f rfl (z_pI rfl ?_) | refine X.f rfl (z_inc80 rfl ?_) | refine X.f rfl (z_dup ?_) | refine X.f rfl (z_dupr ?_) | refine X.f rfl (z_dup2 ?_) | refine X.f rfl (z_pop ?_) | refine X.f rfl (z_ixor ?_) | refine X.f rfl (z_idiv (by decide) ?_) | refine X.f rfl (z_irem (by decide) ?_) | refine X.f rfl (z_ineg ?_) | refine X.f rfl (z_iaload rfl (by assumption) (by assumption) (by decide) ?_))
  refine X.f rfl (z_iaload rfl (by grind) (by grind) (by decide) ?_)
  repeat (first | refine X.f rfl (z_iload rfl ?_) | refine X.f rfl (z_aload rfl ?_) | refine X.f rfl (z_push ?_) | refine X.f rfl (z_istore rfl ?_) | refine X.f rfl (z_gP rfl rfl ?_) | refine X.f rfl (z_gI rfl ?_) | refine X.f rfl (z_gotoF rfl ?_) | refine X.f rfl (z_iadd ?_) | refine X.f rfl (z_isub ?_) | refine X.f rfl (z_imul ?_) | refine X.f rfl (z_iand ?_) | refine X.f rfl (z_ior ?_) | refine X.f rfl (z_ishl ?_) | refine X.f rfl (z_ishr ?_) | refine X.f rfl (z_pI rfl ?_) | refine X.f rfl (z_inc80 rfl ?_) | refine X.f rfl (z_dup ?_) | refine X.f rfl (z_dupr ?_) | refine X.f rfl (z_dup2 ?_) | refine X.f rfl (z_pop ?_) | refine X.f rfl (z_ixor ?_) | refine X.f rfl (z_idiv (by decide) ?_) | refine X.f rfl (z_irem (by decide) ?_) | refine X.f rfl (z_ineg ?_) | refine X.f rfl (z_iaload rfl (by assumption) (by assumption) (by decide) ?_))
  refine X.f rfl (z_iastore rfl (by grind) (by grind) (by decide) ?_)
  repeat (first | refine X.f rfl (z_iload rfl ?_) | refine X.f rfl (z_aload rfl ?_) | refine X.f rfl (z_push ?_) | refine X.f rfl (z_istore rfl ?_) | refine X.f rfl (z_gP rfl rfl ?_) | refine X.f rfl (z_gI rfl ?_) | refine X.f rfl (z_gotoF rfl ?_) | refine X.f rfl (z_iadd ?_) | refine X.f rfl (z_isub ?_) | refine X.f rfl (z_imul ?_) | refine X.f rfl (z_iand ?_) | refine X.f rfl (z_ior ?_) | refine X.f rfl (z_ishl ?_) | refine X.f rfl (z_ishr ?_) | refine X.f rfl (z_pI rfl ?_) | refine X.f rfl (z_inc80 rfl ?_) | refine X.f rfl (z_dup ?_) | refine X.f rfl (z_dupr ?_) | refine X.f rfl (z_dup2 ?_) | refine X.f rfl (z_pop ?_) | refine X.f rfl (z_ixor ?_) | refine X.f rfl (z_idiv (by decide) ?_) | refine X.f rfl (z_irem (by decide) ?_) | refine X.f rfl (z_ineg ?_) | refine X.f rfl (z_iaload rfl (by assumption) (by assumption) (by decide) ?_))
  refine X.f rfl (z_cv (q_puts hH.put hB p0 p1 h0 h1) rfl (by rfl) (by rfl) rfl rfl rfl rfl ?_)
  rintro _ _ ⟨rfl, I1, rfl, hs, hv⟩
  refine x_ret rfl rfl ⟨rfl, I1, rfl, (same2.put (by grind) (by grind)).trans hs, ?_⟩
  rw [hv, xv_242, svR_up2 hH.2.2.2.1 hB p0 p1]
  unfold layS
  rw [svR_po p0 p1]
theorem q_sits {p s : Int32} (hH : HR I h) (hB : okB b) (p0 : 0 ≤ p) (p1 : p < nI (hP h)) (h0 : 0 ≤ s) (h1 : s < 7) (hc : chS (svR (I 242) (hP h) b) p < 0) (hs : siS (svR (I 242) (hP h) b) s < 0) : Y e 1 M_X12_sits [.ref 226, .int b, .int p, .int s] (F, I, G, J, P0 ha hb ea eb, Q0, S0) (fun w M' => w = none ∧ ∃ I', M' = (F, I', G, J, P0 ha hb ea eb, Q0, S0) ∧ same2 I I' b ∧ svR (I' 242) (hP h) b = (sitS (svR (I 242) (hP h) b) p s)) := by
  obtain ⟨hB0, hB1⟩ := id hB
  have p5 : p < 5 := by have := nI_le5 hH.2.2.2.1; grind
  rw [svR_ch p0 p5] at hc
  rw [svR_si h0 h1] at hs
  have u3 := svR_up3 hH.2.2.2.1 hB p0 p1 h0 h1 hc hs
  have e1 : up (I 242) (b + 20 + p) s (b + 1 + s) = I 242 (b + 1 + s) := by unfold up; grind
  have e2 : up (I 242) (b + 20 + p) s (b + 15 + p) = I 242 (b + 15 + p) := by unfold up; grind
  unfold Y sitS
  rw [svR_ow h0 h1, svR_po p0 p5]
  repeat (first | refine X.f rfl (z_iload rfl ?_) | refine X.f rfl (z_aload rfl ?_) | refine X.f rfl (z_push ?_) | refine X.f rfl (z_istore rfl ?_) | refine X.f rfl (z_gP rfl rfl ?_) | refine X.f rfl (z_gI rfl ?_) | refine X.f rfl (z_gotoF rfl ?_) | refine X.f rfl (z_iadd ?_) | refine X.f rfl (z_isub ?_) | refine X.f rfl (z_imul ?_) | refine X.f rfl (z_iand ?_) | refine X.f rfl (z_ior ?_) | refine X.f rfl (z_ishl ?_) | refine X.f rfl (z_ishr ?_) | refine X.f rfl (z_pI rfl ?_) | refine X.f rfl (z_inc80 rfl ?_) | refine X.f rfl (z_dup ?_) | refine X.f rfl (z_dupr ?_) | refine X.f rfl (z_dup2 ?_) | refine X.f rfl (z_pop ?_) | refine X.f rfl (z_ixor ?_) | refine X.f rfl (z_idiv (by decide) ?_) | refine X.f rfl (z_irem (by decide) ?_) | refine X.f rfl (z_ineg ?_) | refine X.f rfl (z_iaload rfl (by assumption) (by assumption) (by decide) ?_))
  refine X.f rfl (z_iastore rfl (by grind) (by grind) (by decide) ?_)
  repeat (first | refine X.f rfl (z_iload rfl ?_) | refine X.f rfl (z_aload rfl ?_) | refine X.f rfl (z_push ?_) | refine X.f rfl (z_istore rfl ?_) | refine X.f rfl (z_gP rfl rfl ?_) | refine X.f rfl (z_gI rfl ?_) | refine X.f rfl (z_gotoF rfl ?_) | refine X.f rfl (z_iadd ?_) | refine X.f rfl (z_isub ?_) | refine X.f rfl (z_imul ?_) | refine X.f rfl (z_iand ?_) | refine X.f rfl (z_ior ?_) | refine X.f rfl (z_ishl ?_) | refine X.f rfl (z_ishr ?_) | refine X.f rfl (z_pI rfl ?_) | refine X.f rfl (z_inc80 rfl ?_) | refine X.f rfl (z_dup ?_) | refine X.f rfl (z_dupr ?_) | refine X.f rfl (z_dup2 ?_) | refine X.f rfl (z_pop ?_) | refine X.f rfl (z_ixor ?_) | refine X.f rfl (z_idiv (by decide) ?_) | refine X.f rfl (z_irem (by decide) ?_) | refine X.f rfl (z_ineg ?_) | refine X.f rfl (z_iaload rfl (by assumption) (by assumption) (by decide) ?_))
  refine X.f rfl (z_iaload rfl (by grind) (by grind) (by decide) ?_)
  rw [xv_242, e1]
  repeat' (first | (first | refine X.f rfl (z_iload rfl ?_) | refine X.f rfl (z_aload rfl ?_) | refine X.f rfl (z_push ?_) | refine X.f rfl (z_istore rfl ?_) | refine X.f rfl (z_gP rfl rfl ?_) | refine X.f rfl (z_gI rfl ?_) | refine X.f rfl (z_gotoF rfl ?_) | refine X.f rfl (z_iadd ?_) | refine X.f rfl (z_isub ?_) | refine X.f rfl (z_imul ?_) | refine X.f rfl (z_iand ?_) | refine X.f rfl (z_ior ?_) | refine X.f rfl (z_ishl ?_) | refine X.f rfl (z_ishr ?_) | refine X.f rfl (z_pI rfl ?_) | refine X.f rfl (z_inc80 rfl ?_) | refine X.f rfl (z_dup ?_) | refine X.f rfl (z_dupr ?_) | refine X.f rfl (z_dup2 ?_) | refine X.f rfl (z_pop ?_) | refine X.f rfl (z_ixor ?_) | refine X.f rfl (z_idiv (by decide) ?_) | refine X.f rfl (z_irem (by decide) ?_) | refine X.f rfl (z_ineg ?_) | refine X.f rfl (z_iaload rfl (by assumption) (by assumption) (by decide) ?_)) | ((first | refine X.f rfl (z_ifeq (fun c => ?_) (fun c => ?_)) | refine X.f rfl (z_ifne (fun c => ?_) (fun c => ?_)) | refine X.f rfl (z_iflt (fun c => ?_) (fun c => ?_)) | refine X.f rfl (z_ifge (fun c => ?_) (fun c => ?_)) | refine X.f rfl (z_ifgt (fun c => ?_) (fun c => ?_)) | refine X.f rfl (z_ifle (fun c => ?_) (fun c => ?_)) | refine X.f rfl (z_ieq (fun c => ?_) (fun c => ?_)) | refine X.f rfl (z_ine (fun c => ?_) (fun c => ?_)) | refine X.f rfl (z_ilt (fun c => ?_) (fun c => ?_)) | refine X.f rfl (z_ige (fun c => ?_) (fun c => ?_)) | refine X.f rfl (z_igt (fun c => ?_) (fun c => ?_)) | refine X.f rfl (z_ile (fun c => ?_) (fun c => ?_))) <;> try (exfalso; revert c; decide)) | fail)
  · rw [if_neg c]
    refine x_ret rfl rfl ⟨rfl, _, rfl, same2.put (by grind) (by grind), ?_⟩
    rw [xv_242, u3]
  · rw [if_pos (by simpa using c)]
    refine X.f rfl (z_iaload rfl (by grind) (by grind) (by decide) ?_)
    rw [xv_242, e2]
    repeat (first | refine X.f rfl (z_iload rfl ?_) | refine X.f rfl (z_aload rfl ?_) | refine X.f rfl (z_push ?_) | refine X.f rfl (z_istore rfl ?_) | refine X.f rfl (z_gP rfl rfl ?_) | refine X.f rfl (z_gI rfl ?_) | refine X.f rfl (z_gotoF rfl ?_) | refine X.f rfl (z_iadd ?_) | refine X.f rfl (z_isub ?_) | refine X.f rfl (z_imul ?_) | refine X.f rfl (z_iand ?_) | refine X.f rfl (z_ior ?_) | refine X.f rfl (z_ishl ?_) | refine X.f rfl (z_ishr ?_) | refine X.f rfl (z_pI rfl ?_) | refine X.f rfl (z_inc80 rfl ?_) | refine X.f rfl (z_dup ?_) | refine X.f rfl (z_dupr ?_) | refine X.f rfl (z_dup2 ?_) | refine X.f rfl (z_pop ?_) | refine X.f rfl (z_ixor ?_) | refine X.f rfl (z_idiv (by decide) ?_) | refine X.f rfl (z_irem (by decide) ?_) | refine X.f rfl (z_ineg ?_) | refine X.f rfl (z_iaload rfl (by assumption) (by assumption) (by decide) ?_))
    refine X.f rfl (z_iastore rfl (by grind) (by grind) (by decide) ?_)
    repeat (first | refine X.f rfl (z_iload rfl ?_) | refine X.f rfl (z_aload rfl ?_) | refine X.f rfl (z_push ?_) | refine X.f rfl (z_istore rfl ?_) | refine X.f rfl (z_gP rfl rfl ?_) | refine X.f rfl (z_gI rfl ?_) | refine X.f rfl (z_gotoF rfl ?_) | refine X.f rfl (z_iadd ?_) | refine X.f rfl (z_isub ?_) | refine X.f rfl (z_imul ?_) | refine X.f rfl (z_iand ?_) | refine X.f rfl (z_ior ?_) | refine X.f rfl (z_ishl ?_) | refine X.f rfl (z_ishr ?_) | refine X.f rfl (z_pI rfl ?_) | refine X.f rfl (z_inc80 rfl ?_) | refine X.f rfl (z_dup ?_) | refine X.f rfl (z_dupr ?_) | refine X.f rfl (z_dup2 ?_) | refine X.f rfl (z_pop ?_) | refine X.f rfl (z_ixor ?_) | refine X.f rfl (z_idiv (by decide) ?_) | refine X.f rfl (z_irem (by decide) ?_) | refine X.f rfl (z_ineg ?_) | refine X.f rfl (z_iaload rfl (by assumption) (by assumption) (by decide) ?_))
    refine X.f rfl (z_cv (q_clears hH.put.put hB h0 h1) rfl (by rfl) (by rfl) rfl rfl rfl rfl ?_)
    rintro _ _ ⟨rfl, I1, rfl, hs, hv⟩
    refine x_ret rfl rfl ⟨rfl, I1, rfl, ((same2.put (by grind) (by grind)).trans (same2.put (by grind) (by grind))).trans hs, ?_⟩
    rw [hv, xv_242, xv_242, svR_up2 hH.2.2.2.1 hB p0 p5, u3]
theorem q_isGoneBy {s x : Int32} (hH : HR I h) (hB : okB b) (h0 : 0 ≤ s) (h1 : s < 7) : Y e 1 M_X12_isGoneBy [.ref 226, .int b, .int s, .int x] (F, I, G, J, P0 ha hb ea eb, Q0, S0) (fun w M' => w = some (.int (if frS (svR (I 242) (hP h) b) s - x ≤ 0 then 1 else 0)) ∧ ∃ I', M' = (F, I', G, J, P0 ha hb ea eb, Q0, S0) ∧ same2 I I' b ∧ svR (I' 242) (hP h) b = lesS (svR (I 242) (hP h) b) s x) := by
  obtain ⟨hB0, hB1⟩ := id hB
  have e1 : up (I 242) (b + 8 + s) (I 242 (b + 8 + s) - x) (b + 8 + s) = I 242 (b + 8 + s) - x := by unfold up; grind
  have u1 := svR_up1 (x := I 242 (b + 8 + s) - x) hH.2.2.2.1 (st := I 242) hB h0 h1
  unfold Y lesS
  rw [svR_fr h0 h1]
  repeat (first | refine X.f rfl (z_iload rfl ?_) | refine X.f rfl (z_aload rfl ?_) | refine X.f rfl (z_push ?_) | refine X.f rfl (z_istore rfl ?_) | refine X.f rfl (z_gP rfl rfl ?_) | refine X.f rfl (z_gI rfl ?_) | refine X.f rfl (z_gotoF rfl ?_) | refine X.f rfl (z_iadd ?_) | refine X.f rfl (z_isub ?_) | refine X.f rfl (z_imul ?_) | refine X.f rfl (z_iand ?_) | refine X.f rfl (z_ior ?_) | refine X.f rfl (z_ishl ?_) | refine X.f rfl (z_ishr ?_) | refine X.f rfl (z_pI rfl ?_) | refine X.f rfl (z_inc80 rfl ?_) | refine X.f rfl (z_dup ?_) | refine X.f rfl (z_dupr ?_) | refine X.f rfl (z_dup2 ?_) | refine X.f rfl (z_pop ?_) | refine X.f rfl (z_ixor ?_) | refine X.f rfl (z_idiv (by decide) ?_) | refine X.f rfl (z_irem (by decide) ?_) | refine X.f rfl (z_ineg ?_) | refine X.f rfl (z_iaload rfl (by assumption) (by assumption) (by decide) ?_))
  refine X.f rfl (z_iaload rfl (by grind) (by grind) (by decide) ?_)
  repeat (first | refine X.f rfl (z_iload rfl ?_) | refine X.f rfl (z_aload rfl ?_) | refine X.f rfl (z_push ?_) | refine X.f rfl (z_istore rfl ?_) | refine X.f rfl (z_gP rfl rfl ?_) | refine X.f rfl (z_gI rfl ?_) | refine X.f rfl (z_gotoF rfl ?_) | refine X.f rfl (z_iadd ?_) | refine X.f rfl (z_isub ?_) | refine X.f rfl (z_imul ?_) | refine X.f rfl (z_iand ?_) | refine X.f rfl (z_ior ?_) | refine X.f rfl (z_ishl ?_) | refine X.f rfl (z_ishr ?_) | refine X.f rfl (z_pI rfl ?_) | refine X.f rfl (z_inc80 rfl ?_) | refine X.f rfl (z_dup ?_) | refine X.f rfl (z_dupr ?_) | refine X.f rfl (z_dup2 ?_) | refine X.f rfl (z_pop ?_) | refine X.f rfl (z_ixor ?_) | refine X.f rfl (z_idiv (by decide) ?_) | refine X.f rfl (z_irem (by decide) ?_) | refine X.f rfl (z_ineg ?_) | refine X.f rfl (z_iaload rfl (by assumption) (by assumption) (by decide) ?_))
  refine X.f rfl (z_iastore rfl (by grind) (by grind) (by decide) ?_)
  repeat (first | refine X.f rfl (z_iload rfl ?_) | refine X.f rfl (z_aload rfl ?_) | refine X.f rfl (z_push ?_) | refine X.f rfl (z_istore rfl ?_) | refine X.f rfl (z_gP rfl rfl ?_) | refine X.f rfl (z_gI rfl ?_) | refine X.f rfl (z_gotoF rfl ?_) | refine X.f rfl (z_iadd ?_) | refine X.f rfl (z_isub ?_) | refine X.f rfl (z_imul ?_) | refine X.f rfl (z_iand ?_) | refine X.f rfl (z_ior ?_) | refine X.f rfl (z_ishl ?_) | refine X.f rfl (z_ishr ?_) | refine X.f rfl (z_pI rfl ?_) | refine X.f rfl (z_inc80 rfl ?_) | refine X.f rfl (z_dup ?_) | refine X.f rfl (z_dupr ?_) | refine X.f rfl (z_dup2 ?_) | refine X.f rfl (z_pop ?_) | refine X.f rfl (z_ixor ?_) | refine X.f rfl (z_idiv (by decide) ?_) | refine X.f rfl (z_irem (by decide) ?_) | refine X.f rfl (z_ineg ?_) | refine X.f rfl (z_iaload rfl (by assumption) (by assumption) (by decide) ?_))
  refine X.f rfl (z_iaload rfl (by grind) (by grind) (by decide) ?_)
  rw [xv_242, e1]
  repeat' (first | (first | refine X.f rfl (z_iload rfl ?_) | refine X.f rfl (z_aload rfl ?_) | refine X.f rfl (z_push ?_) | refine X.f rfl (z_istore rfl ?_) | refine X.f rfl (z_gP rfl rfl ?_) | refine X.f rfl (z_gI rfl ?_) | refine X.f rfl (z_gotoF rfl ?_) | refine X.f rfl (z_iadd ?_) | refine X.f rfl (z_isub ?_) | refine X.f rfl (z_imul ?_) | refine X.f rfl (z_iand ?_) | refine X.f rfl (z_ior ?_) | refine X.f rfl (z_ishl ?_) | refine X.f rfl (z_ishr ?_) | refine X.f rfl (z_pI rfl ?_) | refine X.f rfl (z_inc80 rfl ?_) | refine X.f rfl (z_dup ?_) | refine X.f rfl (z_dupr ?_) | refine X.f rfl (z_dup2 ?_) | refine X.f rfl (z_pop ?_) | refine X.f rfl (z_ixor ?_) | refine X.f rfl (z_idiv (by decide) ?_) | refine X.f rfl (z_irem (by decide) ?_) | refine X.f rfl (z_ineg ?_) | refine X.f rfl (z_iaload rfl (by assumption) (by assumption) (by decide) ?_)) | ((first | refine X.f rfl (z_ifeq (fun c => ?_) (fun c => ?_)) | refine X.f rfl (z_ifne (fun c => ?_) (fun c => ?_)) | refine X.f rfl (z_iflt (fun c => ?_) (fun c => ?_)) | refine X.f rfl (z_ifge (fun c => ?_) (fun c => ?_)) | refine X.f rfl (z_ifgt (fun c => ?_) (fun c => ?_)) | refine X.f rfl (z_ifle (fun c => ?_) (fun c => ?_)) | refine X.f rfl (z_ieq (fun c => ?_) (fun c => ?_)) | refine X.f rfl (z_ine (fun c => ?_) (fun c => ?_)) | refine X.f rfl (z_ilt (fun c => ?_) (fun c => ?_)) | refine X.f rfl (z_ige (fun c => ?_) (fun c => ?_)) | refine X.f rfl (z_igt (fun c => ?_) (fun c => ?_)) | refine X.f rfl (z_ile (fun c => ?_) (fun c => ?_))) <;> try (exfalso; revert c; decide)) | fail)
  · rw [if_neg (by grind), if_neg (by grind)]
    refine x_ret rfl rfl ⟨rfl, _, rfl, same2.put (by grind) (by grind), ?_⟩
    rw [xv_242, u1]
  · rw [if_pos (by grind), if_pos (by grind)]
    refine X.f rfl (z_cv (q_clears hH.put hB h0 h1) rfl (by rfl) (by rfl) rfl rfl rfl rfl ?_)
    rintro _ _ ⟨rfl, I1, rfl, hs, hv⟩
    repeat (first | refine X.f rfl (z_iload rfl ?_) | refine X.f rfl (z_aload rfl ?_) | refine X.f rfl (z_push ?_) | refine X.f rfl (z_istore rfl ?_) | refine X.f rfl (z_gP rfl rfl ?_) | refine X.f rfl (z_gI rfl ?_) | refine X.f rfl (z_gotoF rfl ?_) | refine X.f rfl (z_iadd ?_) | refine X.f rfl (z_isub ?_) | refine X.f rfl (z_imul ?_) | refine X.f rfl (z_iand ?_) | refine X.f rfl (z_ior ?_) | refine X.f rfl (z_ishl ?_) | refine X.f rfl (z_ishr ?_) | refine X.f rfl (z_pI rfl ?_) | refine X.f rfl (z_inc80 rfl ?_) | refine X.f rfl (z_dup ?_) | refine X.f rfl (z_dupr ?_) | refine X.f rfl (z_dup2 ?_) | refine X.f rfl (z_pop ?_) | refine X.f rfl (z_ixor ?_) | refine X.f rfl (z_idiv (by decide) ?_) | refine X.f rfl (z_irem (by decide) ?_) | refine X.f rfl (z_ineg ?_) | refine X.f rfl (z_iaload rfl (by assumption) (by assumption) (by decide) ?_))
    refine x_ret rfl rfl ⟨rfl, I1, rfl, (same2.put (by grind) (by grind)).trans hs, ?_⟩
    rw [hv, xv_242, u1]
    simp only [clrS, upS]
    refine Prod.ext rfl ?_
    funext k i
    grind
theorem q_grates {p s : Int32} (hH : HR I h) (hB : okB b) (p0 : 0 ≤ p) (p1 : p < 5) (h0 : 0 ≤ s) (h1 : s < 7) : Y e 2 M_X12_grates [.ref 226, .int b, .int p, .int s] (F, I, G, J, P0 ha hb ea eb, Q0, S0) (fun w M' => w = some (.int (if frS (svR (I 242) (hP h) b) s - raspS h p ≤ 0 then 1 else 0)) ∧ ∃ I', M' = (F, I', G, J, P0 ha hb ea eb, Q0, S0) ∧ same2 I I' b ∧ svR (I' 242) (hP h) b = lesS (svR (I 242) (hP h) b) s (raspS h p)) := by
  obtain ⟨hN', hN7, hP', hP5, hL, hS, hPp, hC⟩ := id hH
  obtain ⟨k1, k2, k3⟩ := hH.pers p0 p1
  unfold Y raspS
  repeat (first | refine X.f rfl (z_iload rfl ?_) | refine X.f rfl (z_aload rfl ?_) | refine X.f rfl (z_push ?_) | refine X.f rfl (z_istore rfl ?_) | refine X.f rfl (z_gP rfl rfl ?_) | refine X.f rfl (z_gI rfl ?_) | refine X.f rfl (z_gotoF rfl ?_) | refine X.f rfl (z_iadd ?_) | refine X.f rfl (z_isub ?_) | refine X.f rfl (z_imul ?_) | refine X.f rfl (z_iand ?_) | refine X.f rfl (z_ior ?_) | refine X.f rfl (z_ishl ?_) | refine X.f rfl (z_ishr ?_) | refine X.f rfl (z_pI rfl ?_) | refine X.f rfl (z_inc80 rfl ?_) | refine X.f rfl (z_dup ?_) | refine X.f rfl (z_dupr ?_) | refine X.f rfl (z_dup2 ?_) | refine X.f rfl (z_pop ?_) | refine X.f rfl (z_ixor ?_) | refine X.f rfl (z_idiv (by decide) ?_) | refine X.f rfl (z_irem (by decide) ?_) | refine X.f rfl (z_ineg ?_) | refine X.f rfl (z_iaload rfl (by assumption) (by assumption) (by decide) ?_))
  refine X.f rfl (z_cav (r_personOf (s := p) (w := 0) (by grind) (by grind)) rfl (by rfl) (by rfl) rfl rfl rfl rfl ?_)
  rw [k1]
  repeat' (first | (first | refine X.f rfl (z_iload rfl ?_) | refine X.f rfl (z_aload rfl ?_) | refine X.f rfl (z_push ?_) | refine X.f rfl (z_istore rfl ?_) | refine X.f rfl (z_gP rfl rfl ?_) | refine X.f rfl (z_gI rfl ?_) | refine X.f rfl (z_gotoF rfl ?_) | refine X.f rfl (z_iadd ?_) | refine X.f rfl (z_isub ?_) | refine X.f rfl (z_imul ?_) | refine X.f rfl (z_iand ?_) | refine X.f rfl (z_ior ?_) | refine X.f rfl (z_ishl ?_) | refine X.f rfl (z_ishr ?_) | refine X.f rfl (z_pI rfl ?_) | refine X.f rfl (z_inc80 rfl ?_) | refine X.f rfl (z_dup ?_) | refine X.f rfl (z_dupr ?_) | refine X.f rfl (z_dup2 ?_) | refine X.f rfl (z_pop ?_) | refine X.f rfl (z_ixor ?_) | refine X.f rfl (z_idiv (by decide) ?_) | refine X.f rfl (z_irem (by decide) ?_) | refine X.f rfl (z_ineg ?_) | refine X.f rfl (z_iaload rfl (by assumption) (by assumption) (by decide) ?_)) | ((first | refine X.f rfl (z_ifeq (fun c => ?_) (fun c => ?_)) | refine X.f rfl (z_ifne (fun c => ?_) (fun c => ?_)) | refine X.f rfl (z_iflt (fun c => ?_) (fun c => ?_)) | refine X.f rfl (z_ifge (fun c => ?_) (fun c => ?_)) | refine X.f rfl (z_ifgt (fun c => ?_) (fun c => ?_)) | refine X.f rfl (z_ifle (fun c => ?_) (fun c => ?_)) | refine X.f rfl (z_ieq (fun c => ?_) (fun c => ?_)) | refine X.f rfl (z_ine (fun c => ?_) (fun c => ?_)) | refine X.f rfl (z_ilt (fun c => ?_) (fun c => ?_)) | refine X.f rfl (z_ige (fun c => ?_) (fun c => ?_)) | refine X.f rfl (z_igt (fun c => ?_) (fun c => ?_)) | refine X.f rfl (z_ile (fun c => ?_) (fun c => ?_))) <;> try (exfalso; revert c; decide)) | fail)
  · refine X.f rfl (z_cv (q_isGoneBy hH hB h0 h1) rfl (by rfl) (by rfl) rfl rfl rfl rfl ?_)
    rintro _ _ ⟨rfl, I1, rfl, hs, hv⟩
    exact x_zb ⟨by grind, I1, rfl, hs, by grind⟩
  · refine X.f rfl (z_cv (q_isGoneBy hH hB h0 h1) rfl (by rfl) (by rfl) rfl rfl rfl rfl ?_)
    rintro _ _ ⟨rfl, I1, rfl, hs, hv⟩
    exact x_zb ⟨by grind, I1, rfl, hs, by grind⟩
  · refine X.f rfl (z_cv (q_isGoneBy hH hB h0 h1) rfl (by rfl) (by rfl) rfl rfl rfl rfl ?_)
    rintro _ _ ⟨rfl, I1, rfl, hs, hv⟩
    exact x_zb ⟨by grind, I1, rfl, hs, by grind⟩
end R3
