/-! THE REFERENCE: keeping, undoing, the deeds -/
def keepF (F F' : Nat → Nat → Int32) : Prop := ∀ c k, ¬ (c = 226 ∧ (k = 0 ∨ k = 25 ∨ k = 31 ∨ k = 32)) → F' c k = F c k
/-- the frame of a deed -/
def sameK (I I' : Nat → Int32 → Int32) : Prop := (∀ c, c ≠ 240 → c ≠ 241 → c ≠ 242 → c ≠ 245 → I' c = I c) ∧ ∀ i, (25 ≤ i ∧ i < 250) → I' 242 i = I 242 i
theorem sameK.refl {I : Nat → Int32 → Int32} : sameK I I := ⟨fun _ _ _ _ _ => rfl, fun _ _ => rfl⟩
theorem sameK.trans {I I' I'' : Nat → Int32 → Int32} (h : sameK I I') (h' : sameK I' I'') : sameK I I'' := ⟨fun c a1 a2 a3 a4 => (h'.1 c a1 a2 a3 a4).trans (h.1 c a1 a2 a3 a4), fun i hi => (h'.2 i hi).trans (h.2 i hi)⟩
theorem sameU.K {I I' : Nat → Int32 → Int32} (h : sameU I I') : sameK I I' := ⟨fun c _ _ a _ => h.1 c a, fun i hi => h.2 i (Or.inl hi.2)⟩
theorem sameR.K {I I' : Nat → Int32 → Int32} (h : sameR I I' 0) : sameK I I' := ⟨h.1, fun i hi => h.2 i (Or.inr (by grind))⟩
theorem keepF.of0 {F : Nat → Nat → Int32} {x : Int32} : keepF F (xu F 226 0 x) := fun c k hc => by rw [xu_ne (fun q => hc ⟨q.1, by omega⟩)]
theorem keepF.of25 {F : Nat → Nat → Int32} {x y : Int32} : keepF F (xu (xu F 226 0 x) 226 25 y) := fun c k hc => by rw [xu_ne (fun q => hc ⟨q.1, by omega⟩), xu_ne (fun q => hc ⟨q.1, by omega⟩)]
theorem c5 (k : Nat) : (5 : Int32) + nI k = nI (5 + k) := nI_add 5 k
section RG
variable {e : Bool × Int32 × (Int32 → Int32)} {F : Nat → Nat → Int32} {I : Nat → Int32 → Int32} {G : Nat → Nat → Int64} {J : Nat → Int32 → Int64} {ha hb ea eb : Nat} {h : HV} {b : Int32} {v : SV} {P : Nat} {u : UV}
theorem bU {a : Nat} (ha1 : a ≤ 20) : 0 ≤ 50 * nI a ∧ 50 * nI a ≤ 1000 := by
  have a0 : 0 ≤ nI a := nI_pos' (by omega)
  have a1 : nI a ≤ 20 := (nI_leI (b := 20) (by omega) (by omega)).mpr ha1
  constructor <;> grind
theorem cpyU_same {f : Int32 → Int32} {a c : Nat} (hP5 : P ≤ 5) (ha1 : a ≤ 20) (hc1 : c ≤ 20) : svR (cpy f (50 * nI a) (50 * nI c) 25) P (50 * nI c) = svR f P (50 * nI a) := by
  obtain ⟨a0, a1⟩ := bU ha1
  obtain ⟨c0, c1⟩ := bU hc1
  exact cpy_sv a0 c0 (by grind) (by grind) (by decide) (by decide) hP5
theorem cpyU_ne {f : Int32 → Int32} {x : Int32} {c d : Nat} (hP5 : P ≤ 5) (hc1 : c ≤ 20) (hd1 : d ≤ 20) (hcd : d ≠ c) : svR (cpy f x (50 * nI c) 25) P (50 * nI d) = svR f P (50 * nI d) := by
  obtain ⟨c0, c1⟩ := bU hc1
  obtain ⟨d0, d1⟩ := bU hd1
  refine svR_ext hP5 ⟨d0, by grind⟩ (fun i h0 h1 => cpy_out ?_)
  rcases Nat.lt_or_gt_of_ne hcd with q | q
  · left
    have : nI d + 1 ≤ nI c := by rw [← nI_succ, nI_leI (by omega) (by omega)]; omega
    have e0 : 0 ≤ nI d := nI_pos' (by omega)
    have e1 : nI c ≤ 20 := (nI_leI (b := 20) (by omega) (by omega)).mpr hc1
    grind
  · right
    have : nI c + 1 ≤ nI d := by rw [← nI_succ, nI_leI (by omega) (by omega)]; omega
    have e0 : 0 ≤ nI c := nI_pos' (by omega)
    have e1 : nI d ≤ 20 := (nI_leI (b := 20) (by omega) (by omega)).mpr hd1
    grind
theorem cpyU_fr {x : Int32} {c : Nat} (hc0 : 5 ≤ c) (hc1 : c ≤ 20) : sameU I (row I 242 (cpy (I 242) x (50 * nI c) 25)) := by
  obtain ⟨c0, c1⟩ := bU hc1
  have : (5 : Int32) ≤ nI c := (nI_leI (a := 5) (by omega) (by omega)).mpr hc0
  have e1 : nI c ≤ 20 := (nI_leI (b := 20) (by omega) (by omega)).mpr hc1
  refine ⟨fun c hc => row_ne hc, fun i hi => ?_⟩
  rw [row_same]
  exact cpy_out (by grind)
theorem sameU.trans {I I' I'' : Nat → Int32 → Int32} (h : sameU I I') (h' : sameU I' I'') : sameU I I'' := ⟨fun c a => (h'.1 c a).trans (h.1 c a), fun i hi => (h'.2 i hi).trans (h.2 i hi)⟩
theorem sameU.refl {I : Nat → Int32 → Int32} : sameU I I := ⟨fun _ _ => rfl, fun _ _ => rfl⟩
theorem q_keepsNow (hP5 : P ≤ 5) (hv : svR (I 242) P 0 = v) (hU : undoR (F 226 25) (I 242) P u) : Y e 1 M_X12_keepsNow [.ref 226] (F, I, G, J, P0 ha hb ea eb, Q0, S0) (fun w M' => w = none ∧ ∃ I', M' = (xu F 226 25 (nI (pushU u v).1), I', G, J, P0 ha hb ea eb, Q0, S0) ∧ sameU I I' ∧ undoR (nI (pushU u v).1) (I' 242) P (pushU u v)) := by
  obtain ⟨hx, hn, hu⟩ := hU
  unfold Y
  have tail : ∀ (n : Nat) (F1 : Nat → Nat → Int32) (I1 : Nat → Int32 → Int32) (L' : xL), n < 16 → F1 226 25 = nI n → xu F1 226 25 (nI (n + 1)) = xu F 226 25 (nI (n + 1)) → sameU I I1 → (∀ k, k < n → svR (I1 242) P (50 * nI (5 + k)) = (pushU u v).2 k) → pushU u v = (n + 1, (pushU u v).2) → (pushU u v).2 n = v → lle [some (.ref 226), none] L' → X e 1 M_X12_keepsNow.2.2 32 L' [] (F1, I1, G, J, P0 ha hb ea eb, Q0, S0) (fun w M' => w = none ∧ ∃ I', M' = (xu F 226 25 (nI (pushU u v).1), I', G, J, P0 ha hb ea eb, Q0, S0) ∧ sameU I I' ∧ undoR (nI (pushU u v).1) (I' 242) P (pushU u v)) := by
    intro n F1 I1 L' hn16 h25 hF hs hk hp1 hp2 hL
    refine X.weak hL ?_
    have hv1 : svR (I1 242) P 0 = v := by
      rw [← hv]
      exact svR_ext hP5 okB0 (fun i _ h1 => hs.2 i (Or.inl (by grind)))
    have hcp := q_copyU (e := e) (F := F1) (I := I1) (G := G) (J := J) (ha := ha) (hb := hb) (ea := ea) (eb := eb) (a := 0) (c := 5 + n) (by omega) (by omega) (by omega)
    rw [show (50 : Int32) * nI 0 = 0 from by decide] at hcp
    repeat' (first | rw [h25] | rw [c5] | (refine X.f rfl ?_; first | refine z_iload rfl ?_ | refine z_aload rfl ?_ | refine z_push ?_ | refine z_istore rfl ?_ | refine z_astore rfl ?_ | refine z_gP rfl rfl ?_ | refine z_gI rfl ?_ | refine z_gotoF rfl ?_ | refine z_iadd ?_ | refine z_isub ?_ | refine z_imul ?_ | refine z_iand ?_ | refine z_ior ?_ | refine z_ishl ?_ | refine z_ishr ?_ | refine z_ixor ?_ | refine z_ineg ?_ | refine z_pI rfl ?_ | refine z_inc80 rfl ?_ | refine z_inc81 rfl ?_ | refine z_dup ?_ | refine z_dupr ?_ | refine z_dup2 ?_ | refine z_pop ?_ | refine z_idiv (by decide) ?_ | refine z_irem (by decide) ?_ | refine z_iaload rfl (by first | with_reducible assumption | decide | grind) (by first | with_reducible assumption | decide | grind) (by decide) ?_ | refine z_iastore rfl (by first | with_reducible assumption | decide | grind) (by first | with_reducible assumption | decide | grind) (by decide) ?_) | fail)
    refine X.f rfl (z_cv (hcp) rfl (by rfl) (by rfl) rfl rfl rfl rfl ?_)
    rintro _ _ ⟨rfl, rfl⟩
    repeat' (first | rw [h25] | (refine X.f rfl ?_; first | refine z_iload rfl ?_ | refine z_aload rfl ?_ | refine z_push ?_ | refine z_istore rfl ?_ | refine z_astore rfl ?_ | refine z_gP rfl rfl ?_ | refine z_gI rfl ?_ | refine z_gotoF rfl ?_ | refine z_iadd ?_ | refine z_isub ?_ | refine z_imul ?_ | refine z_iand ?_ | refine z_ior ?_ | refine z_ishl ?_ | refine z_ishr ?_ | refine z_ixor ?_ | refine z_ineg ?_ | refine z_pI rfl ?_ | refine z_inc80 rfl ?_ | refine z_inc81 rfl ?_ | refine z_dup ?_ | refine z_dupr ?_ | refine z_dup2 ?_ | refine z_pop ?_ | refine z_idiv (by decide) ?_ | refine z_irem (by decide) ?_ | refine z_iaload rfl (by first | with_reducible assumption | decide | grind) (by first | with_reducible assumption | decide | grind) (by decide) ?_ | refine z_iastore rfl (by first | with_reducible assumption | decide | grind) (by first | with_reducible assumption | decide | grind) (by decide) ?_) | fail)
    refine x_ret rfl rfl ⟨rfl, row I1 242 (cpy (I1 242) 0 (50 * nI (5 + n)) 25), ?_, hs.trans (cpyU_fr (c := 5 + n) (by omega) (by omega)), ?_⟩
    · rw [hp1]
      dsimp only
      rw [← hF, nI_succ]
    · refine ⟨rfl, by rw [hp1]; dsimp only; omega, fun k hk1 => ?_⟩
      rw [c5, row_same]
      have hk2 : k < n + 1 := by rw [hp1] at hk1; exact hk1
      by_cases hkn : k = n
      · subst hkn
        rw [hp2]
        have := cpyU_same (f := I1 242) (P := P) (a := 0) (c := 5 + k) hP5 (by omega) (by omega)
        rw [show (50 : Int32) * nI 0 = 0 from by decide] at this
        rw [this]
        exact hv1
      · rw [cpyU_ne hP5 (by omega) (by omega) (by omega)]
        exact hk k (by omega)
  by_cases h16 : u.1 = 16
  · have hx' : F 226 25 = 16 := by rw [hx, h16]; rfl
    have hpu : pushU u v = (16, fun k => if k = 15 then v else u.2 (k + 1)) := if_pos h16
    repeat' (first | rw [hx'] | (refine X.f rfl ?_; first | refine z_iload rfl ?_ | refine z_aload rfl ?_ | refine z_push ?_ | refine z_istore rfl ?_ | refine z_astore rfl ?_ | refine z_gP rfl rfl ?_ | refine z_gI rfl ?_ | refine z_gotoF rfl ?_ | refine z_iadd ?_ | refine z_isub ?_ | refine z_imul ?_ | refine z_iand ?_ | refine z_ior ?_ | refine z_ishl ?_ | refine z_ishr ?_ | refine z_ixor ?_ | refine z_ineg ?_ | refine z_pI rfl ?_ | refine z_inc80 rfl ?_ | refine z_inc81 rfl ?_ | refine z_dup ?_ | refine z_dupr ?_ | refine z_dup2 ?_ | refine z_pop ?_ | refine z_idiv (by decide) ?_ | refine z_irem (by decide) ?_ | refine z_iaload rfl (by first | with_reducible assumption | decide | grind) (by first | with_reducible assumption | decide | grind) (by decide) ?_ | refine z_iastore rfl (by first | with_reducible assumption | decide | grind) (by first | with_reducible assumption | decide | grind) (by decide) ?_) | fail)
    ((refine X.f rfl ?_; first | refine z_ifeq (fun c => ?_) (fun c => ?_) | refine z_ifne (fun c => ?_) (fun c => ?_) | refine z_iflt (fun c => ?_) (fun c => ?_) | refine z_ifge (fun c => ?_) (fun c => ?_) | refine z_ifgt (fun c => ?_) (fun c => ?_) | refine z_ifle (fun c => ?_) (fun c => ?_) | refine z_ieq (fun c => ?_) (fun c => ?_) | refine z_ine (fun c => ?_) (fun c => ?_) | refine z_ilt (fun c => ?_) (fun c => ?_) | refine z_ige (fun c => ?_) (fun c => ?_) | refine z_igt (fun c => ?_) (fun c => ?_) | refine z_ile (fun c => ?_) (fun c => ?_)) <;> try (exfalso; first | (with_reducible exact absurd rfl c) | (with_reducible exact absurd (Int32.le_refl _) c) | (exact absurd c (by decide)) | (exact absurd c (by with_reducible assumption)) | (exact absurd (by with_reducible assumption) c)))
    iterate 2 ((refine X.f rfl ?_; first | refine z_iload rfl ?_ | refine z_aload rfl ?_ | refine z_push ?_ | refine z_istore rfl ?_ | refine z_astore rfl ?_ | refine z_gP rfl rfl ?_ | refine z_gI rfl ?_ | refine z_gotoF rfl ?_ | refine z_iadd ?_ | refine z_isub ?_ | refine z_imul ?_ | refine z_iand ?_ | refine z_ior ?_ | refine z_ishl ?_ | refine z_ishr ?_ | refine z_ixor ?_ | refine z_ineg ?_ | refine z_pI rfl ?_ | refine z_inc80 rfl ?_ | refine z_inc81 rfl ?_ | refine z_dup ?_ | refine z_dupr ?_ | refine z_dup2 ?_ | refine z_pop ?_ | refine z_idiv (by decide) ?_ | refine z_irem (by decide) ?_ | refine z_iaload rfl (by first | with_reducible assumption | decide | grind) (by first | with_reducible assumption | decide | grind) (by decide) ?_ | refine z_iastore rfl (by first | with_reducible assumption | decide | grind) (by first | with_reducible assumption | decide | grind) (by decide) ?_))
    refine x_forR 15 (fun i (_ : Unit) => [some (.ref 226), some (.int (nI (i + 1)))]) (fun i _ M => ∃ I', M = (F, I', G, J, P0 ha hb ea eb, Q0, S0) ∧ sameU I I' ∧ ∀ j, j < 16 → svR (I' 242) P (50 * nI (5 + j)) = if j < i then u.2 (j + 1) else u.2 j) (fun i _ M hi hM k => ?_) (fun _ M hM => ?_) (i := 0) (a := ()) (by omega) ⟨I, rfl, sameU.refl, fun j hj => by rw [← c5, hu j (by omega), if_neg (by omega)]⟩ (by repeat (first | exact trivial | refine ⟨by first | with_reducible rfl | exact congrArg (fun q => some (Value.int q)) (by first | with_reducible rfl | with_reducible assumption | exact (nI_succ _).symm | grind [nI_0]) | rfl, ?_⟩))
    · obtain ⟨I', rfl, q, qj⟩ := hM
      have h2' : ¬ 16 ≤ nI (i + 1) := by
        rw [show ((16 : Int32)) = nI 16 from rfl, nI_leI (by omega) (by omega)]; omega
      have e2 : nI (5 + (i + 1)) - 1 = nI (5 + i) := nI_pred (5 + i)
      repeat' (first | rw [c5] | rw [e2] | (refine X.f rfl ?_; first | refine z_iload rfl ?_ | refine z_aload rfl ?_ | refine z_push ?_ | refine z_istore rfl ?_ | refine z_astore rfl ?_ | refine z_gP rfl rfl ?_ | refine z_gI rfl ?_ | refine z_gotoF rfl ?_ | refine z_iadd ?_ | refine z_isub ?_ | refine z_imul ?_ | refine z_iand ?_ | refine z_ior ?_ | refine z_ishl ?_ | refine z_ishr ?_ | refine z_ixor ?_ | refine z_ineg ?_ | refine z_pI rfl ?_ | refine z_inc80 rfl ?_ | refine z_inc81 rfl ?_ | refine z_dup ?_ | refine z_dupr ?_ | refine z_dup2 ?_ | refine z_pop ?_ | refine z_idiv (by decide) ?_ | refine z_irem (by decide) ?_ | refine z_iaload rfl (by first | with_reducible assumption | decide | grind) (by first | with_reducible assumption | decide | grind) (by decide) ?_ | refine z_iastore rfl (by first | with_reducible assumption | decide | grind) (by first | with_reducible assumption | decide | grind) (by decide) ?_) | fail)
      ((refine X.f rfl ?_; first | refine z_ifeq (fun c => ?_) (fun c => ?_) | refine z_ifne (fun c => ?_) (fun c => ?_) | refine z_iflt (fun c => ?_) (fun c => ?_) | refine z_ifge (fun c => ?_) (fun c => ?_) | refine z_ifgt (fun c => ?_) (fun c => ?_) | refine z_ifle (fun c => ?_) (fun c => ?_) | refine z_ieq (fun c => ?_) (fun c => ?_) | refine z_ine (fun c => ?_) (fun c => ?_) | refine z_ilt (fun c => ?_) (fun c => ?_) | refine z_ige (fun c => ?_) (fun c => ?_) | refine z_igt (fun c => ?_) (fun c => ?_) | refine z_ile (fun c => ?_) (fun c => ?_)) <;> try (exfalso; first | (with_reducible exact absurd rfl c) | (with_reducible exact absurd (Int32.le_refl _) c) | (exact absurd c (by decide)) | (exact absurd c (by with_reducible assumption)) | (exact absurd (by with_reducible assumption) c)))
      repeat' (first | rw [c5] | rw [e2] | (refine X.f rfl ?_; first | refine z_iload rfl ?_ | refine z_aload rfl ?_ | refine z_push ?_ | refine z_istore rfl ?_ | refine z_astore rfl ?_ | refine z_gP rfl rfl ?_ | refine z_gI rfl ?_ | refine z_gotoF rfl ?_ | refine z_iadd ?_ | refine z_isub ?_ | refine z_imul ?_ | refine z_iand ?_ | refine z_ior ?_ | refine z_ishl ?_ | refine z_ishr ?_ | refine z_ixor ?_ | refine z_ineg ?_ | refine z_pI rfl ?_ | refine z_inc80 rfl ?_ | refine z_inc81 rfl ?_ | refine z_dup ?_ | refine z_dupr ?_ | refine z_dup2 ?_ | refine z_pop ?_ | refine z_idiv (by decide) ?_ | refine z_irem (by decide) ?_ | refine z_iaload rfl (by first | with_reducible assumption | decide | grind) (by first | with_reducible assumption | decide | grind) (by decide) ?_ | refine z_iastore rfl (by first | with_reducible assumption | decide | grind) (by first | with_reducible assumption | decide | grind) (by decide) ?_) | fail)
      refine X.f rfl (z_cv (q_copyU (e := e) (F := F) (I := I') (G := G) (J := J) (ha := ha) (hb := hb) (ea := ea) (eb := eb) (a := 5 + (i + 1)) (c := 5 + i) (by omega) (by omega) (by omega)) rfl (by rfl) (by rfl) rfl rfl rfl rfl ?_)
      rintro _ _ ⟨rfl, rfl⟩
      repeat' (first | fail | (refine X.f rfl ?_; first | refine z_iload rfl ?_ | refine z_aload rfl ?_ | refine z_push ?_ | refine z_istore rfl ?_ | refine z_astore rfl ?_ | refine z_gP rfl rfl ?_ | refine z_gI rfl ?_ | refine z_gotoF rfl ?_ | refine z_iadd ?_ | refine z_isub ?_ | refine z_imul ?_ | refine z_iand ?_ | refine z_ior ?_ | refine z_ishl ?_ | refine z_ishr ?_ | refine z_ixor ?_ | refine z_ineg ?_ | refine z_pI rfl ?_ | refine z_inc80 rfl ?_ | refine z_inc81 rfl ?_ | refine z_dup ?_ | refine z_dupr ?_ | refine z_dup2 ?_ | refine z_pop ?_ | refine z_idiv (by decide) ?_ | refine z_irem (by decide) ?_ | refine z_iaload rfl (by first | with_reducible assumption | decide | grind) (by first | with_reducible assumption | decide | grind) (by decide) ?_ | refine z_iastore rfl (by first | with_reducible assumption | decide | grind) (by first | with_reducible assumption | decide | grind) (by decide) ?_) | fail)
      refine X.f rfl (z_goto (k () _ _ ?_ ?_))
      · refine ⟨_, rfl, q.trans (cpyU_fr (c := 5 + i) (by omega) (by omega)), fun j hj => ?_⟩
        rw [row_same]
        by_cases hji : j = i
        · subst hji
          rw [cpyU_same hP5 (by omega) (by omega), qj (j + 1) (by omega), if_neg (by omega), if_pos (by omega)]
        · rw [cpyU_ne hP5 (by omega) (by omega) (by omega), qj j hj]
          by_cases hlt : j < i
          · rw [if_pos hlt, if_pos (by omega)]
          · rw [if_neg hlt, if_neg (by omega)]
      · repeat (first | exact trivial | refine ⟨by first | with_reducible rfl | exact congrArg (fun q => some (Value.int q)) (by first | with_reducible rfl | with_reducible assumption | exact (nI_succ _).symm | grind [nI_0]) | rfl, ?_⟩)
    · obtain ⟨I', rfl, q, qj⟩ := hM
      have h2' : (16 : Int32) ≤ nI (15 + 1) := by decide
      repeat' (first | fail | (refine X.f rfl ?_; first | refine z_iload rfl ?_ | refine z_aload rfl ?_ | refine z_push ?_ | refine z_istore rfl ?_ | refine z_astore rfl ?_ | refine z_gP rfl rfl ?_ | refine z_gI rfl ?_ | refine z_gotoF rfl ?_ | refine z_iadd ?_ | refine z_isub ?_ | refine z_imul ?_ | refine z_iand ?_ | refine z_ior ?_ | refine z_ishl ?_ | refine z_ishr ?_ | refine z_ixor ?_ | refine z_ineg ?_ | refine z_pI rfl ?_ | refine z_inc80 rfl ?_ | refine z_inc81 rfl ?_ | refine z_dup ?_ | refine z_dupr ?_ | refine z_dup2 ?_ | refine z_pop ?_ | refine z_idiv (by decide) ?_ | refine z_irem (by decide) ?_ | refine z_iaload rfl (by first | with_reducible assumption | decide | grind) (by first | with_reducible assumption | decide | grind) (by decide) ?_ | refine z_iastore rfl (by first | with_reducible assumption | decide | grind) (by first | with_reducible assumption | decide | grind) (by decide) ?_) | fail)
      ((refine X.f rfl ?_; first | refine z_ifeq (fun c => ?_) (fun c => ?_) | refine z_ifne (fun c => ?_) (fun c => ?_) | refine z_iflt (fun c => ?_) (fun c => ?_) | refine z_ifge (fun c => ?_) (fun c => ?_) | refine z_ifgt (fun c => ?_) (fun c => ?_) | refine z_ifle (fun c => ?_) (fun c => ?_) | refine z_ieq (fun c => ?_) (fun c => ?_) | refine z_ine (fun c => ?_) (fun c => ?_) | refine z_ilt (fun c => ?_) (fun c => ?_) | refine z_ige (fun c => ?_) (fun c => ?_) | refine z_igt (fun c => ?_) (fun c => ?_) | refine z_ile (fun c => ?_) (fun c => ?_)) <;> try (exfalso; first | (with_reducible exact absurd rfl c) | (with_reducible exact absurd (Int32.le_refl _) c) | (exact absurd c (by decide)) | (exact absurd c (by with_reducible assumption)) | (exact absurd (by with_reducible assumption) c)))
      iterate 3 ((refine X.f rfl ?_; first | refine z_iload rfl ?_ | refine z_aload rfl ?_ | refine z_push ?_ | refine z_istore rfl ?_ | refine z_astore rfl ?_ | refine z_gP rfl rfl ?_ | refine z_gI rfl ?_ | refine z_gotoF rfl ?_ | refine z_iadd ?_ | refine z_isub ?_ | refine z_imul ?_ | refine z_iand ?_ | refine z_ior ?_ | refine z_ishl ?_ | refine z_ishr ?_ | refine z_ixor ?_ | refine z_ineg ?_ | refine z_pI rfl ?_ | refine z_inc80 rfl ?_ | refine z_inc81 rfl ?_ | refine z_dup ?_ | refine z_dupr ?_ | refine z_dup2 ?_ | refine z_pop ?_ | refine z_idiv (by decide) ?_ | refine z_irem (by decide) ?_ | refine z_iaload rfl (by first | with_reducible assumption | decide | grind) (by first | with_reducible assumption | decide | grind) (by decide) ?_ | refine z_iastore rfl (by first | with_reducible assumption | decide | grind) (by first | with_reducible assumption | decide | grind) (by decide) ?_))
      rw [hx']
      iterate 3 ((refine X.f rfl ?_; first | refine z_iload rfl ?_ | refine z_aload rfl ?_ | refine z_push ?_ | refine z_istore rfl ?_ | refine z_astore rfl ?_ | refine z_gP rfl rfl ?_ | refine z_gI rfl ?_ | refine z_gotoF rfl ?_ | refine z_iadd ?_ | refine z_isub ?_ | refine z_imul ?_ | refine z_iand ?_ | refine z_ior ?_ | refine z_ishl ?_ | refine z_ishr ?_ | refine z_ixor ?_ | refine z_ineg ?_ | refine z_pI rfl ?_ | refine z_inc80 rfl ?_ | refine z_inc81 rfl ?_ | refine z_dup ?_ | refine z_dupr ?_ | refine z_dup2 ?_ | refine z_pop ?_ | refine z_idiv (by decide) ?_ | refine z_irem (by decide) ?_ | refine z_iaload rfl (by first | with_reducible assumption | decide | grind) (by first | with_reducible assumption | decide | grind) (by decide) ?_ | refine z_iastore rfl (by first | with_reducible assumption | decide | grind) (by first | with_reducible assumption | decide | grind) (by decide) ?_))
      refine tail 15 _ I' _ (by omega) (by rw [xu_same]; decide) (by rw [xu_xu]) q (fun k hk => ?_) (by rw [hpu]) (by rw [hpu]; rfl) ?_
      · rw [hpu, qj k (by omega), if_pos hk]
        dsimp only
        rw [if_neg (by omega)]
      · repeat (first | exact trivial | refine ⟨by first | with_reducible rfl | exact congrArg (fun q => some (Value.int q)) (by first | with_reducible rfl | with_reducible assumption | exact (nI_succ _).symm | grind [nI_0]) | rfl, ?_⟩)
  · have hpu : pushU u v = (u.1 + 1, fun k => if k = u.1 then v else u.2 k) := if_neg h16
    have hx' : ¬ F 226 25 = 16 := by
      rw [hx, show ((16 : Int32)) = nI 16 from rfl, nI_eq (by omega) (by omega)]
      exact h16
    repeat' (first | fail | (refine X.f rfl ?_; first | refine z_iload rfl ?_ | refine z_aload rfl ?_ | refine z_push ?_ | refine z_istore rfl ?_ | refine z_astore rfl ?_ | refine z_gP rfl rfl ?_ | refine z_gI rfl ?_ | refine z_gotoF rfl ?_ | refine z_iadd ?_ | refine z_isub ?_ | refine z_imul ?_ | refine z_iand ?_ | refine z_ior ?_ | refine z_ishl ?_ | refine z_ishr ?_ | refine z_ixor ?_ | refine z_ineg ?_ | refine z_pI rfl ?_ | refine z_inc80 rfl ?_ | refine z_inc81 rfl ?_ | refine z_dup ?_ | refine z_dupr ?_ | refine z_dup2 ?_ | refine z_pop ?_ | refine z_idiv (by decide) ?_ | refine z_irem (by decide) ?_ | refine z_iaload rfl (by first | with_reducible assumption | decide | grind) (by first | with_reducible assumption | decide | grind) (by decide) ?_ | refine z_iastore rfl (by first | with_reducible assumption | decide | grind) (by first | with_reducible assumption | decide | grind) (by decide) ?_) | fail)
    ((refine X.f rfl ?_; first | refine z_ifeq (fun c => ?_) (fun c => ?_) | refine z_ifne (fun c => ?_) (fun c => ?_) | refine z_iflt (fun c => ?_) (fun c => ?_) | refine z_ifge (fun c => ?_) (fun c => ?_) | refine z_ifgt (fun c => ?_) (fun c => ?_) | refine z_ifle (fun c => ?_) (fun c => ?_) | refine z_ieq (fun c => ?_) (fun c => ?_) | refine z_ine (fun c => ?_) (fun c => ?_) | refine z_ilt (fun c => ?_) (fun c => ?_) | refine z_ige (fun c => ?_) (fun c => ?_) | refine z_igt (fun c => ?_) (fun c => ?_) | refine z_ile (fun c => ?_) (fun c => ?_)) <;> try (exfalso; first | (with_reducible exact absurd rfl c) | (with_reducible exact absurd (Int32.le_refl _) c) | (exact absurd c (by decide)) | (exact absurd c (by with_reducible assumption)) | (exact absurd (by with_reducible assumption) c)))
    refine tail u.1 F I _ (by omega) hx rfl sameU.refl (fun k hk => ?_) (by rw [hpu]) (by rw [hpu]; simp) ?_
    · rw [hpu, ← c5, hu k hk]
      dsimp only
      rw [if_neg (by omega)]
    · repeat (first | exact trivial | refine ⟨by first | with_reducible rfl | exact congrArg (fun q => some (Value.int q)) (by first | with_reducible rfl | with_reducible assumption | exact (nI_succ _).symm | grind [nI_0]) | rfl, ?_⟩)
end RG
