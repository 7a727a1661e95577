/-! THE REFERENCE: an hour goes by -/
/-- what holds of every scene -/
def okS (h : HV) (v : SV) : Prop := (∀ s, 0 ≤ s → s < 7 → (-1 ≤ owS v s ∧ owS v s < nI (hP h) ∧ (nI (hN h) ≤ s → owS v s = -1)) ∧ siS v s = sitterF (chS v) s (hP h)) ∧ (∀ p, 0 ≤ p → p < 5 → -1 ≤ chS v p ∧ chS v p < nI (hN h) ∧ (nI (hP h) ≤ p → chS v p = -1 ∧ poS v p = 0)) ∧ (∀ p q, p < hP h → q < hP h → chS v (nI p) = chS v (nI q) → 0 ≤ chS v (nI p) → p = q)
theorem okS.ow {h : HV} {v : SV} (H : okS h v) {s : Int32} (h0 : 0 ≤ s) (h1 : s < 7) : -1 ≤ owS v s ∧ owS v s < nI (hP h) := ⟨(H.1 s h0 h1).1.1, (H.1 s h0 h1).1.2.1⟩
theorem okS.ch {h : HV} {v : SV} (H : okS h v) {s : Int32} (h0 : 0 ≤ s) (h1 : s < 5) : -1 ≤ chS v s ∧ chS v s < nI (hN h) := ⟨(H.2.1 s h0 h1).1, (H.2.1 s h0 h1).2.1⟩
theorem lesS_ow {v : SV} {s x i : Int32} (hi : i ≠ s) : owS (lesS v s x) i = owS v i ∧ frS (lesS v s x) i = frS v i := by
  unfold lesS
  constructor
  · split <;> simp only [clrS, upS, owS, hi, and_false, if_false]
  · split <;> simp only [clrS, upS, frS, hi, and_false, if_false]
theorem lesS_other {v : SV} {s x i : Int32} {k : Nat} (hk : 2 ≤ k) : (lesS v s x).2 k i = v.2 k i := by
  unfold lesS clrS upS
  split
  · dsimp only
    rw [if_neg (by omega), if_neg (by omega)]
  · dsimp only
    rw [if_neg (by omega)]
theorem lesS_date {v : SV} {s x : Int32} : (lesS v s x).1 = v.1 := by
  unfold lesS clrS upS
  split <;> rfl
theorem passK_succ {h : HV} {v : SV} {d : Int32} {k : Nat} : passK h v d (k + 1) = if 0 ≤ owS v (nI k) then lesS (passK h v d k) (nI k) (lessS h v d (nI k)) else passK h v d k := rfl
theorem passK_ow {h : HV} {v : SV} {d : Int32} {j : Nat} (hj : j < 1000) : ∀ {k : Nat}, k ≤ j → owS (passK h v d k) (nI j) = owS v (nI j) ∧ frS (passK h v d k) (nI j) = frS v (nI j)
  | 0, _ => ⟨rfl, rfl⟩
  | k + 1, hk => by
    obtain ⟨i1, i2⟩ := passK_ow (h := h) (v := v) (d := d) hj (k := k) (by omega)
    obtain ⟨l1, l2⟩ := lesS_ow (v := passK h v d k) (x := lessS h v d (nI k)) (nI_ne (a := j) (b := k) hj (by omega) (by omega))
    unfold passK
    split
    · exact ⟨l1.trans i1, l2.trans i2⟩
    · exact ⟨i1, i2⟩
theorem HR.xv {I : Nat → Int32 → Int32} {h : HV} {c : Nat} {i x : Int32} (H : HR I h) (h1 : c ≠ 232) (h2 : c ≠ 233) (h3 : c ≠ 234) (h4 : c ≠ 244) : HR (xv I c i x) h := H.off (xv_ne h1.symm) (xv_ne h2.symm) (xv_ne h3.symm) (xv_ne h4.symm)
section R5
variable {e : Bool × Int32 × (Int32 → Int32)} {F : Nat → Nat → Int32} {I : Nat → Int32 → Int32} {G : Nat → Nat → Int64} {J : Nat → Int32 → Int64} {ha hb ea eb : Nat} {h : HV} {b : Int32} {v : SV}
set_option maxRecDepth 8000 in
theorem q_passes {d : Int32} (hH : HR I h) (hB : okB b) (hv : svR (I 242) (hP h) b = v) (hS : okS h v) : Y e 2 M_X12_passes [.ref 226, .int b, .int d] (F, I, G, J, P0 ha hb ea eb, Q0, S0) (fun w M' => w = some (.int (goneS h v d)) ∧ ∃ I', M' = (F, I', G, J, P0 ha hb ea eb, Q0, S0) ∧ sameR I I' b ∧ svR (I' 242) (hP h) b = passS h v d) := by
  have hN7 : hN h ≤ 7 := hH.2.1
  have hN' := hH.1
  obtain ⟨hB0, hB1⟩ := id hB
  unfold Y goneS
  refine X.f rfl (z_aload rfl ?_)
  refine X.f rfl (z_iload rfl ?_)
  (refine X.f rfl ?_; refine z_cav (q_laidSeats hH hB) rfl (by rfl) (by rfl) rfl rfl rfl rfl ?_)
  rw [hv]
  iterate 3 (first | refine X.f rfl (z_iload rfl ?_) | refine X.f rfl (z_aload rfl ?_) | refine X.f rfl (z_push ?_) | refine X.f rfl (z_istore rfl ?_) | refine X.f rfl (z_gP rfl rfl ?_) | refine X.f rfl (z_gI rfl ?_) | refine X.f rfl (z_gotoF rfl ?_) | refine X.f rfl (z_iadd ?_) | refine X.f rfl (z_isub ?_) | refine X.f rfl (z_imul ?_) | refine X.f rfl (z_iand ?_) | refine X.f rfl (z_ior ?_) | refine X.f rfl (z_ishl ?_) | refine X.f rfl (z_ishr ?_) | refine X.f rfl (z_pI rfl ?_) | refine X.f rfl (z_inc80 rfl ?_) | refine X.f rfl (z_dup ?_) | refine X.f rfl (z_dupr ?_) | refine X.f rfl (z_dup2 ?_) | refine X.f rfl (z_pop ?_) | refine X.f rfl (z_ixor ?_) | refine X.f rfl (z_idiv (by decide) ?_) | refine X.f rfl (z_irem (by decide) ?_) | refine X.f rfl (z_ineg ?_) | refine X.f rfl (z_iaload rfl (by assumption) (by assumption) (by decide) ?_))
  refine x_forR (hN h) (fun i (_ : Unit) => [some (.ref 226), some (.int b), some (.int d), some (.int (laidS h v)), some (.int (nI i)), none, none]) (fun i _ M => ∃ I', M = (F, I', G, J, P0 ha hb ea eb, Q0, S0) ∧ (∀ c, c ≠ 240 → c ≠ 241 → c ≠ 245 → I' c = I c) ∧ ∀ k, k < i → I' 245 (nI k) = lessS h v d (nI k)) (fun i _ M hi hM k => ?_) (fun _ M hM => ?_) (i := 0) (a := ()) (by omega) ⟨I, rfl, fun _ _ _ _ => rfl, fun k hk => absurd hk (by omega)⟩ (by repeat (first | exact trivial | refine ⟨by first | with_reducible rfl | exact congrArg (fun q => some (Value.int q)) (by first | with_reducible rfl | with_reducible assumption | exact (nI_succ _).symm | grind [nI_0]) | rfl, ?_⟩))
  · obtain ⟨I', rfl, hs, hl⟩ := hM
    obtain ⟨h0, h1, h2⟩ := nI_lt7 hi hN7
    obtain ⟨n1, n2, -, -⟩ := hH.seat h0 h1
    obtain ⟨ow0, ow1⟩ := hS.ow h0 h1
    have hP5 := nI_le5 hH.2.2.2.1
    have a242 := hs 242 (by decide) (by decide) (by decide)
    have a232 := hs 232 (by decide) (by decide) (by decide)
    have a244 := hs 244 (by decide) (by decide) (by decide)
    have hH' : HR I' h := hH.off a232 (hs 233 (by decide) (by decide) (by decide)) (hs 234 (by decide) (by decide) (by decide)) a244
    have w1 : I 242 (b + 1 + nI i) = owS v (nI i) := by rw [← hv]; exact (svR_ow h0 h1).symm
    have w2 : I 242 (b + 8 + nI i) = frS v (nI i) := by rw [← hv]; exact (svR_fr h0 h1).symm
    have w3 : I 242 (b + 0) = v.1 := by rw [← hv, Int32.add_zero]; rfl
    have h2' : ¬ nI (hN h) ≤ nI i := by grind
    have sb0 : 0 ≤ 4 + 2 * nI i + 0 := by grind
    have sb1 : 4 + 2 * nI i + 0 < 80 := by grind
    have tail : ∀ (I2 : Nat → Int32 → Int32) (x : Int32), (∀ c, c ≠ 240 → c ≠ 241 → c ≠ 245 → I2 c = I c) → I2 245 = I' 245 → (wearS h (frS v (nI i)) (bc (laidS h v &&& hNear h (nI i)) 30) (hRow h (nI i)) v.1 = if x < 0 then 0 else if 9 < x then 9 else x) → ∀ L', lle [some (.ref 226), some (.int b), some (.int d), some (.int (laidS h v)), some (.int (nI i)), some (.int (owS v (nI i))), none] L' → X e 2 M_X12_passes.2.2 73 L' [.int x] (F, I2, G, J, P0 ha hb ea eb, Q0, S0) (fun w M' => w = some (.int (bset (goesS h v d) (hN h))) ∧ ∃ I', M' = (F, I', G, J, P0 ha hb ea eb, Q0, S0) ∧ sameR I I' b ∧ svR (I' 242) (hP h) b = passS h v d) := by
      intro I2 x hs2 h245 hx L' hL
      refine X.weak hL ?_
      have fin : ∀ y L', y = lessS h v d (nI i) → lle [some (.ref 226), some (.int b), some (.int d), some (.int (laidS h v)), some (.int (nI (i + 1))), none, none] L' → X e 2 M_X12_passes.2.2 6 L' [] (F, (xv I2 245 (nI i) y), G, J, P0 ha hb ea eb, Q0, S0) (fun w M' => w = some (.int (bset (goesS h v d) (hN h))) ∧ ∃ I', M' = (F, I', G, J, P0 ha hb ea eb, Q0, S0) ∧ sameR I I' b ∧ svR (I' 242) (hP h) b = passS h v d) := by
        intro y L' hy hL
        refine k () _ _ ⟨_, rfl, fun c q1 q2 q3 => by rw [xv_ne q3]; exact hs2 c q1 q2 q3, fun j hj => ?_⟩ hL
        rw [xv_row, row_same]
        by_cases hji : j = i
        · subst hji
          rw [up_self]; exact hy
        · rw [up_ne (nI_ne (by omega) (by omega) hji), h245]
          exact hl j (by omega)
      have b232 := hs2 232 (by decide) (by decide) (by decide)
      unfold lessS at fin
      rw [hx] at fin
      have pk : 0 ≤ owS v (nI i) → I 232 (18 + 3 * owS v (nI i) + 0) = hKind h (owS v (nI i)) := fun q => (hH.pers q (by grind)).1
      clear hH hH' hS hs hl k hs2
      repeat' (first | rw [b232] | rw [pk (by grind)] | (refine X.f rfl ?_; first | refine z_iload rfl ?_ | refine z_aload rfl ?_ | refine z_push ?_ | refine z_istore rfl ?_ | refine z_astore rfl ?_ | refine z_gP rfl rfl ?_ | refine z_gI rfl ?_ | refine z_gotoF rfl ?_ | refine z_iadd ?_ | refine z_isub ?_ | refine z_imul ?_ | refine z_iand ?_ | refine z_ior ?_ | refine z_ishl ?_ | refine z_ishr ?_ | refine z_ixor ?_ | refine z_ineg ?_ | refine z_pI rfl ?_ | refine z_inc80 rfl ?_ | refine z_inc81 rfl ?_ | refine z_dup ?_ | refine z_dupr ?_ | refine z_dup2 ?_ | refine z_pop ?_ | refine z_idiv (by decide) ?_ | refine z_irem (by decide) ?_ | refine z_iaload rfl (by first | with_reducible assumption | decide | grind) (by first | with_reducible assumption | decide | grind) (by decide) ?_ | refine z_iastore rfl (by first | with_reducible assumption | decide | grind) (by first | with_reducible assumption | decide | grind) (by decide) ?_) | ((refine X.f rfl ?_; first | refine z_ifeq (fun c => ?_) (fun c => ?_) | refine z_ifne (fun c => ?_) (fun c => ?_) | refine z_iflt (fun c => ?_) (fun c => ?_) | refine z_ifge (fun c => ?_) (fun c => ?_) | refine z_ifgt (fun c => ?_) (fun c => ?_) | refine z_ifle (fun c => ?_) (fun c => ?_) | refine z_ieq (fun c => ?_) (fun c => ?_) | refine z_ine (fun c => ?_) (fun c => ?_) | refine z_ilt (fun c => ?_) (fun c => ?_) | refine z_ige (fun c => ?_) (fun c => ?_) | refine z_igt (fun c => ?_) (fun c => ?_) | refine z_ile (fun c => ?_) (fun c => ?_)) <;> try (exfalso; first | (with_reducible exact absurd rfl c) | (with_reducible exact absurd (Int32.le_refl _) c) | (revert c; decide) | (with_reducible contradiction))) | (refine X.f rfl ?_; refine z_cav (r_personOf (s := owS v (nI i)) (w := 0) (by grind) (by grind)) rfl (by rfl) (by rfl) rfl rfl rfl rfl ?_))
      all_goals (try (exfalso; grind; done))
      all_goals
        refine X.f rfl (z_goto (fin _ _ (by grind) ?_))
        repeat (first | exact trivial | refine ⟨by first | with_reducible rfl | exact congrArg (fun q => some (Value.int q)) (by first | with_reducible rfl | with_reducible assumption | exact (nI_succ _).symm | grind [nI_succ]) | rfl, ?_⟩)
    have hH4 := (((hH'.xv (c := 240) (i := 0) (x := frS v (nI i)) (by decide) (by decide) (by decide) (by decide)).xv (c := 240) (i := 1) (x := bc (laidS h v &&& hNear h (nI i)) 30) (by decide) (by decide) (by decide) (by decide)).xv (c := 240) (i := 2) (x := hRow h (nI i)) (by decide) (by decide) (by decide) (by decide)).xv (c := 240) (i := 3) (x := v.1) (by decide) (by decide) (by decide) (by decide)
    by_cases hcd : hCode h = []
    · have hlaw : I 232 3 < 0 := by
        rcases hH.2.2.2.2.2.2.2 with ⟨-, q⟩ | q
        · exact q
        · exact absurd hcd q.1
      have tl := tail (xv (xv (xv (xv I' 240 0 (frS v (nI i))) 240 1 (bc (laidS h v &&& hNear h (nI i)) 30)) 240 2 (hRow h (nI i))) 240 3 v.1) 1 (fun c q1 q2 q3 => by rw [xv_ne q1, xv_ne q1, xv_ne q1, xv_ne q1]; exact hs c q1 q2 q3) (by rw [xv_ne, xv_ne, xv_ne, xv_ne] <;> decide) (by unfold wearS; rw [if_pos hcd]; decide)
      clear hH hH' hS hs hl hH4 tail k
      repeat' (first | rw [a242] | rw [a232] | rw [a244] | rw [hN'] | rw [n1] | rw [n2] | rw [w1] | rw [w2] | rw [w3] | (simp only [xv_ne, ne_eq, Nat.reduceEqDiff, not_false_eq_true]) | (refine tl _ ?_; repeat (first | exact trivial | refine ⟨by first | with_reducible rfl | exact congrArg (fun q => some (Value.int q)) (by first | with_reducible rfl | with_reducible assumption | exact (nI_succ _).symm | grind [nI_0]) | rfl, ?_⟩)) | (refine X.f rfl ?_; first | refine z_iload rfl ?_ | refine z_aload rfl ?_ | refine z_push ?_ | refine z_istore rfl ?_ | refine z_astore rfl ?_ | refine z_gP rfl rfl ?_ | refine z_gI rfl ?_ | refine z_gotoF rfl ?_ | refine z_iadd ?_ | refine z_isub ?_ | refine z_imul ?_ | refine z_iand ?_ | refine z_ior ?_ | refine z_ishl ?_ | refine z_ishr ?_ | refine z_ixor ?_ | refine z_ineg ?_ | refine z_pI rfl ?_ | refine z_inc80 rfl ?_ | refine z_inc81 rfl ?_ | refine z_dup ?_ | refine z_dupr ?_ | refine z_dup2 ?_ | refine z_pop ?_ | refine z_idiv (by decide) ?_ | refine z_irem (by decide) ?_ | refine z_iaload rfl (by first | with_reducible assumption | decide | grind) (by first | with_reducible assumption | decide | grind) (by decide) ?_ | refine z_iastore rfl (by first | with_reducible assumption | decide | grind) (by first | with_reducible assumption | decide | grind) (by decide) ?_) | ((refine X.f rfl ?_; first | refine z_ifeq (fun c => ?_) (fun c => ?_) | refine z_ifne (fun c => ?_) (fun c => ?_) | refine z_iflt (fun c => ?_) (fun c => ?_) | refine z_ifge (fun c => ?_) (fun c => ?_) | refine z_ifgt (fun c => ?_) (fun c => ?_) | refine z_ifle (fun c => ?_) (fun c => ?_) | refine z_ieq (fun c => ?_) (fun c => ?_) | refine z_ine (fun c => ?_) (fun c => ?_) | refine z_ilt (fun c => ?_) (fun c => ?_) | refine z_ige (fun c => ?_) (fun c => ?_) | refine z_igt (fun c => ?_) (fun c => ?_) | refine z_ile (fun c => ?_) (fun c => ?_)) <;> try (exfalso; first | (with_reducible exact absurd rfl c) | (with_reducible exact absurd (Int32.le_refl _) c) | (revert c; decide) | (with_reducible contradiction))) | (refine X.f rfl ?_; refine z_cav (r_seats) rfl (by rfl) (by rfl) rfl rfl rfl rfl ?_) | (refine X.f rfl ?_; refine z_cas (r_bits) rfl (by rfl) (by rfl) rfl rfl rfl ?_) | (refine X.f rfl ?_; refine z_cav (r_seatOf (s := nI i) (w := 0) sb0 sb1) rfl (by rfl) (by rfl) rfl rfl rfl rfl ?_))
      all_goals (try (exfalso; grind; done))
    · have hlaw : ¬ I 232 3 < 0 := by
        rcases hH.2.2.2.2.2.2.2 with ⟨q, -⟩ | q
        · exact absurd q hcd
        · have := q.2.1
          grind
      have hx : ∀ y, y = (evS (frS v (nI i)) (bc (laidS h v &&& hNear h (nI i)) 30) (hRow h (nI i)) v.1 (hCode h) []).headD 0 → (wearS h (frS v (nI i)) (bc (laidS h v &&& hNear h (nI i)) 30) (hRow h (nI i)) v.1 = if y < 0 then 0 else if 9 < y then 9 else y) := by
        intro y hy
        unfold wearS
        rw [if_neg hcd, hy]
      clear hH hH' hS hl k
      repeat' (first | rw [a242] | rw [a232] | rw [a244] | rw [hN'] | rw [n1] | rw [n2] | rw [w1] | rw [w2] | rw [w3] | (simp only [xv_ne, ne_eq, Nat.reduceEqDiff, not_false_eq_true]) | (refine X.f rfl ?_; first | refine z_iload rfl ?_ | refine z_aload rfl ?_ | refine z_push ?_ | refine z_istore rfl ?_ | refine z_astore rfl ?_ | refine z_gP rfl rfl ?_ | refine z_gI rfl ?_ | refine z_gotoF rfl ?_ | refine z_iadd ?_ | refine z_isub ?_ | refine z_imul ?_ | refine z_iand ?_ | refine z_ior ?_ | refine z_ishl ?_ | refine z_ishr ?_ | refine z_ixor ?_ | refine z_ineg ?_ | refine z_pI rfl ?_ | refine z_inc80 rfl ?_ | refine z_inc81 rfl ?_ | refine z_dup ?_ | refine z_dupr ?_ | refine z_dup2 ?_ | refine z_pop ?_ | refine z_idiv (by decide) ?_ | refine z_irem (by decide) ?_ | refine z_iaload rfl (by first | with_reducible assumption | decide | grind) (by first | with_reducible assumption | decide | grind) (by decide) ?_ | refine z_iastore rfl (by first | with_reducible assumption | decide | grind) (by first | with_reducible assumption | decide | grind) (by decide) ?_) | ((refine X.f rfl ?_; first | refine z_ifeq (fun c => ?_) (fun c => ?_) | refine z_ifne (fun c => ?_) (fun c => ?_) | refine z_iflt (fun c => ?_) (fun c => ?_) | refine z_ifge (fun c => ?_) (fun c => ?_) | refine z_ifgt (fun c => ?_) (fun c => ?_) | refine z_ifle (fun c => ?_) (fun c => ?_) | refine z_ieq (fun c => ?_) (fun c => ?_) | refine z_ine (fun c => ?_) (fun c => ?_) | refine z_ilt (fun c => ?_) (fun c => ?_) | refine z_ige (fun c => ?_) (fun c => ?_) | refine z_igt (fun c => ?_) (fun c => ?_) | refine z_ile (fun c => ?_) (fun c => ?_)) <;> try (exfalso; first | (with_reducible exact absurd rfl c) | (with_reducible exact absurd (Int32.le_refl _) c) | (revert c; decide) | (with_reducible contradiction))) | (refine X.f rfl ?_; refine z_cav (r_seats) rfl (by rfl) (by rfl) rfl rfl rfl rfl ?_) | (refine X.f rfl ?_; refine z_cas (r_bits) rfl (by rfl) (by rfl) rfl rfl rfl ?_) | (refine X.f rfl ?_; refine z_cav (r_seatOf (s := nI i) (w := 0) sb0 sb1) rfl (by rfl) (by rfl) rfl rfl rfl rfl ?_))
      all_goals (try (exfalso; grind; done))
      have e3 : I 232 3 = (xv (xv (xv (xv I' 240 0 (frS v (nI i))) 240 1 (bc (laidS h v &&& hNear h (nI i)) 30)) 240 2 (hRow h (nI i))) 240 3 v.1) 232 3 := by (simp only [xv_ne, ne_eq, Nat.reduceEqDiff, not_false_eq_true]); rw [a232]
      rw [e3]
      refine X.f rfl (z_cv (q_worthAt hH4 hcd rfl rfl rfl rfl) rfl (by rfl) (by rfl) rfl rfl rfl rfl ?_)
      rintro _ _ ⟨rfl, I2, rfl, hI2⟩
      refine tail I2 _ (fun c q1 q2 q3 => by rw [hI2 c q2, xv_ne q1, xv_ne q1, xv_ne q1, xv_ne q1]; exact hs c q1 q2 q3) (by rw [hI2 245 (by decide), xv_ne, xv_ne, xv_ne, xv_ne] <;> decide) (hx _ (by simp [xv])) _ ?_
      repeat (first | exact trivial | refine ⟨by first | with_reducible rfl | exact congrArg (fun q => some (Value.int q)) (by first | with_reducible rfl | with_reducible assumption | exact (nI_succ _).symm | grind [nI_0]) | rfl, ?_⟩)
  · obtain ⟨I1, rfl, hs, hl⟩ := hM
    have a232 := hs 232 (by decide) (by decide) (by decide)
    have hnn : nI (hN h) ≤ nI (hN h) := by grind
    repeat' (first | rw [a232] | rw [hN'] | (refine X.f rfl ?_; first | refine z_iload rfl ?_ | refine z_aload rfl ?_ | refine z_push ?_ | refine z_istore rfl ?_ | refine z_astore rfl ?_ | refine z_gP rfl rfl ?_ | refine z_gI rfl ?_ | refine z_gotoF rfl ?_ | refine z_iadd ?_ | refine z_isub ?_ | refine z_imul ?_ | refine z_iand ?_ | refine z_ior ?_ | refine z_ishl ?_ | refine z_ishr ?_ | refine z_ixor ?_ | refine z_ineg ?_ | refine z_pI rfl ?_ | refine z_inc80 rfl ?_ | refine z_inc81 rfl ?_ | refine z_dup ?_ | refine z_dupr ?_ | refine z_dup2 ?_ | refine z_pop ?_ | refine z_idiv (by decide) ?_ | refine z_irem (by decide) ?_ | refine z_iaload rfl (by first | with_reducible assumption | decide | grind) (by first | with_reducible assumption | decide | grind) (by decide) ?_ | refine z_iastore rfl (by first | with_reducible assumption | decide | grind) (by first | with_reducible assumption | decide | grind) (by decide) ?_) | (refine X.f rfl ?_; refine z_cav (r_seats) rfl (by rfl) (by rfl) rfl rfl rfl rfl ?_))
    ((refine X.f rfl ?_; first | refine z_ifeq (fun c => ?_) (fun c => ?_) | refine z_ifne (fun c => ?_) (fun c => ?_) | refine z_iflt (fun c => ?_) (fun c => ?_) | refine z_ifge (fun c => ?_) (fun c => ?_) | refine z_ifgt (fun c => ?_) (fun c => ?_) | refine z_ifle (fun c => ?_) (fun c => ?_) | refine z_ieq (fun c => ?_) (fun c => ?_) | refine z_ine (fun c => ?_) (fun c => ?_) | refine z_ilt (fun c => ?_) (fun c => ?_) | refine z_ige (fun c => ?_) (fun c => ?_) | refine z_igt (fun c => ?_) (fun c => ?_) | refine z_ile (fun c => ?_) (fun c => ?_)) <;> try (exfalso; first | (with_reducible exact absurd rfl c) | (with_reducible exact absurd (Int32.le_refl _) c) | (revert c; decide) | (with_reducible contradiction)))
    · iterate 4 ((refine X.f rfl ?_; first | refine z_iload rfl ?_ | refine z_aload rfl ?_ | refine z_push ?_ | refine z_istore rfl ?_ | refine z_astore rfl ?_ | refine z_gP rfl rfl ?_ | refine z_gI rfl ?_ | refine z_gotoF rfl ?_ | refine z_iadd ?_ | refine z_isub ?_ | refine z_imul ?_ | refine z_iand ?_ | refine z_ior ?_ | refine z_ishl ?_ | refine z_ishr ?_ | refine z_ixor ?_ | refine z_ineg ?_ | refine z_pI rfl ?_ | refine z_inc80 rfl ?_ | refine z_inc81 rfl ?_ | refine z_dup ?_ | refine z_dupr ?_ | refine z_dup2 ?_ | refine z_pop ?_ | refine z_idiv (by decide) ?_ | refine z_irem (by decide) ?_ | refine z_iaload rfl (by first | with_reducible assumption | decide | grind) (by first | with_reducible assumption | decide | grind) (by decide) ?_ | refine z_iastore rfl (by first | with_reducible assumption | decide | grind) (by first | with_reducible assumption | decide | grind) (by decide) ?_))
      refine x_forR (hN h) (fun i (_ : Unit) => [some (.ref 226), some (.int b), some (.int d), some (.int (laidS h v)), some (.int (bset (goesS h v d) i)), some (.int (nI i)), none]) (fun i _ M => ∃ I', M = (F, I', G, J, P0 ha hb ea eb, Q0, S0) ∧ sameR I I' b ∧ I' 245 = I1 245 ∧ svR (I' 242) (hP h) b = passK h v d i) (fun i _ M hi hM k => ?_) (fun _ M hM => ?_) (i := 0) (a := ()) (by omega) ⟨I1, rfl, ⟨fun c q1 q2 q3 q4 => hs c q1 q2 q4, fun i _ => by rw [hs 242 (by decide) (by decide) (by decide)]⟩, rfl, by rw [hs 242 (by decide) (by decide) (by decide)]; exact hv⟩ (by repeat (first | exact trivial | refine ⟨by first | with_reducible rfl | exact congrArg (fun q => some (Value.int q)) (by first | with_reducible rfl | with_reducible assumption | exact (nI_succ _).symm | grind [nI_0]) | rfl, ?_⟩))
      · obtain ⟨I', rfl, hs', h245, hv'⟩ := hM
        obtain ⟨h0, h1, h2⟩ := nI_lt7 hi hN7
        have h2' : ¬ nI (hN h) ≤ nI i := by grind
        have a232 : I' 232 = I 232 := hs'.1 232 (by decide) (by decide) (by decide) (by decide)
        have hH' : HR I' h := hs'.HR hH
        have l245 : I' 245 (nI i) = lessS h v d (nI i) := by rw [h245]; exact hl i hi
        obtain ⟨p1, p2⟩ := passK_ow (h := h) (v := v) (d := d) (j := i) (by omega) (k := i) (by omega)
        have hbit : ((laidS h v >>> (nI i &&& 31)) &&& 1 = 1) ↔ 0 ≤ owS v (nI i) := by
          have := tb_bset (p := fun s => decide (0 ≤ owS v s)) (k := i) (by omega) (n := hN h) (by omega)
          rw [show decide (i < hN h) = true by simpa using hi, Bool.true_and] at this
          unfold tb at this
          exact decide_eq_decide.mp this
        have hg := q_isGoneBy (e := e) (F := F) (G := G) (J := J) (ha := ha) (hb := hb) (ea := ea) (eb := eb) (x := lessS h v d (nI i)) hH' hB h0 h1
        clear hl hs
        repeat' (first | rw [a232] | rw [hN'] | rw [l245] | (refine X.f rfl ?_; first | refine z_iload rfl ?_ | refine z_aload rfl ?_ | refine z_push ?_ | refine z_istore rfl ?_ | refine z_astore rfl ?_ | refine z_gP rfl rfl ?_ | refine z_gI rfl ?_ | refine z_gotoF rfl ?_ | refine z_iadd ?_ | refine z_isub ?_ | refine z_imul ?_ | refine z_iand ?_ | refine z_ior ?_ | refine z_ishl ?_ | refine z_ishr ?_ | refine z_ixor ?_ | refine z_ineg ?_ | refine z_pI rfl ?_ | refine z_inc80 rfl ?_ | refine z_inc81 rfl ?_ | refine z_dup ?_ | refine z_dupr ?_ | refine z_dup2 ?_ | refine z_pop ?_ | refine z_idiv (by decide) ?_ | refine z_irem (by decide) ?_ | refine z_iaload rfl (by first | with_reducible assumption | decide | grind) (by first | with_reducible assumption | decide | grind) (by decide) ?_ | refine z_iastore rfl (by first | with_reducible assumption | decide | grind) (by first | with_reducible assumption | decide | grind) (by decide) ?_) | (refine X.f rfl ?_; refine z_cav (r_seats) rfl (by rfl) (by rfl) rfl rfl rfl rfl ?_))
        ((refine X.f rfl ?_; first | refine z_ifeq (fun c => ?_) (fun c => ?_) | refine z_ifne (fun c => ?_) (fun c => ?_) | refine z_iflt (fun c => ?_) (fun c => ?_) | refine z_ifge (fun c => ?_) (fun c => ?_) | refine z_ifgt (fun c => ?_) (fun c => ?_) | refine z_ifle (fun c => ?_) (fun c => ?_) | refine z_ieq (fun c => ?_) (fun c => ?_) | refine z_ine (fun c => ?_) (fun c => ?_) | refine z_ilt (fun c => ?_) (fun c => ?_) | refine z_ige (fun c => ?_) (fun c => ?_) | refine z_igt (fun c => ?_) (fun c => ?_) | refine z_ile (fun c => ?_) (fun c => ?_)) <;> try (exfalso; first | (with_reducible exact absurd rfl c) | (with_reducible exact absurd (Int32.le_refl _) c) | (revert c; decide) | (with_reducible contradiction)))
        repeat' (first | rw [l245] | (refine X.f rfl ?_; first | refine z_iload rfl ?_ | refine z_aload rfl ?_ | refine z_push ?_ | refine z_istore rfl ?_ | refine z_astore rfl ?_ | refine z_gP rfl rfl ?_ | refine z_gI rfl ?_ | refine z_gotoF rfl ?_ | refine z_iadd ?_ | refine z_isub ?_ | refine z_imul ?_ | refine z_iand ?_ | refine z_ior ?_ | refine z_ishl ?_ | refine z_ishr ?_ | refine z_ixor ?_ | refine z_ineg ?_ | refine z_pI rfl ?_ | refine z_inc80 rfl ?_ | refine z_inc81 rfl ?_ | refine z_dup ?_ | refine z_dupr ?_ | refine z_dup2 ?_ | refine z_pop ?_ | refine z_idiv (by decide) ?_ | refine z_irem (by decide) ?_ | refine z_iaload rfl (by first | with_reducible assumption | decide | grind) (by first | with_reducible assumption | decide | grind) (by decide) ?_ | refine z_iastore rfl (by first | with_reducible assumption | decide | grind) (by first | with_reducible assumption | decide | grind) (by decide) ?_) | ((refine X.f rfl ?_; first | refine z_ifeq (fun c => ?_) (fun c => ?_) | refine z_ifne (fun c => ?_) (fun c => ?_) | refine z_iflt (fun c => ?_) (fun c => ?_) | refine z_ifge (fun c => ?_) (fun c => ?_) | refine z_ifgt (fun c => ?_) (fun c => ?_) | refine z_ifle (fun c => ?_) (fun c => ?_) | refine z_ieq (fun c => ?_) (fun c => ?_) | refine z_ine (fun c => ?_) (fun c => ?_) | refine z_ilt (fun c => ?_) (fun c => ?_) | refine z_ige (fun c => ?_) (fun c => ?_) | refine z_igt (fun c => ?_) (fun c => ?_) | refine z_ile (fun c => ?_) (fun c => ?_)) <;> try (exfalso; first | (with_reducible exact absurd rfl c) | (with_reducible exact absurd (Int32.le_refl _) c) | (revert c; decide) | (with_reducible contradiction))) | fail)
        · have hc : ¬ 0 ≤ owS v (nI i) := fun q => c (hbit.mpr q)
          have hk2 : svR (I' 242) (hP h) b = passK h v d (i + 1) := by
            rw [hv']
            rw [passK_succ, if_neg hc]
          have hg2 : goesS h v d (nI i) = false := by
            unfold goesS
            simp [hc]
          refine X.f rfl (z_goto (k () _ _ ?_ ?_))
          · exact ⟨_, rfl, hs', h245, hk2⟩
          · repeat (first | exact trivial | refine ⟨by first | with_reducible rfl | exact congrArg (fun q => some (Value.int q)) (by first | with_reducible rfl | with_reducible assumption | exact (nI_succ _).symm | grind [bset, Int32.or_zero]) | rfl, ?_⟩)
        · have hc := hbit.mp (by grind)
          refine X.f rfl (z_cv (hg) rfl (by rfl) (by rfl) rfl rfl rfl rfl ?_)
          rintro _ _ ⟨rfl, I2, rfl, hs2, hv2⟩
          have hg2 : (frS (svR (I' 242) (hP h) b) (nI i) - lessS h v d (nI i) ≤ 0) ↔ goesS h v d (nI i) = true := by
            rw [hv', p2]
            unfold goesS
            simp [hc]
          have hk2 : svR (I2 242) (hP h) b = passK h v d (i + 1) := by
            rw [hv2, hv']
            rw [passK_succ, if_pos hc]
          have hs3 := hs'.trans hs2.R
          have h245' := (hs2.1 245 (by decide)).trans h245
          repeat' (first | (refine X.f rfl ?_; first | refine z_iload rfl ?_ | refine z_aload rfl ?_ | refine z_push ?_ | refine z_istore rfl ?_ | refine z_astore rfl ?_ | refine z_gP rfl rfl ?_ | refine z_gI rfl ?_ | refine z_gotoF rfl ?_ | refine z_iadd ?_ | refine z_isub ?_ | refine z_imul ?_ | refine z_iand ?_ | refine z_ior ?_ | refine z_ishl ?_ | refine z_ishr ?_ | refine z_ixor ?_ | refine z_ineg ?_ | refine z_pI rfl ?_ | refine z_inc80 rfl ?_ | refine z_inc81 rfl ?_ | refine z_dup ?_ | refine z_dupr ?_ | refine z_dup2 ?_ | refine z_pop ?_ | refine z_idiv (by decide) ?_ | refine z_irem (by decide) ?_ | refine z_iaload rfl (by first | with_reducible assumption | decide | grind) (by first | with_reducible assumption | decide | grind) (by decide) ?_ | refine z_iastore rfl (by first | with_reducible assumption | decide | grind) (by first | with_reducible assumption | decide | grind) (by decide) ?_) | ((refine X.f rfl ?_; first | refine z_ifeq (fun c => ?_) (fun c => ?_) | refine z_ifne (fun c => ?_) (fun c => ?_) | refine z_iflt (fun c => ?_) (fun c => ?_) | refine z_ifge (fun c => ?_) (fun c => ?_) | refine z_ifgt (fun c => ?_) (fun c => ?_) | refine z_ifle (fun c => ?_) (fun c => ?_) | refine z_ieq (fun c => ?_) (fun c => ?_) | refine z_ine (fun c => ?_) (fun c => ?_) | refine z_ilt (fun c => ?_) (fun c => ?_) | refine z_ige (fun c => ?_) (fun c => ?_) | refine z_igt (fun c => ?_) (fun c => ?_) | refine z_ile (fun c => ?_) (fun c => ?_)) <;> try (exfalso; first | (with_reducible exact absurd rfl c) | (with_reducible exact absurd (Int32.le_refl _) c) | (revert c; decide) | (with_reducible contradiction))) | fail)
          · refine X.f rfl (z_goto (k () _ _ ?_ ?_))
            · exact ⟨_, rfl, hs3, h245', hk2⟩
            · repeat (first | exact trivial | refine ⟨by first | with_reducible rfl | exact congrArg (fun q => some (Value.int q)) (by first | with_reducible rfl | with_reducible assumption | exact (nI_succ _).symm | grind [bset]) | rfl, ?_⟩)
          · refine X.f rfl (z_goto (k () _ _ ?_ ?_))
            · exact ⟨_, rfl, hs3, h245', hk2⟩
            · repeat (first | exact trivial | refine ⟨by first | with_reducible rfl | exact congrArg (fun q => some (Value.int q)) (by first | with_reducible rfl | with_reducible assumption | exact (nI_succ _).symm | grind [bset]) | rfl, ?_⟩)
      · obtain ⟨I', rfl, hs', h245, hv'⟩ := hM
        have a232 : I' 232 = I 232 := hs'.1 232 (by decide) (by decide) (by decide) (by decide)
        have hH' : HR I' h := hs'.HR hH
        clear hl hs hS
        repeat' (first | rw [a232] | rw [hN'] | (refine X.f rfl ?_; first | refine z_iload rfl ?_ | refine z_aload rfl ?_ | refine z_push ?_ | refine z_istore rfl ?_ | refine z_astore rfl ?_ | refine z_gP rfl rfl ?_ | refine z_gI rfl ?_ | refine z_gotoF rfl ?_ | refine z_iadd ?_ | refine z_isub ?_ | refine z_imul ?_ | refine z_iand ?_ | refine z_ior ?_ | refine z_ishl ?_ | refine z_ishr ?_ | refine z_ixor ?_ | refine z_ineg ?_ | refine z_pI rfl ?_ | refine z_inc80 rfl ?_ | refine z_inc81 rfl ?_ | refine z_dup ?_ | refine z_dupr ?_ | refine z_dup2 ?_ | refine z_pop ?_ | refine z_idiv (by decide) ?_ | refine z_irem (by decide) ?_ | refine z_iaload rfl (by first | with_reducible assumption | decide | grind) (by first | with_reducible assumption | decide | grind) (by decide) ?_ | refine z_iastore rfl (by first | with_reducible assumption | decide | grind) (by first | with_reducible assumption | decide | grind) (by decide) ?_) | (refine X.f rfl ?_; refine z_cav (r_seats) rfl (by rfl) (by rfl) rfl rfl rfl rfl ?_))
        ((refine X.f rfl ?_; first | refine z_ifeq (fun c => ?_) (fun c => ?_) | refine z_ifne (fun c => ?_) (fun c => ?_) | refine z_iflt (fun c => ?_) (fun c => ?_) | refine z_ifge (fun c => ?_) (fun c => ?_) | refine z_ifgt (fun c => ?_) (fun c => ?_) | refine z_ifle (fun c => ?_) (fun c => ?_) | refine z_ieq (fun c => ?_) (fun c => ?_) | refine z_ine (fun c => ?_) (fun c => ?_) | refine z_ilt (fun c => ?_) (fun c => ?_) | refine z_ige (fun c => ?_) (fun c => ?_) | refine z_igt (fun c => ?_) (fun c => ?_) | refine z_ile (fun c => ?_) (fun c => ?_)) <;> try (exfalso; first | (with_reducible exact absurd rfl c) | (with_reducible exact absurd (Int32.le_refl _) c) | (revert c; decide) | (with_reducible contradiction)))
        · repeat' (first | fail | (refine X.f rfl ?_; first | refine z_iload rfl ?_ | refine z_aload rfl ?_ | refine z_push ?_ | refine z_istore rfl ?_ | refine z_astore rfl ?_ | refine z_gP rfl rfl ?_ | refine z_gI rfl ?_ | refine z_gotoF rfl ?_ | refine z_iadd ?_ | refine z_isub ?_ | refine z_imul ?_ | refine z_iand ?_ | refine z_ior ?_ | refine z_ishl ?_ | refine z_ishr ?_ | refine z_ixor ?_ | refine z_ineg ?_ | refine z_pI rfl ?_ | refine z_inc80 rfl ?_ | refine z_inc81 rfl ?_ | refine z_dup ?_ | refine z_dupr ?_ | refine z_dup2 ?_ | refine z_pop ?_ | refine z_idiv (by decide) ?_ | refine z_irem (by decide) ?_ | refine z_iaload rfl (by first | with_reducible assumption | decide | grind) (by first | with_reducible assumption | decide | grind) (by decide) ?_ | refine z_iastore rfl (by first | with_reducible assumption | decide | grind) (by first | with_reducible assumption | decide | grind) (by decide) ?_) | fail)
          refine x_ret rfl rfl ⟨rfl, _, rfl, hs'.trans ((same2.put (by grind) (by grind)).R), ?_⟩
          rw [xv_242, Int32.add_zero, svR_date hH.2.2.2.1 hB, hv']
          have : I' 242 b = (passK h v d (hN h)).1 := by rw [← hv']; rfl
          rw [this]
          rfl
end R5
