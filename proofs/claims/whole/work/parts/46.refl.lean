/-! THE REFERENCE: an evening judged -/
/-- lines: how many; 0 what, 1 who, 2 where -/
abbrev LV : Type := Nat × (Nat → Nat → Int32)
def okLine (h : HV) (a p s : Int32) : Prop := (a = 0 ∨ a = 1 ∨ a = 2 ∨ a = 3 ∨ a = 4) ∧ (a ≠ 4 → 0 ≤ p ∧ p < nI (hP h)) ∧ (a ≠ 4 → a ≠ 2 → 0 ≤ s ∧ s < nI (hN h))
def okLn (h : HV) (l : LV) : Prop := l.1 ≤ 40 ∧ ∀ k, k < l.1 → okLine h (l.2 0 k) (l.2 1 k) (l.2 2 k)
def linR (st : Int32 → Int32) (l : LV) : Prop := st 0 = nI l.1 ∧ ∀ k, k < l.1 → st (1 + 3 * nI k) = l.2 0 k ∧ st (2 + 3 * nI k) = l.2 1 k ∧ st (3 + 3 * nI k) = l.2 2 k
def lineM (h : HV) (v : SV) (a p s : Int32) : Bool := if a = 0 then mayLayS v p s else if a = 1 then maySitS v p s else if a = 2 then decide (0 ≤ chS v p) else if a = 4 then true else mayGrateS h v p s
def lineV (h : HV) (v : SV) (a p s : Int32) : SV × Bool := if a = 0 then (layS h v p s, false) else if a = 1 then (sitS v p s, false) else if a = 2 then (riseS v p, false) else if a = 4 then (passS h v 0, !decide (goneS h v 0 = 0)) else (lesS v s (raspS h p), decide (frS v s - raspS h p ≤ 0))
def judK (h : HV) (l : LV) (v : SV) : Nat → SV × Int32 × Int32
  | 0 => (v, -1, -1)
  | k + 1 =>
    if lineM h (judK h l v k).1 (l.2 0 k) (l.2 1 k) (l.2 2 k) then ((lineV h (judK h l v k).1 (l.2 0 k) (l.2 1 k) (l.2 2 k)).1, (judK h l v k).2.1, if (lineV h (judK h l v k).1 (l.2 0 k) (l.2 1 k) (l.2 2 k)).2 = true ∧ (judK h l v k).2.2 < 0 then nI k else (judK h l v k).2.2)
    else ((judK h l v k).1, if (judK h l v k).2.1 < 0 then nI k else (judK h l v k).2.1, (judK h l v k).2.2)
def aJudged (h : HV) (l : LV) (u : Int32) : Int32 := if 0 ≤ u ∧ u ≤ 2 then (if u = 0 then (judK h l (startS (hP h) (hTold h)) l.1).2.1 else if u = 1 then (judK h l (startS (hP h) (hTold h)) l.1).2.2 else bW (bset (fun p => decide (0 ≤ chS (judK h l (startS (hP h) (hTold h)) l.1).1 p)) (hP h))) else -2
theorem x_zbI {e : Bool × Int32 × (Int32 → Int32)} {d : Nat} {K : List xA} {ix : Nat} {L : xL} {M : xM} {r : Option Value → xM → Prop} {q : Bool} (hr : r (some (.int (bI q))) M) (hk : K[ix]? = some (.inr (.inr (91, []))) := by rfl) : X e d K ix L [.int (bI q)] M r := by
  refine x_ret (v := some (.int (bI q))) hk ?_ hr
  cases q <;> rfl
theorem okS_line {h : HV} {v : SV} {a p s : Int32} (H : okS h v) (hP5 : hP h ≤ 5) (hN8 : nI (hN h) ≤ 7) (ho : okLine h a p s) (hm : lineM h v a p s = true) : okS h (lineV h v a p s).1 := by
  obtain ⟨h1, h2, h3⟩ := ho
  rcases h1 with rfl | rfl | rfl | rfl | rfl
  · obtain ⟨p0, p1⟩ := h2 (by decide)
    obtain ⟨s0, s1⟩ := h3 (by decide) (by decide)
    exact okS_lay H p0 p1 s1
  · obtain ⟨p0, p1⟩ := h2 (by decide)
    obtain ⟨s0, s1⟩ := h3 (by decide) (by decide)
    exact okS_sit H hP5 hN8 p0 p1 s0 s1 hm
  · obtain ⟨p0, p1⟩ := h2 (by decide)
    exact okS_rise H hP5 hN8 p0 p1 (decide_eq_true_iff.mp hm)
  · exact okS_les H
  · exact okS_pass H
theorem okS_jud {h : HV} {v : SV} {l : LV} (H : okS h v) (hP5 : hP h ≤ 5) (hN8 : nI (hN h) ≤ 7) (ho : okLn h l) : ∀ {k : Nat}, k ≤ l.1 → okS h (judK h l v k).1
  | 0, _ => H
  | k + 1, hk => by
    have ih := okS_jud H hP5 hN8 ho (k := k) (by omega)
    unfold judK
    split
    · rename_i hm
      exact okS_line ih hP5 hN8 (ho.2 k (by omega)) hm
    · exact ih
section RL
variable {e : Bool × Int32 × (Int32 → Int32)} {F : Nat → Nat → Int32} {I : Nat → Int32 → Int32} {G : Nat → Nat → Int64} {J : Nat → Int32 → Int64} {ha hb ea eb : Nat} {h : HV} {b : Int32} {v : SV}
theorem q_mayBe {a p s : Int32} (hH : HR I h) (hv : svR (I 242) (hP h) 1050 = v) (hS : okS h v) (ho : okLine h a p s) : A e 4 M_X12_mayBe [.ref 226, .int a, .int p, .int s] (F, I, G, J, P0 ha hb ea eb, Q0, S0) (.int (bI (lineM h v a p s))) := by
  have hN' := hH.1; have hN7 := hH.2.1; have hP' := hH.2.2.1; have hP5 := hH.2.2.2.1; have hN8 := nI_le7 hN7; have hP6 := nI_le5 hP5
  obtain ⟨h1, h2, h3⟩ := ho
  unfold A Y
  rcases h1 with rfl | rfl | rfl | rfl | rfl
  · obtain ⟨p0, p1⟩ := h2 (by decide)
    obtain ⟨s0, s1⟩ := h3 (by decide) (by decide)
    repeat' (first | fail | (refine X.f rfl ?_; first | refine z_iload rfl ?_ | refine z_aload rfl ?_ | refine z_push ?_ | refine z_istore rfl ?_ | refine z_astore rfl ?_ | refine z_gP rfl rfl ?_ | refine z_gI rfl ?_ | refine z_gotoF rfl ?_ | refine z_iadd ?_ | refine z_isub ?_ | refine z_imul ?_ | refine z_iand ?_ | refine z_ior ?_ | refine z_ishl ?_ | refine z_ishr ?_ | refine z_ixor ?_ | refine z_ineg ?_ | refine z_pI rfl ?_ | refine z_inc80 rfl ?_ | refine z_inc81 rfl ?_ | refine z_dup ?_ | refine z_dupr ?_ | refine z_dup2 ?_ | refine z_pop ?_ | refine z_idiv (by decide) ?_ | refine z_irem (by decide) ?_ | refine z_iaload rfl (by first | with_reducible assumption | decide | grind) (by first | with_reducible assumption | decide | grind) (by decide) ?_ | refine z_iastore rfl (by first | with_reducible assumption | decide | grind) (by first | with_reducible assumption | decide | grind) (by decide) ?_) | ((refine X.f rfl ?_; first | refine z_ifeq (fun c => ?_) (fun c => ?_) | refine z_ifne (fun c => ?_) (fun c => ?_) | refine z_iflt (fun c => ?_) (fun c => ?_) | refine z_ifge (fun c => ?_) (fun c => ?_) | refine z_ifgt (fun c => ?_) (fun c => ?_) | refine z_ifle (fun c => ?_) (fun c => ?_) | refine z_ieq (fun c => ?_) (fun c => ?_) | refine z_ine (fun c => ?_) (fun c => ?_) | refine z_ilt (fun c => ?_) (fun c => ?_) | refine z_ige (fun c => ?_) (fun c => ?_) | refine z_igt (fun c => ?_) (fun c => ?_) | refine z_ile (fun c => ?_) (fun c => ?_)) <;> try (exfalso; first | (with_reducible exact absurd rfl c) | (with_reducible exact absurd (Int32.le_refl _) c) | (exact absurd c (by decide)) | (exact absurd c (by with_reducible assumption)) | (exact absurd (by with_reducible assumption) c))) | (refine X.f rfl ?_; refine z_cav (mayLayB hH okBT hv p0 (by grind) s0 (by grind)) rfl (by rfl) (by rfl) rfl rfl rfl rfl ?_))
    exact x_zbI ⟨rfl, rfl⟩
  · obtain ⟨p0, p1⟩ := h2 (by decide)
    obtain ⟨s0, s1⟩ := h3 (by decide) (by decide)
    repeat' (first | fail | (refine X.f rfl ?_; first | refine z_iload rfl ?_ | refine z_aload rfl ?_ | refine z_push ?_ | refine z_istore rfl ?_ | refine z_astore rfl ?_ | refine z_gP rfl rfl ?_ | refine z_gI rfl ?_ | refine z_gotoF rfl ?_ | refine z_iadd ?_ | refine z_isub ?_ | refine z_imul ?_ | refine z_iand ?_ | refine z_ior ?_ | refine z_ishl ?_ | refine z_ishr ?_ | refine z_ixor ?_ | refine z_ineg ?_ | refine z_pI rfl ?_ | refine z_inc80 rfl ?_ | refine z_inc81 rfl ?_ | refine z_dup ?_ | refine z_dupr ?_ | refine z_dup2 ?_ | refine z_pop ?_ | refine z_idiv (by decide) ?_ | refine z_irem (by decide) ?_ | refine z_iaload rfl (by first | with_reducible assumption | decide | grind) (by first | with_reducible assumption | decide | grind) (by decide) ?_ | refine z_iastore rfl (by first | with_reducible assumption | decide | grind) (by first | with_reducible assumption | decide | grind) (by decide) ?_) | ((refine X.f rfl ?_; first | refine z_ifeq (fun c => ?_) (fun c => ?_) | refine z_ifne (fun c => ?_) (fun c => ?_) | refine z_iflt (fun c => ?_) (fun c => ?_) | refine z_ifge (fun c => ?_) (fun c => ?_) | refine z_ifgt (fun c => ?_) (fun c => ?_) | refine z_ifle (fun c => ?_) (fun c => ?_) | refine z_ieq (fun c => ?_) (fun c => ?_) | refine z_ine (fun c => ?_) (fun c => ?_) | refine z_ilt (fun c => ?_) (fun c => ?_) | refine z_ige (fun c => ?_) (fun c => ?_) | refine z_igt (fun c => ?_) (fun c => ?_) | refine z_ile (fun c => ?_) (fun c => ?_)) <;> try (exfalso; first | (with_reducible exact absurd rfl c) | (with_reducible exact absurd (Int32.le_refl _) c) | (exact absurd c (by decide)) | (exact absurd c (by with_reducible assumption)) | (exact absurd (by with_reducible assumption) c))) | (refine X.f rfl ?_; refine z_cav (maySitB hH okBT hv p0 (by grind) s0 (by grind)) rfl (by rfl) (by rfl) rfl rfl rfl rfl ?_))
    exact x_zbI ⟨rfl, rfl⟩
  · obtain ⟨p0, p1⟩ := h2 (by decide)
    have p5 : p < 5 := by grind
    have w1 : I 242 (1070 + p) = chS v p := by
      rw [← rb_ch hv p0 p5]
      congr 1
    repeat' (first | rw [w1] | (refine X.f rfl ?_; first | refine z_iload rfl ?_ | refine z_aload rfl ?_ | refine z_push ?_ | refine z_istore rfl ?_ | refine z_astore rfl ?_ | refine z_gP rfl rfl ?_ | refine z_gI rfl ?_ | refine z_gotoF rfl ?_ | refine z_iadd ?_ | refine z_isub ?_ | refine z_imul ?_ | refine z_iand ?_ | refine z_ior ?_ | refine z_ishl ?_ | refine z_ishr ?_ | refine z_ixor ?_ | refine z_ineg ?_ | refine z_pI rfl ?_ | refine z_inc80 rfl ?_ | refine z_inc81 rfl ?_ | refine z_dup ?_ | refine z_dupr ?_ | refine z_dup2 ?_ | refine z_pop ?_ | refine z_idiv (by decide) ?_ | refine z_irem (by decide) ?_ | refine z_iaload rfl (by first | with_reducible assumption | decide | grind) (by first | with_reducible assumption | decide | grind) (by decide) ?_ | refine z_iastore rfl (by first | with_reducible assumption | decide | grind) (by first | with_reducible assumption | decide | grind) (by decide) ?_) | ((refine X.f rfl ?_; first | refine z_ifeq (fun c => ?_) (fun c => ?_) | refine z_ifne (fun c => ?_) (fun c => ?_) | refine z_iflt (fun c => ?_) (fun c => ?_) | refine z_ifge (fun c => ?_) (fun c => ?_) | refine z_ifgt (fun c => ?_) (fun c => ?_) | refine z_ifle (fun c => ?_) (fun c => ?_) | refine z_ieq (fun c => ?_) (fun c => ?_) | refine z_ine (fun c => ?_) (fun c => ?_) | refine z_ilt (fun c => ?_) (fun c => ?_) | refine z_ige (fun c => ?_) (fun c => ?_) | refine z_igt (fun c => ?_) (fun c => ?_) | refine z_ile (fun c => ?_) (fun c => ?_)) <;> try (exfalso; first | (with_reducible exact absurd rfl c) | (with_reducible exact absurd (Int32.le_refl _) c) | (exact absurd c (by decide)) | (exact absurd c (by with_reducible assumption)) | (exact absurd (by with_reducible assumption) c))) | fail)
    · refine x_ret rfl rfl ⟨?_, rfl⟩
      rw [show lineM h v 2 p s = decide (0 ≤ chS v p) from rfl, decide_eq_false (Int32.not_le.mpr c)]
      rfl
    · refine x_ret rfl rfl ⟨?_, rfl⟩
      rw [show lineM h v 2 p s = decide (0 ≤ chS v p) from rfl, decide_eq_true (Int32.not_lt.mp c)]
      rfl
  · obtain ⟨p0, p1⟩ := h2 (by decide)
    obtain ⟨s0, s1⟩ := h3 (by decide) (by decide)
    have hl : lineM h v 3 p s = mayGrateS h v p s := rfl
    rw [hl]
    repeat' (first | fail | (refine X.f rfl ?_; first | refine z_iload rfl ?_ | refine z_aload rfl ?_ | refine z_push ?_ | refine z_istore rfl ?_ | refine z_astore rfl ?_ | refine z_gP rfl rfl ?_ | refine z_gI rfl ?_ | refine z_gotoF rfl ?_ | refine z_iadd ?_ | refine z_isub ?_ | refine z_imul ?_ | refine z_iand ?_ | refine z_ior ?_ | refine z_ishl ?_ | refine z_ishr ?_ | refine z_ixor ?_ | refine z_ineg ?_ | refine z_pI rfl ?_ | refine z_inc80 rfl ?_ | refine z_inc81 rfl ?_ | refine z_dup ?_ | refine z_dupr ?_ | refine z_dup2 ?_ | refine z_pop ?_ | refine z_idiv (by decide) ?_ | refine z_irem (by decide) ?_ | refine z_iaload rfl (by first | with_reducible assumption | decide | grind) (by first | with_reducible assumption | decide | grind) (by decide) ?_ | refine z_iastore rfl (by first | with_reducible assumption | decide | grind) (by first | with_reducible assumption | decide | grind) (by decide) ?_) | ((refine X.f rfl ?_; first | refine z_ifeq (fun c => ?_) (fun c => ?_) | refine z_ifne (fun c => ?_) (fun c => ?_) | refine z_iflt (fun c => ?_) (fun c => ?_) | refine z_ifge (fun c => ?_) (fun c => ?_) | refine z_ifgt (fun c => ?_) (fun c => ?_) | refine z_ifle (fun c => ?_) (fun c => ?_) | refine z_ieq (fun c => ?_) (fun c => ?_) | refine z_ine (fun c => ?_) (fun c => ?_) | refine z_ilt (fun c => ?_) (fun c => ?_) | refine z_ige (fun c => ?_) (fun c => ?_) | refine z_igt (fun c => ?_) (fun c => ?_) | refine z_ile (fun c => ?_) (fun c => ?_)) <;> try (exfalso; first | (with_reducible exact absurd rfl c) | (with_reducible exact absurd (Int32.le_refl _) c) | (exact absurd c (by decide)) | (exact absurd c (by with_reducible assumption)) | (exact absurd (by with_reducible assumption) c))) | (refine X.f rfl ?_; refine z_cav (mayGrateB hH okBT hv hS p0 (by grind) s0 (by grind)) rfl (by rfl) (by rfl) rfl rfl rfl rfl ?_))
    · rw [bI_0.mp c]
      exact x_ret rfl rfl ⟨rfl, rfl⟩
    · rw [bI_n0.mp c]
      exact x_ret rfl rfl ⟨rfl, rfl⟩
  · repeat' (first | fail | (refine X.f rfl ?_; first | refine z_iload rfl ?_ | refine z_aload rfl ?_ | refine z_push ?_ | refine z_istore rfl ?_ | refine z_astore rfl ?_ | refine z_gP rfl rfl ?_ | refine z_gI rfl ?_ | refine z_gotoF rfl ?_ | refine z_iadd ?_ | refine z_isub ?_ | refine z_imul ?_ | refine z_iand ?_ | refine z_ior ?_ | refine z_ishl ?_ | refine z_ishr ?_ | refine z_ixor ?_ | refine z_ineg ?_ | refine z_pI rfl ?_ | refine z_inc80 rfl ?_ | refine z_inc81 rfl ?_ | refine z_dup ?_ | refine z_dupr ?_ | refine z_dup2 ?_ | refine z_pop ?_ | refine z_idiv (by decide) ?_ | refine z_irem (by decide) ?_ | refine z_iaload rfl (by first | with_reducible assumption | decide | grind) (by first | with_reducible assumption | decide | grind) (by decide) ?_ | refine z_iastore rfl (by first | with_reducible assumption | decide | grind) (by first | with_reducible assumption | decide | grind) (by decide) ?_) | ((refine X.f rfl ?_; first | refine z_ifeq (fun c => ?_) (fun c => ?_) | refine z_ifne (fun c => ?_) (fun c => ?_) | refine z_iflt (fun c => ?_) (fun c => ?_) | refine z_ifge (fun c => ?_) (fun c => ?_) | refine z_ifgt (fun c => ?_) (fun c => ?_) | refine z_ifle (fun c => ?_) (fun c => ?_) | refine z_ieq (fun c => ?_) (fun c => ?_) | refine z_ine (fun c => ?_) (fun c => ?_) | refine z_ilt (fun c => ?_) (fun c => ?_) | refine z_ige (fun c => ?_) (fun c => ?_) | refine z_igt (fun c => ?_) (fun c => ?_) | refine z_ile (fun c => ?_) (fun c => ?_)) <;> try (exfalso; first | (with_reducible exact absurd rfl c) | (with_reducible exact absurd (Int32.le_refl _) c) | (exact absurd c (by decide)) | (exact absurd c (by with_reducible assumption)) | (exact absurd (by with_reducible assumption) c))) | fail)
    exact x_ret rfl rfl ⟨rfl, rfl⟩
end RL
