/-! RESTS: gain, isRest, the four pairs -/
section RP
variable {e : Bool × Int32 × (Int32 → Int32)} {M : xM} {l s b x y q : Int32}
theorem c_gain : A e 0 M_X11_gain [.int l, .int s, .int b, .int x, .int y] M (.int (getS x y l s b)) := by
  unfold A Y getS
  repeat' (first | fail | (refine X.f rfl ?_; first | refine z_iload rfl ?_ | refine z_aload rfl ?_ | refine z_push ?_ | refine z_istoreN rfl rfl ?_ | refine z_astoreN rfl rfl ?_ | (refine z_sO ?sd1 ?_; (case sd1 => with_reducible assumption)) | (refine z_sF ?sd1 ?_; (case sd1 => with_reducible assumption)) | (refine z_sS ?sd1 ?_; (case sd1 => with_reducible assumption)) | (refine z_sP ?sd1 ?_; (case sd1 => with_reducible assumption)) | (refine z_sC ?sd1 ?_; (case sd1 => with_reducible assumption)) | (refine z_sL ?sd1 ?_; (case sd1 => with_reducible assumption)) | (refine z_sD (v := ?sdv) ?sd1 ?sd2 ?_; (case sd1 => with_reducible assumption); (case sd2 => with_reducible assumption)) | (refine z_hN (h := ?sdh) ?sd1 ?_; (case sd1 => with_reducible assumption)) | (refine z_hP (h := ?sdh) ?sd1 ?_; (case sd1 => with_reducible assumption)) | (refine z_hLasts (h := ?sdh) ?sd1 ?_; (case sd1 => with_reducible assumption)) | (refine z_hR (h := ?sdh) ?sd1 ?_; (case sd1 => with_reducible assumption)) | (refine z_hA (h := ?sdh) ?sd1 ?_; (case sd1 => with_reducible assumption)) | (refine z_hNe (h := ?sdh) ?sd1 ?_; (case sd1 => with_reducible assumption)) | (refine z_hK (h := ?sdh) ?sd1 ?_; (case sd1 => with_reducible assumption)) | (refine z_hT (h := ?sdh) ?sd1 ?_; (case sd1 => with_reducible assumption)) | (refine z_hF (h := ?sdh) ?sd1 ?_; (case sd1 => with_reducible assumption)) | (refine z_hW (h := ?sdh) ?sd1 ?_; (case sd1 => with_reducible assumption)) | (refine z_lO (v := ?sdv) ?sd1 ?sd2 ?sd3 ?sd4 ?_; (case sd1 => with_reducible assumption); (case sd2 => with_reducible assumption); (case sd3 => first | with_reducible assumption | decide | grind); (case sd4 => first | with_reducible assumption | decide | grind)) | (refine z_lF (v := ?sdv) ?sd1 ?sd2 ?sd3 ?sd4 ?_; (case sd1 => with_reducible assumption); (case sd2 => with_reducible assumption); (case sd3 => first | with_reducible assumption | decide | grind); (case sd4 => first | with_reducible assumption | decide | grind)) | (refine z_lS (v := ?sdv) ?sd1 ?sd2 ?sd3 ?sd4 ?_; (case sd1 => with_reducible assumption); (case sd2 => with_reducible assumption); (case sd3 => first | with_reducible assumption | decide | grind); (case sd4 => first | with_reducible assumption | decide | grind)) | (refine z_lP (v := ?sdv) ?sd1 ?sd2 ?sd3 ?sd4 ?_; (case sd1 => with_reducible assumption); (case sd2 => with_reducible assumption); (case sd3 => first | with_reducible assumption | decide | grind); (case sd4 => first | with_reducible assumption | decide | grind)) | (refine z_lC (v := ?sdv) ?sd1 ?sd2 ?sd3 ?sd4 ?_; (case sd1 => with_reducible assumption); (case sd2 => with_reducible assumption); (case sd3 => first | with_reducible assumption | decide | grind); (case sd4 => first | with_reducible assumption | decide | grind)) | (refine z_lR (h := ?sdh) ?sd1 ?sd3 ?sd4 ?_; (case sd1 => with_reducible assumption); (case sd3 => first | with_reducible assumption | decide | grind); (case sd4 => first | with_reducible assumption | decide | grind)) | (refine z_lA (h := ?sdh) ?sd1 ?sd3 ?sd4 ?_; (case sd1 => with_reducible assumption); (case sd3 => first | with_reducible assumption | decide | grind); (case sd4 => first | with_reducible assumption | decide | grind)) | (refine z_lN (h := ?sdh) ?sd1 ?sd3 ?sd4 ?_; (case sd1 => with_reducible assumption); (case sd3 => first | with_reducible assumption | decide | grind); (case sd4 => first | with_reducible assumption | decide | grind)) | (refine z_lK (h := ?sdh) ?sd1 ?sd3 ?sd4 ?_; (case sd1 => with_reducible assumption); (case sd3 => first | with_reducible assumption | decide | grind); (case sd4 => first | with_reducible assumption | decide | grind)) | (refine z_lT (h := ?sdh) ?sd1 ?sd3 ?sd4 ?_; (case sd1 => with_reducible assumption); (case sd3 => first | with_reducible assumption | decide | grind); (case sd4 => first | with_reducible assumption | decide | grind)) | (refine z_lE (h := ?sdh) ?sd1 ?sd3 ?sd4 ?_; (case sd1 => with_reducible assumption); (case sd3 => first | with_reducible assumption | decide | grind); (case sd4 => first | with_reducible assumption | decide | grind)) | refine z_gotoF rfl ?_ | refine z_iadd ?_ | refine z_isub ?_ | refine z_imul ?_ | refine z_iand ?_ | refine z_ior ?_ | refine z_ishl ?_ | refine z_ishr ?_ | refine z_ixor ?_ | refine z_ineg ?_ | refine z_inc80 rfl ?_ | refine z_inc81 rfl ?_ | refine z_dup ?_ | refine z_dupr ?_ | refine z_dup2 ?_ | refine z_pop ?_ | (refine z_idiv ?sd1 ?_; (case sd1 => decide)) | (refine z_irem ?sd1 ?_; (case sd1 => decide)) | refine z_gP rfl rfl ?_ | refine z_gI rfl ?_ | refine z_pI rfl ?_) | ((refine X.f rfl ?_; first | refine z_ifeq (fun c => ?_) (fun c => ?_) | refine z_ifne (fun c => ?_) (fun c => ?_) | refine z_iflt (fun c => ?_) (fun c => ?_) | refine z_ifge (fun c => ?_) (fun c => ?_) | refine z_ifgt (fun c => ?_) (fun c => ?_) | refine z_ifle (fun c => ?_) (fun c => ?_) | refine z_ieq (fun c => ?_) (fun c => ?_) | refine z_ine (fun c => ?_) (fun c => ?_) | refine z_ilt (fun c => ?_) (fun c => ?_) | refine z_ige (fun c => ?_) (fun c => ?_) | refine z_igt (fun c => ?_) (fun c => ?_) | refine z_ile (fun c => ?_) (fun c => ?_)) <;> try (exfalso; first | (with_reducible exact absurd rfl c) | (with_reducible exact absurd (Int32.le_refl _) c) | (exact absurd c (by decide)) | (exact absurd c (by with_reducible assumption)) | (exact absurd (by with_reducible assumption) c))) | fail)
  all_goals (refine x_ret rfl rfl ⟨?_, rfl⟩; simp_all)
theorem c_isRest : A e 1 M_X11_isRest [.int l, .int s, .int b, .int q] M (.int (bI (rsQ l s b (q >>> (1 &&& 31)) (q &&& 1)))) := by
  unfold A Y
  repeat' (first | fail | (refine X.f rfl ?_; first | refine z_iload rfl ?_ | refine z_aload rfl ?_ | refine z_push ?_ | refine z_istoreN rfl rfl ?_ | refine z_astoreN rfl rfl ?_ | (refine z_sO ?sd1 ?_; (case sd1 => with_reducible assumption)) | (refine z_sF ?sd1 ?_; (case sd1 => with_reducible assumption)) | (refine z_sS ?sd1 ?_; (case sd1 => with_reducible assumption)) | (refine z_sP ?sd1 ?_; (case sd1 => with_reducible assumption)) | (refine z_sC ?sd1 ?_; (case sd1 => with_reducible assumption)) | (refine z_sL ?sd1 ?_; (case sd1 => with_reducible assumption)) | (refine z_sD (v := ?sdv) ?sd1 ?sd2 ?_; (case sd1 => with_reducible assumption); (case sd2 => with_reducible assumption)) | (refine z_hN (h := ?sdh) ?sd1 ?_; (case sd1 => with_reducible assumption)) | (refine z_hP (h := ?sdh) ?sd1 ?_; (case sd1 => with_reducible assumption)) | (refine z_hLasts (h := ?sdh) ?sd1 ?_; (case sd1 => with_reducible assumption)) | (refine z_hR (h := ?sdh) ?sd1 ?_; (case sd1 => with_reducible assumption)) | (refine z_hA (h := ?sdh) ?sd1 ?_; (case sd1 => with_reducible assumption)) | (refine z_hNe (h := ?sdh) ?sd1 ?_; (case sd1 => with_reducible assumption)) | (refine z_hK (h := ?sdh) ?sd1 ?_; (case sd1 => with_reducible assumption)) | (refine z_hT (h := ?sdh) ?sd1 ?_; (case sd1 => with_reducible assumption)) | (refine z_hF (h := ?sdh) ?sd1 ?_; (case sd1 => with_reducible assumption)) | (refine z_hW (h := ?sdh) ?sd1 ?_; (case sd1 => with_reducible assumption)) | (refine z_lO (v := ?sdv) ?sd1 ?sd2 ?sd3 ?sd4 ?_; (case sd1 => with_reducible assumption); (case sd2 => with_reducible assumption); (case sd3 => first | with_reducible assumption | decide | grind); (case sd4 => first | with_reducible assumption | decide | grind)) | (refine z_lF (v := ?sdv) ?sd1 ?sd2 ?sd3 ?sd4 ?_; (case sd1 => with_reducible assumption); (case sd2 => with_reducible assumption); (case sd3 => first | with_reducible assumption | decide | grind); (case sd4 => first | with_reducible assumption | decide | grind)) | (refine z_lS (v := ?sdv) ?sd1 ?sd2 ?sd3 ?sd4 ?_; (case sd1 => with_reducible assumption); (case sd2 => with_reducible assumption); (case sd3 => first | with_reducible assumption | decide | grind); (case sd4 => first | with_reducible assumption | decide | grind)) | (refine z_lP (v := ?sdv) ?sd1 ?sd2 ?sd3 ?sd4 ?_; (case sd1 => with_reducible assumption); (case sd2 => with_reducible assumption); (case sd3 => first | with_reducible assumption | decide | grind); (case sd4 => first | with_reducible assumption | decide | grind)) | (refine z_lC (v := ?sdv) ?sd1 ?sd2 ?sd3 ?sd4 ?_; (case sd1 => with_reducible assumption); (case sd2 => with_reducible assumption); (case sd3 => first | with_reducible assumption | decide | grind); (case sd4 => first | with_reducible assumption | decide | grind)) | (refine z_lR (h := ?sdh) ?sd1 ?sd3 ?sd4 ?_; (case sd1 => with_reducible assumption); (case sd3 => first | with_reducible assumption | decide | grind); (case sd4 => first | with_reducible assumption | decide | grind)) | (refine z_lA (h := ?sdh) ?sd1 ?sd3 ?sd4 ?_; (case sd1 => with_reducible assumption); (case sd3 => first | with_reducible assumption | decide | grind); (case sd4 => first | with_reducible assumption | decide | grind)) | (refine z_lN (h := ?sdh) ?sd1 ?sd3 ?sd4 ?_; (case sd1 => with_reducible assumption); (case sd3 => first | with_reducible assumption | decide | grind); (case sd4 => first | with_reducible assumption | decide | grind)) | (refine z_lK (h := ?sdh) ?sd1 ?sd3 ?sd4 ?_; (case sd1 => with_reducible assumption); (case sd3 => first | with_reducible assumption | decide | grind); (case sd4 => first | with_reducible assumption | decide | grind)) | (refine z_lT (h := ?sdh) ?sd1 ?sd3 ?sd4 ?_; (case sd1 => with_reducible assumption); (case sd3 => first | with_reducible assumption | decide | grind); (case sd4 => first | with_reducible assumption | decide | grind)) | (refine z_lE (h := ?sdh) ?sd1 ?sd3 ?sd4 ?_; (case sd1 => with_reducible assumption); (case sd3 => first | with_reducible assumption | decide | grind); (case sd4 => first | with_reducible assumption | decide | grind)) | refine z_gotoF rfl ?_ | refine z_iadd ?_ | refine z_isub ?_ | refine z_imul ?_ | refine z_iand ?_ | refine z_ior ?_ | refine z_ishl ?_ | refine z_ishr ?_ | refine z_ixor ?_ | refine z_ineg ?_ | refine z_inc80 rfl ?_ | refine z_inc81 rfl ?_ | refine z_dup ?_ | refine z_dupr ?_ | refine z_dup2 ?_ | refine z_pop ?_ | (refine z_idiv ?sd1 ?_; (case sd1 => decide)) | (refine z_irem ?sd1 ?_; (case sd1 => decide)) | refine z_gP rfl rfl ?_ | refine z_gI rfl ?_ | refine z_pI rfl ?_) | ((refine X.f rfl ?_; first | refine z_ifeq (fun c => ?_) (fun c => ?_) | refine z_ifne (fun c => ?_) (fun c => ?_) | refine z_iflt (fun c => ?_) (fun c => ?_) | refine z_ifge (fun c => ?_) (fun c => ?_) | refine z_ifgt (fun c => ?_) (fun c => ?_) | refine z_ifle (fun c => ?_) (fun c => ?_) | refine z_ieq (fun c => ?_) (fun c => ?_) | refine z_ine (fun c => ?_) (fun c => ?_) | refine z_ilt (fun c => ?_) (fun c => ?_) | refine z_ige (fun c => ?_) (fun c => ?_) | refine z_igt (fun c => ?_) (fun c => ?_) | refine z_ile (fun c => ?_) (fun c => ?_)) <;> try (exfalso; first | (with_reducible exact absurd rfl c) | (with_reducible exact absurd (Int32.le_refl _) c) | (exact absurd c (by decide)) | (exact absurd c (by with_reducible assumption)) | (exact absurd (by with_reducible assumption) c))) | (refine X.f rfl ?_; refine isS ?_; refine z_cas (c_gain) rfl (by rfl) (by rfl) rfl rfl rfl ?_))
  · exact x_zb0 (by unfold rsQ; rw [decide_eq_false (Int32.not_le.mpr c)]; rfl) ⟨rfl, rfl⟩
  · exact x_zb0 (by unfold rsQ; rw [decide_eq_false (Int32.not_le.mpr c), Bool.and_false]) ⟨rfl, rfl⟩
  · rename_i c1
    exact x_zb1 (by unfold rsQ; rw [decide_eq_true (Int32.not_lt.mp c1), decide_eq_true (Int32.not_lt.mp c)]; rfl) ⟨rfl, rfl⟩
end RP
def rsL (u : Int32) : List Bool → Nat → Nat → Nat ⊕ Nat
  | [], _, c => .inr c
  | q :: t, p, c => if q then (if nI c = u then .inl p else rsL u t (p + 1) (c + 1)) else rsL u t (p + 1) c
def rsV (u : Int32) (z : Nat ⊕ Nat) : Option Int32 := match z with
  | .inl p => some (nI p)
  | .inr c => if u = -1 then some (nI c) else none
def rs4 (l s b : Int32) : List Bool := [rsQ l s b 0 0, rsQ l s b 0 1, rsQ l s b 1 0, rsQ l s b 1 1]
theorem rs4_drop {l s b : Int32} {i : Nat} (h : i < 4) : (rs4 l s b).drop i = rsQ l s b (nI i >>> (1 &&& 31)) (nI i &&& 1) :: (rs4 l s b).drop (i + 1) := by
  have h4 : i = 0 ∨ i = 1 ∨ i = 2 ∨ i = 3 := by omega
  rcases h4 with rfl | rfl | rfl | rfl
  · rw [show nI 0 >>> ((1 : Int32) &&& 31) = 0 by decide, show nI 0 &&& (1 : Int32) = 0 by decide]
    rfl
  · rw [show nI 1 >>> ((1 : Int32) &&& 31) = 0 by decide, show nI 1 &&& (1 : Int32) = 1 by decide]
    rfl
  · rw [show nI 2 >>> ((1 : Int32) &&& 31) = 1 by decide, show nI 2 &&& (1 : Int32) = 0 by decide]
    rfl
  · rw [show nI 3 >>> ((1 : Int32) &&& 31) = 1 by decide, show nI 3 &&& (1 : Int32) = 1 by decide]
    rfl
theorem rsL_no {u : Int32} : ∀ (t : List Bool) (p c : Nat), c + t.length ≤ 4 → (∀ k, k < 4 → nI k ≠ u) → ∃ z, rsL u t p c = .inr z
  | [], _, c, _, _ => ⟨c, rfl⟩
  | q :: t, p, c, h, hu => by
    rw [List.length_cons] at h
    cases q with
    | false => exact rsL_no t (p + 1) c (by omega) hu
    | true =>
      show ∃ z, (if nI c = u then _ else rsL u t (p + 1) (c + 1)) = _
      rw [if_neg (hu c (by omega))]
      exact rsL_no t (p + 1) (c + 1) (by omega) hu
theorem rsV_eq (q0 q1 q2 q3 : Bool) (u : Int32) : rsV u (rsL u [q0, q1, q2, q3] 0 0) = if -1 ≤ u then (if u < 0 then some (0 + (if q0 then (1 : Int32) else 0) + (if q1 then 1 else 0) + (if q2 then 1 else 0) + (if q3 then 1 else 0)) else if rkQ q0 q1 q2 q3 u < 0 then none else some (rkQ q0 q1 q2 q3 u)) else none := by
  by_cases h : u = -1 ∨ u = 0 ∨ u = 1 ∨ u = 2 ∨ u = 3
  · rcases h with rfl | rfl | rfl | rfl | rfl <;> (revert q0 q1 q2 q3; decide)
  · have hm : u ≠ -1 := fun z => h (Or.inl z)
    have n0 : ¬ (0 : Int32) = u := fun z => h (Or.inr (Or.inl z.symm))
    have n1 : ¬ (1 : Int32) = u := fun z => h (Or.inr (Or.inr (Or.inl z.symm)))
    have n2 : ¬ (2 : Int32) = u := fun z => h (Or.inr (Or.inr (Or.inr (Or.inl z.symm))))
    have n3 : ¬ (3 : Int32) = u := fun z => h (Or.inr (Or.inr (Or.inr (Or.inr z.symm))))
    obtain ⟨z, hz⟩ := rsL_no (u := u) [q0, q1, q2, q3] 0 0 (by show 0 + 4 ≤ 4; decide) (fun k hk => by
      have h4 : k = 0 ∨ k = 1 ∨ k = 2 ∨ k = 3 := by omega
      rcases h4 with rfl | rfl | rfl | rfl
      · exact n0
      · exact n1
      · exact n2
      · exact n3)
    rw [hz]
    have e1 : rsV u (.inr z) = none := if_neg hm
    have a : ¬ (0 + 1 : Int32) = u := n1
    have b : ¬ (0 + 0 : Int32) = u := n0
    have e2 : rkQ q0 q1 q2 q3 u = -1 := by
      unfold rkQ
      rw [if_neg, if_neg, if_neg, if_neg]
      · exact fun z => n0 z.2
      · rintro ⟨-, z⟩
        cases q0
        · exact b z
        · exact a z
      · rintro ⟨-, z⟩
        cases q0 <;> cases q1
        · exact n0 z
        · exact n1 z
        · exact n1 z
        · exact n2 z
      · rintro ⟨-, z⟩
        cases q0 <;> cases q1 <;> cases q2
        · exact n0 z
        · exact n1 z
        · exact n1 z
        · exact n2 z
        · exact n1 z
        · exact n2 z
        · exact n2 z
        · exact n3 z
    rw [e1, e2]
    by_cases h1 : -1 ≤ u
    · rw [if_pos h1, if_neg (fun h2 => hm (by grind)), if_pos (by decide)]
    · rw [if_neg h1]
/-- what the class's method gives, where the three are within 0 to 9 -/
theorem rs_in {l s b u : Int32} (h : (0 ≤ l ∧ l ≤ 9) ∧ (0 ≤ s ∧ s ≤ 9) ∧ (0 ≤ b ∧ b ≤ 9)) : rsV u (rsL u (rs4 l s b) 0 0) = xrests l s b u := by
  obtain ⟨⟨h1, h2⟩, ⟨h3, h4⟩, h5, h6⟩ := h
  unfold rs4
  rw [rsV_eq, xrests_eq]
  unfold rsA
  rw [rsK_4]
  dsimp only
  by_cases hu : -1 ≤ u
  · have hc : 0 ≤ l ∧ l ≤ 9 ∧ 0 ≤ s ∧ s ≤ 9 ∧ 0 ≤ b ∧ b ≤ 9 ∧ -1 ≤ u := ⟨h1, h2, h3, h4, h5, h6, hu⟩
    rw [if_pos hu, if_pos hc]
  · rw [if_neg hu, if_neg (fun z => hu z.2.2.2.2.2.2)]
theorem rs_out {l s b u : Int32} (h : ¬ ((0 ≤ l ∧ l ≤ 9) ∧ (0 ≤ s ∧ s ≤ 9) ∧ (0 ≤ b ∧ b ≤ 9))) : xrests l s b u = none := by
  rw [xrests_eq]
  unfold rsA
  exact if_neg (fun ⟨h1, h2, h3, h4, h5, h6, _⟩ => h ⟨⟨h1, h2⟩, ⟨h3, h4⟩, h5, h6⟩)
