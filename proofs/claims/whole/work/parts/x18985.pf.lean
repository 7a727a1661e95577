/-! THE INSTRUCTIONS APART, BUT THE CATCHING ONE -/
section PF
variable {p : Program} {l : Launch} {e : Env} {R : Room} {s : State} {m : MethodId} {args : Array Value} {below : List Frame} {meth : Method} {c : Code} {H : Heap} {locs : List Loc} {cells slots : Nat} {Q : State → Prop}
variable {cc : ByteArray} {o pc pc1 : Nat} {D : va_G} {ty : Nat → ClassId} {ad : Nat → Nat} {A : Nat → Prop} {ls : Array Slot} {E : xE}
theorem s_op53 {pr : Bool} {a : List Nat} {pcs : List Nat} {init : Bool} {ret : Option FieldType} {st st' : List Value} {M M' : xM} (X : xCtx p s m args c cc o D ty) (hE : xEV E ad A s s.heap) (hrel : xrelO cc pcs o init ret pc pc1 53 a = true) (hp : xhO pr 53 a E st M = some (st', M'))
    (hW : xAt D ty ad A M s.heap H locs) (hA : ∀ q, s.heap.size ≤ q → A q) (hok : xokS1 (mS M).length st) (hRc : cells + xcs M' ≤ R.cells + xcs M) (hRs : slots + xss M' ≤ R.slots + xss M)
    (k : xCont p l e R s m args below meth c cells slots Q D ty ad A ls pc1 M st' M') : W p l e R s m args below meth c H locs cells slots Q (F0 m pc ls (st.map (xval ad))) := by
  generalize hop : 53 = op at hrel hp
  unfold xhO at hp
  split at hp
  case h_11 =>
    rename_i mm nn r F I G J P Q0 S
    split at hp
    · rename_i hi
      cases hp
      obtain ⟨hS, rfl, rfl⟩ := hi
      simp only [xrelO, Bool.and_eq_true, decide_eq_true_eq] at hrel
      have hr : xokS1 S.length r := fun v hv => hok v (List.mem_cons_of_mem _ (List.mem_cons_of_mem _ hv))
      have c1 : cells + 6 ≤ R.cells := by
        have h1 : cells + ((S ++ mnS2).length + 4 * (F 999 0).toNatClampNeg) ≤ R.cells + (S.length + 4 * (F 999 0).toNatClampNeg) := hRc
        rw [List.length_append] at h1
        have h2 : mnS2.length = 6 := rfl
        omega
      have c2 : slots + 40 ≤ R.slots := by
        have e : xsz (S ++ mnS2) = xsz S + 40 := by unfold xsz; rw [List.map_append, List.sum_append]; rfl
        have h1 : slots + (xsz (S ++ mnS2) + 64 * (F 999 0).toNatClampNeg) ≤ R.slots + (xsz S + 64 * (F 999 0).toNatClampNeg) := hRs
        rw [e] at h1
        omega
      exact s_mna X hE hW hA hr hrel.1 hrel.2 hS ⟨c1, c2⟩ k
    · cases hp
  all_goals (try (cases hop; done))
  all_goals (cases hp)
end PF
theorem xPrim_F (l : Launch) : xPrim l false := by
  intro p e R s m args below meth c H locs cells slots Q cc o pc pc1 D ty ad A ls E op a pcs init ret st st' M M' hap hE2 X hml hE hrel hp hW hA hok hwt hF hLo hc hs hRc hRs k
  unfold xapart at hap
  rcases hap with rfl | rfl | rfl | rfl | rfl
  · exact s_ops (Or.inl rfl) X hml hE hrel hp hW hok hwt hF hLo hc hs k
  · exact s_ops (Or.inr (Or.inl rfl)) X hml hE hrel hp hW hok hwt hF hLo hc hs k
  · exact s_ops (Or.inr (Or.inr rfl)) X hml hE hrel hp hW hok hwt hF hLo hc hs k
  · generalize hop : 66 = op at hrel hp
    unfold xhO at hp
    split at hp
    case h_18 =>
      split at hp
      · rename_i hi
        cases hi.1
      · cases hp
    all_goals (try (cases hop; done))
    all_goals (cases hp)
  · exact s_op53 X hE hrel hp hW hA hok hRc hRs k
theorem xwalk_F {l : Launch} {E : xE} (hE2 : E.2 = xTX) (hck : ∀ r ∈ xRT, xok r = true) (n : Nat) : xWalk l false E n := xwalk_all (xPrim_F l) hE2 hck n
