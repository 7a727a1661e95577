/-! WHAT BOTH HALVES NEED OF THE PLAIN MACHINE -/
theorem xclr_len (L : xL) (i : Nat) : (xclr L i).length = L.length := by
  unfold xclr
  split
  · rfl
  · split
    · split
      · rw [List.length_set]
      · rfl
    · rfl
theorem xset_len (L : xL) (i : Nat) (v : Value) : (xset L i v).length = L.length := by
  unfold xset
  rw [List.length_set, xclr_len]
theorem xclr_get {L : xL} {i j : Nat} {w : Value} (hj : j ≠ i) (h : (xclr L i)[j]? = some (some w)) : L[j]? = some (some w) ∧ ¬ (j + 1 = i ∧ w.category = 2) := by
  cases i with
  | zero => exact ⟨h, fun q => by omega⟩
  | succ k =>
    unfold xclr at h
    dsimp only at h
    split at h
    · rename_i u hu
      split at h
      · rename_i hc
        rw [List.getElem?_set] at h
        split at h
        · split at h <;> simp at h
        · exact ⟨h, fun q => by omega⟩
      · rename_i hc
        refine ⟨h, fun q => ?_⟩
        have : j = k := by omega
        subst this
        rw [hu] at h
        cases h
        exact hc q.2
    · rename_i hu
      refine ⟨h, fun q => ?_⟩
      have : j = k := by omega
      subst this
      exact hu w h
theorem xset_get {L : xL} {i j : Nat} {v w : Value} (h : (xset L i v)[j]? = some (some w)) : (j = i ∧ w = v) ∨ (j ≠ i ∧ L[j]? = some (some w) ∧ ¬ (j + 1 = i ∧ w.category = 2)) := by
  unfold xset at h
  rw [List.getElem?_set] at h
  split at h
  · rename_i hj
    split at h
    · simp at h; exact Or.inl ⟨hj.symm, h.symm⟩
    · cases h
  · rename_i hj
    exact Or.inr ⟨fun q => hj q.symm, xclr_get (fun q => hj q.symm) h⟩
abbrev mF (M : xM) := M.1
abbrev mI (M : xM) := M.2.1
abbrev mG (M : xM) := M.2.2.1
abbrev mJ (M : xM) := M.2.2.2.1
abbrev mP (M : xM) := M.2.2.2.2.1
abbrev mQ (M : xM) := M.2.2.2.2.2.1
abbrev mS (M : xM) := M.2.2.2.2.2.2
theorem xu_other {α : Type} {F : Nat → Nat → α} {c b : Nat} {k : Nat} {x : α} (h : b ≠ c) : xu F c k x b = F b := by
  funext j
  unfold xu
  rw [if_neg (fun q => h q.1)]
/-- how often the catching call was made: its cells are nobody's -/
def xgh (M : xM) : Nat := (mF M 999 0).toNatClampNeg
