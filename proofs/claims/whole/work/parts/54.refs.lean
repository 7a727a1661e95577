/-! THE REFERENCE: at a token -/
/-- the reader: the tokens in their rows, the index, no fault yet; words' values -/
def rdS (F : Nat → Nat → Int32) (I : Nat → Int32 → Int32) (J : Nat → Int32 → Int64) (T : List Int32) (j : Nat) : Prop := F 226 7 = nI j ∧ j ≤ (toks T).length ∧ T.length ≤ 1000 ∧ (∀ i t, (toks T)[i]? = some t → tokS I J i t) ∧ I 228 (nI (toks T).length) = 0 ∧ I 229 (nI (toks T).length) = nI T.length
section RS
variable {e : Bool × Int32 × (Int32 → Int32)} {F : Nat → Nat → Int32} {I : Nat → Int32 → Int32} {G : Nat → Nat → Int64} {J : Nat → Int32 → Int64} {ha hb ea eb : Nat} {T : List Int32} {j : Nat}
theorem rdS.at (h : rdS F I J T j) : I 228 (nI j) = nI (tokAt T j).1 ∧ I 229 (nI j) = nI (tokAt T j).2.1 ∧ ((tokAt T j).1 ≠ 4 → (tokAt T j).1 ≠ 0 → J 230 (nI j) = valR (tokAt T j)) := by
  obtain ⟨h1, h2, h3, h4, h5, h6⟩ := h
  by_cases hj : j < (toks T).length
  · have ht : (toks T)[j]? = some (toks T)[j] := List.getElem?_eq_getElem hj
    have e1 : tokAt T j = (toks T)[j] := by unfold tokAt; rw [ht]; rfl
    obtain ⟨a, b, c⟩ := h4 j _ ht
    rw [e1]
    exact ⟨a, b, fun q _ => c q⟩
  · have hjl : j = (toks T).length := by omega
    have e1 : tokAt T j = (0, T.length, []) := by unfold tokAt; rw [List.getElem?_eq_none (by omega)]; rfl
    rw [e1, hjl]
    exact ⟨h5, h6, fun _ q => absurd rfl q⟩
end RS
