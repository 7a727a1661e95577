/-! THE CLASS: addFoes, the draft -/
theorem nearR_rows {R A R' A' : Int32 → Int32} {N : Nat} {s : Int32} (hR : ∀ i, 0 ≤ i → i < nI N → R' i = R i ∧ A' i = A i) (hN : N ≤ 7) (s0 : 0 ≤ s) (s1 : s < nI N) : nearR R' A' N s = nearR R A N s := by
  have : ∀ k, k ≤ N → bset (nearQ R' A' s) k = bset (nearQ R A s) k := by
    intro k
    induction k with
    | zero => intro _; rfl
    | succ k ih =>
      intro hk
      have h0 : 0 ≤ nI k := nI_pos' (by omega)
      have h1 : nI k < nI N := (nI_ltI (by omega) (by omega)).mpr (by omega)
      have e1 : nearQ R' A' s (nI k) = nearQ R A s (nI k) := by
        unfold nearQ
        rw [(hR s s0 s1).1, (hR s s0 s1).2, (hR _ h0 h1).1, (hR _ h0 h1).2]
      rw [bset_succ, bset_succ, ih (by omega), e1]
  unfold nearR
  rw [if_pos s1, if_pos s1, this N (Nat.le_refl _)]
section DJ
variable {F F' : Nat → Nat → Int32} {I I' : Nat → Int32 → Int32} {J : Nat → Int32 → Int64} {cl : Nat} {D : DV} {a b : Int32}
theorem drC.foes (hD : drC F I J cl D) (o6 : ∀ c, c ≠ cl + 8 → I' c = I c) (i8 : I' (cl + 8) = up (up (I (cl + 8)) a (hFoes D.1 a ||| (1 <<< (b &&& 31)))) b (hFoes (foeD1 D.1 a b) b ||| (1 <<< (a &&& 31)))) : drC F I' J cl (foeD1 (foeD1 D.1 a b) b a, D.2) := by
  obtain ⟨h1, h2, h3, h4, h5⟩ := hD
  refine ⟨h1, h2, fun s s0 s1 => ?_, fun p p0 p1 => ?_, ?_⟩
  · rw [o6 _ (by omega), o6 _ (by omega), o6 _ (by omega)]
    exact h3 s s0 s1
  · obtain ⟨q1, q2, q3⟩ := h4 p p0 p1
    rw [o6 _ (by omega), o6 _ (by omega), i8]
    refine ⟨q1, q2, ?_⟩
    show up _ _ _ p = (if (4 : Nat) = 4 ∧ p = b then hFoes (foeD1 D.1 a b) b ||| (1 <<< (a &&& 31)) else if (4 : Nat) = 4 ∧ p = a then hFoes D.1 a ||| (1 <<< (b &&& 31)) else hFoes D.1 p)
    by_cases hb : p = b
    · subst hb
      rw [up_self, if_pos ⟨rfl, rfl⟩]
    · rw [up_ne hb, if_neg (fun q => hb q.2)]
      by_cases ha : p = a
      · subst ha
        rw [up_self, if_pos ⟨rfl, rfl⟩]
      · rw [up_ne ha, if_neg (fun q => ha q.2)]
        exact q3
  · unfold cdC
    rw [o6 _ (by omega)]
    exact h5
end DJ
