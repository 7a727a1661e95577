/-! THE CLASS: a name more -/
theorem nixF_snoc {a : Int32 → Int64} {v : Int64} : ∀ (m k : Nat), k + m < 1000 → nixF a v (m + 1) k = if nixF a v m k = -1 then (if a (nI (k + m)) = v then nI (k + m) else -1) else nixF a v m k
  | 0, k, _ => rfl
  | m + 1, k, h => by
    have e1 : nixF a v (m + 1 + 1) k = if a (nI k) = v then nI k else nixF a v (m + 1) (k + 1) := rfl
    have e2 : nixF a v (m + 1) k = if a (nI k) = v then nI k else nixF a v m (k + 1) := rfl
    rw [e1, e2, nixF_snoc m (k + 1) (by omega)]
    by_cases hk : a (nI k) = v
    · have : ¬ nI k = -1 := fun q => by
        have h0 : 0 ≤ nI k := nI_pos' (by omega)
        rw [q] at h0
        exact absurd h0 (by decide)
      simp only [hk, if_true, this, if_false]
    · simp only [hk, if_false]
      rw [show k + 1 + m = k + (m + 1) by omega]
theorem nixF_congr {a b : Int32 → Int64} {v : Int64} : ∀ (m k : Nat), (∀ i, k ≤ i → i < k + m → a (nI i) = b (nI i)) → nixF a v m k = nixF b v m k
  | 0, _, _ => rfl
  | m + 1, k, h => by
    unfold nixF
    rw [h k (Nat.le_refl _) (by omega), nixF_congr m (k + 1) (fun i h1 h2 => h i (by omega) (by omega))]
theorem nmF_snoc {t y : List Int32} {v : Nat} : ∀ L : ND, (∀ q ∈ L, q.2 < 25) → nmF (L ++ [(t, v)]) y = if nmF L y = -1 then (if t = y then nI v else -1) else nmF L y
  | [], _ => rfl
  | (t', v') :: L, h => by
    have e1 : nmF ((t', v') :: L ++ [(t, v)]) y = if t' = y then nI v' else nmF (L ++ [(t, v)]) y := rfl
    have e2 : nmF ((t', v') :: L) y = if t' = y then nI v' else nmF L y := rfl
    have hv : v' < 25 := h (t', v') (by simp)
    rw [e1, e2, nmF_snoc L (fun q hq => h q (by simp [hq]))]
    by_cases hk : t' = y
    · have : ¬ nI v' = -1 := fun q => by
        have h0 : 0 ≤ nI v' := nI_pos' (by omega)
        rw [q] at h0
        exact absurd h0 (by decide)
      simp only [hk, if_true, this, if_false]
    · simp only [hk, if_false]
theorem ifm (z : Int32) : (if z = -1 then -1 else z) = z := by
  split
  · rename_i q
    exact q.symm
  · rfl
section DG
variable {F F' : Nat → Nat → Int32} {J J' : Nat → Int32 → Int64} {cl N P : Nat} {L : ND} {x : List Int32}
theorem nmC.addP (h : nmC F J cl N P L) (hL : ∀ q ∈ L, q.2 < 25) (hx : okNm x) (hnew : ¬ 0 ≤ nmF L x) (hP : P < 5) (h9 : F' cl 9 = F cl 9) (h10 : F' cl 10 = nI (P + 1)) (j1 : ∀ i, i < N → J' (cl + 1) (nI i) = J (cl + 1) (nI i)) (j5 : ∀ i, i < P → J' (cl + 5) (nI i) = J (cl + 5) (nI i)) (jn : J' (cl + 5) (nI P) = w32 x 0) : nmC F' J' cl N (P + 1) (L ++ [(x, 20 + P)]) := by
  have nn := fun q => hnew ((h.new hx).mpr q)
  obtain ⟨k1, k2, k3, k4, k5⟩ := h
  refine ⟨h9.trans k1, k2, h10, by omega, fun y hy => ?_⟩
  obtain ⟨m1, m2⟩ := k5 y hy
  rw [nmF_snoc L hL, m1, nixF_congr (a := J' (cl + 1)) (b := J (cl + 1)) N 0 (fun i _ hi => j1 i (by omega)), nixF_snoc P 0 (by omega), nixF_congr (a := J' (cl + 5)) (b := J (cl + 5)) P 0 (fun i _ hi => j5 i (by omega)), Nat.zero_add, jn]
  have ra := nix_rng (a := J (cl + 1)) (v := w32 y 0) k2
  have rb := nix_rng (a := J (cl + 5)) (v := w32 y 0) (show P ≤ 7 by omega)
  have e20 : nI (20 + P) = 20 + nI P := by rw [nI_addN]; rfl
  have p0 : 0 ≤ nI P := nI_pos' (by omega)
  have p5 : nI P < 5 := (nI_ltI (b := 5) (by omega) (by omega)).mpr hP
  by_cases hxy : x = y
  · subst hxy
    have na : nixF (J (cl + 1)) (w32 x 0) N 0 = -1 := Classical.byContradiction (fun q => nn (Or.inl q))
    have nb : nixF (J (cl + 5)) (w32 x 0) P 0 = -1 := Classical.byContradiction (fun q => nn (Or.inr q))
    rw [na, nb, e20]
    have d1 : ¬ (0 : Int32) ≤ -1 := by decide
    simp only [d1, if_true, if_false, p0, false_and, not_false_eq_true, and_true]
  · have hw : ¬ w32 x 0 = w32 y 0 := fun q => hxy ((w32_inj hx hy).mp q)
    rw [if_neg hxy, if_neg hw]
    generalize nixF (J (cl + 1)) (w32 y 0) N 0 = a at *
    generalize nixF (J (cl + 5)) (w32 y 0) P 0 = b at *
    have eb : (if b = -1 then -1 else b) = b := by
      split
      · rename_i q
        exact q.symm
      · rfl
    rw [eb]
    exact ⟨ifm _, m2⟩
theorem nmC.addS (h : nmC F J cl N P L) (hL : ∀ q ∈ L, q.2 < 25) (hx : okNm x) (hnew : ¬ 0 ≤ nmF L x) (hN : N < 7) (h9 : F' cl 9 = nI (N + 1)) (h10 : F' cl 10 = F cl 10) (j1 : ∀ i, i < N → J' (cl + 1) (nI i) = J (cl + 1) (nI i)) (j5 : ∀ i, i < P → J' (cl + 5) (nI i) = J (cl + 5) (nI i)) (jn : J' (cl + 1) (nI N) = w32 x 0) : nmC F' J' cl (N + 1) P (L ++ [(x, N)]) := by
  have nn := fun q => hnew ((h.new hx).mpr q)
  obtain ⟨k1, k2, k3, k4, k5⟩ := h
  refine ⟨h9, by omega, h10.trans k3, k4, fun y hy => ?_⟩
  obtain ⟨m1, m2⟩ := k5 y hy
  rw [nmF_snoc L hL, m1, nixF_congr (a := J' (cl + 5)) (b := J (cl + 5)) P 0 (fun i _ hi => j5 i (by omega)), nixF_snoc N 0 (by omega), nixF_congr (a := J' (cl + 1)) (b := J (cl + 1)) N 0 (fun i _ hi => j1 i (by omega)), Nat.zero_add, jn]
  have ra := nix_rng (a := J (cl + 1)) (v := w32 y 0) k2
  have rb := nix_rng (a := J (cl + 5)) (v := w32 y 0) (show P ≤ 7 by omega)
  have p0 : 0 ≤ nI N := nI_pos' (by omega)
  by_cases hxy : x = y
  · subst hxy
    have na : nixF (J (cl + 1)) (w32 x 0) N 0 = -1 := Classical.byContradiction (fun q => nn (Or.inl q))
    have nb : nixF (J (cl + 5)) (w32 x 0) P 0 = -1 := Classical.byContradiction (fun q => nn (Or.inr q))
    rw [na, nb]
    have d1 : ¬ (0 : Int32) ≤ -1 := by decide
    simp only [d1, if_true, if_false, p0, and_false, not_false_eq_true, and_true]
  · have hw : ¬ w32 x 0 = w32 y 0 := fun q => hxy ((w32_inj hx hy).mp q)
    rw [if_neg hxy, if_neg hw]
    generalize nixF (J (cl + 1)) (w32 y 0) N 0 = a at *
    generalize nixF (J (cl + 5)) (w32 y 0) P 0 = b at *
    have eb : (if a = -1 then -1 else a) = a := by
      split
      · rename_i q
        exact q.symm
      · rfl
    rw [eb]
    exact ⟨ifm _, m2⟩
end DG
