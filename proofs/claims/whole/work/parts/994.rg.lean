/-! WHAT BOTH SIDES READ: the law's operations are well formed; the draft is sound -/
/-- reads one value, within so many places of the stack -/
def pW (part : PS → PS) (p : Nat) : Prop := (∀ s, (part s).1 = 0 → s.1 = 0) ∧ ∀ s, (part s).1 = 0 → ∃ new, (part s).2.2 = s.2.2 ++ new ∧ (∀ o ∈ new, -12 ≤ o) ∧ ∀ n rest, n + p ≤ 32 → dpS (new ++ rest) n = dpS rest (n + 1)
/-- reads one more and joins the two -/
def bdW (f : PS → PS) (q : Nat) : Prop := (∀ s, (f s).1 = 0 → s.1 = 0) ∧ ∀ s, (f s).1 = 0 → ∃ new, (f s).2.2 = s.2.2 ++ new ∧ (∀ o ∈ new, -12 ≤ o) ∧ ∀ n rest, n + q ≤ 32 → dpS (new ++ rest) (n + 1) = dpS rest (n + 1)
theorem dpS_bin {o : Int32} {os : List Int32} {n : Nat} (h1 : -12 ≤ o) (h2 : o < -5) : dpS (o :: os) (n + 2) = dpS os (n + 1) := by
  have a1 : ¬ -5 < o := by grind
  have a2 : ¬ o = -5 := by grind
  conv => lhs; unfold dpS
  rw [if_neg a1, if_neg a2, if_pos (by omega)]
  rfl
section RG
variable {T : List Int32} {part : PS → PS} {p : Nat} {D : DV} {j : Nat}
theorem wr_n0 (hT : T.length ≤ 1000) {x : Int32} {s : PS} (h0 : 1 ≤ x) (h1 : x ≤ 5) : ¬ (wr T x s).1 = 0 := by
  unfold wr
  split
  · exact wr_gt2 hT h0 h1 s.2.1
  · assumption
theorem bdW.of {f : PS → PS} {p : Nat} (h : pW f p) {o : PS → Int32} (ho : ∀ s, -12 ≤ o s ∧ o s < -5) : bdW (fun s => emi (o s) (f (adv s))) (p + 1) := by
  refine ⟨fun s hs => h.1 (adv s) hs, fun s hs => ?_⟩
  obtain ⟨new, e1, e2, e3⟩ := h.2 (adv s) hs
  refine ⟨new ++ [o s], ?_, fun x hx => ?_, fun n rest hn => ?_⟩
  · show (f (adv s)).2.2 ++ [o s] = _
    rw [e1, List.append_assoc]
    rfl
  · rcases List.mem_append.mp hx with q | q
    · exact e2 x q
    · rw [List.mem_singleton] at q
      rw [q]
      exact (ho s).1
  · rw [List.append_assoc, e3 (n + 1) _ (by omega)]
    exact dpS_bin (ho s).1 (ho s).2
theorem lpW {c : PS → Bool} {f : PS → PS} {q : Nat} (h : bdW f q) : ∀ m, bdW (lpS c f m) q
  | 0 => ⟨fun _ hs => hs, fun s _ => ⟨[], (List.append_nil _).symm, fun x hx => absurd hx List.not_mem_nil, fun _ _ _ => rfl⟩⟩
  | m + 1 => by
    have ih := lpW (c := c) h m
    refine ⟨fun s hs => ?_, fun s hs => ?_⟩
    · unfold lpS at hs
      split at hs
      · exact h.1 s (ih.1 _ hs)
      · exact hs
    · unfold lpS at hs ⊢
      split at hs
      · rename_i hc
        rw [if_pos hc]
        obtain ⟨n1, a1, a2, a3⟩ := ih.2 _ hs
        obtain ⟨n2, b1, b2, b3⟩ := h.2 s (ih.1 _ hs)
        refine ⟨n2 ++ n1, by rw [a1, b1, List.append_assoc], fun x hx => ?_, fun n rest hn => ?_⟩
        · rcases List.mem_append.mp hx with z | z
          · exact b2 x z
          · exact a2 x z
        · rw [List.append_assoc, b3 n _ hn, a3 n _ hn]
      · rename_i hc
        rw [if_neg hc]
        exact ⟨[], (List.append_nil _).symm, fun x hx => absurd hx List.not_mem_nil, fun _ _ _ => rfl⟩
theorem pW.then {f g : PS → PS} {q : Nat} (h : pW f p) (k : bdW g q) (hpq : p ≤ q) : pW (fun s => g (f s)) q := by
  refine ⟨fun s hs => h.1 s (k.1 _ hs), fun s hs => ?_⟩
  obtain ⟨n1, a1, a2, a3⟩ := h.2 s (k.1 _ hs)
  obtain ⟨n2, b1, b2, b3⟩ := k.2 _ hs
  refine ⟨n1 ++ n2, by rw [b1, a1, List.append_assoc], fun x hx => ?_, fun n rest hn => ?_⟩
  · rcases List.mem_append.mp hx with z | z
    · exact a2 x z
    · exact b2 x z
  · rw [List.append_assoc, a3 n _ (by omega), b3 n _ hn]
theorem pW.prod (h : pW part p) : pW (prodP T part) (p + 1) := h.then (lpW (bdW.of (o := fun _ => -12) h (fun _ => ⟨by decide, by decide⟩)) 1000) (by omega)
theorem pW.sum (h : pW part p) : pW (sumP T part) (p + 2) := h.prod.then (lpW (bdW.of (o := fun s => if isGs T 43 s then -10 else -11) h.prod (fun s => by
  split <;> exact ⟨by decide, by decide⟩)) 1000) (by omega)
theorem pW.test2 (h : pW part p) : bdW (testP2 T part) (p + 3) := by
  have k := bdW.of (o := fun s => if isGs T 60 s then -8 else -9) (h.sum (T := T)) (fun s => by
    split <;> exact ⟨by decide, by decide⟩)
  refine ⟨fun s hs => ?_, fun s hs => ?_⟩
  · unfold testP2 at hs
    split at hs
    · exact k.1 s hs
    · exact hs
  · unfold testP2 at hs ⊢
    split at hs
    · rename_i hc
      rw [if_pos hc]
      exact k.2 s hs
    · rename_i hc
      rw [if_neg hc]
      exact ⟨[], (List.append_nil _).symm, fun x hx => absurd hx List.not_mem_nil, fun _ _ _ => rfl⟩
theorem pW.test (h : pW part p) : pW (testP T part) (p + 3) := h.sum.then h.test2 (by omega)
theorem pW.whole (h : pW part p) : pW (wholeP T part) (p + 4) := h.test.then (lpW (bdW.of (o := fun s => if isWs T 18 s then -6 else -7) h.test (fun s => by
  split <;> exact ⟨by decide, by decide⟩)) 1000) (by omega)
theorem tkS_0 (hT : T.length ≤ 1000) {c : Int32} {s : PS} (h : (tkS T c s).1 = 0) : s.1 = 0 ∧ (tkS T c s).2.2 = s.2.2 := by
  unfold tkS at h ⊢
  split at h
  · rename_i hc
    rw [if_pos hc]
    exact ⟨h, rfl⟩
  · exact absurd h (wr_n0 hT (by decide) (by decide))
theorem leaf_rng : -5 < (if isU T j then numA T j else -1 - factA T j) ∧ -12 ≤ (if isU T j then numA T j else -1 - factA T j) := by
  split
  · rename_i h
    obtain ⟨-, h2, -⟩ := isU_num h
    exact ⟨by grind, by grind⟩
  · rcases factA_lit T j with h | h | h | h | h <;> rw [h] <;> decide
theorem pW.parts (hT : T.length ≤ 1000) : ∀ r, pW (partP T r) (4 * r)
  | 0 => by
    have no : ∀ s, (partP T 0 s).1 = 0 → False := by
      intro s hs
      unfold partP at hs
      split at hs
      · contradiction
      split at hs
      · exact wr_n0 hT (by decide) (by decide) hs
      · exact wr_n0 hT (by decide) (by decide) hs
    exact ⟨fun s hs => (no s hs).elim, fun s hs => (no s hs).elim⟩
  | r + 1 => by
    have ih := pW.parts hT r
    have iw := ih.whole (T := T)
    refine ⟨fun s hs => ?_, fun s hs => ?_⟩
    · unfold partP at hs
      split at hs
      · exact hs
      · rename_i h; exact Classical.not_not.mp h
    · unfold partP at hs ⊢
      split at hs
      · contradiction
      rename_i h0
      rw [if_neg h0]
      split at hs
      · rename_i h1
        rw [if_pos h1]
        split at hs
        · rename_i h2
          rw [if_pos h2]
          obtain ⟨new, a1, a2, a3⟩ := ih.2 _ hs
          refine ⟨new ++ [-5], ?_, fun x hx => ?_, fun n rest hn => ?_⟩
          · show (partP T r (adv s)).2.2 ++ [-5] = _
            rw [a1, List.append_assoc]
            rfl
          · rcases List.mem_append.mp hx with z | z
            · exact a2 x z
            · rw [List.mem_singleton] at z
              rw [z]
              decide
          · rw [List.append_assoc, a3 n _ (by omega)]
            rfl
        · rename_i h2
          rw [if_neg h2]
          split at hs
          · rename_i h3
            rw [if_pos h3]
            obtain ⟨b1, b2⟩ := tkS_0 hT hs
            rw [b2]
            obtain ⟨new, a1, a2, a3⟩ := iw.2 _ b1
            exact ⟨new, a1, a2, fun n rest hn => a3 n rest (by omega)⟩
          · rename_i h3
            rw [if_neg h3]
            obtain ⟨l1, l2⟩ := leaf_rng (T := T) (j := s.2.1)
            refine ⟨[if isU T s.2.1 then numA T s.2.1 else -1 - factA T s.2.1], rfl, fun x hx => ?_, fun n rest hn => ?_⟩
            · rw [List.mem_singleton] at hx
              rw [hx]
              exact l2
            · generalize (if isU T s.2.1 then numA T s.2.1 else -1 - factA T s.2.1) = o at *
              show dpS (o :: rest) n = _
              conv => lhs; unfold dpS
              rw [if_pos l1, if_pos (by omega)]
      · exact absurd hs (wr_n0 hT (by decide) (by decide))
theorem pW.law {f : PS → PS} (k : pW f 24) {s : PS} (hs : s.2.2 = []) (h : (f s).1 = 0) : dpS (f s).2.2 0 = some 1 ∧ ∀ o ∈ (f s).2.2, -12 ≤ o := by
  obtain ⟨new, a1, a2, a3⟩ := k.2 s h
  rw [hs, List.nil_append] at a1
  rw [a1]
  have := a3 0 [] (by omega)
  rw [List.append_nil] at this
  exact ⟨this, a2⟩
theorem lawA_wf (hT : T.length ≤ 1000) (h : (lawA T j).1 = 0) : dpS (lawA T j).2.2 0 = some 1 ∧ ∀ o ∈ (lawA T j).2.2, -12 ≤ o := by
  have k := (pW.parts hT 5).whole (T := T)
  unfold lawA at h ⊢
  exact pW.law k rfl h
end RG
def wfC (C : List Int32) : Prop := C.length ≤ 1000 ∧ (C ≠ [] → dpS C 0 = some 1) ∧ ∀ o ∈ C, -12 ≤ o
/-- a draft, and so a hall, is sound -/
def okH (h : HV) : Prop := hN h ≤ 7 ∧ hP h ≤ 5 ∧ (1 ≤ hLasts h ∧ hLasts h ≤ 30) ∧ (∀ s, 0 ≤ s → s < nI (hN h) → 0 ≤ hRow h s ∧ hRow h s ≤ 4 ∧ 0 ≤ hAt h s ∧ hAt h s ≤ 9) ∧ (∀ p, 0 ≤ p → p < nI (hP h) → 0 ≤ hKind h p ∧ hKind h p ≤ 3 ∧ 0 ≤ hTold h p ∧ hTold h p ≤ 9) ∧ (∀ p q : Nat, p < 32 → q < 32 → tb (hFoes h (nI p)) (nI q) = true → p < hP h ∧ q < hP h ∧ p ≠ q ∧ tb (hFoes h (nI q)) (nI p) = true) ∧ (∀ p, ¬ (0 ≤ p ∧ p < nI (hP h)) → hFoes h p = 0) ∧ wfC (hCode h)
def okD (D : DV) : Prop := okH D.1 ∧ okNd D ∧ (D.2.2.2 = false → hCode D.1 = []) ∧ (D.2.2.2 = true → hCode D.1 ≠ [])
