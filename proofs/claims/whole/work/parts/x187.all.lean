/-! THE WALK'S STEP, AND THE WHOLE -/
def xkindsC : Bool := (xCl.all fun q => match xRT[q.2.2.1]? with
  | some r => rKind r == q.2.2.2
  | none => false) && (xNl.all fun q => match xRT[q.2.2.1]? with
  | some r => rKind r == 2 && q.2.2.2 == 3
  | none => false)
theorem xkindsC_ok : xkindsC = true := by decide +kernel
theorem xCl_kind {o idx k kind : Nat} {r : xReal} (h : (o, idx, k, kind) ∈ xCl) (hr : xRT[k]? = some r) : rKind r = kind := by
  have h1 := List.all_eq_true.mp (Bool.and_eq_true_iff.mp xkindsC_ok).1 _ h
  dsimp only at h1
  rw [hr] at h1
  simpa using h1
theorem xNl_kind {o idx k kind : Nat} {r : xReal} (h : (o, idx, k, kind) ∈ xNl) (hr : xRT[k]? = some r) : rKind r = 2 := by
  have h1 := List.all_eq_true.mp (Bool.and_eq_true_iff.mp xkindsC_ok).2 _ h
  dsimp only at h1
  rw [hr] at h1
  simp at h1
  exact h1.1
theorem xanyC_spec {lst : List (Nat × Nat × Nat × Nat)} {cc : ByteArray} {o pc pc1 k kind : Nat} {i : Nat → Instr} (h : xanyC lst cc o pc pc1 k kind i = true) : ∃ idx, (o, idx, k, kind) ∈ lst ∧ decode cc pc = .ok (i idx, 3) ∧ pc1 = pc + 3 := by
  obtain ⟨⟨a, idx, b, c⟩, hm, h2⟩ := List.any_eq_true.mp h
  simp only [Bool.and_eq_true, beq_iff_eq] at h2
  obtain ⟨rfl, rfl, rfl, h3⟩ := h2
  exact ⟨idx, hm, xdec_spec h3⟩
theorem xGW_good (r2 : xReal) (h : ∀ w ∈ xMw r2, w ∈ lw_tbl) : GoodIn xGW (xWsY r2) := by
  intro w hw
  rcases List.mem_cons.mp hw with rfl | hw
  · exact ⟨xGW_in (h _ (by unfold xMw; exact List.mem_cons_self)) rfl, good_of_word rfl⟩
  · exact ⟨hw, good_of_word (List.mem_filter.mp hw).2⟩
theorem xYn_at {k : Nat} {r : xReal} (h : xRT[k]? = some r) : xYn k = rY r := by unfold xYn; rw [h]
section SG
variable {p : Program} {l : Launch} {e : Env} {R : Room} {s : State} {m : MethodId} {args : Array Value} {below : List Frame} {meth : Method} {c : Code} {H : Heap} {locs : List Loc} {cells slots : Nat} {Q : State → Prop}
variable {cc : ByteArray} {o pc pc1 : Nat} {D : va_G} {ty : Nat → ClassId} {ad : Nat → Nat} {A : Nat → Prop} {ls : Array Slot} {E : xE}
theorem s_callgo {mc ms : Nat} {M M1 : xM} {v : Option Value} {st0 rest : List Value} {arr : Array Value} (hr : va_Run p l e R s m args below meth c H locs cells slots mc ms (F0 m pc ls st0) rest (xQc D ty ad M M1 H.size v arr) (va_A (xwld ty ad M) H.size)) (hW : xAt D ty ad A M s.heap H locs) (hA : ∀ q, s.heap.size ≤ q → A q)
    (kk : ∀ (H1 : Heap) (locs1 : List Loc) (ad' : Nat → Nat), xAt D ty ad' A M1 s.heap H1 locs1 → xagree (mS M).length ad ad' → (∀ w, v = some w → xok1 (mS M1).length w) → W p l e R s m args below meth c H1 locs1 (cells + mc) (slots + ms) Q (F0 m (pc + 3) ls ((v.map (xval ad')).toList ++ rest))) : W p l e R s m args below meth c H locs cells slots Q (F0 m pc ls st0) := by
  intro T hT X
  obtain ⟨hP, hD, hS, hwf⟩ := hW
  obtain ⟨v', st₀, t, T', L, h0, X', hL, e1, e2, ⟨⟨ad', hv, hag, hP1, hD1, hwf1, hokv⟩, hz, hk⟩, st⟩ := hr T hT X
  cases hv
  rw [h0] at hz hk
  have hAA : ∀ q, va_A (xwld ty ad M) H.size q → A q := by
    intro q hq
    rcases hq with ⟨k, e0, h⟩ | h
    · exact hD.2 k _ h
    · exact hA q (Nat.le_trans hS.1 h)
  obtain ⟨t2, a1, b1⟩ := kk T'.heap (locs ++ L) ad' ⟨by rw [e1]; exact hP1, hD1.weaken (fun k q _ h => hAA q.1 h),
    ⟨Nat.le_trans hS.1 (by rw [e1]; exact hz), fun q h1 h2 => by rw [e1, hk q (Nat.lt_of_lt_of_le h1 hS.1) (fun z => h2 (hAA q z))]; exact hS.2.1 q h1 h2, fun q hq => by
      rcases List.mem_append.mp hq with h | h
      · exact hS.2.2 q h
      · exact hAA _ (hL q h)⟩, hwf1⟩ hag hokv T' rfl X'
  exact ⟨t2, st t2 a1, b1⟩
/-- what a callee is given -/
theorem xPre {M : xM} {as : List Value} (X : xCtx p s m args c cc o D ty) (hE : xEV E ad A s s.heap) (hW : xAt D ty ad A M s.heap H locs) : ∀ U : State, U.heap = H → s.WarmedH U.vm → xPc D ty ad E M H.size as ((as.map (xval ad)).toArray) U := by
  intro U hU hWm
  obtain ⟨hP, hD, hS, hwf⟩ := hW
  refine ⟨rfl, by rw [hU], by rw [hU]; exact hP, va_K.moved hWm.alike X.2.2.2.2, hD.weaken (fun _ _ _ _ => trivial), ?_⟩
  rw [hU]
  refine xEV_warm hWm (xEV_narrow (A := A) (fun q hq hlt => ?_) (xEV_kept hS.1 (fun q h1 h2 => hS.2.1 q h1 h2) hE))
  rcases hq with ⟨k, e0, h⟩ | h
  · exact hD.2 k _ h
  · omega
end SG
