/-! THE REFERENCE: cutAll -/
section RR
variable {e : Bool × Int32 × (Int32 → Int32)} {F : Nat → Nat → Int32} {I : Nat → Int32 → Int32} {G : Nat → Nat → Int64} {J : Nat → Int32 → Int64} {ha hb ea eb : Nat} {T : List Int32}
def cutP (F : Nat → Nat → Int32) (I : Nat → Int32 → Int32) (G : Nat → Nat → Int64) (J : Nat → Int32 → Int64) (ha hb ea eb : Nat) (T : List Int32) (w : Option Value) (M' : xM) : Prop := w = none ∧ ∃ I' J', M' = (xu (xu F 226 7 0) 226 8 0, I', G, J', P0 ha hb ea eb, Q0, S0) ∧ (∀ c, c ≠ 228 → c ≠ 229 → I' c = I c) ∧ (∀ c, c ≠ 230 → J' c = J c) ∧ (∀ i t, (toks T)[i]? = some t → tokS I' J' i t) ∧ I' 228 (nI (toks T).length) = 0 ∧ I' 229 (nI (toks T).length) = nI T.length
theorem tokS_off {I' : Nat → Int32 → Int32} {J' : Nat → Int32 → Int64} {i m : Nat} {t : Tok} {a b : Int32} {v : Int64} (h : tokS I' J' i t) (hi : i < 1002) (hm : m < 1002) (hne : i ≠ m) : tokS (xv (xv I' 229 (nI m) a) 228 (nI m) b) (xv J' 230 (nI m) v) i t := by
  have hn := fun q => hne ((nI_eq (a := i) (b := m) (by omega) (by omega)).mp q)
  obtain ⟨h1, h2, h3⟩ := h
  refine ⟨?_, ?_, fun q => ?_⟩
  · rw [xv_row, row_same, up_ne hn, xv_ne (by decide)]; exact h1
  · rw [xv_ne (by decide), xv_row, row_same, up_ne hn]; exact h2
  · unfold xv
    rw [if_neg (fun q => hn q.2)]
    exact h3 q
theorem cut_outer {d : Nat} (hn2 : T.length ≤ 1000) (hF : F 226 3 = nI T.length) (hI : tapI I T) : ∀ (f k m : Nat) (TS : List Tok) (I' : Nat → Int32 → Int32) (J' : Nat → Int32 → Int64) (L' : xL), (T.drop k).length ≤ f → k ≤ T.length → m ≤ k → TS.length = m → (∀ i t, TS[i]? = some t → tokS I' J' i t) → toks T = TS ++ tokF f k (T.drop k) → (∀ c, c ≠ 228 → c ≠ 229 → I' c = I c) → (∀ c, c ≠ 230 → J' c = J c) → lle [some (.ref 226), some (.int (nI m)), some (.int (nI k)), none, none, none, none] L' → X e (d + 2) M_X12_cutAll.2.2 11 L' [] (F, I', G, J', P0 ha hb ea eb, Q0, S0) (cutP F I G J ha hb ea eb T) := by
  intro f
  induction f with
  | zero =>
    intro k m TS I' J' L' hf hk hm hTS hT hto hi hj hL
    sorry
  | succ f ih =>
    intro k m TS I' J' L' hf hk hm hTS hT hto hi hj hL
    refine X.weak hL ?_
    cases hd : T.drop k with
    | nil => sorry
    | cons c cs =>
      have hkl : k < T.length := by
        refine Classical.byContradiction (fun q => ?_)
        rw [List.drop_eq_nil_of_le (by omega)] at hd
        cases hd
      have hc : T[k]? = some c := by
        have : (T.drop k)[0]? = some c := by rw [hd]; rfl
        simpa using this
      have hcs : T.drop (k + 1) = cs := by rw [← List.drop_drop, hd]; rfl
      have hcl : cs.length ≤ f := by rw [hd] at hf; simp at hf; omega
      have hI2 : I' 227 (nI k) = c := by rw [hi 227 (by decide) (by decide)]; exact hI k c hc
      have k0 : 0 ≤ nI k := nI_pos' (by omega)
      have k1 : nI k < 1000 := (nI_ltI (b := 1000) (by omega) (by omega)).mpr (by omega)
      have m0 : 0 ≤ nI m := nI_pos' (by omega)
      have m1 : nI m < 1002 := (nI_ltI (b := 1002) (by omega) (by omega)).mpr (by omega)
      have k2 : ¬ nI T.length ≤ nI k := by rw [nI_leI (by omega) (by omega)]; omega
      rw [hd] at hto
      have tail : ∀ (t : Tok) (v : Int64) (k2 : Nat) (L' : xL), t.2.1 = k → (t.1 ≠ 4 → v = valR t) → tokF (f + 1) k (c :: cs) = t :: tokF f k2 (T.drop k2) → k < k2 → k2 ≤ T.length → lle [some (.ref 226), some (.int (nI m)), some (.int (nI k2)), none, none, some (.long v), none] L' → X e (d + 2) M_X12_cutAll.2.2 144 L' [] (F, xv (xv I' 229 (nI m) (nI k)) 228 (nI m) (nI t.1), G, J', P0 ha hb ea eb, Q0, S0) (cutP F I G J ha hb ea eb T) := by
        intro t v k2 L' ht hv htk hk2 hk3 hL
        refine X.weak hL ?_
        repeat' (first | fail | (refine X.f rfl ?_; first | refine z_iload rfl ?_ | refine z_aload rfl ?_ | refine z_push ?_ | refine z_istoreN rfl rfl ?_ | refine z_astoreN rfl rfl ?_ | refine z_istore rfl ?_ | refine z_astore rfl ?_ | refine z_gP rfl rfl ?_ | refine z_gI rfl ?_ | refine z_gotoF rfl ?_ | refine z_iadd ?_ | refine z_isub ?_ | refine z_imul ?_ | refine z_iand ?_ | refine z_ior ?_ | refine z_ishl ?_ | refine z_ishr ?_ | refine z_ixor ?_ | refine z_ineg ?_ | refine z_pI rfl ?_ | refine z_inc80 rfl ?_ | refine z_inc81 rfl ?_ | refine z_dup ?_ | refine z_dupr ?_ | refine z_dup2 ?_ | refine z_pop ?_ | (refine z_idiv ?sd1 ?_; (case sd1 => decide)) | (refine z_irem ?sd1 ?_; (case sd1 => decide)) | (refine z_iaload rfl ?sd1 ?sd2 ?sd3 ?_; (case sd1 => first | with_reducible assumption | decide | grind); (case sd2 => first | with_reducible assumption | decide | grind); (case sd3 => decide)) | (refine z_iastore rfl ?sd1 ?sd2 ?sd3 ?_; (case sd1 => first | with_reducible assumption | decide | grind); (case sd2 => first | with_reducible assumption | decide | grind); (case sd3 => decide))) | (refine X.f rfl ?_; first | refine z_lload rfl ?_ | refine z_lstore rfl ?_ | refine z_lmul ?_ | refine z_ladd ?_ | refine z_lsub ?_ | refine z_i2l ?_ | refine z_l2i ?_ | refine z_gL rfl ?_ | refine z_pL rfl ?_ | refine z_lcmp ?_))
        refine X.f rfl (z_lastore rfl m0 m1 (by decide) ?_)
        repeat' (first | fail | (refine X.f rfl ?_; first | refine z_iload rfl ?_ | refine z_aload rfl ?_ | refine z_push ?_ | refine z_istoreN rfl rfl ?_ | refine z_astoreN rfl rfl ?_ | refine z_istore rfl ?_ | refine z_astore rfl ?_ | refine z_gP rfl rfl ?_ | refine z_gI rfl ?_ | refine z_gotoF rfl ?_ | refine z_iadd ?_ | refine z_isub ?_ | refine z_imul ?_ | refine z_iand ?_ | refine z_ior ?_ | refine z_ishl ?_ | refine z_ishr ?_ | refine z_ixor ?_ | refine z_ineg ?_ | refine z_pI rfl ?_ | refine z_inc80 rfl ?_ | refine z_inc81 rfl ?_ | refine z_dup ?_ | refine z_dupr ?_ | refine z_dup2 ?_ | refine z_pop ?_ | (refine z_idiv ?sd1 ?_; (case sd1 => decide)) | (refine z_irem ?sd1 ?_; (case sd1 => decide)) | (refine z_iaload rfl ?sd1 ?sd2 ?sd3 ?_; (case sd1 => first | with_reducible assumption | decide | grind); (case sd2 => first | with_reducible assumption | decide | grind); (case sd3 => decide)) | (refine z_iastore rfl ?sd1 ?sd2 ?sd3 ?_; (case sd1 => first | with_reducible assumption | decide | grind); (case sd2 => first | with_reducible assumption | decide | grind); (case sd3 => decide))) | fail)
        refine X.f rfl (z_goto ?_)
        refine ih k2 (m + 1) (TS ++ [t]) _ _ _ (by rw [List.length_drop]; rw [List.length_drop] at hf; omega) hk3 (by omega) (by simp [hTS]) (fun i t' hit => ?_) (by rw [hto, htk]; simp) (fun c h1 h2 => by rw [xv_ne h1, xv_ne h2]; exact hi c h1 h2) (fun c h => by funext j; unfold xv; rw [if_neg (fun q => h q.1)]; rw [hj c h]) ?_
        · by_cases him : i = m
          · subst him
            have htt : t' = t := by
              rw [← hTS] at hit
              simpa using hit.symm
            subst htt
            refine ⟨?_, ?_, fun q => ?_⟩
            · rw [xv_row, row_same, up_self]
            · rw [xv_ne (by decide), xv_row, row_same, up_self, ht]
            · unfold xv
              rw [if_pos ⟨rfl, rfl⟩]
              exact hv q
          · have him2 : i < m := by
              have := (List.getElem?_eq_some_iff.mp hit).1
              simp [hTS] at this
              omega
            rw [List.getElem?_append_left (by omega)] at hit
            exact tokS_off (hT i t' hit) (by omega) (by omega) him
        · repeat (first | exact trivial | refine ⟨by first | with_reducible rfl | exact congrArg (fun q => some (Value.int q)) (by first | with_reducible rfl | with_reducible assumption | exact (nI_succ _).symm | grind [nI_0]) | exact congrArg (fun q => some (Value.long q)) (by first | with_reducible rfl | with_reducible assumption | grind [nI_0]) | rfl, ?_⟩)
      sorry
end RR
