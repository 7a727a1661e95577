/-! CALLS, LOOPS, LOCALS THAT ARE FORGOTTEN -/
section XB
variable {e : Bool × Int32 × (Int32 → Int32)} {d : Nat} {K : List xA} {ix : Nat} {L : xL} {st : List Value} {M : xM} {r : Option Value → xM → Prop}
theorem z_cs {k dc : Nat} {q : xMeth} {args rest : List Value} {rq : Option Value → xM → Prop} (hc : Y e dc q args M rq) (hq : xMT[k]? = some q) (hs : st = args.reverse ++ rest) (hn : args.length = q.1) (hw : Nat.ble (xwt rest) 8 = true) (hw2 : Nat.ble (xwt args) q.2.1 = true) (hd : Nat.ble (dc + 1) d = true) (kk : ∀ (v : Option Value) (M' : xM), rq v M' → X e d K (ix + 1) L (v.toList ++ rest) M' r) : Z (.inr (.inr (40, [k]))) e d K ix L st M r :=
  fun hk => x_call hk (by cases st <;> rfl) rfl hq hs hn (Nat.le_of_ble_eq_true hw) (Nat.le_of_ble_eq_true hw2) (by rfl) hc (Nat.le_of_ble_eq_true hd) kk
theorem z_cv {k ci dc : Nat} {q : xMeth} {args rest : List Value} {rq : Option Value → xM → Prop} (hc : Y e dc q args M rq) (hq : xMT[k]? = some q) (hs : st = args.reverse ++ rest) (hn : args.length = q.1) (hw : Nat.ble (xwt rest) 8 = true) (hw2 : Nat.ble (xwt args) q.2.1 = true) (hv : xrecv (some ci) args M = true) (hd : Nat.ble (dc + 1) d = true) (kk : ∀ (v : Option Value) (M' : xM), rq v M' → X e d K (ix + 1) L (v.toList ++ rest) M' r) : Z (.inr (.inr (41, [k, ci]))) e d K ix L st M r :=
  fun hk => x_call hk (by cases st <;> rfl) rfl hq hs hn (Nat.le_of_ble_eq_true hw) (Nat.le_of_ble_eq_true hw2) hv hc (Nat.le_of_ble_eq_true hd) kk
/-- a method that only answers -/
def A (e : Bool × Int32 × (Int32 → Int32)) (d : Nat) (q : xMeth) (args : List Value) (M : xM) (v : Value) : Prop := Y e d q args M (fun w M' => w = some v ∧ M' = M)
theorem z_cas {k dc : Nat} {q : xMeth} {args rest : List Value} {v : Value} (hc : A e dc q args M v) (hq : xMT[k]? = some q) (hs : st = args.reverse ++ rest) (hn : args.length = q.1) (hw : Nat.ble (xwt rest) 8 = true) (hw2 : Nat.ble (xwt args) q.2.1 = true) (hd : Nat.ble (dc + 1) d = true) (kk : X e d K (ix + 1) L (v :: rest) M r) : Z (.inr (.inr (40, [k]))) e d K ix L st M r :=
  z_cs hc hq hs hn hw hw2 hd (by rintro _ _ ⟨rfl, rfl⟩; exact kk)
theorem z_cav {k ci dc : Nat} {q : xMeth} {args rest : List Value} {v : Value} (hc : A e dc q args M v) (hq : xMT[k]? = some q) (hs : st = args.reverse ++ rest) (hn : args.length = q.1) (hw : Nat.ble (xwt rest) 8 = true) (hw2 : Nat.ble (xwt args) q.2.1 = true) (hv : xrecv (some ci) args M = true) (hd : Nat.ble (dc + 1) d = true) (kk : X e d K (ix + 1) L (v :: rest) M r) : Z (.inr (.inr (41, [k, ci]))) e d K ix L st M r :=
  z_cv hc hq hs hn hw hw2 hv hd (by rintro _ _ ⟨rfl, rfl⟩; exact kk)
theorem z_gotoF {t : Nat} (hf : Nat.blt ix t = true) (k : X e d K t L st M r) : Z (.inr (.inr (10, [t]))) e d K ix L st M r := z_goto k
/-- fewer known locals -/
def lle : xL → xL → Prop
  | [], [] => True
  | none :: a, _ :: b => lle a b
  | some v :: a, w :: b => w = some v ∧ lle a b
  | _, _ => False
theorem lle_get : ∀ {L L' : xL} {i : Nat} {v : Value}, lle L L' → L[i]? = some (some v) → L'[i]? = some (some v)
  | [], [], i, v, _, h => by simp at h
  | none :: a, b :: c, 0, v, _, h => by simp at h
  | none :: a, b :: c, i + 1, v, hl, h => by simpa using lle_get (L := a) (L' := c) hl (by simpa using h)
  | some w :: a, b :: c, 0, v, hl, h => by simp at h; subst h; simp [hl.1]
  | some w :: a, b :: c, i + 1, v, hl, h => by simpa using lle_get (L := a) (L' := c) hl.2 (by simpa using h)
theorem lle_len : ∀ {L L' : xL}, lle L L' → L.length = L'.length
  | [], [], _ => rfl
  | none :: a, b :: c, h => by simp [lle_len (L := a) (L' := c) h]
  | some w :: a, b :: c, h => by simp [lle_len (L := a) (L' := c) h.2]
theorem lle_of : ∀ {L L' : xL}, L.length = L'.length → (∀ (i : Nat) (v : Value), L[i]? = some (some v) → L'[i]? = some (some v)) → lle L L'
  | [], [], _, _ => trivial
  | none :: a, b :: c, hl, h => lle_of (L := a) (L' := c) (by simpa using hl) (fun i v hi => by simpa using h (i + 1) v (by simpa using hi))
  | some w :: a, b :: c, hl, h => ⟨by simpa using h 0 w rfl, lle_of (L := a) (L' := c) (by simpa using hl) (fun i v hi => by simpa using h (i + 1) v (by simpa using hi))⟩
theorem xclr_none {L : xL} {i j : Nat} {v : Value} (h : L[j]? = some (some v)) (hc : (xclr L i)[j]? ≠ some (some v)) : j + 1 = i ∧ v.category = 2 := by
  unfold xclr at hc
  split at hc
  · exact absurd h hc
  · rename_i k
    split at hc
    · rename_i w hw
      split at hc
      · rename_i h2
        rw [List.getElem?_set] at hc
        split at hc
        · rename_i hkj
          subst hkj
          rw [h] at hw
          cases hw
          exact ⟨rfl, h2⟩
        · exact absurd h hc
      · exact absurd h hc
    · exact absurd h hc
theorem lle_xset {L L' : xL} {i : Nat} {v : Value} (h : lle L L') : lle (xset L i v) (xset L' i v) := by
  refine lle_of (by rw [xset_len, xset_len]; exact lle_len h) (fun j w hw => ?_)
  rcases xset_get hw with ⟨rfl, rfl⟩ | ⟨h2, h3, h4⟩
  · unfold xset at hw ⊢
    rw [List.getElem?_set, if_pos rfl] at hw ⊢
    rw [xclr_len] at hw ⊢
    rw [← lle_len h]
    exact hw
  · unfold xset
    rw [List.getElem?_set, if_neg (fun q => h2 q.symm)]
    cases Classical.em ((xclr L' i)[j]? = some (some w)) with
    | inl q => exact q
    | inr q => exact absurd (xclr_none (lle_get h h3) q) h4
theorem lle_set {L L' : xL} {i : Nat} {v : Option Value} (h : lle L L') : lle (L.set i v) (L'.set i v) := by
  refine lle_of (by rw [List.length_set, List.length_set]; exact lle_len h) (fun j w hw => ?_)
  rw [List.getElem?_set] at hw ⊢
  split at hw
  · rename_i hi
    rw [if_pos hi, ← lle_len h]
    exact hw
  · rename_i hi
    rw [if_neg hi]
    exact lle_get h hw
set_option maxHeartbeats 4000000 in
theorem xpure_lle {ins : Instr} {L L' L1 : xL} {st st1 : List Value} (h : lle L L') (hp : xpure ins L st = some (L1, st1)) : ∃ L1', xpure ins L' st = some (L1', st1) ∧ lle L1 L1' := by
  unfold xpure at hp
  split at hp
  all_goals (try (cases hp; done))
  case h_1 => split at hp <;> cases hp; rename_i hi; exact ⟨L', by simp [xpure, lle_get h hi], h⟩
  case h_2 => split at hp <;> cases hp; rename_i hi; exact ⟨L', by simp [xpure, lle_get h hi], h⟩
  case h_3 => split at hp <;> cases hp; rename_i hi; exact ⟨L', by simp [xpure, lle_get h hi], h⟩
  case h_4 => split at hp <;> cases hp; rename_i hi; exact ⟨_, by simp only [xpure]; rw [if_pos (by rw [← lle_len h]; exact hi)], lle_xset h⟩
  case h_5 => split at hp <;> cases hp; rename_i hi; exact ⟨_, by simp only [xpure]; rw [if_pos (by rw [← lle_len h]; exact hi)], lle_xset h⟩
  case h_6 => split at hp <;> cases hp; rename_i hi; exact ⟨_, by simp only [xpure]; rw [if_pos (by rw [← lle_len h]; exact hi)]; rfl, lle_set (lle_xset h)⟩
  all_goals first
    | (cases hp; exact ⟨L', by simp [xpure], h⟩)
    | (split at hp <;> cases hp; rename_i hi; exact ⟨L', by simp [xpure, hi], h⟩)
theorem xinc_lle {op : Nat} {a : List Nat} {L L' L1 : xL} (h : lle L L') (hp : xinc op a L = some L1) : ∃ L1', xinc op a L' = some L1' ∧ lle L1 L1' := by
  unfold xinc at hp
  split at hp
  all_goals (try (cases hp; done))
  all_goals (split at hp <;> cases hp; rename_i hi; exact ⟨_, by simp only [xinc, lle_get h hi], lle_set h⟩)
theorem xpure_none {ins : Instr} {L L' : xL} {st : List Value} (h : lle L L') (E : xE) (Mx : xM) (s2 : List Value) (M2 : xM) (hh : xhI ins E st Mx = some (s2, M2)) (hp : xpure ins L st = none) : xpure ins L' st = none := by
  unfold xhI at hh
  split at hh
  all_goals (try (cases hh; done))
  all_goals rfl
theorem xinc_none {op : Nat} {a : List Nat} {L' : xL} {pr : Bool} {E : xE} {st s2 : List Value} {Mx M2 : xM} (hh : xhO pr op a E st Mx = some (s2, M2)) : xinc op a L' = none := by
  unfold xhO at hh
  split at hh
  all_goals (try (cases hh; done))
  all_goals rfl
theorem xrun_lle {MT : List xMeth} {pr : Bool} {E : xE} : ∀ (n d : Nat) (K : List xA) (ix : Nat) (L L' : xL) (st : List Value) (M : xM) (r : Option Value × xM), lle L L' → xrun MT pr E n d K ix L st M = some r → xrun MT pr E n d K ix L' st M = some r := by
  intro n
  induction n with
  | zero => intro d K ix L L' st M r hl h; simp [xrun] at h
  | succ n ih =>
    intro d K ix L L' st M r hl h
    unfold xrun at h ⊢
    cases hk : K[ix]? with
    | none => rw [hk] at h; cases h
    | some ai =>
      rw [hk] at h
      dsimp only at h ⊢
      cases hx : xret ai st with
      | some v => rw [hx] at h; exact h
      | none =>
        rw [hx] at h
        dsimp only at h ⊢
        cases hc : xcallee ai with
        | some kr =>
          obtain ⟨kk, rc⟩ := kr
          rw [hc] at h
          dsimp only at h ⊢
          cases d with
          | zero => simp at h
          | succ d' =>
            cases hq : MT[kk]? with
            | none => rw [hq] at h; simp at h
            | some q =>
              rw [hq] at h
              dsimp only at h ⊢
              split at h
              · rename_i hcond
                rw [if_pos hcond]
                cases hr : xrun MT pr E n d' q.2.2 0 (xent (st.take q.1).reverse q.2.1) [] M with
                | none => rw [hr] at h; cases h
                | some rm =>
                  obtain ⟨r', M'⟩ := rm
                  rw [hr] at h
                  dsimp only at h ⊢
                  exact ih _ _ _ _ _ _ _ _ hl h
              · cases h
        | none =>
          rw [hc] at h
          dsimp only at h ⊢
          cases hs : xstep pr E ai ix L st M with
          | none => rw [hs] at h; cases h
          | some c' =>
            obtain ⟨ix', L1, st', M'⟩ := c'
            rw [hs] at h
            dsimp only at h
            have : ∃ L1', xstep pr E ai ix L' st M = some (ix', L1', st', M') ∧ lle L1 L1' := by
              unfold xstep at hs ⊢
              split at hs
              · cases hs; exact ⟨L', rfl, hl⟩
              · rename_i ins
                cases hp : xpure ins L st with
                | some q =>
                  obtain ⟨L2, s2⟩ := q
                  rw [hp] at hs
                  cases hs
                  obtain ⟨L1', h1, h2⟩ := xpure_lle hl hp
                  exact ⟨L1', by rw [h1], h2⟩
                | none =>
                  rw [hp] at hs
                  dsimp only at hs ⊢
                  cases hh : xhI ins E st M with
                  | none => rw [hh] at hs; cases hs
                  | some q =>
                    obtain ⟨s2, M2⟩ := q
                    rw [hh] at hs
                    cases hs
                    rw [xpure_none hl E M _ _ hh hp]
                    exact ⟨L', rfl, hl⟩
              · rename_i op a
                cases hj : xjmp op a ix st with
                | some q =>
                  obtain ⟨t, s2⟩ := q
                  rw [hj] at hs
                  cases hs
                  exact ⟨L', rfl, hl⟩
                | none =>
                  rw [hj] at hs
                  dsimp only at hs ⊢
                  cases hi : xinc op a L with
                  | some L2 =>
                    rw [hi] at hs
                    cases hs
                    obtain ⟨L1', h1, h2⟩ := xinc_lle hl hi
                    exact ⟨L1', by rw [h1], h2⟩
                  | none =>
                    rw [hi] at hs
                    dsimp only at hs
                    split at hs
                    · rename_i hw
                      cases hh : xhO pr op a E st M with
                      | none => rw [hh] at hs; cases hs
                      | some q =>
                        obtain ⟨s2, M2⟩ := q
                        rw [hh] at hs
                        cases hs
                        rw [xinc_none hh]
                        exact ⟨L', by dsimp only; rw [if_pos hw], hl⟩
                    · cases hs
            obtain ⟨L1', h1, h2⟩ := this
            rw [h1]
            exact ih _ _ _ _ _ _ _ _ h2 h
theorem X.weak {L' : xL} (hl : lle L L') (h : X e d K ix L st M r) : X e d K ix L' st M r := by
  obtain ⟨n, v, M', hn, hr⟩ := h
  exact ⟨n, v, M', xrun_lle n d K ix L L' st M _ hl hn, hr⟩
/-- a loop that counts up: its state at i is a function of i -/
theorem x_for {h : Nat} (N : Nat) (L : Nat → xL) (M : Nat → xM) (step : ∀ i, i < N → (∀ L', lle (L (i + 1)) L' → X e d K h L' [] (M (i + 1)) r) → X e d K h (L i) [] (M i) r) (exit : X e d K h (L N) [] (M N) r) {L' : xL} (hl : lle (L 0) L') : X e d K h L' [] (M 0) r := by
  have : ∀ m i, i + m = N → X e d K h (L i) [] (M i) r := by
    intro m
    induction m with
    | zero => intro i hi; have : i = N := by omega
              subst this; exact exit
    | succ m ih => intro i hi; exact step i (by omega) (fun L' hl => (ih (i + 1) (by omega)).weak hl)
  exact (this N 0 (by omega)).weak hl
/-- the same, with an invariant of the store, and a state beside it -/
theorem x_forR {α : Type} {h : Nat} (N : Nat) (L : Nat → α → xL) (Inv : Nat → α → xM → Prop) (step : ∀ i a M, i < N → Inv i a M → (∀ a' M' L', Inv (i + 1) a' M' → lle (L (i + 1) a') L' → X e d K h L' [] M' r) → X e d K h (L i a) [] M r) (exit : ∀ a M, Inv N a M → X e d K h (L N a) [] M r) {i : Nat} {a : α} {L' : xL} (hi : i ≤ N) (hI : Inv i a M) (hl : lle (L i a) L') : X e d K h L' [] M r := by
  have : ∀ m i a M, i + m = N → Inv i a M → X e d K h (L i a) [] M r := by
    intro m
    induction m with
    | zero => intro i a M hi hI; have : i = N := by omega
              subst this; exact exit a M hI
    | succ m ih => intro i a M hi hI; exact step i a M (by omega) hI (fun a' M' L' hI' hl => (ih (i + 1) a' M' (by omega) hI').weak hl)
  exact (this (N - i) i a M (by omega) hI).weak hl
end XB
