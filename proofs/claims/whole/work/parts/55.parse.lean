/-! WHAT BOTH SIDES READ: the law's E, over the tokens -/
/-- the words: 0 seat row at person nutmegs foe lasts wears, 8 lay sit rise grate hour, 13 plain lady rasp captain, 17 not and or, 20 fresh company rank date -/
def wds : List (List Int32) := [[115, 101, 97, 116], [114, 111, 119], [97, 116], [112, 101, 114, 115, 111, 110], [110, 117, 116, 109, 101, 103, 115], [102, 111, 101], [108, 97, 115, 116, 115], [119, 101, 97, 114, 115], [108, 97, 121], [115, 105, 116], [114, 105, 115, 101], [103, 114, 97, 116, 101], [104, 111, 117, 114], [112, 108, 97, 105, 110], [108, 97, 100, 121], [114, 97, 115, 112], [99, 97, 112, 116, 97, 105, 110], [110, 111, 116], [97, 110, 100], [111, 114], [102, 114, 101, 115, 104], [99, 111, 109, 112, 97, 110, 121], [114, 97, 110, 107], [100, 97, 116, 101]]
def wdx (x : Nat) : List Int32 := (wds[x]?).getD []
def isW (T : List Int32) (j x : Nat) : Bool := decide ((tokAt T j).1 = 1 ∧ (tokAt T j).2.2 = wdx x)
def isG (T : List Int32) (j : Nat) (c : Int32) : Bool := decide ((tokAt T j).1 = 3 ∧ (tokAt T j).2.2 = [c])
def isU (T : List Int32) (j : Nat) : Bool := decide ((tokAt T j).1 = 2)
def plT (T : List Int32) (j : Nat) : Int32 := nI (tokAt T j).2.1
/-- the fault, the index, the operations so far -/
abbrev PS : Type := Int32 × Nat × List Int32
def wr (T : List Int32) (x : Int32) (s : PS) : PS := if s.1 = 0 then (x + 16 * plT T s.2.1, s.2) else s
def isWs (T : List Int32) (x : Nat) (s : PS) : Bool := decide (s.1 = 0) && isW T s.2.1 x
def isGs (T : List Int32) (c : Int32) (s : PS) : Bool := decide (s.1 = 0) && isG T s.2.1 c
def adv (s : PS) : PS := (s.1, s.2.1 + 1, s.2.2)
def emi (o : Int32) (s : PS) : PS := (s.1, s.2.1, s.2.2 ++ [o])
def tkS (T : List Int32) (c : Int32) (s : PS) : PS := if isGs T c s then adv s else wr T 1 s
def lpS (p : PS → Bool) (f : PS → PS) : Nat → PS → PS
  | 0, s => s
  | n + 1, s => if p s then lpS p f n (f s) else s
def prodP (T : List Int32) (part : PS → PS) (s : PS) : PS := lpS (isGs T 42) (fun s => emi (-12) (part (adv s))) 1000 (part s)
def sumP (T : List Int32) (part : PS → PS) (s : PS) : PS := lpS (fun s => isGs T 43 s || isGs T 45 s) (fun s => emi (if isGs T 43 s then -10 else -11) (prodP T part (adv s))) 1000 (prodP T part s)
def testP2 (T : List Int32) (part : PS → PS) (s : PS) : PS := if isGs T 60 s || isGs T 61 s then emi (if isGs T 60 s then -8 else -9) (sumP T part (adv s)) else s
def testP (T : List Int32) (part : PS → PS) (s : PS) : PS := testP2 T part (sumP T part s)
def wholeP (T : List Int32) (part : PS → PS) (s : PS) : PS := lpS (fun s => isWs T 18 s || isWs T 19 s) (fun s => emi (if isWs T 18 s then -6 else -7) (testP T part (adv s))) 1000 (testP T part s)
/-- the fact that stands here, or -1 -/
def factA (T : List Int32) (j : Nat) : Int32 := if isW T j 23 then 3 else if isW T j 22 then 2 else if isW T j 21 then 1 else if isW T j 20 then 0 else -1
def numA (T : List Int32) (j : Nat) : Int32 := (valR (tokAt T j)).toInt32
def startsP (T : List Int32) (j : Nat) : Bool := decide (0 ≤ factA T j) || isU T j || isG T j 40 || isW T j 17
/-- so many may still be opened -/
def partP (T : List Int32) : Nat → PS → PS
  | 0 => fun s => if s.1 ≠ 0 then s else if startsP T s.2.1 then wr T 5 s else wr T 1 s
  | r + 1 => fun s => if s.1 ≠ 0 then s else if startsP T s.2.1 then (if isW T s.2.1 17 then emi (-5) (partP T r (adv s)) else if isG T s.2.1 40 then tkS T 41 (wholeP T (partP T r) (adv s)) else adv (emi (if isU T s.2.1 then numA T s.2.1 else -1 - factA T s.2.1) s)) else wr T 1 s
/-! tokens' shapes -/
def shapeT (t : Tok) : Prop := (t.1 = 1 → t.2.2 ≠ [] ∧ t.2.2.length ≤ 8 ∧ ∀ c ∈ t.2.2, isLet c = true) ∧ (t.1 = 2 → t.2.2 ≠ [] ∧ t.2.2.length ≤ 4 ∧ ∀ c ∈ t.2.2, isDig c = true) ∧ (t.1 = 3 → ∃ c, t.2.2 = [c] ∧ isSgn c = true)
theorem runL_take {p : Int32 → Bool} : ∀ (T : List Int32), ∀ c ∈ T.take (runL p T), p c = true
  | [], c, h => by simp at h
  | d :: ds, c, h => by
    unfold runL at h
    split at h
    · rename_i hd
      rw [List.take_succ_cons] at h
      rcases List.mem_cons.mp h with rfl | h
      · exact hd
      · exact runL_take ds c h
    · simp at h
theorem tokF_shape : ∀ (f k : Nat) (T : List Int32) (i : Nat) (t : Tok), (tokF f k T)[i]? = some t → shapeT t ∧ k ≤ t.2.1 ∧ t.2.1 < k + T.length
  | 0, _, _, i, t, h => by unfold tokF at h; simp at h
  | f + 1, k, [], i, t, h => by unfold tokF at h; simp at h
  | f + 1, k, c :: cs, i, t, h => by
    unfold tokF at h
    have hlen : (c :: cs).length = cs.length + 1 := rfl
    split at h
    · obtain ⟨a, b, b2⟩ := tokF_shape f _ _ i t h
      exact ⟨a, by omega, by omega⟩
    split at h
    · rename_i hb hl
      have hr := runL_pos (p := isLet) (cs := cs) hl
      have hr2 := runL_le (p := isLet) (c :: cs)
      cases i with
      | zero =>
        simp at h
        subst h
        refine ⟨⟨fun q => ?_, fun q => ?_, fun q => ?_⟩, Nat.le_refl _, by dsimp only; omega⟩
        · have h8 : ¬ 8 < runL isLet (c :: cs) := by
            intro h8
            dsimp only at q
            rw [if_pos h8] at q
            omega
          refine ⟨fun q => ?_, ?_, runL_take _⟩
          · have : ((c :: cs).take (runL isLet (c :: cs))).length = 0 := by
              dsimp only at q
              rw [q]
              rfl
            rw [List.length_take] at this
            omega
          · dsimp only
            rw [List.length_take]
            omega
        · dsimp only at q
          split at q <;> omega
        · dsimp only at q
          split at q <;> omega
      | succ i =>
        obtain ⟨a, b, b2⟩ := tokF_shape f _ _ i t (by simpa using h)
        rw [List.length_drop] at b2
        exact ⟨a, by omega, by omega⟩
    split at h
    · rename_i hb hl0 hl
      have hr := runL_pos (p := isDig) (cs := cs) hl
      have hr2 := runL_le (p := isDig) (c :: cs)
      cases i with
      | zero =>
        simp at h
        subst h
        refine ⟨⟨fun q => ?_, fun q => ?_, fun q => ?_⟩, Nat.le_refl _, by dsimp only; omega⟩
        · dsimp only at q
          split at q <;> omega
        · have h8 : ¬ 4 < runL isDig (c :: cs) := by
            intro h8
            dsimp only at q
            rw [if_pos h8] at q
            omega
          refine ⟨fun q => ?_, ?_, runL_take _⟩
          · have : ((c :: cs).take (runL isDig (c :: cs))).length = 0 := by
              dsimp only at q
              rw [q]
              rfl
            rw [List.length_take] at this
            omega
          · dsimp only
            rw [List.length_take]
            omega
        · dsimp only at q
          split at q <;> omega
      | succ i =>
        obtain ⟨a, b, b2⟩ := tokF_shape f _ _ i t (by simpa using h)
        rw [List.length_drop] at b2
        exact ⟨a, by omega, by omega⟩
    · cases i with
      | zero =>
        simp at h
        subst h
        refine ⟨⟨fun q => ?_, fun q => ?_, fun q => ⟨c, rfl, ?_⟩⟩, Nat.le_refl _, by dsimp only; omega⟩
        · dsimp only at q
          split at q <;> omega
        · dsimp only at q
          split at q <;> omega
        · dsimp only at q
          split at q
          · assumption
          · omega
      | succ i =>
        obtain ⟨a, b, b2⟩ := tokF_shape f _ _ i t (by simpa using h)
        exact ⟨a, by omega, by omega⟩
theorem tokAt_shape (T : List Int32) (j : Nat) : shapeT (tokAt T j) ∧ (tokAt T j).2.1 ≤ T.length := by
  unfold tokAt
  cases h : (toks T)[j]? with
  | none => exact ⟨⟨fun q => absurd (show (0 : Nat) = 1 from q) (by decide), fun q => absurd (show (0 : Nat) = 2 from q) (by decide), fun q => absurd (show (0 : Nat) = 3 from q) (by decide)⟩, Nat.le_refl _⟩
  | some t =>
    obtain ⟨a, b, b2⟩ := tokF_shape _ _ _ _ _ h
    exact ⟨a, by simpa using Nat.le_of_lt b2⟩
theorem tokAt_end {T : List Int32} {j : Nat} (h : (tokAt T j).1 ≠ 0) : j < (toks T).length := by
  refine Classical.byContradiction (fun q => h ?_)
  unfold tokAt
  rw [List.getElem?_eq_none (by omega)]
  rfl
theorem isW_lt {T : List Int32} {j x : Nat} (h : isW T j x = true) : j < (toks T).length := by
  have := of_decide_eq_true h
  exact tokAt_end (by omega)
theorem isG_lt {T : List Int32} {j : Nat} {x : Int32} (h : isG T j x = true) : j < (toks T).length := by
  have := of_decide_eq_true h
  exact tokAt_end (by omega)
theorem isU_lt {T : List Int32} {j : Nat} (h : isU T j = true) : j < (toks T).length := by
  have := of_decide_eq_true h
  exact tokAt_end (by omega)
/-! the values of words: 37 ** k, injective -/
def n37 : List Int32 → Nat → Nat
  | [], v => v
  | c :: cs, v => n37 cs (37 * v + (c.toInt - 96).toNat)
theorem let_int {c : Int32} (h : isLet c = true) : 97 ≤ c.toInt ∧ c.toInt ≤ 122 := by
  have := of_decide_eq_true h
  exact ⟨Int32.le_iff_toInt_le.mp this.1, Int32.le_iff_toInt_le.mp this.2⟩
theorem n37_le : ∀ (l : List Int32) (v b : Nat), (∀ c ∈ l, isLet c = true) → v < 37 ^ b → n37 l v < 37 ^ (b + l.length)
  | [], v, b, _, h => h
  | c :: cs, v, b, hl, h => by
    have h1 := let_int (hl c (by simp))
    have := n37_le cs (37 * v + (c.toInt - 96).toNat) (b + 1) (fun d hd => hl d (by simp [hd])) (by rw [Nat.pow_succ]; omega)
    unfold n37
    rw [List.length_cons, show b + (cs.length + 1) = b + 1 + cs.length by omega]
    exact this
theorem p37_n : ∀ (l : List Int32) (v : Int64) (b : Nat), (∀ c ∈ l, isLet c = true) → 0 ≤ v.toInt → v.toInt.toNat < 37 ^ b → b + l.length ≤ 8 → (p37 l v).toInt = (n37 l v.toInt.toNat : Int)
  | [], v, b, _, h0, _, _ => by unfold p37 n37; omega
  | c :: cs, v, b, hl, h0, hv, hb => by
    have h1 := let_int (hl c (by simp))
    have hb7 : 37 ^ b ≤ 37 ^ 7 := Nat.pow_le_pow_right (by decide) (by simp at hb; omega)
    have h7 : (37 : Nat) ^ 7 = 94931877133 := by decide
    have e1 : (37 * v + (c - 96).toInt64).toInt = 37 * v.toInt + (c.toInt - 96) := by
      have e2 : (c - 96).toInt = c.toInt - 96 := by
        rw [Int32.toInt_sub, show (96 : Int32).toInt = 96 from rfl]
        rw [Int.bmod_def]
        omega
      rw [Int64.toInt_add, Int64.toInt_mul, Int32.toInt_toInt64, e2, show (37 : Int64).toInt = 37 from rfl]
      rw [Int.bmod_def, Int.bmod_def]
      omega
    have ih := p37_n cs (37 * v + (c - 96).toInt64) (b + 1) (fun d hd => hl d (by simp [hd])) (by rw [e1]; omega) (by rw [e1, Nat.pow_succ]; omega) (by simp at hb; omega)
    unfold p37 n37
    rw [ih, e1]
    congr 2
    omega
theorem n37_snoc {c : Int32} : ∀ (l : List Int32) (v : Nat), n37 (l ++ [c]) v = 37 * n37 l v + (c.toInt - 96).toNat
  | [], v => rfl
  | d :: ds, v => by
    show n37 (ds ++ [c]) _ = 37 * n37 ds _ + _
    exact n37_snoc ds _
theorem n37_inj : ∀ (n : Nat) (l m : List Int32), l.length = n → (∀ c ∈ l, isLet c = true) → (∀ c ∈ m, isLet c = true) → n37 l 0 = n37 m 0 → l = m := by
  intro n
  induction n with
  | zero =>
    intro l m hn hl hm h
    have : l = [] := List.length_eq_zero_iff.mp hn
    subst this
    rcases List.eq_nil_or_concat m with rfl | ⟨m', c, rfl⟩
    · rfl
    · rw [List.concat_eq_append, n37_snoc] at h
      have h1 := let_int (hm c (by simp))
      have h0 : n37 [] 0 = 0 := rfl
      omega
  | succ n ih =>
    intro l m hn hl hm h
    rcases List.eq_nil_or_concat l with rfl | ⟨l', c, rfl⟩
    · simp at hn
    rw [List.concat_eq_append] at *
    have h1 := let_int (hl c (by simp))
    rcases List.eq_nil_or_concat m with rfl | ⟨m', d, rfl⟩
    · rw [n37_snoc] at h
      have h0 : n37 [] 0 = 0 := rfl
      omega
    rw [List.concat_eq_append] at *
    have h2 := let_int (hm d (by simp))
    rw [n37_snoc, n37_snoc] at h
    have e1 : c = d := Int32.toInt_inj.mp (by omega)
    have e2 := ih l' m' (by simp at hn; omega) (fun x hx => hl x (by simp [hx])) (fun x hx => hm x (by simp [hx])) (by omega)
    rw [e1, e2]
def okNm (l : List Int32) : Prop := l.length ≤ 8 ∧ ∀ c ∈ l, isLet c = true
theorem p37_inj {l m : List Int32} (hl : okNm l) (hm : okNm m) : p37 l 0 = p37 m 0 ↔ l = m := by
  constructor
  · intro h
    have a := p37_n l 0 0 hl.2 (by decide) (by decide) (by have := hl.1; omega)
    have b := p37_n m 0 0 hm.2 (by decide) (by decide) (by have := hm.1; omega)
    rw [h] at a
    rw [a] at b
    exact n37_inj _ l m rfl hl.2 hm.2 (by have e0 : (0 : Int64).toInt.toNat = 0 := by decide
                                          rw [e0] at b
                                          omega)
  · intro h
    rw [h]
theorem wdx_ok {x : Nat} (h : x < 24) : okNm (wdx x) := by
  have : ∀ x : Fin 24, okNm (wdx x.1) := by unfold okNm; decide
  exact this ⟨x, h⟩
theorem valR_word {T : List Int32} {j : Nat} (h : (tokAt T j).1 = 1) : valR (tokAt T j) = p37 (tokAt T j).2.2 0 ∧ okNm (tokAt T j).2.2 := by
  unfold valR
  rw [if_pos h]
  obtain ⟨a, b, c⟩ := (tokAt_shape T j).1.1 h
  exact ⟨rfl, b, c⟩
theorem wdAt_isW {T : List Int32} {j x : Nat} (h : x < 24) : wdAt T j (p37 (wdx x) 0) = isW T j x := by
  unfold wdAt isW
  by_cases h1 : (tokAt T j).1 = 1
  · obtain ⟨a, b⟩ := valR_word h1
    rw [a]
    simp only [h1, true_and, p37_inj b (wdx_ok h)]
  · simp only [h1, false_and]
theorem sgAt_isG {T : List Int32} {j : Nat} {c : Int32} : sgAt T j c = isG T j c := by
  unfold sgAt isG
  by_cases h1 : (tokAt T j).1 = 3
  · obtain ⟨d, a, b⟩ := (tokAt_shape T j).1.2.2 h1
    have e1 : valR (tokAt T j) = d.toInt64 := by
      unfold valR
      rw [if_neg (by omega), if_neg (by omega), a]
      rfl
    have e2 : d.toInt64 = c.toInt64 ↔ d = c := ⟨fun q => by
      have := congrArg Int64.toInt q
      rw [Int32.toInt_toInt64, Int32.toInt_toInt64] at this
      exact Int32.toInt_inj.mp this, fun q => by rw [q]⟩
    rw [e1, a]
    simp only [h1, true_and, e2, List.cons.injEq, and_true]
  · simp only [h1, false_and]
/-! what reading keeps -/
def okP (T : List Int32) (s : PS) : Prop := s.2.1 ≤ (toks T).length ∧ 0 ≤ s.1
def Gr (T : List Int32) (s s' : PS) : Prop := okP T s' ∧ s.2.1 ≤ s'.2.1 ∧ s'.2.2.length + s.2.1 ≤ s.2.2.length + s'.2.1
def Gr1 (T : List Int32) (s s' : PS) : Prop := okP T s' ∧ s.2.1 + 1 ≤ s'.2.1 ∧ s'.2.2.length + s.2.1 + 1 ≤ s.2.2.length + s'.2.1
section GR
variable {T : List Int32} {s s' s'' : PS}
theorem Gr.refl (h : okP T s) : Gr T s s := ⟨h, Nat.le_refl _, Nat.le_refl _⟩
theorem Gr.trans (h : Gr T s s') (k : Gr T s' s'') : Gr T s s'' := ⟨k.1, by have := h.2.1; have := k.2.1; omega, by have := h.2.2; have := k.2.2; omega⟩
theorem Gr1.trans (h : Gr1 T s s') (k : Gr T s' s'') : Gr1 T s s'' := ⟨k.1, by have := h.2.1; have := k.2.1; omega, by have := h.2.2; have := k.2.2; omega⟩
theorem Gr1.gr (h : Gr1 T s s') : Gr T s s' := ⟨h.1, by have := h.2.1; omega, by have := h.2.2; omega⟩
theorem Gr1.emi (h : Gr1 T s s') {o : Int32} : Gr T s (emi o s') := ⟨h.1, by have := h.2.1; show s.2.1 ≤ s'.2.1; omega, by
  have := h.2.2
  show (s'.2.2 ++ [o]).length + s.2.1 ≤ s.2.2.length + s'.2.1
  rw [List.length_append]
  simp only [List.length_cons, List.length_nil]
  omega⟩
theorem gr_adv (h : okP T s) (hl : s.2.1 < (toks T).length) : Gr1 T s (adv s) := ⟨⟨hl, h.2⟩, Nat.le_refl _, by show s.2.2.length + s.2.1 + 1 ≤ s.2.2.length + (s.2.1 + 1); omega⟩
theorem plT_pos (hT : T.length ≤ 1000) (j : Nat) : 0 ≤ plT T j ∧ plT T j ≤ 1000 := by
  have h := (tokAt_shape T j).2
  unfold plT
  exact ⟨nI_pos' (by omega), (nI_leI (b := 1000) (by omega) (by omega)).mpr (by omega)⟩
theorem wr_pos {x p : Int32} (h0 : 0 ≤ x) (h1 : x ≤ 5) (p0 : 0 ≤ p) (p1 : p ≤ 1000) : 0 ≤ x + 16 * p := by grind
theorem gr_wr (hT : T.length ≤ 1000) {x : Int32} (h0 : 0 ≤ x) (h1 : x ≤ 5) (h : okP T s) : Gr T s (wr T x s) := by
  unfold wr
  split
  · obtain ⟨a, b⟩ := plT_pos hT s.2.1
    exact ⟨⟨h.1, wr_pos h0 h1 a b⟩, Nat.le_refl _, Nat.le_refl _⟩
  · exact Gr.refl h
theorem gr_tkS (hT : T.length ≤ 1000) {c : Int32} (h : okP T s) : Gr T s (tkS T c s) := by
  unfold tkS
  split
  · rename_i hc
    exact (gr_adv h (isG_lt (Bool.and_eq_true_iff.mp hc).2)).gr
  · exact gr_wr hT (by decide) (by decide) h
theorem gr_lpS {p : PS → Bool} {f : PS → PS} (hf : ∀ s, okP T s → p s = true → Gr T s (f s)) : ∀ (n : Nat) (s : PS), okP T s → Gr T s (lpS p f n s)
  | 0, s, h => Gr.refl h
  | n + 1, s, h => by
    unfold lpS
    split
    · rename_i hp
      have := hf s h hp
      exact this.trans (gr_lpS hf n _ this.1)
    · exact Gr.refl h
def GrF (T : List Int32) (f : PS → PS) : Prop := ∀ s, okP T s → Gr T s (f s)
variable {part : PS → PS}
theorem isGs_lt {c : Int32} (h : isGs T c s = true) : s.2.1 < (toks T).length := isG_lt (Bool.and_eq_true_iff.mp h).2
theorem isWs_lt {x : Nat} (h : isWs T x s = true) : s.2.1 < (toks T).length := isW_lt (Bool.and_eq_true_iff.mp h).2
theorem or_lt {a b : Bool} {P : Prop} (h : (a || b) = true) (ha : a = true → P) (hb : b = true → P) : P := by
  cases a
  · exact hb h
  · exact ha rfl
theorem gr_prodP (hp : GrF T part) : GrF T (prodP T part) := fun s h => by
  unfold prodP
  have := hp s h
  refine this.trans (gr_lpS (fun s h hc => ?_) _ _ this.1)
  have := gr_adv h (isGs_lt hc)
  exact (this.trans (hp _ this.1)).emi
theorem gr_sumP (hp : GrF T part) : GrF T (sumP T part) := fun s h => by
  unfold sumP
  have := gr_prodP hp s h
  refine this.trans (gr_lpS (fun s h hc => ?_) _ _ this.1)
  have := gr_adv h (or_lt hc isGs_lt isGs_lt)
  exact (this.trans (gr_prodP hp _ this.1)).emi
theorem gr_testP2 (hp : GrF T part) : GrF T (testP2 T part) := fun s h => by
  unfold testP2
  split
  · rename_i hc
    have := gr_adv h (or_lt hc isGs_lt isGs_lt)
    exact (this.trans (gr_sumP hp _ this.1)).emi
  · exact Gr.refl h
theorem gr_testP (hp : GrF T part) : GrF T (testP T part) := fun s h => by
  unfold testP
  have := gr_sumP hp s h
  exact this.trans (gr_testP2 hp _ this.1)
theorem gr_wholeP (hp : GrF T part) : GrF T (wholeP T part) := fun s h => by
  unfold wholeP
  have := gr_testP hp s h
  refine this.trans (gr_lpS (fun s h hc => ?_) _ _ this.1)
  have := gr_adv h (or_lt hc isWs_lt isWs_lt)
  exact (this.trans (gr_testP hp _ this.1)).emi
theorem starts_lt {j : Nat} (h : startsP T j = true) : j < (toks T).length := by
  unfold startsP factA at h
  refine or_lt h (fun h => or_lt h (fun h => or_lt h (fun h => ?_) isU_lt) isG_lt) isW_lt
  split at h
  · exact isW_lt (by assumption)
  split at h
  · exact isW_lt (by assumption)
  split at h
  · exact isW_lt (by assumption)
  split at h
  · exact isW_lt (by assumption)
  · exact absurd h (by decide)
theorem gr_partP (hT : T.length ≤ 1000) : ∀ r, GrF T (partP T r)
  | 0 => fun s h => by
    unfold partP
    split
    · exact Gr.refl h
    split
    · exact gr_wr hT (by decide) (by decide) h
    · exact gr_wr hT (by decide) (by decide) h
  | r + 1 => fun s h => by
    unfold partP
    split
    · exact Gr.refl h
    split
    · rename_i hs
      have hl := starts_lt hs
      have ha := gr_adv h hl
      split
      · exact (ha.trans (gr_partP hT r _ ha.1)).emi
      split
      · have hw := ha.trans (gr_wholeP (gr_partP hT r) _ ha.1)
        exact hw.gr.trans (gr_tkS hT hw.1)
      · exact ha.emi
    · exact gr_wr hT (by decide) (by decide) h
/-- behind a fault nothing goes on -/
theorem lpS_off {p : PS → Bool} {f : PS → PS} (n : Nat) (s : PS) (h : p s = false) : lpS p f n s = s := by
  cases n with
  | zero => rfl
  | succ n => unfold lpS; rw [h]; rfl
end GR
