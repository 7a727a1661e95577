/-! THE CLASS: its tokens; words of five bits a letter -/
def s32 (v : Int64) (c : Int32) : Int64 := (v <<< ((5 : Int32).toInt64 &&& 63)) ||| (c - 97 + 1).toInt64
def w32 : List Int32 → Int64 → Int64
  | [], v => v
  | c :: cs, v => w32 cs (s32 v c)
def m10 : List Int32 → Int32 → Int32
  | [], v => v
  | c :: cs, v => m10 cs (v * 10 + c - 48)
theorem w32_snoc {c : Int32} : ∀ (l : List Int32) (v : Int64), w32 (l ++ [c]) v = s32 (w32 l v) c
  | [], v => rfl
  | d :: ds, v => by
    show w32 (ds ++ [c]) _ = s32 (w32 ds _) c
    exact w32_snoc ds _
theorem m10_snoc {c : Int32} : ∀ (l : List Int32) (v : Int32), m10 (l ++ [c]) v = m10 l v * 10 + c - 48
  | [], v => rfl
  | d :: ds, v => by
    show m10 (ds ++ [c]) _ = m10 ds _ * 10 + c - 48
    exact m10_snoc ds _
theorem m10_p : ∀ (l : List Int32) (v : Int64), (p10 l v).toInt32 = m10 l v.toInt32
  | [], v => rfl
  | c :: cs, v => by
    show (p10 cs _).toInt32 = m10 cs _
    rw [m10_p cs]
    congr 1
    rw [Int64.toInt32_sub, Int64.toInt32_add, Int64.toInt32_mul, Int32.toInt32_toInt64]
    have e1 : (10 : Int64).toInt32 = 10 := by decide
    have e2 : (48 : Int64).toInt32 = 48 := by decide
    rw [e1, e2]
    grind
theorem take_snoc {α : Type} {l : List α} {i : Nat} {c : α} (h : l[i]? = some c) : l.take (i + 1) = l.take i ++ [c] := by
  rw [List.take_add_one, h]
  rfl
/-- the token j is the next to be read, from the sign e on -/
def stC (T : List Int32) (e j : Nat) : Prop := e ≤ T.length ∧ ∃ f, T.length - e ≤ f ∧ (toks T).drop j = tokF f e (T.drop e)
theorem tokF_skip : ∀ (f k : Nat) (T : List Int32), T.length ≤ f → tokF f k T = tokF (f - runL isBlk T) (k + runL isBlk T) (T.drop (runL isBlk T))
  | f, k, [], _ => rfl
  | 0, k, c :: cs, h => by simp at h
  | f + 1, k, c :: cs, h => by
    by_cases hb : isBlk c = true
    · have e1 : runL isBlk (c :: cs) = runL isBlk cs + 1 := by
        conv => lhs; unfold runL
        rw [if_pos hb]
      have e2 : tokF (f + 1) k (c :: cs) = tokF f (k + 1) cs := by
        conv => lhs; unfold tokF
        rw [if_pos hb]
      rw [e1, e2, tokF_skip f (k + 1) cs (by simp at h; omega)]
      congr 1
      · omega
      · omega
    · have e1 : runL isBlk (c :: cs) = 0 := by
        conv => lhs; unfold runL
        rw [if_neg hb]
      rw [e1]
      rfl
def lenT (c : Int32) (D : List Int32) : Nat := if isLet c then runL isLet D else if isDig c then runL isDig D else 1
def sortT (c : Int32) (D : List Int32) : Nat := if isLet c then (if 8 < runL isLet D then 4 else 1) else if isDig c then (if 4 < runL isDig D then 4 else 2) else if isSgn c then 3 else 4
theorem lenT_pos {c : Int32} {cs : List Int32} : 0 < lenT c (c :: cs) ∧ lenT c (c :: cs) ≤ (c :: cs).length := by
  unfold lenT
  split
  · exact ⟨runL_pos (by assumption), runL_le _⟩
  split
  · exact ⟨runL_pos (by assumption), runL_le _⟩
  · exact ⟨Nat.one_pos, by rw [List.length_cons]; omega⟩
theorem tokF_one {f k : Nat} {c : Int32} {cs : List Int32} (hb : isBlk c = false) : tokF (f + 1) k (c :: cs) = (sortT c (c :: cs), k, (c :: cs).take (lenT c (c :: cs))) :: tokF f (k + lenT c (c :: cs)) ((c :: cs).drop (lenT c (c :: cs))) := by
  conv => lhs; unfold tokF
  rw [hb, if_neg Bool.false_ne_true]
  unfold lenT sortT
  by_cases h1 : isLet c = true
  · simp only [h1, if_true]
  by_cases h2 : isDig c = true
  · simp only [h1, h2, if_true, if_false]
    rfl
  · simp only [h1, h2]
    rfl
theorem st_next {T : List Int32} {e j : Nat} (h : stC T e j) : e + runL isBlk (T.drop e) ≤ T.length ∧
    ((e + runL isBlk (T.drop e) = T.length ∧ tokAt T j = (0, T.length, []) ∧ stC T T.length (j + 1)) ∨
     ∃ c cs, T.drop (e + runL isBlk (T.drop e)) = c :: cs ∧ isBlk c = false ∧ tokAt T j = (sortT c (c :: cs), e + runL isBlk (T.drop e), (c :: cs).take (lenT c (c :: cs))) ∧ stC T (e + runL isBlk (T.drop e) + lenT c (c :: cs)) (j + 1)) := by
  obtain ⟨he, f, hf, hd⟩ := h
  have hle := runL_le (p := isBlk) (T.drop e)
  rw [List.length_drop] at hle
  rw [tokF_skip f e _ (by rw [List.length_drop]; exact hf), List.drop_drop] at hd
  have hout := runL_out (p := isBlk) (T.drop e)
  rw [List.getElem?_drop] at hout
  generalize runL isBlk (T.drop e) = n at *
  have hp : e + n ≤ T.length := by omega
  have d1 : (toks T).drop (j + 1) = ((toks T).drop j).drop 1 := by rw [List.drop_drop]
  have t1 : tokAt T j = (((toks T).drop j)[0]?).getD (0, T.length, []) := by
    unfold tokAt
    rw [List.getElem?_drop]
    rfl
  refine ⟨hp, ?_⟩
  by_cases hq : e + n = T.length
  · refine Or.inl ⟨hq, ?_⟩
    rw [hq, List.drop_of_length_le (Nat.le_refl _)] at hd
    have e0 : ∀ f k, tokF f k [] = [] := by
      intro f k
      cases f <;> rfl
    rw [e0] at hd
    refine ⟨by rw [t1, hd]; rfl, Nat.le_refl _, 0, by omega, ?_⟩
    rw [d1, hd, List.drop_of_length_le (Nat.le_refl _)]
    rfl
  · refine Or.inr ?_
    obtain ⟨c, cs, hcs⟩ : ∃ c cs, T.drop (e + n) = c :: cs := by
      cases hcs : T.drop (e + n) with
      | nil =>
        have := congrArg List.length hcs
        rw [List.length_drop] at this
        simp at this
        omega
      | cons c cs => exact ⟨c, cs, rfl⟩
    have hb : isBlk c = false := hout c (by
      have := congrArg (fun l => l[0]?) hcs
      simpa using this)
    have hl : (c :: cs).length = T.length - (e + n) := by rw [← hcs, List.length_drop]
    obtain ⟨f', hf'⟩ : ∃ f', f - n = f' + 1 := ⟨f - n - 1, by rw [List.length_cons] at hl; omega⟩
    rw [hcs, hf', tokF_one hb] at hd
    obtain ⟨l1, l2⟩ := lenT_pos (c := c) (cs := cs)
    refine ⟨c, cs, hcs, hb, by rw [t1, hd]; rfl, by omega, f', by omega, ?_⟩
    rw [d1, hd, ← hcs, List.drop_drop]
    rfl
def cKd : Nat → Int32
  | 0 => 0
  | 1 => 2
  | 2 => 3
  | 3 => 4
  | _ => 1
/-- the class stands at the token j -/
def tkC (F : Nat → Nat → Int32) (G : Nat → Nat → Int64) (T : List Int32) (j : Nat) : Prop := ∃ e, stC T e (j + 1) ∧ F 1 3 = nI e ∧ F 1 1 = cKd (tokAt T j).1 ∧ F 1 2 = nI (tokAt T j).2.1 ∧ e = (tokAt T j).2.1 + (tokAt T j).2.2.length ∧ (T.drop (tokAt T j).2.1).take (tokAt T j).2.2.length = (tokAt T j).2.2 ∧ ((tokAt T j).1 = 1 → G 1 5 = w32 (tokAt T j).2.2 0) ∧ ((tokAt T j).1 = 2 → F 1 4 = numA T j)
def gfr (G G' : Nat → Nat → Int64) : Prop := ∀ c, c ≠ 1 → G' c = G c
/-- kind, place, end, number of the tokens; the fault stays -/
def tF (F F' : Nat → Nat → Int32) (k p e x : Int32) : Prop := F' 1 1 = k ∧ F' 1 2 = p ∧ F' 1 3 = e ∧ F' 1 4 = x ∧ F' 1 6 = F 1 6 ∧ ∀ c, c ≠ 1 → F' c = F c
section CU
variable {F F' : Nat → Nat → Int32} {k p e x y : Int32}
theorem tF.sk (h : tF F F' k p e x) : tF F (xu F' 1 1 y) y p e x := by
  obtain ⟨h1, h2, h3, h4, h5, h6⟩ := h
  exact ⟨xu_same, by rw [xu_ne (by decide)]; exact h2, by rw [xu_ne (by decide)]; exact h3, by rw [xu_ne (by decide)]; exact h4, by rw [xu_ne (by decide)]; exact h5, fun c hc => by rw [xu_other hc]; exact h6 c hc⟩
theorem tF.sp (h : tF F F' k p e x) : tF F (xu F' 1 2 y) k y e x := by
  obtain ⟨h1, h2, h3, h4, h5, h6⟩ := h
  exact ⟨by rw [xu_ne (by decide)]; exact h1, xu_same, by rw [xu_ne (by decide)]; exact h3, by rw [xu_ne (by decide)]; exact h4, by rw [xu_ne (by decide)]; exact h5, fun c hc => by rw [xu_other hc]; exact h6 c hc⟩
theorem tF.se (h : tF F F' k p e x) : tF F (xu F' 1 3 y) k p y x := by
  obtain ⟨h1, h2, h3, h4, h5, h6⟩ := h
  exact ⟨by rw [xu_ne (by decide)]; exact h1, by rw [xu_ne (by decide)]; exact h2, xu_same, by rw [xu_ne (by decide)]; exact h4, by rw [xu_ne (by decide)]; exact h5, fun c hc => by rw [xu_other hc]; exact h6 c hc⟩
theorem tF.sx (h : tF F F' k p e x) : tF F (xu F' 1 4 y) k p e y := by
  obtain ⟨h1, h2, h3, h4, h5, h6⟩ := h
  exact ⟨by rw [xu_ne (by decide)]; exact h1, by rw [xu_ne (by decide)]; exact h2, by rw [xu_ne (by decide)]; exact h3, xu_same, by rw [xu_ne (by decide)]; exact h5, fun c hc => by rw [xu_other hc]; exact h6 c hc⟩
theorem tF.frm {I : Nat → Int32 → Int32} (h : tF F F' k p e x) : frm (fun c => c = 1) F I F' I := fun c hc => ⟨h.2.2.2.2.2 c hc, rfl⟩
theorem tF.tap {I : Nat → Int32 → Int32} {T : List Int32} (h : tF F F' k p e x) (hT : tapC F I T) : tapC F' I T := by
  unfold tapC
  rw [h.2.2.2.2.2 2 (by decide)]
  exact hT
theorem gfr.refl {G : Nat → Nat → Int64} : gfr G G := fun _ _ => rfl
theorem gfr.sx {G G' : Nat → Nat → Int64} {k : Nat} {x : Int64} (h : gfr G G') : gfr G (xu G' 1 k x) := fun c hc => by
  rw [xu_other hc]
  exact h c hc
theorem gfr.trans {G G' G'' : Nat → Nat → Int64} (h : gfr G G') (h2 : gfr G' G'') : gfr G G'' := fun c hc => (h2 c hc).trans (h c hc)
theorem xuL_same {G : Nat → Nat → Int64} {c k : Nat} {x : Int64} : xu G c k x c k = x := by unfold xu; rw [if_pos ⟨rfl, rfl⟩]
end CU
def stK (kd : Int32) (n : Nat) : Int32 := if (kd = 2 ∧ 8 < n) ∨ (kd = 3 ∧ 4 < n) then 1 else kd
theorem kdC_let {c : Int32} : kdC c = 2 ↔ isLet c = true := by
  unfold kdC isBlk isLet isDig isSgn
  constructor
  · intro h
    split at h
    · exact absurd h (by decide)
    split at h
    · assumption
    split at h
    · exact absurd h (by decide)
    split at h <;> exact absurd h (by decide)
  · intro h
    have := of_decide_eq_true h
    rw [if_neg (by intro q; have := of_decide_eq_true q; grind), if_pos h]
theorem kdC_dig {c : Int32} : kdC c = 3 ↔ isDig c = true := by
  unfold kdC isBlk isLet isDig isSgn
  constructor
  · intro h
    split at h
    · exact absurd h (by decide)
    split at h
    · exact absurd h (by decide)
    split at h
    · assumption
    split at h <;> exact absurd h (by decide)
  · intro h
    have := of_decide_eq_true h
    rw [if_neg (by intro q; have := of_decide_eq_true q; grind), if_neg (by intro q; have := of_decide_eq_true q; grind), if_pos h]
theorem kdC_blk {c : Int32} : kdC c = 5 ↔ isBlk c = true := by
  unfold kdC
  constructor
  · intro h
    split at h
    · assumption
    split at h
    · exact absurd h (by decide)
    split at h
    · exact absurd h (by decide)
    split at h <;> exact absurd h (by decide)
  · intro h
    rw [if_pos h]
theorem kdC_n0 {c : Int32} : kdC c ≠ 0 := by
  unfold kdC
  split
  · decide
  split
  · decide
  split
  · decide
  split <;> decide
