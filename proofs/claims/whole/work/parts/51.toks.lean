/-! TOKENS of a list of signs -/
def isLet (c : Int32) : Bool := decide (97 ≤ c ∧ c ≤ 122)
def isDig (c : Int32) : Bool := decide (48 ≤ c ∧ c ≤ 57)
def isSgn (c : Int32) : Bool := decide (c = 40 ∨ c = 41 ∨ c = 59 ∨ c = 61 ∨ c = 60 ∨ c = 43 ∨ c = 45 ∨ c = 42)
def isBlk (c : Int32) : Bool := decide (c = 10 ∨ c = 32)
/-- sort (0 the end, 1 a word, 2 a number, 3 a sign, 4 none), place, text -/
abbrev Tok : Type := Nat × Nat × List Int32
/-- how many of the first signs are so -/
def runL (p : Int32 → Bool) : List Int32 → Nat
  | [] => 0
  | c :: cs => if p c then runL p cs + 1 else 0
def tokF : Nat → Nat → List Int32 → List Tok
  | 0, _, _ => []
  | _ + 1, _, [] => []
  | f + 1, k, c :: cs =>
    if isBlk c then tokF f (k + 1) cs
    else if isLet c then (if 8 < runL isLet (c :: cs) then 4 else 1, k, (c :: cs).take (runL isLet (c :: cs))) :: tokF f (k + runL isLet (c :: cs)) ((c :: cs).drop (runL isLet (c :: cs)))
    else if isDig c then (if 4 < runL isDig (c :: cs) then 4 else 2, k, (c :: cs).take (runL isDig (c :: cs))) :: tokF f (k + runL isDig (c :: cs)) ((c :: cs).drop (runL isDig (c :: cs)))
    else (if isSgn c then 3 else 4, k, [c]) :: tokF f (k + 1) cs
def toks (T : List Int32) : List Tok := tokF T.length 0 T
/-- the token at an index, the end behind all -/
def tokAt (T : List Int32) (j : Nat) : Tok := ((toks T)[j]?).getD (0, T.length, [])
def p37 : List Int32 → Int64 → Int64
  | [], v => v
  | c :: cs, v => p37 cs (37 * v + (c - 96).toInt64)
def p10 : List Int32 → Int64 → Int64
  | [], v => v
  | c :: cs, v => p10 cs (10 * v + c.toInt64 - 48)
/-- the reference's value of a token that is one -/
def valR (t : Tok) : Int64 := if t.1 = 1 then p37 t.2.2 0 else if t.1 = 2 then p10 t.2.2 0 else (t.2.2.headD 0).toInt64
theorem runL_le {p : Int32 → Bool} : ∀ T : List Int32, runL p T ≤ T.length
  | [] => Nat.le_refl _
  | c :: cs => by
    unfold runL
    split
    · have := runL_le (p := p) cs
      simp only [List.length_cons]
      omega
    · omega
theorem runL_pos {p : Int32 → Bool} {c : Int32} {cs : List Int32} (h : p c = true) : 0 < runL p (c :: cs) := by
  unfold runL
  rw [if_pos h]
  omega
theorem runL_in {p : Int32 → Bool} : ∀ (T : List Int32) (i : Nat) (c : Int32), i < runL p T → T[i]? = some c → p c = true
  | [], i, c, h, hc => by simp at hc
  | d :: ds, 0, c, h, hc => by
    simp at hc
    subst hc
    unfold runL at h
    split at h
    · assumption
    · omega
  | d :: ds, i + 1, c, h, hc => by
    unfold runL at h
    split at h
    · exact runL_in ds i c (by omega) (by simpa using hc)
    · omega
theorem runL_out {p : Int32 → Bool} : ∀ (T : List Int32) (c : Int32), T[runL p T]? = some c → p c = false
  | [], c, hc => by simp at hc
  | d :: ds, c, hc => by
    unfold runL at hc
    split at hc
    · exact runL_out ds c (by simpa using hc)
    · rename_i h
      simp at hc
      subst hc
      simpa using h
theorem tokF_len : ∀ (f k : Nat) (T : List Int32), (tokF f k T).length ≤ T.length
  | 0, _, _ => by unfold tokF; simp
  | f + 1, k, [] => by unfold tokF; simp
  | f + 1, k, c :: cs => by
    unfold tokF
    split
    · have := tokF_len f (k + 1) cs
      simp only [List.length_cons]
      omega
    split
    · rename_i h1 h2
      have h3 := runL_pos (p := isLet) (cs := cs) h2
      have := tokF_len f (k + runL isLet (c :: cs)) ((c :: cs).drop (runL isLet (c :: cs)))
      rw [List.length_drop] at this
      rw [List.length_cons]
      have := runL_le (p := isLet) (c :: cs)
      omega
    split
    · rename_i h1 h2 h3
      have h4 := runL_pos (p := isDig) (cs := cs) h3
      have := tokF_len f (k + runL isDig (c :: cs)) ((c :: cs).drop (runL isDig (c :: cs)))
      rw [List.length_drop] at this
      rw [List.length_cons]
      have := runL_le (p := isDig) (c :: cs)
      omega
    · have := tokF_len f (k + 1) cs
      simp only [List.length_cons]
      omega
theorem toks_len (T : List Int32) : (toks T).length ≤ T.length := tokF_len _ _ _
