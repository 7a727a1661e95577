/-! WHAT BOTH SIDES MEAN: a hall, a scene -/
/-- seats, persons, lasts; 0 row, 1 near, 2 kind, 3 told, 4 foes; the law, its operations behind their operands -/
abbrev HV : Type := Nat × Nat × Int32 × (Nat → Int32 → Int32) × List Int32
abbrev hN (h : HV) : Nat := h.1
abbrev hP (h : HV) : Nat := h.2.1
abbrev hLasts (h : HV) : Int32 := h.2.2.1
abbrev hRow (h : HV) (s : Int32) : Int32 := h.2.2.2.1 0 s
abbrev hNear (h : HV) (s : Int32) : Int32 := h.2.2.2.1 1 s
abbrev hKind (h : HV) (p : Int32) : Int32 := h.2.2.2.1 2 p
abbrev hTold (h : HV) (p : Int32) : Int32 := h.2.2.2.1 3 p
abbrev hFoes (h : HV) (p : Int32) : Int32 := h.2.2.2.1 4 p
abbrev hCode (h : HV) : List Int32 := h.2.2.2.2
/-- the hour; 0 whose, 1 left, 2 pocket, 3 chair, 4 sitter -/
abbrev SV : Type := Int32 × (Nat → Int32 → Int32)
abbrev owS (v : SV) (s : Int32) : Int32 := v.2 0 s
abbrev frS (v : SV) (s : Int32) : Int32 := v.2 1 s
abbrev poS (v : SV) (p : Int32) : Int32 := v.2 2 p
abbrev chS (v : SV) (p : Int32) : Int32 := v.2 3 p
abbrev siS (v : SV) (s : Int32) : Int32 := v.2 4 s
def upS (v : SV) (k : Nat) (i x : Int32) : SV := (v.1, fun a b => if a = k ∧ b = i then x else v.2 a b)
def lifeS (h : HV) (p : Int32) : Int32 := if hKind h p = 1 then 2 * hLasts h else if hKind h p = 2 then (hLasts h + 1) / 2 else if hKind h p = 3 then 99 else hLasts h
def putS (h : HV) (v : SV) (p s : Int32) : SV := upS (upS v 0 s p) 1 s (lifeS h p)
def clrS (v : SV) (s : Int32) : SV := upS (upS v 0 s (-1)) 1 s 0
def layS (h : HV) (v : SV) (p s : Int32) : SV := putS h (upS v 2 p (poS v p - 1)) p s
def sitS (v : SV) (p s : Int32) : SV := if owS v s = p then clrS (upS (upS (upS v 3 p s) 4 s p) 2 p (poS v p + 1)) s else upS (upS v 3 p s) 4 s p
def riseS (v : SV) (p : Int32) : SV := upS (upS v 4 (chS v p) (-1)) 3 p (-1)
def lesS (v : SV) (s x : Int32) : SV := if frS v s - x ≤ 0 then clrS v s else upS v 1 s (frS v s - x)
def freeS (v : SV) (s : Int32) : Bool := decide (owS v s < 0 ∧ siS v s < 0)
def foeS (h : HV) (p o : Int32) : Bool := decide ((hFoes h p >>> (o &&& 31)) &&& 1 = 1)
def nearS (h : HV) (a b : Int32) : Bool := decide ((hNear h a >>> (b &&& 31)) &&& 1 = 1)
def mayLayS (v : SV) (p s : Int32) : Bool := decide (0 < poS v p) && freeS v s
def maySitS (v : SV) (p s : Int32) : Bool := decide (chS v p < 0 ∧ siS v s < 0 ∧ (owS v s < 0 ∨ owS v s = p))
def mayGrateS (h : HV) (v : SV) (p s : Int32) : Bool := decide (0 ≤ chS v p ∧ 0 ≤ owS v s) && (nearS h (chS v p) s && foeS h p (owS v s))
def raspS (h : HV) (p : Int32) : Int32 := if hKind h p = 2 then 5 else if hKind h p = 1 then 1 else 3
/-- the law: a stack of ints -/
def evS (f c r d : Int32) : List Int32 → List Int32 → List Int32
  | [], st => st
  | o :: os, st =>
    if -5 < o then evS f c r d os ((if o = -1 then f else if o = -2 then c else if o = -3 then r else if o = -4 then d else o) :: st)
    else if o = -5 then (match st with
      | x :: st => evS f c r d os ((if x = 0 then 1 else 0) :: st)
      | [] => [])
    else (match st with
      | y :: x :: st => evS f c r d os ((if o = -6 then (if x ≠ 0 ∧ y ≠ 0 then 1 else 0) else if o = -7 then (if x ≠ 0 ∨ y ≠ 0 then 1 else 0) else if o = -8 then (if x < y then 1 else 0) else if o = -9 then (if x = y then 1 else 0) else if o = -10 then x + y else if o = -11 then x - y else x * y) :: st)
      | _ => [])
/-- how deep the stack is behind it; nothing where it would run out or over -/
def dpS : List Int32 → Nat → Option Nat
  | [], n => some n
  | o :: os, n => if -5 < o then (if n < 32 then dpS os (n + 1) else none) else if o = -5 then (if 1 ≤ n then dpS os n else none) else if 2 ≤ n then dpS os (n - 1) else none
def wearS (h : HV) (f c r d : Int32) : Int32 := if hCode h = [] then 1 else
  let x := (evS f c r d (hCode h) []).headD 0
  if x < 0 then 0 else if 9 < x then 9 else x
def laidS (h : HV) (v : SV) : Int32 := bset (fun s => decide (0 ≤ owS v s)) (hN h)
def lessS (h : HV) (v : SV) (d s : Int32) : Int32 := if owS v s < 0 ∨ hKind h (owS v s) = 3 then 0 else d + wearS h (frS v s) (bc (laidS h v &&& hNear h s) 30) (hRow h s) v.1
def goesS (h : HV) (v : SV) (d s : Int32) : Bool := decide (0 ≤ owS v s ∧ frS v s - lessS h v d s ≤ 0)
/-- the hour, seat by seat -/
def passK (h : HV) (v : SV) (d : Int32) : Nat → SV
  | 0 => v
  | k + 1 => if 0 ≤ owS v (nI k) then lesS (passK h v d k) (nI k) (lessS h v d (nI k)) else passK h v d k
def passS (h : HV) (v : SV) (d : Int32) : SV := ((passK h v d (hN h)).1 + 1, (passK h v d (hN h)).2)
def goneS (h : HV) (v : SV) (d : Int32) : Int32 := bset (goesS h v d) (hN h)
def cut (N : Int32) (f : Int32 → Int32) : Int32 → Int32 := fun i => if 0 ≤ i ∧ i < N then f i else 0
def up (f : Int32 → Int32) (i x : Int32) : Int32 → Int32 := fun j => if j = i then x else f j
def row (I : Nat → Int32 → Int32) (c : Nat) (f : Int32 → Int32) : Nat → Int32 → Int32 := fun a => if a = c then f else I a
theorem row_same {I : Nat → Int32 → Int32} {c : Nat} {f : Int32 → Int32} : row I c f c = f := by unfold row; rw [if_pos rfl]
theorem row_ne {I : Nat → Int32 → Int32} {c d : Nat} {f : Int32 → Int32} (h : d ≠ c) : row I c f d = I d := by unfold row; rw [if_neg h]
theorem row_row {I : Nat → Int32 → Int32} {c : Nat} {f g : Int32 → Int32} : row (row I c f) c g = row I c g := by
  funext a
  unfold row
  split <;> rfl
theorem row_self {I : Nat → Int32 → Int32} {c : Nat} : row I c (I c) = I := by
  funext a
  unfold row
  split
  · rename_i h; rw [h]
  · rfl
theorem xv_row (I : Nat → Int32 → Int32) (c : Nat) (i x : Int32) : xv I c i x = row I c (up (I c) i x) := by
  funext a b
  unfold xv row up
  by_cases h : a = c
  · subst h
    rw [if_pos rfl]
    by_cases hb : b = i
    · rw [if_pos ⟨rfl, hb⟩, if_pos hb]
    · rw [if_neg (fun q => hb q.2), if_neg hb]
  · rw [if_neg (fun q => h q.1), if_neg h]
/-- the reference's scene, in its row of numbers, from b on -/
def svR (st : Int32 → Int32) (P : Nat) (b : Int32) : SV := (st b, fun k i => match k with
  | 0 => cut 7 (fun s => st (b + 1 + s)) i
  | 1 => cut 7 (fun s => st (b + 8 + s)) i
  | 2 => cut 5 (fun p => st (b + 15 + p)) i
  | 3 => cut 5 (fun p => st (b + 20 + p)) i
  | 4 => cut 7 (fun s => sitterF (fun p => st (b + 20 + p)) s P) i
  | _ => 0)
def okB (b : Int32) : Prop := 0 ≤ b ∧ b ≤ 1100
theorem svR_ow {st : Int32 → Int32} {P : Nat} {b s : Int32} (h0 : 0 ≤ s) (h1 : s < 7) : owS (svR st P b) s = st (b + 1 + s) := if_pos ⟨h0, h1⟩
theorem svR_fr {st : Int32 → Int32} {P : Nat} {b s : Int32} (h0 : 0 ≤ s) (h1 : s < 7) : frS (svR st P b) s = st (b + 8 + s) := if_pos ⟨h0, h1⟩
theorem svR_po {st : Int32 → Int32} {P : Nat} {b s : Int32} (h0 : 0 ≤ s) (h1 : s < 5) : poS (svR st P b) s = st (b + 15 + s) := if_pos ⟨h0, h1⟩
theorem svR_ch {st : Int32 → Int32} {P : Nat} {b s : Int32} (h0 : 0 ≤ s) (h1 : s < 5) : chS (svR st P b) s = st (b + 20 + s) := if_pos ⟨h0, h1⟩
theorem svR_si {st : Int32 → Int32} {P : Nat} {b s : Int32} (h0 : 0 ≤ s) (h1 : s < 7) : siS (svR st P b) s = sitterF (fun p => st (b + 20 + p)) s P := if_pos ⟨h0, h1⟩
theorem sitterF_congr {f g : Int32 → Int32} {s : Int32} : ∀ {P : Nat}, (∀ k, k < P → f (nI k) = g (nI k)) → sitterF f s P = sitterF g s P
  | 0, _ => rfl
  | P + 1, h => by
    unfold sitterF
    rw [h P (by omega), sitterF_congr (P := P) (fun k hk => h k (by omega))]
theorem svR_ext {st st' : Int32 → Int32} {P : Nat} {b : Int32} (hP : P ≤ 5) (hb : okB b) (h : ∀ i, b ≤ i → i < b + 25 → st' i = st i) : svR st' P b = svR st P b := by
  obtain ⟨hb0, hb1⟩ := hb
  refine Prod.ext (h b (by grind) (by grind)) ?_
  funext k i
  match k with
  | 0 =>
    simp only [svR, cut]
    split
    · exact h _ (by grind) (by grind)
    · rfl
  | 1 =>
    simp only [svR, cut]
    split
    · exact h _ (by grind) (by grind)
    · rfl
  | 2 =>
    simp only [svR, cut]
    split
    · exact h _ (by grind) (by grind)
    · rfl
  | 3 =>
    simp only [svR, cut]
    split
    · exact h _ (by grind) (by grind)
    · rfl
  | 4 =>
    simp only [svR, cut]
    split
    · refine sitterF_congr (fun k hk => ?_)
      obtain ⟨h0, h1, -⟩ := nI_lt5 hk hP
      exact h _ (by grind) (by grind)
    · rfl
  | k + 5 => rfl
theorem svR_up0 {st : Int32 → Int32} {P : Nat} {b s x : Int32} (hP : P ≤ 5) (hb : okB b) (h0 : 0 ≤ s) (h1 : s < 7) : svR (up st (b + 1 + s) x) P b = upS (svR st P b) 0 s x := by
  obtain ⟨hb0, hb1⟩ := hb
  refine Prod.ext (by show up st _ _ b = st b; unfold up; grind) ?_
  funext k i
  match k with
  | 0 => simp only [svR, upS, cut, up]; grind
  | 1 => simp only [svR, upS, cut, up]; grind
  | 2 => simp only [svR, upS, cut, up]; grind
  | 3 => simp only [svR, upS, cut, up]; grind
  | 4 =>
    simp only [svR, upS, cut]
    rw [if_neg (show ¬ ((4 : Nat) = 0 ∧ i = s) by simp)]
    split
    · refine sitterF_congr (fun k hk => ?_)
      obtain ⟨h0, h1, -⟩ := nI_lt5 hk hP
      unfold up
      grind
    · rfl
  | k + 5 => simp only [svR, upS]; rw [if_neg (by omega)]
theorem svR_up1 {st : Int32 → Int32} {P : Nat} {b s x : Int32} (hP : P ≤ 5) (hb : okB b) (h0 : 0 ≤ s) (h1 : s < 7) : svR (up st (b + 8 + s) x) P b = upS (svR st P b) 1 s x := by
  obtain ⟨hb0, hb1⟩ := hb
  refine Prod.ext (by show up st _ _ b = st b; unfold up; grind) ?_
  funext k i
  match k with
  | 0 => simp only [svR, upS, cut, up]; grind
  | 1 => simp only [svR, upS, cut, up]; grind
  | 2 => simp only [svR, upS, cut, up]; grind
  | 3 => simp only [svR, upS, cut, up]; grind
  | 4 =>
    simp only [svR, upS, cut]
    rw [if_neg (show ¬ ((4 : Nat) = 1 ∧ i = s) by simp)]
    split
    · refine sitterF_congr (fun k hk => ?_)
      obtain ⟨h0, h1, -⟩ := nI_lt5 hk hP
      unfold up
      grind
    · rfl
  | k + 5 => simp only [svR, upS]; rw [if_neg (by omega)]
theorem svR_up2 {st : Int32 → Int32} {P : Nat} {b s x : Int32} (hP : P ≤ 5) (hb : okB b) (h0 : 0 ≤ s) (h1 : s < 5) : svR (up st (b + 15 + s) x) P b = upS (svR st P b) 2 s x := by
  obtain ⟨hb0, hb1⟩ := hb
  refine Prod.ext (by show up st _ _ b = st b; unfold up; grind) ?_
  funext k i
  match k with
  | 0 => simp only [svR, upS, cut, up]; grind
  | 1 => simp only [svR, upS, cut, up]; grind
  | 2 => simp only [svR, upS, cut, up]; grind
  | 3 => simp only [svR, upS, cut, up]; grind
  | 4 =>
    simp only [svR, upS, cut]
    rw [if_neg (show ¬ ((4 : Nat) = 2 ∧ i = s) by simp)]
    split
    · refine sitterF_congr (fun k hk => ?_)
      obtain ⟨h0, h1, -⟩ := nI_lt5 hk hP
      unfold up
      grind
    · rfl
  | k + 5 => simp only [svR, upS]; rw [if_neg (by omega)]
