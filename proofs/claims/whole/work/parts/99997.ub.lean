/-! THE LAW: questions, side by side -/
def CSt (e : Bool × Int32 × (Int32 → Int32)) (d : Nat) (q : xMeth) (args : List Value) (X : XS) (a : Int32) (X' : XS) : Prop := ∀ F I G J ha hb ea eb, clR F I J ha hb ea eb X → Y e d q args (F, I, G, J, P0 ha hb ea eb, Q0, S0) (fun w M' => w = some (.int a) ∧ ∃ F' I' G' J' ha' hb' ea' eb', M' = (F', I', G', J', P0 ha' hb' ea' eb', Q0, S0) ∧ hiS F F' I I' J J' ∧ clR F' I' J' ha' hb' ea' eb' X')
def RSt (e : Bool × Int32 × (Int32 → Int32)) (d : Nat) (q : xMeth) (args : List Value) (X : XS) (a : Int32) (X' : XS) : Prop := ∀ F I G J ha hb ea eb, rfR F I J X → Y e d q args (F, I, G, J, P0 ha hb ea eb, Q0, S0) (fun w M' => w = some (.int a) ∧ ∃ F' I' G' J', M' = (F', I', G', J', P0 ha hb ea eb, Q0, S0) ∧ loS F F' I I' J J' ∧ F' 999 = F 999 ∧ rfR F' I' J' X')
section UB
variable {e : Bool × Int32 × (Int32 → Int32)} {d t : Nat} {q : xMeth} {args : List Value} {X X' : XS} {a : Int32} {s p o w g x : Int32}
theorem CSt.ofA (h : ∀ F I G J ha hb ea eb, clR F I J ha hb ea eb X → A e d q args (F, I, G, J, P0 ha hb ea eb, Q0, S0) (.int a)) : CSt e d q args X a X := by
  intro F I G J ha hb ea eb hX
  refine Y.post (h F I G J ha hb ea eb hX) ?_
  rintro _ _ ⟨rfl, rfl⟩
  exact ⟨rfl, F, I, G, J, ha, hb, ea, eb, rfl, fun _ _ => ⟨rfl, rfl, rfl⟩, hX⟩
theorem CSt.ofG (h : ∀ F I G J ha hb ea eb, clR F I J ha hb ea eb X → Y e d q args (F, I, G, J, P0 ha hb ea eb, Q0, S0) (fun w M' => w = some (.int (a)) ∧ ∃ F' I', M' = (F', I', G, J, P0 ha hb ea eb, Q0, S0) ∧ frm pG F I F' I')) : CSt e d q args X a X := by
  intro F I G J ha hb ea eb hX
  refine Y.post (h F I G J ha hb ea eb hX) ?_
  rintro _ _ ⟨rfl, F', I', rfl, o⟩
  refine ⟨rfl, F', I', G, J, ha, hb, ea, eb, rfl, fun c hc => ⟨(o c (by unfold pG; omega)).1, (o c (by unfold pG; omega)).2, rfl⟩, hX.frm o rfl (fun c hc => by unfold pG at hc; omega)⟩
theorem RSt.ofA (hk : okX t X) (h : ∀ F I G J ha hb ea eb, rfR F I J X → A' e d q args (F, I, G, J, P0 ha hb ea eb, Q0, S0) (some (.int (a))) (xu F 226 0 0, I, G, J, P0 ha hb ea eb, Q0, S0)) : RSt e d q args X a X := by
  intro F I G J ha hb ea eb hX
  refine Y.post (h F I G J ha hb ea eb hX) ?_
  rintro _ _ ⟨rfl, rfl⟩
  exact ⟨rfl, _, I, G, J, rfl, fun c hc => ⟨xu_other (by omega), rfl, rfl⟩, xu_other (by decide), hX.ask hk ⟨xu_ne (by omega), xu_ne (by omega), xu_ne (by omega)⟩ sameQ.refl⟩
theorem sameQ.lo {I I' : Nat → Int32 → Int32} {F F' : Nat → Nat → Int32} {J : Nat → Int32 → Int64} (o : sameQ I I') (hF : ∀ c, c < 226 → F' c = F c) : loS F F' I I' J J := fun c hc => ⟨hF c hc, o.1 c (by omega) (by omega) (by omega) (by omega) (by omega) (by omega) (by omega), rfl⟩
theorem RSt.ofQ (hk : okX t X) (h : ∀ F I G J ha hb ea eb, rfR F I J X → Y e d q args (F, I, G, J, P0 ha hb ea eb, Q0, S0) (fun w M' => w = some (.int (a)) ∧ ∃ I', M' = (xu F 226 0 0, I', G, J, P0 ha hb ea eb, Q0, S0) ∧ sameQ I I')) : RSt e d q args X a X := by
  intro F I G J ha hb ea eb hX
  refine Y.post (h F I G J ha hb ea eb hX) ?_
  rintro _ _ ⟨rfl, I', rfl, o⟩
  exact ⟨rfl, _, I', G, J, rfl, o.lo (fun c hc => xu_other (by omega)), xu_other (by decide), hX.ask hk ⟨xu_ne (by omega), xu_ne (by omega), xu_ne (by omega)⟩ o⟩
theorem RSt.ofQ2 (hk : okX t X) (h : ∀ F I G J ha hb ea eb, rfR F I J X → Y e d q args (F, I, G, J, P0 ha hb ea eb, Q0, S0) (fun w M' => w = some (.int (a)) ∧ ∃ F' I', M' = (F', I', G, J, P0 ha hb ea eb, Q0, S0) ∧ qF F F' ∧ sameQ I I')) : RSt e d q args X a X := by
  intro F I G J ha hb ea eb hX
  refine Y.post (h F I G J ha hb ea eb hX) ?_
  rintro _ _ ⟨rfl, F', I', rfl, oF, o⟩
  refine ⟨rfl, F', I', G, J, rfl, o.lo (fun c hc => ?_), ?_, hX.ask hk ⟨oF _ _ (by omega), oF _ _ (by omega), oF _ _ (by omega)⟩ o⟩
  · funext k
    exact oF c k (by omega)
  · funext k
    exact oF 999 k (by omega)
theorem RSt.ofS (hk : okX t X) (h : ∀ F I G J ha hb ea eb, rfR F I J X → Y e d q args (F, I, G, J, P0 ha hb ea eb, Q0, S0) (fun w M' => w = some (.int a) ∧ ∃ I' G', M' = (xu F 226 0 0, I', G', J, P0 ha hb ea eb, Q0, S0) ∧ sameQ I I' ∧ qG G G')) : RSt e d q args X a X := by
  intro F I G J ha hb ea eb hX
  refine Y.post (h F I G J ha hb ea eb hX) ?_
  rintro _ _ ⟨rfl, I', G', rfl, o, -⟩
  exact ⟨rfl, _, I', G', J, rfl, o.lo (fun c hc => xu_other (by omega)), xu_other (by decide), hX.ask hk ⟨xu_ne (by omega), xu_ne (by omega), xu_ne (by omega)⟩ o⟩
/-! both sides, one call each -/
theorem b_seat (hk : okX t X) : CSt e 1 M_X11_seat [.ref 0, .int s, .int w] X (aSeat (XH X) (XV X) s w) X ∧ RSt e 4 M_X12_seat [.ref 226, .int s, .int w] X (aSeat (XH X) (XV X) s w) X :=
  ⟨CSt.ofA (fun _ _ _ _ _ _ _ _ ⟨_, _, _, h4, _, h6, _⟩ => f_seat h6 h4), RSt.ofA hk (fun _ _ _ _ _ _ _ _ ⟨_, h2, h3, _, h5, _⟩ => k_seat h2 h3 h5)⟩
theorem b_person (hk : okX t X) : CSt e 1 M_X11_person [.ref 0, .int p, .int w] X (aPerson (XH X) (XV X) p w) X ∧ RSt e 4 M_X12_person [.ref 226, .int p, .int w] X (aPerson (XH X) (XV X) p w) X :=
  ⟨CSt.ofA (fun _ _ _ _ _ _ _ _ ⟨_, _, _, h4, _, h6, _⟩ => f_person h6 hk.2.2.1 h4), RSt.ofA hk (fun _ _ _ _ _ _ _ _ ⟨_, h2, h3, _, h5, _⟩ => k_person h2 h5)⟩
theorem b_could (hk : okX t X) : CSt e 1 M_X11_could [.ref 0, .int p] X (aCould (XH X) (XV X) p) X ∧ RSt e 6 M_X12_could [.ref 226, .int p] X (aCould (XH X) (XV X) p) X :=
  ⟨CSt.ofA (fun _ _ _ _ _ _ _ _ ⟨_, _, _, h4, _, h6, _⟩ => f_could h6 hk.2.2.1 h4), RSt.ofA hk (fun _ _ _ _ _ _ _ _ ⟨_, h2, h3, _, h5, _⟩ => k_could h2 h5)⟩
theorem b_stands (hk : okX t X) : CSt e 1 M_X11_stands [.ref 0] X (aStands (XH X) (XV X)) X ∧ RSt e 6 M_X12_stands [.ref 226] X (aStands (XH X) (XV X)) X :=
  ⟨CSt.ofA (fun _ _ _ _ _ _ _ _ ⟨_, _, _, h4, _, h6, _⟩ => f_stands h6 hk.2.2.1 h4), RSt.ofA hk (fun _ _ _ _ _ _ _ _ ⟨_, h2, h3, _, h5, _⟩ => k_stands h2 h5)⟩
theorem b_lone (hk : okX t X) : CSt e 2 M_X11_lone [.ref 0] X (aLone (XH X)) X ∧ RSt e 6 M_X12_lone [.ref 226] X (aLone (XH X)) X :=
  ⟨CSt.ofA (fun _ _ _ _ _ _ _ _ ⟨_, _, _, h4, _, h6, _⟩ => f_lone h4), RSt.ofA hk (fun _ _ _ _ _ _ _ _ ⟨_, h2, h3, _, h5, _⟩ => k_lone h2)⟩
theorem b_row (hk : okX t X) : CSt e 1 M_X11_row [.ref 0, .int s] X (aRow (XH X) (XV X) s) X ∧ RSt e 6 M_X12_row [.ref 226, .int s] X (aRow (XH X) (XV X) s) X :=
  ⟨CSt.ofA (fun _ _ _ _ _ _ _ _ ⟨_, _, _, h4, _, h6, _⟩ => f_row h6 hk.2.2.1 h4), RSt.ofA hk (fun _ _ _ _ _ _ _ _ ⟨_, h2, h3, _, h5, _⟩ => k_row h2 h5)⟩
theorem b_safe (hk : okX t X) : CSt e 2 M_X11_safe [.ref 0] X (aSafe (XH X) (XV X)) X ∧ RSt e 6 M_X12_safe [.ref 226] X (aSafe (XH X) (XV X)) X :=
  ⟨CSt.ofA (fun _ _ _ _ _ _ _ _ ⟨_, _, _, h4, _, h6, _⟩ => f_safe h6 hk.2.2.1 h4), RSt.ofA hk (fun _ _ _ _ _ _ _ _ ⟨_, h2, h3, _, h5, _⟩ => k_safe h2 h5 hk.2.2.1)⟩
theorem b_guards (hk : okX t X) : CSt e 2 M_X11_guards [.ref 0, .int p] X (aGuards (XH X) (XV X) p) X ∧ RSt e 6 M_X12_guards [.ref 226, .int p] X (aGuards (XH X) (XV X) p) X :=
  ⟨CSt.ofA (fun _ _ _ _ _ _ _ _ ⟨_, _, _, h4, _, h6, _⟩ => f_guards h6 hk.2.2.1 h4), RSt.ofA hk (fun _ _ _ _ _ _ _ _ ⟨_, h2, h3, _, h5, _⟩ => k_guards h2 h5 hk.2.2.1)⟩
theorem nuts_pos (hk : okX t X) (ht : t ≤ 600) : ∀ k, k < hP (XH X) → 0 ≤ nutsS (XH X) (XV X) (nI k) := by
  intro k hk5
  have hP5 := hk.1.2.1
  have hN7 := hk.1.1
  obtain ⟨a, b⟩ := hk.2.2.2.1 k (by omega)
  have hb : nI (9 + t) ≤ 700 := (nI_leI (b := 700) (by omega) (by omega)).mpr (by omega)
  have e : nutsS (XH X) (XV X) (nI k) = poS (XV X) (nI k) + bc (bset (fun s => decide (owS (XV X) s = nI k)) (hN (XH X))) 30 := rfl
  rw [e, bc_bset hN7]
  have hc : ∀ n, n ≤ 7 → 0 ≤ cnt (fun s => decide (owS (XV X) s = nI k)) n ∧ cnt (fun s => decide (owS (XV X) s = nI k)) n ≤ nI n := by
    intro n
    induction n with
    | zero => intro _; exact ⟨Int32.le_refl _, Int32.le_refl _⟩
    | succ n ih =>
      intro hn
      obtain ⟨c1, c2⟩ := ih (by omega)
      have n7 : nI n < 7 := (nI_ltI (b := 7) (by omega) (by omega)).mpr (by omega)
      unfold cnt
      rw [nI_succ]
      split <;> exact ⟨by grind, by grind⟩
  obtain ⟨c1, c2⟩ := hc (hN (XH X)) hN7
  have n7 : nI (hN (XH X)) ≤ 7 := nI_le7 hN7
  generalize cnt (fun s => decide (owS (XV X) s = nI k)) (hN (XH X)) = y at *
  generalize poS (XV X) (nI k) = z at *
  generalize nI (9 + t) = m at *
  generalize nI (hN (XH X)) = m2 at *
  clear e
  grind
theorem b_rich (hk : okX t X) (ht : t ≤ 600) : CSt e 2 M_X11_rich [.ref 0] X (richK (XH X) (XV X) (hP (XH X))) X ∧ RSt e 6 M_X12_rich [.ref 226] X (richK (XH X) (XV X) (hP (XH X))) X :=
  ⟨CSt.ofA (fun _ _ _ _ _ _ _ _ ⟨_, _, _, h4, _, h6, _⟩ => f_rich h6 hk.2.2.1 h4 (nuts_pos hk ht)), RSt.ofA hk (fun _ _ _ _ _ _ _ _ ⟨_, h2, h3, _, h5, _⟩ => k_rich h2 h5)⟩
theorem b_far (hk : okX t X) : CSt e 2 M_X11_far [.ref 0, .int s, .int o] X (aFar (XH X) s o) X ∧ RSt e 6 M_X12_far [.ref 226, .int s, .int o] X (aFar (XH X) s o) X :=
  ⟨CSt.ofA (fun _ _ _ _ _ _ _ _ ⟨_, _, _, h4, _, h6, _⟩ => f_far h4), RSt.ofA hk (fun _ _ _ _ _ _ _ _ ⟨_, h2, h3, _, h5, _⟩ => k_far h2)⟩
theorem b_blocks (hk : okX t X) : CSt e 3 M_X11_blocks [.ref 0, .int w] X (aBlocks (XH X) (XV X) w) X ∧ RSt e 6 M_X12_blocks [.ref 226, .int w] X (aBlocks (XH X) (XV X) w) X :=
  ⟨CSt.ofA (fun _ _ _ _ _ _ _ _ ⟨_, _, _, h4, _, h6, _⟩ => by
    rw [← blocks_eq hk.2.1 hk.1.1]
    exact f_blocks h6 hk.2.2.1 h4 hk.2.1.2), RSt.ofA hk (fun _ _ _ _ _ _ _ _ ⟨_, h2, h3, _, h5, _⟩ => k_blocks h2 h5)⟩
theorem b_peace (hk : okX t X) : CSt e 3 M_X11_peace [.ref 0] X (pairK (XH X) (XV X) 0 (hP (XH X))) X ∧ RSt e 6 M_X12_peace [.ref 226] X (pairK (XH X) (XV X) 0 (hP (XH X))) X :=
  ⟨CSt.ofA (fun _ _ _ _ _ _ _ _ ⟨_, _, _, h4, _, h6, _⟩ => by
    have e1 : prC (XH X) (XV X) false (hP (XH X)) / 2 = pairK (XH X) (XV X) 0 (hP (XH X)) := pairs_eq (f := false) hk.2.2.1 hk.2.1 hk.1.2.2.2.2.2.1 hk.1.1 hk.1.2.1
    rw [← e1]
    exact f_peace h6 hk.2.2.1 h4), RSt.ofA hk (fun _ _ _ _ _ _ _ _ ⟨_, h2, h3, _, h5, _⟩ => k_peace h2 h5 hk.2.2.1)⟩
theorem b_war (hk : okX t X) : CSt e 3 M_X11_war [.ref 0] X (pairK (XH X) (XV X) 1 (hP (XH X))) X ∧ RSt e 6 M_X12_war [.ref 226] X (pairK (XH X) (XV X) 1 (hP (XH X))) X :=
  ⟨CSt.ofA (fun _ _ _ _ _ _ _ _ ⟨_, _, _, h4, _, h6, _⟩ => by
    have e1 : prC (XH X) (XV X) true (hP (XH X)) / 2 = pairK (XH X) (XV X) 1 (hP (XH X)) := pairs_eq (f := true) hk.2.2.1 hk.2.1 hk.1.2.2.2.2.2.1 hk.1.1 hk.1.2.1
    rw [← e1]
    exact f_war h6 hk.2.2.1 h4), RSt.ofA hk (fun _ _ _ _ _ _ _ _ ⟨_, h2, h3, _, h5, _⟩ => k_war h2 h5 hk.2.2.1)⟩
theorem b_count (hk : okX t X) : CSt e 2 M_X11_count [.ref 0, .int w] X (aCount (XH X) (XV X) (XU X) (XE X) (nI (XLn X).1) (nI (XT X).length) w) X ∧ RSt e 6 M_X12_count [.ref 226, .int w] X (aCount (XH X) (XV X) (XU X) (XE X) (nI (XLn X).1) (nI (XT X).length) w) X :=
  ⟨CSt.ofA (fun _ _ _ _ _ _ _ _ ⟨_, _, h3, h4, _, h6, h7, h8, _, h10⟩ => f_count h6 hk.2.2.1 h4 h7 h8 h10 h3.1.1), RSt.ofA hk (fun _ _ _ _ _ _ _ _ ⟨h1, h2, h3, _, h5, h6, h7, h8, _⟩ => k_count h2 h5 h6.1 h7 h8.1 h1.1)⟩
theorem b_left (hk : okX t X) : CSt e 5 M_X11_left [.ref 0, .int s] X (aLeft (XH X) (XV X) s) X ∧ RSt e 6 M_X12_left [.ref 226, .int s] X (aLeft (XH X) (XV X) s) X :=
  ⟨CSt.ofG (fun _ _ _ _ _ _ _ _ ⟨_, _, _, h4, _, h6, _⟩ => f_left h6 hk.2.2.1 h4), RSt.ofQ hk (fun _ _ _ _ _ _ _ _ ⟨_, h2, h3, _, h5, _⟩ => k_left h2 h5 hk.2.2.1)⟩
theorem b_later (hk : okX t X) : CSt e 5 M_X11_later [.ref 0, .int s, .int o] X (aLater (XH X) (XV X) s o) X ∧ RSt e 6 M_X12_later [.ref 226, .int s, .int o] X (aLater (XH X) (XV X) s o) X :=
  ⟨CSt.ofG (fun _ _ _ _ _ _ _ _ ⟨_, _, _, h4, _, h6, _⟩ => f_later h6 hk.2.2.1 h4), RSt.ofQ hk (fun _ _ _ _ _ _ _ _ ⟨_, h2, h3, _, h5, _⟩ => k_later h2 h5 hk.2.2.1)⟩
theorem b_first (hk : okX t X) : CSt e 5 M_X11_first [.ref 0] X (aFirst (XH X) (XV X)) X ∧ RSt e 6 M_X12_first [.ref 226] X (aFirst (XH X) (XV X)) X :=
  ⟨CSt.ofG (fun _ _ _ _ _ _ _ _ ⟨_, _, _, h4, _, h6, _⟩ => f_first h6 hk.2.2.1 h4), RSt.ofQ hk (fun _ _ _ _ _ _ _ _ ⟨_, h2, h3, _, h5, _⟩ => k_first h2 h5 hk.2.2.1)⟩
theorem b_empties (hk : okX t X) : CSt e 5 M_X11_empties [.ref 0] X (aEmpties (XH X) (XV X)) X ∧ RSt e 6 M_X12_empties [.ref 226] X (aEmpties (XH X) (XV X)) X :=
  ⟨CSt.ofG (fun _ _ _ _ _ _ _ _ ⟨_, _, _, h4, _, h6, _⟩ => f_empties h6 hk.2.2.1 h4), RSt.ofQ hk (fun _ _ _ _ _ _ _ _ ⟨_, h2, h3, _, h5, _⟩ => k_empties h2 h5 hk.2.2.1)⟩
theorem b_needs (hk : okX t X) : CSt e 5 M_X11_needs [.ref 0, .int p, .int s, .int o] X (aNeeds (XH X) (XV X) p s o) X ∧ RSt e 6 M_X12_needs [.ref 226, .int p, .int s, .int o] X (aNeeds (XH X) (XV X) p s o) X :=
  ⟨CSt.ofG (fun _ _ _ _ _ _ _ _ ⟨_, _, _, h4, _, h6, _⟩ => f_needs h6 hk.2.2.1 h4), RSt.ofQ hk (fun _ _ _ _ _ _ _ _ ⟨_, h2, h3, _, h5, _⟩ => k_needs h2 h5 hk.2.2.1)⟩
theorem b_keeps (hk : okX t X) : CSt e 6 M_X11_keeps [.ref 0, .int p, .int o, .int w] X (aKeeps (XH X) (XV X) p o w) X ∧ RSt e 6 M_X12_keeps [.ref 226, .int p, .int o, .int w] X (aKeeps (XH X) (XV X) p o w) X :=
  ⟨CSt.ofG (fun _ _ _ _ _ _ _ _ ⟨_, _, _, h4, _, h6, _⟩ => f_keeps h6 hk.2.2.1 h4), RSt.ofQ hk (fun _ _ _ _ _ _ _ _ ⟨_, h2, h3, _, h5, _⟩ => k_keeps h2 h5 hk.2.2.1)⟩
theorem b_who (hk : okX t X) : CSt e 7 M_X11_who [.ref 0] X (whoK (XH X) (XV X) (XE X) (XE X).1) X ∧ RSt e 6 M_X12_who [.ref 226] X (whoK (XH X) (XV X) (XE X) (XE X).1) X :=
  ⟨CSt.ofG (fun _ _ _ _ _ _ _ _ ⟨_, _, _, h4, _, h6, _, h8, _⟩ => f_who h6 hk.2.2.1 h4 hk.2.2.2.2.2.2.1 h8), RSt.ofQ hk (fun _ _ _ _ _ _ _ _ ⟨_, h2, h3, _, h5, _, h7, _⟩ => k_who h2 h5 hk.2.2.1 hk.2.2.2.2.2.2.1 h7)⟩
theorem b_ask (hk : okX t X) : CSt e 7 M_X11_ask [.ref 0] X (askK (XH X) (XV X) (whoK (XH X) (XV X) (XE X) (XE X).1) (bW (whoK (XH X) (XV X) (XE X) (XE X).1)) (askH (XH X) (XV X)) 60).1 X ∧ RSt e 7 M_X12_ask [.ref 226] X (askK (XH X) (XV X) (whoK (XH X) (XV X) (XE X) (XE X).1) (bW (whoK (XH X) (XV X) (XE X) (XE X).1)) (askH (XH X) (XV X)) 60).1 X :=
  ⟨CSt.ofG (fun _ _ _ _ _ _ _ _ ⟨_, _, _, h4, _, h6, _, h8, _⟩ => f_ask h6 hk.2.2.1 h4 hk.2.2.2.2.2.2.1 h8), RSt.ofQ hk (fun _ _ _ _ _ _ _ _ ⟨_, h2, h3, _, h5, _, h7, _⟩ => k_ask h2 h5 hk.2.2.1 hk.2.2.2.2.2.2.1 h7)⟩
theorem b_chance (hk : okX t X) : CSt e 5 M_X11_chance [.ref 0, .int s, .int o, .int w] X (aChance (XH X) (XV X) s o w) X ∧ RSt e 6 M_X12_chance [.ref 226, .int s, .int o, .int w] X (aChance (XH X) (XV X) s o w) X :=
  ⟨CSt.ofG (fun _ _ _ _ _ _ _ _ ⟨_, _, _, h4, _, h6, _⟩ => f_chance h6 hk.2.2.1 h4), RSt.ofQ hk (fun _ _ _ _ _ _ _ _ ⟨_, h2, h3, _, h5, _⟩ => k_chance h2 h5 hk.2.2.1)⟩
theorem b_seasons (hk : okX t X) : CSt e 7 M_X11_seasons [.ref 0, .int g, .int o, .int w] X (aSeasons (XH X) (XV X) g o w) X ∧ RSt e 6 M_X12_seasons [.ref 226, .int g, .int o, .int w] X (aSeasons (XH X) (XV X) g o w) X :=
  ⟨CSt.ofG (fun _ _ _ _ _ _ _ _ ⟨_, _, _, h4, _, h6, _⟩ => f_seasons h6 hk.2.2.1 h4), RSt.ofS hk (fun _ _ _ _ _ _ _ _ ⟨_, h2, h3, _, h5, _⟩ => k_seasons h2 h5 hk.2.2.1)⟩
theorem b_judged (hk : okX t X) : CSt e 5 M_X11_judged [.ref 0, .int w] X (aJudged (XH X) (XLn X) w) X ∧ RSt e 6 M_X12_judged [.ref 226, .int w] X (aJudged (XH X) (XLn X) w) X :=
  ⟨CSt.ofG (fun _ _ _ _ _ _ _ _ ⟨_, _, _, h4, _, h6, _, _, _, h10⟩ => f_judged h4 hk.2.2.2.2.2.2.2.2.1 h10), RSt.ofQ hk (fun _ _ _ _ _ _ _ _ ⟨_, h2, h3, _, h5, _, _, h8, _⟩ => k_judged h2 hk.2.2.2.2.2.2.2.2.1 h8)⟩
theorem b_most (hk : okX t X) : CSt e 13 M_X11_most [.ref 0, .int w] X (aMost (XH X) (XV X) (fun _ => 0) (fun _ => 0) w) X ∧ RSt e 14 M_X12_most [.ref 226, .int w] X (aMost (XH X) (XV X) (fun _ => 0) (fun _ => 0) w) X :=
  ⟨CSt.ofG (fun _ I _ _ _ _ _ _ ⟨_, _, _, h4, _, h6, _⟩ => by
    rw [← most_eq (v := XV X) (r := I 224) (b := I 225) hk.1.1 hk.1.2.1]
    exact f_most h6 hk.2.2.1 h4), RSt.ofQ2 hk (fun _ I _ _ _ _ _ _ ⟨_, h2, h3, _, h5, _⟩ => by
    rw [← most_eq (v := XV X) (r := fun _ => 0) (b := fun _ => 0) hk.1.1 hk.1.2.1, most_eq (v := XV X) (r' := I 246) (b' := I 247) hk.1.1 hk.1.2.1]
    exact k_most h2 h5)⟩
theorem b_placed (hk : okX t X) : CSt e 13 M_X11_placed [.ref 0, .int w] X (aPlaced (XH X) (fun _ => 0) (fun _ => 0) w) X ∧ RSt e 14 M_X12_placed [.ref 226, .int w] X (aPlaced (XH X) (fun _ => 0) (fun _ => 0) w) X :=
  ⟨CSt.ofG (fun _ I _ _ _ _ _ _ ⟨_, _, _, h4, _, h6, _⟩ => by
    rw [← placed_eq (r := I 224) (b := I 225) hk.2.1 hk.1.1 hk.1.2.1]
    exact f_placed h4), RSt.ofQ2 hk (fun _ I _ _ _ _ _ _ ⟨_, h2, h3, _, h5, _⟩ => by
    rw [← placed_eq (r := fun _ => 0) (b := fun _ => 0) hk.2.1 hk.1.1 hk.1.2.1, placed_eq (r' := I 246) (b' := I 247) hk.2.1 hk.1.1 hk.1.2.1]
    exact k_placed h2)⟩
end UB
