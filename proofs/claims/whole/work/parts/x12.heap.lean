/-! THE STORE AS A WORLD OF THE KIT, and the instructions that touch it -/
def xKty (k : Nat) : FieldType := match k with
  | 0 => .int
  | 1 => .long
  | 2 => .char
  | 3 => .boolean
  | 4 => .object "NutmegSeats$Scene"
  | 5 => .object "NutmegSeats$Seen"
  | _ => .array .int
def xTys (ty : Nat → ClassId) : List (ClassId × FieldType) := [(ty 0, .int), (ty 1, .long), (ty 2, .char), (ty 3, .boolean), (ty 4, .object "NutmegSeats$Scene"), (ty 5, .object "NutmegSeats$Seen"), (ty 6, .array .int)]
def xfn {α : Type} (d : α) (f : Int32 → α) : Nat → α := fun j => if j < 2147483648 then f (nI j) else d
def xfv (ad : Nat → Nat) (M : xM) (c ci k : Nat) : Value := if xfk ci k = 2 then .long (mG M c k) else if xfk ci k = 3 then va_rf ((mP M c k).map ad) else .int (mF M c k)
def xcont (ad : Nat → Nat) (M : xM) (c kind : Nat) : (Nat → Int32) ⊕ (Nat → Int64) ⊕ (Nat → UInt32) ⊕ (Nat → UInt64) ⊕ (Nat → Option Nat) :=
  if kind = 1 then .inr (.inl (xfn 0 (mJ M c))) else if kind < 4 then .inl (xfn 0 (mI M c)) else .inr (.inr (.inr (.inr (xfn none (fun i => (mQ M c i).map ad)))))
def xcell (ty : Nat → ClassId) (ad : Nat → Nat) (M : xM) (c : Nat) (sh : Nat × Int32) : va_E :=
  if sh.1 < 10 then .inl (ty sh.1, sh.2.toNatClampNeg, xcont ad M c sh.1) else .inr (sh.1 - 10, (List.range (xN (sh.1 - 10))).map (xfv ad M c (sh.1 - 10)))
def xwld (ty : Nat → ClassId) (ad : Nat → Nat) (M : xM) : va_W := (mS M).mapIdx fun c sh => (ad c, xcell ty ad M c sh)
theorem xwld_get {ty : Nat → ClassId} {ad : Nat → Nat} {M : xM} (c : Nat) : (xwld ty ad M)[c]? = (mS M)[c]?.map (fun sh => (ad c, xcell ty ad M c sh)) := by
  unfold xwld
  rw [List.getElem?_mapIdx]
theorem xwld_at {ty : Nat → ClassId} {ad : Nat → Nat} {M : xM} {c : Nat} {sh : Nat × Int32} (h : (mS M)[c]? = some sh) : (xwld ty ad M)[c]? = some (ad c, xcell ty ad M c sh) := by
  rw [xwld_get, h]; rfl
theorem xwld_set {ty : Nat → ClassId} {ad : Nat → Nat} {M M' : xM} {c : Nat} {sh : Nat × Int32} (hS : mS M' = mS M) (h : (mS M)[c]? = some sh) (ho : ∀ b q, b ≠ c → xcell ty ad M' b q = xcell ty ad M b q) : (xwld ty ad M).set c (ad c, xcell ty ad M' c sh) = xwld ty ad M' := by
  apply List.ext_getElem?
  intro b
  rw [List.getElem?_set]
  by_cases hb : c = b
  · subst hb
    rw [if_pos rfl, if_pos (by have := (List.getElem?_eq_some_iff.mp (xwld_at (ty := ty) (ad := ad) h)).1; exact this), xwld_get, hS, h]
    rfl
  · rw [if_neg hb, xwld_get, xwld_get, hS]
    cases (mS M)[b]? with
    | none => rfl
    | some q => simp only [Option.map_some]; rw [ho b q (fun e => hb e.symm)]
/-- pointers point to cells that are there -/
def xwf (M : xM) : Prop := (mS M).length ≤ 950 ∧ (∀ (c k j : Nat), mP M c k = some j → j < (mS M).length) ∧ (∀ (c : Nat) (i : Int32) (j : Nat), mQ M c i = some j → j < (mS M).length) ∧ (∀ (c : Nat) (sh : Nat × Int32), (mS M)[c]? = some sh → sh.1 < 10 → 0 ≤ sh.2 ∧ sh.2 < 5000 ∧ sh.1 < 7)
def xok1 (n : Nat) (v : Value) : Prop := ∀ j, v = .ref j → j < n ∨ 2000 ≤ j
def xokL1 (n : Nat) (L : xL) : Prop := ∀ (i : Nat) (v : Value), L[i]? = some (some v) → xok1 n v
def xokS1 (n : Nat) (st : List Value) : Prop := ∀ v ∈ st, xok1 n v
theorem xok1_int {n : Nat} {x : Int32} : xok1 n (.int x) := fun j h => by cases h
theorem xok1_long {n : Nat} {x : Int64} : xok1 n (.long x) := fun j h => by cases h
theorem nI_back {i : Int32} (h : 0 ≤ i) : nI i.toNatClampNeg = i := by
  obtain ⟨j, hj, rfl⟩ := nI_of (x := i) (by grind)
  rw [nI_clamp hj]
theorem xin_vp {i n : Int32} (h0 : 0 ≤ i) (h1 : i < n) : vp_in i n.toNatClampNeg := by
  obtain ⟨j, hj, rfl⟩ := nI_of (x := i) (by grind)
  obtain ⟨k, hk, rfl⟩ := nI_of (x := n) (by grind)
  rw [nI_clamp hk]
  exact vp_in_nI ((nI_ltI hj hk).mp h1) hk
theorem xclamp_lt {i : Int32} : i.toNatClampNeg < 2147483648 := by
  have := Int32.toInt_lt i
  unfold Int32.toNatClampNeg
  omega
theorem xfn_at {α : Type} {d : α} {f : Int32 → α} {i : Int32} (h : 0 ≤ i) : xfn d f i.toNatClampNeg = f i := by
  unfold xfn
  rw [if_pos xclamp_lt, nI_back h]
theorem xfn_upd {α : Type} {d : α} {I : Nat → Int32 → α} {c : Nat} {i : Int32} {x : α} (h : 0 ≤ i) : (fun j => if j = i.toNatClampNeg then x else xfn d (I c) j) = xfn d (xv I c i x c) := by
  funext j
  unfold xfn xv
  by_cases hj : j < 2147483648
  · rw [if_pos hj, if_pos hj]
    by_cases e : j = i.toNatClampNeg
    · subst e
      rw [if_pos rfl, if_pos ⟨rfl, nI_back h⟩]
    · rw [if_neg e, if_neg (fun q => e (by rw [← q.2, nI_clamp hj]))]
  · rw [if_neg hj, if_neg hj, if_neg (fun e => hj (by rw [e]; exact xclamp_lt))]
theorem xv_other {α : Type} {I : Nat → Int32 → α} {c b : Nat} {i : Int32} {x : α} (h : b ≠ c) : xv I c i x b = I b := by
  funext j
  unfold xv
  rw [if_neg (fun q => h q.1)]
theorem xis_spec {S : List (Nat × Int32)} {c k : Nat} (h : xis S c k = true) : ∃ n, S[c]? = some (k, n) := by
  unfold xis at h
  split at h
  · rename_i k' n hk
    exact ⟨n, by rw [hk]; simp at h; rw [h]⟩
  · cases h
theorem xin_spec {S : List (Nat × Int32)} {c k : Nat} {i : Int32} (h : xin S c k i = true) : ∃ n, S[c]? = some (k, n) ∧ 0 ≤ i ∧ i < n := by
  unfold xin at h
  split at h
  · rename_i k' n hk
    simp only [Bool.and_eq_true, beq_iff_eq, decide_eq_true_eq] at h
    exact ⟨n, by rw [hk, h.1.1], h.1.2, h.2⟩
  · cases h
theorem xcell_obj {ty : Nat → ClassId} {ad : Nat → Nat} {M : xM} {c ci : Nat} {n : Int32} : xcell ty ad M c (10 + ci, n) = .inr (ci, (List.range (xN ci)).map (xfv ad M c ci)) := by
  unfold xcell
  dsimp only
  rw [if_neg (by omega), Nat.add_sub_cancel_left]
theorem xcell_arr {ty : Nat → ClassId} {ad : Nat → Nat} {M : xM} {c k : Nat} {n : Int32} (h : k < 10) : xcell ty ad M c (k, n) = .inl (ty k, n.toNatClampNeg, xcont ad M c k) := by
  unfold xcell
  dsimp only
  rw [if_pos h]
theorem xfs_at {ad : Nat → Nat} {M : xM} {c ci k : Nat} (h : k < xN ci) : ((List.range (xN ci)).map (xfv ad M c ci))[k]? = some (xfv ad M c ci k) := by
  rw [List.getElem?_map, List.getElem?_range h]; rfl
def xTyf (ci : Nat) : Nat → FieldType := match ci with
  | 0 => tyX0
  | 1 => tyX1
  | 2 => tyX2
  | 3 => tyX3
  | 4 => tyX4
  | 5 => tyX5
  | 6 => tyX6
  | 7 => tyX7
  | 8 => tyX8
  | 9 => tyX9
  | 10 => tyX10
  | 11 => tyX11
  | _ => tyX12
theorem xty_ok {ci : Nat} (h : ci < 13) : ∀ k, k < xN ci → parseFieldDescriptor (xT ci k).2.2.1 = some (xTyf ci k) := by
  rcases (show ci = 0 ∨ ci = 1 ∨ ci = 2 ∨ ci = 3 ∨ ci = 4 ∨ ci = 5 ∨ ci = 6 ∨ ci = 7 ∨ ci = 8 ∨ ci = 9 ∨ ci = 10 ∨ ci = 11 ∨ ci = 12 by omega) with rfl | rfl | rfl | rfl | rfl | rfl | rfl | rfl | rfl | rfl | rfl | rfl | rfl
  · exact tyX0_ok
  · exact tyX1_ok
  · exact tyX2_ok
  · exact tyX3_ok
  · exact tyX4_ok
  · exact tyX5_ok
  · exact tyX6_ok
  · exact tyX7_ok
  · exact tyX8_ok
  · exact tyX9_ok
  · exact tyX10_ok
  · exact tyX11_ok
  · exact tyX12_ok
theorem xnm_ok {ci : Nat} (h : ci < 13) : ∀ a, a < xN ci → ∀ b, b < xN ci → a ≠ b → (xT ci a).2.1 ≠ (xT ci b).2.1 := by
  rcases (show ci = 0 ∨ ci = 1 ∨ ci = 2 ∨ ci = 3 ∨ ci = 4 ∨ ci = 5 ∨ ci = 6 ∨ ci = 7 ∨ ci = 8 ∨ ci = 9 ∨ ci = 10 ∨ ci = 11 ∨ ci = 12 by omega) with rfl | rfl | rfl | rfl | rfl | rfl | rfl | rfl | rfl | rfl | rfl | rfl | rfl
  · exact nmX0
  · exact nmX1
  · exact nmX2
  · exact nmX3
  · exact nmX4
  · exact nmX5
  · exact nmX6
  · exact nmX7
  · exact nmX8
  · exact nmX9
  · exact nmX10
  · exact nmX11
  · exact nmX12
def xisref (t : FieldType) : Bool := match t with
  | .object _ => true
  | .array _ => true
  | _ => false
def xkinds : Bool := (List.range 13).all fun ci => (List.range (xN ci)).all fun k => (xfk ci k == 3) == xisref (xTyf ci k)
theorem xkinds_ok : xkinds = true := by decide +kernel
theorem xref_ty {ci k : Nat} (h : ci < 13) (hk : k < xN ci) (h3 : xfk ci k = 3) : xisref (xTyf ci k) = true := by
  have h1 := List.all_eq_true.mp (List.all_eq_true.mp xkinds_ok ci (List.mem_range.mpr h)) k (List.mem_range.mpr hk)
  rw [h3] at h1
  simpa using h1
def xGW : List Cond := lw_tbl.filter goodWord
theorem xGW_in {w : Cond} (h : w ∈ lw_tbl) (hg : goodWord w = true) : w ∈ xGW := List.mem_filter.mpr ⟨h, hg⟩
theorem xfk_cases (ci k : Nat) : (xfk ci k = 0 ∧ (xT ci k).2.2.1 = "I") ∨ (xfk ci k = 1 ∧ (xT ci k).2.2.1 = "Z") ∨ (xfk ci k = 2 ∧ (xT ci k).2.2.1 = "J") ∨ xfk ci k = 3 := by
  unfold xfk
  dsimp only
  by_cases h1 : (xT ci k).2.2.1 = "I"
  · rw [if_pos h1]; exact Or.inl ⟨rfl, h1⟩
  · rw [if_neg h1]
    by_cases h2 : (xT ci k).2.2.1 = "Z"
    · rw [if_pos h2]; exact Or.inr (Or.inl ⟨rfl, h2⟩)
    · rw [if_neg h2]
      by_cases h3 : (xT ci k).2.2.1 = "J"
      · rw [if_pos h3]; exact Or.inr (Or.inr (Or.inl ⟨rfl, h3⟩))
      · rw [if_neg h3]; exact Or.inr (Or.inr (Or.inr rfl))
