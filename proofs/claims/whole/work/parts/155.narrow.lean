/-! WHAT THE STATEMENT GIVES OF THE START: strings and statics, kept -/
section NW
variable {A B : Nat → Prop} {u U : State} {H H1 : Heap} {E : xE} {ad ad' adV : Nat → Nat}
theorem lt_of_get {t : Nat} {cell : Cell} (h : H[t]? = some cell) : t < H.size := (Array.getElem?_eq_some_iff.mp h).1
theorem va_O.nar {C : String} {t : Nat} (h : va_O C t A U H) (hAB : ∀ q, B q → q < H.size → A q) : va_O C t B U H := by
  obtain ⟨cell, h1, h2, h3, h4⟩ := h
  exact ⟨cell, h1, h2, h3, fun q => h4 (hAB _ q (lt_of_get h1))⟩
theorem va_OF.nar {o n d : String} {v : Value} {t : Nat} (h : va_OF o n d v t A U H) (hAB : ∀ q, B q → q < H.size → A q) : va_OF o n d v t B U H := by
  obtain ⟨cf, k, i, f, cell, h1, h2, h3, h4, h5, h6⟩ := h
  exact ⟨cf, k, i, f, cell, h1, h2, h3, h4, h5, fun q => h6 (hAB _ q (lt_of_get h3))⟩
theorem va_T.nar {ty : FieldType} {t N : Nat} {f : Nat → Value} (h : va_T ty t N f A U H) (hAB : ∀ q, B q → q < H.size → A q) : va_T ty t N f B U H := by
  obtain ⟨cell, h1, h2, h3, h4, h5, h6, h7⟩ := h
  exact ⟨cell, h1, h2, h3, h4, h5, h6, fun q => h7 (hAB _ q (lt_of_get h1))⟩
theorem va_Z.nar {C n d : String} {v : Value} (h : va_Z C n d v A U H) (hAB : ∀ q, B q → q < H.size → A q) : va_Z C n d v B U H := by
  obtain ⟨cf, kf, fi, f, a, cell, h1, h2, h3, h4, h5, h6, h7, h8⟩ := h
  exact ⟨cf, kf, fi, f, a, cell, h1, h2, h3, h4, h5, h6, h7, fun q => h8 (hAB _ q (lt_of_get h5))⟩
theorem va_Zq.nar {C n d : String} (h : va_Zq C n d A U H) (hAB : ∀ q, B q → q < H.size → A q) : va_Zq C n d B U H := h.elim (fun h => Or.inl (h.nar hAB)) (fun ⟨t, h⟩ => Or.inr ⟨t, h.nar hAB⟩)
/-- the texts, one byte a sign -/
def xSv (E : xE) (ad adV : Nat → Nat) (A : Nat → Prop) (U : State) (H : Heap) : Prop := ∀ (t : Nat) (tx : List Nat), E.2[t]? = some tx → va_O "java/lang/String" (ad (xSTR + t)) A U H ∧ va_OF "java/lang/String" "coder" "B" (.int 0) (ad (xSTR + t)) A U H ∧ va_OF "java/lang/String" "value" "[B" (.ref (adV t)) (ad (xSTR + t)) A U H ∧ va_T .byte (adV t) tx.length (fun j => .int (nI (tx.getD j 0))) A U H
/-- the library's statics that the Statement names -/
def xZs (A : Nat → Prop) (U : State) (H : Heap) : Prop := va_Z "java/lang/String" "COMPACT_STRINGS" "Z" (.int 1) A U H ∧ va_Zq "jdk/internal/util/Preconditions" "SIOOBE_FORMATTER" "Ljava/util/function/BiFunction;" A U H ∧ va_Z "java/lang/StringUTF16" "$assertionsDisabled" "Z" (.int 1) A U H ∧ va_Z "java/lang/StringUTF16" "HI_BYTE_SHIFT" "I" (.int 0) A U H ∧ va_Z "java/lang/StringUTF16" "LO_BYTE_SHIFT" "I" (.int 8) A U H ∧ va_Zq "java/lang/Throwable" "UNASSIGNED_STACK" "[Ljava/lang/StackTraceElement;" A U H ∧ va_Zq "java/lang/Throwable" "SUPPRESSED_SENTINEL" "Ljava/util/List;" A U H
def xSx (E : xE) (ad : Nat → Nat) (A : Nat → Prop) (U : State) (H : Heap) : Prop := (∃ adV, xSv E ad adV A U H) ∧ xZs A U H
theorem xSx.warm (hvm : u.vm.Alike U.vm) (h : xSx E ad A u H) : xSx E ad A U H := by
  obtain ⟨⟨adV, h1⟩, z1, z2, z3, z4, z5, z6, z7⟩ := h
  refine ⟨⟨adV, fun t tx ht => ?_⟩, z1.moved hvm, z2.moved hvm, z3.moved hvm, z4.moved hvm, z5.moved hvm, z6.moved hvm, z7.moved hvm⟩
  obtain ⟨a, b, c, d⟩ := h1 t tx ht
  exact ⟨a.moved hvm, b.moved hvm, c.moved hvm, d.moved hvm⟩
theorem xSx.kept (hq : ∀ a : Nat, a < H.size → ¬ A a → H1[a]? = H[a]?) (h : xSx E ad A U H) : xSx E ad A U H1 := by
  obtain ⟨⟨adV, h1⟩, z1, z2, z3, z4, z5, z6, z7⟩ := h
  refine ⟨⟨adV, fun t tx ht => ?_⟩, z1.kept hq, z2.kept hq, z3.kept hq, z4.kept hq, z5.kept hq, z6.kept hq, z7.kept hq⟩
  obtain ⟨a, b, c, d⟩ := h1 t tx ht
  exact ⟨a.kept hq, b.kept hq, c.kept hq, d.kept hq⟩
theorem xSx.nar (hAB : ∀ q, B q → q < H.size → A q) (h : xSx E ad A U H) : xSx E ad B U H := by
  obtain ⟨⟨adV, h1⟩, z1, z2, z3, z4, z5, z6, z7⟩ := h
  refine ⟨⟨adV, fun t tx ht => ?_⟩, z1.nar hAB, z2.nar hAB, z3.nar hAB, z4.nar hAB, z5.nar hAB, z6.nar hAB, z7.nar hAB⟩
  obtain ⟨a, b, c, d⟩ := h1 t tx ht
  exact ⟨a.nar hAB, b.nar hAB, c.nar hAB, d.nar hAB⟩
theorem xSx.ag (e2 : ∀ t, ad' (xSTR + t) = ad (xSTR + t)) (h : xSx E ad A U H) : xSx E ad' A U H := by
  obtain ⟨⟨adV, h1⟩, z⟩ := h
  refine ⟨⟨adV, fun t tx ht => ?_⟩, z⟩
  rw [e2]
  exact h1 t tx ht
end NW
