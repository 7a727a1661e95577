/-! WHAT THE STATEMENT GIVES OF THE START: strings and statics, kept -/
section NW
variable {A B : Nat → Prop} {u U : State} {H H1 : Heap} {E : xE} {ad ad' adV : Nat → Nat}
theorem lt_of_get {t : Nat} {cell : Cell} (h : H[t]? = some cell) : t < H.size := (Array.getElem?_eq_some_iff.mp h).1
theorem va_O.nar {C : String} {t : Nat} (h : va_O C t A U H) (hAB : ∀ q, B q → q < H.size → A q) : va_O C t B U H := by
  obtain ⟨cell, h1, h2, h3, h4⟩ := h
  exact ⟨cell, h1, h2, h3, fun q => h4 (hAB _ q (lt_of_get h1))⟩
theorem va_OF.nar {o n d : String} {v : Value} {t : Nat} (h : va_OF o n d v t A U H) (hAB : ∀ q, B q → q < H.size → A q) : va_OF o n d v t B U H := by
  obtain ⟨cf, k, i, f, cell, h1, h2, h3, h4, h5, h6⟩ := h
  exact ⟨cf, k, i, f, cell, h1, h2, h3, h4, h5, fun q => h6 (hAB _ q (lt_of_get h3))⟩
theorem va_T.nar {ty : FieldType} {t N : Nat} {f : Nat → Value} (h : va_T ty t N f A U H) (hAB : ∀ q, B q → q < H.size → A q) : va_T ty t N f B U H := by
  obtain ⟨cell, h1, h2, h3, h4, h5, h6, h7⟩ := h
  exact ⟨cell, h1, h2, h3, h4, h5, h6, fun q => h7 (hAB _ q (lt_of_get h1))⟩
theorem va_Z.nar {C n d : String} {v : Value} (h : va_Z C n d v A U H) (hAB : ∀ q, B q → q < H.size → A q) : va_Z C n d v B U H := by
  obtain ⟨cf, kf, fi, f, a, cell, h1, h2, h3, h4, h5, h6, h7, h8⟩ := h
  exact ⟨cf, kf, fi, f, a, cell, h1, h2, h3, h4, h5, h6, h7, fun q => h8 (hAB _ q (lt_of_get h5))⟩
theorem va_Zq.nar {C n d : String} (h : va_Zq C n d A U H) (hAB : ∀ q, B q → q < H.size → A q) : va_Zq C n d B U H := h.elim (fun h => Or.inl (h.nar hAB)) (fun ⟨t, h⟩ => Or.inr ⟨t, h.nar hAB⟩)
/-- the texts, one byte a sign -/
def xSv (E : xE) (ad adV : Nat → Nat) (A : Nat → Prop) (U : State) (H : Heap) : Prop := ∀ (t : Nat) (tx : List Nat), E.2[t]? = some tx → va_O "java/lang/String" (ad (xSTR + t)) A U H ∧ va_OF "java/lang/String" "coder" "B" (.int 0) (ad (xSTR + t)) A U H ∧ va_OF "java/lang/String" "value" "[B" (.ref (adV t)) (ad (xSTR + t)) A U H ∧ va_T .byte (adV t) tx.length (fun j => .int (nI (tx.getD j 0))) A U H ∧ (∀ j, tx.getD j 0 < 128) ∧ tx.length < 1000
/-- words of the tables that are carried apart: what a throw wants of them -/
def xTl : List Cond := [.declares ⟨"java/lang/RuntimeException", "<init>", "(Ljava/lang/String;)V"⟩, .declares ⟨"java/lang/Exception", "<init>", "(Ljava/lang/String;)V"⟩, .declares ⟨"java/lang/Throwable", "<init>", "(Ljava/lang/String;)V"⟩, .castable "java/util/NoSuchElementException" "java/util/NoSuchElementException"]
theorem xTl_moved (hvm : u.vm.Alike U.vm) {w : Cond} (hw : w ∈ xTl) (h : va_Nw w u) : va_Nw w U := by
  have hd : ∀ x : MethodName, va_Nw (.declares x) u → va_Nw (.declares x) U := fun x hZ => va_tabs rfl (rfl : (u.setVm U.vm).vm = U.vm) (by rw [Cond.declares_setVm hvm]; exact hZ)
  have hc : ∀ C T : String, va_Nw (.castable C T) u → va_Nw (.castable C T) U := fun C T hZ => va_tabs rfl (rfl : (u.setVm U.vm).vm = U.vm) (by rw [Cond.castable_setVm hvm]; exact hZ)
  unfold xTl at hw
  rcases List.mem_cons.mp hw with rfl | hw
  · exact hd _ h
  rcases List.mem_cons.mp hw with rfl | hw
  · exact hd _ h
  rcases List.mem_cons.mp hw with rfl | hw
  · exact hd _ h
  rcases List.mem_cons.mp hw with rfl | hw
  · exact hc _ _ h
  cases hw
theorem vx_L.nar {C n d : String} (h : vx_L C n d A U H) (hAB : ∀ q, B q → q < H.size → A q) : vx_L C n d B U H := by
  obtain ⟨c, k, i, f, a, cell, h1, h2, h3, h4, h5, h6, h7, h8, h9, h10⟩ := h
  exact ⟨c, k, i, f, a, cell, h1, h2, h3, h4, h5, h6, h7, h8, h9, fun q => h10 (hAB _ q (lt_of_get h5))⟩
theorem vx_Zq.nar {C n d : String} (h : vx_Zq C n d A U H) (hAB : ∀ q, B q → q < H.size → A q) : vx_Zq C n d B U H := ⟨h.1.nar hAB, h.2.nar hAB⟩
/-- the library's statics that the Statement names -/
def xZs (A : Nat → Prop) (U : State) (H : Heap) : Prop := va_Z "java/lang/String" "COMPACT_STRINGS" "Z" (.int 1) A U H ∧ va_Zq "jdk/internal/util/Preconditions" "SIOOBE_FORMATTER" "Ljava/util/function/BiFunction;" A U H ∧ va_Z "java/lang/StringUTF16" "$assertionsDisabled" "Z" (.int 1) A U H ∧ va_Z "java/lang/StringUTF16" "HI_BYTE_SHIFT" "I" (.int 0) A U H ∧ va_Z "java/lang/StringUTF16" "LO_BYTE_SHIFT" "I" (.int 8) A U H ∧ vx_Zq "java/lang/Throwable" "UNASSIGNED_STACK" "[Ljava/lang/StackTraceElement;" A U H ∧ vx_Zq "java/lang/Throwable" "SUPPRESSED_SENTINEL" "Ljava/util/List;" A U H ∧ ∀ w ∈ xTl, va_Nw w U
theorem xZs.warm (hvm : u.vm.Alike U.vm) (h : xZs A u H) : xZs A U H := by
  obtain ⟨z1, z2, z3, z4, z5, z6, z7, z8⟩ := h
  exact ⟨z1.moved hvm, z2.moved hvm, z3.moved hvm, z4.moved hvm, z5.moved hvm, z6.moved hvm, z7.moved hvm, fun w hw => xTl_moved hvm hw (z8 w hw)⟩
theorem xZs.kept (hq : ∀ a : Nat, a < H.size → ¬ A a → H1[a]? = H[a]?) (h : xZs A U H) : xZs A U H1 := by
  obtain ⟨z1, z2, z3, z4, z5, z6, z7, z8⟩ := h
  exact ⟨z1.kept hq, z2.kept hq, z3.kept hq, z4.kept hq, z5.kept hq, z6.kept hq, z7.kept hq, z8⟩
theorem xZs.nar (hAB : ∀ q, B q → q < H.size → A q) (h : xZs A U H) : xZs B U H := by
  obtain ⟨z1, z2, z3, z4, z5, z6, z7, z8⟩ := h
  exact ⟨z1.nar hAB, z2.nar hAB, z3.nar hAB, z4.nar hAB, z5.nar hAB, z6.nar hAB, z7.nar hAB, z8⟩
theorem xSv.warm (hvm : u.vm.Alike U.vm) (h : xSv E ad adV A u H) : xSv E ad adV A U H := fun t tx ht => by
  obtain ⟨a, b, c, d, f⟩ := h t tx ht
  exact ⟨a.moved hvm, b.moved hvm, c.moved hvm, d.moved hvm, f⟩
theorem xSv.kept (hq : ∀ a : Nat, a < H.size → ¬ A a → H1[a]? = H[a]?) (h : xSv E ad adV A U H) : xSv E ad adV A U H1 := fun t tx ht => by
  obtain ⟨a, b, c, d, f⟩ := h t tx ht
  exact ⟨a.kept hq, b.kept hq, c.kept hq, d.kept hq, f⟩
theorem xSv.nar (hAB : ∀ q, B q → q < H.size → A q) (h : xSv E ad adV A U H) : xSv E ad adV B U H := fun t tx ht => by
  obtain ⟨a, b, c, d, f⟩ := h t tx ht
  exact ⟨a.nar hAB, b.nar hAB, c.nar hAB, d.nar hAB, f⟩
def xSx (E : xE) (ad : Nat → Nat) (A : Nat → Prop) (U : State) (H : Heap) : Prop := (∃ adV, xSv E ad adV A U H) ∧ xZs A U H
theorem xSx.warm (hvm : u.vm.Alike U.vm) (h : xSx E ad A u H) : xSx E ad A U H := ⟨h.1.elim fun adV h1 => ⟨adV, h1.warm hvm⟩, h.2.warm hvm⟩
theorem xSx.kept (hq : ∀ a : Nat, a < H.size → ¬ A a → H1[a]? = H[a]?) (h : xSx E ad A U H) : xSx E ad A U H1 := ⟨h.1.elim fun adV h1 => ⟨adV, h1.kept hq⟩, h.2.kept hq⟩
theorem xSx.nar (hAB : ∀ q, B q → q < H.size → A q) (h : xSx E ad A U H) : xSx E ad B U H := ⟨h.1.elim fun adV h1 => ⟨adV, h1.nar hAB⟩, h.2.nar hAB⟩
theorem xSx.ag (e2 : ∀ t, ad' (xSTR + t) = ad (xSTR + t)) (h : xSx E ad A U H) : xSx E ad' A U H := by
  obtain ⟨⟨adV, h1⟩, z⟩ := h
  refine ⟨⟨adV, fun t tx ht => ?_⟩, z⟩
  rw [e2]
  exact h1 t tx ht
end NW
