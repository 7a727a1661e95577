/-! WHAT THE STATEMENT GIVES OF THE START -/
section GV
variable {s : State} {args : Array Value}
/-- a place of each text -/
def xRp : List (Nat × Nat) := [(9, 19), (3, 46), (10, 87), (10, 89), (10, 91), (10, 93), (10, 95), (10, 97), (10, 99), (10, 101), (10, 103), (10, 105), (10, 107), (10, 109), (10, 111), (10, 113), (10, 115), (10, 117), (10, 119), (10, 121), (10, 123), (4, 87), (4, 89), (4, 91), (4, 93), (11, 284), (11, 293)]
/-- the other places of some -/
def xOt : List ((Nat × Nat) × Nat) := [((10, 85), 1), ((3, 100), 2), ((3, 112), 3), ((3, 55), 4), ((3, 128), 5), ((3, 60), 6), ((3, 65), 7), ((3, 70), 8), ((4, 68), 18), ((4, 31), 19), ((4, 39), 20)]
def xTm (t : Nat) : Term := .string (xRn (xRp.getD t (0, 0)).1) (xRp.getD t (0, 0)).2
def xLn1 (t : Nat) : Nat := (xTX.getD t []).length
theorem xSl_cases : ∀ q ∈ xSl, q.2 < 27 ∧ (q.1 = xRp.getD q.2 (0, 0) ∨ q ∈ xOt) := by decide +kernel
theorem g_ex : ∀ i, i < 27 → Cond.exactly (xTm i) "java/lang/String" ∈ flatC (Jvm.Cond.and given_1 narrow_1) := by decide +kernel
theorem g_co : ∀ i, i < 27 → Cond.eq (.field (xTm i) "java/lang/String" "coder" "B") (.int 0) ∈ flatC (Jvm.Cond.and given_1 narrow_1) := by decide +kernel
theorem g_ar : ∀ i, i < 27 → Cond.arrayOf (.field (xTm i) "java/lang/String" "value" "[B") .byte ∈ flatC (Jvm.Cond.and given_1 narrow_1) := by decide +kernel
theorem g_le : ∀ i, i < 27 → Cond.eq (.length (.field (xTm i) "java/lang/String" "value" "[B")) (.int (Int32.ofNat (xLn1 i))) ∈ flatC (Jvm.Cond.and given_1 narrow_1) := by decide +kernel
def xPs : List Nat := [24, 36, 53, 60, 66, 76, 87, 94, 103, 112, 119, 126, 134, 143, 151, 160, 168, 176, 187, 194, 201, 281, 290, 301, 309, 332, 349]
theorem g_elp : ∀ i, i < 27 → ∀ j, j < xLn1 i → (flatC (Jvm.Cond.and given_1 narrow_1))[xPs.getD i 0 + 4 + j]? = some (Cond.eq (.elem (.field (xTm i) "java/lang/String" "value" "[B") (.int (Int32.ofNat j))) (.int (nI ((xTX.getD i []).getD j 0)))) := by decide +kernel
theorem g_el (i : Nat) (hi : i < 27) (j : Nat) (hj : j < xLn1 i) : Cond.eq (.elem (.field (xTm i) "java/lang/String" "value" "[B") (.int (Int32.ofNat j))) (.int (nI ((xTX.getD i []).getD j 0))) ∈ flatC (Jvm.Cond.and given_1 narrow_1) := List.mem_of_getElem? (g_elp i hi j hj)
theorem g_eq : ∀ q ∈ xOt, Cond.eq (xTm q.2) (.string (xRn q.1.1) q.1.2) ∈ flatC (Jvm.Cond.and given_1 narrow_1) := by decide +kernel
theorem g_len : ∀ i, i < 27 → xLn1 i < 2 ^ 31 := by decide +kernel
theorem g_asc : ∀ i, i < 27 → ((xTX.getD i []).all (fun c => decide (c < 128))) = true ∧ (xTX.getD i []).length < 1000 := by decide +kernel
theorem asc_at {l : List Nat} (h : l.all (fun c => decide (c < 128)) = true) (j : Nat) : l.getD j 0 < 128 := by
  rw [List.getD_eq_getElem?_getD]
  cases hj : l[j]? with
  | none => show 0 < 128; omega
  | some c => exact of_decide_eq_true (List.all_eq_true.mp h c (List.mem_of_getElem? hj))
theorem xTl_in : ∀ w ∈ xTl, w ∈ lw_tbl := by decide +kernel
theorem xTl_on : ∀ w ∈ xTl, w.onTables = true := by decide +kernel
theorem g_tx : xTX.length = 27 := by decide +kernel
theorem given_all {E1 : Int32 × (Int32 → Int32)} (b : Nat) (hgv : (Jvm.Cond.and given_1 narrow_1).before args s = true) (hts : ∀ w ∈ lw_tbl, w.before args s = true) : ∃ ad : Nat → Nat, ad xSCR = b ∧ (∀ q ∈ xSl, vk_R (xRn q.1.1) q.1.2 (xTs.getD q.2 "") (ad (xSTR + q.2)) s) ∧ xSx (E1, xTX) ad (fun q => s.heap.size ≤ q) s s.heap := by
  have hs := flat_of_before _ hgv
  have hA : ∀ a : Nat, a < s.heap.size → ¬ (fun q : Nat => s.heap.size ≤ q) a := fun a h => Nat.not_le.mpr h
  have h0 : ∀ i : Nat, ∃ q : Nat × Nat, i < 27 → (xTm i).eval args s none [] s = some (.ref q.1) ∧ va_O "java/lang/String" q.1 (fun q => s.heap.size ≤ q) s s.heap ∧ va_OF "java/lang/String" "coder" "B" (.int 0) q.1 (fun q => s.heap.size ≤ q) s s.heap ∧ va_OF "java/lang/String" "value" "[B" (.ref q.2) q.1 (fun q => s.heap.size ≤ q) s s.heap ∧ va_T .byte q.2 (xLn1 i) (fun j => .int (nI ((xTX.getD i []).getD j 0))) (fun q => s.heap.size ≤ q) s s.heap := by
    intro i
    by_cases hi : i < 27
    · obtain ⟨a, c, cA, kA, q1, q2, q3, q4, q5, q6, -⟩ := Cond.exactly_spec (args := args) (first := s) (o := none) (s := s) (idx := []) (t := xTm i) (cls := "java/lang/String") (hs _ (g_ex i hi))
      obtain ⟨t, ht, hT⟩ := va_Tof (f := fun j => .int (nI ((xTX.getD i []).getD j 0))) (A := fun q => s.heap.size ≤ q) (g_len i hi) (hs _ (g_ar i hi)) (va_eqt (hs _ (g_le i hi))) (fun j hj => va_eqt (hs _ (g_el i hi j hj))) hA
      exact ⟨(a, t), fun _ => ⟨q1, ⟨cA, q3, q5, by rw [q6]; exact q2, hA a (Array.getElem?_eq_some_iff.mp q3).1⟩, vk_OFof q1 (va_eqt (hs _ (g_co i hi))) hA, vk_OFof q1 ht hA, hT⟩⟩
    · exact ⟨(0, 0), fun h => absurd h hi⟩
  obtain ⟨f, hf⟩ := Classical.axiomOfChoice h0
  refine ⟨fun j => if j = xSCR then b else (f (j - xSTR)).1, if_pos rfl, fun q hq => ?_, ⟨fun t => (f t).2, fun t tx ht => ?_⟩, ?_⟩
  · have e : (if xSTR + q.2 = xSCR then b else (f (xSTR + q.2 - xSTR)).1) = (f q.2).1 := by
      rw [if_neg (by unfold xSTR xSCR; omega), Nat.add_sub_cancel_left]
    obtain ⟨h27, hc⟩ := xSl_cases q hq
    have h1 := (hf q.2 h27).1
    have hw : (Cond.stringRef (xRn q.1.1) q.1.2 (xTs.getD q.2 "")).before args s = true := hts _ (xSl_in q hq)
    have h2 : (Term.string (xRn q.1.1) q.1.2).eval args s none [] s = some (.ref (f q.2).1) := by
      rcases hc with hc | hc
      · rw [hc]
        exact h1
      · exact va_eqR (hs _ (g_eq q hc)) h1
    show vk_R _ _ _ (if xSTR + q.2 = xSCR then b else (f (xSTR + q.2 - xSTR)).1) s
    rw [e]
    exact ⟨by first | exact va_tabs rfl rfl hw | exact hw, (Term.string_eval_of_vm (args := #[]) (rfl : s.vm = s.vm)).trans h2⟩
  · have e : (if xSTR + t = xSCR then b else (f (xSTR + t - xSTR)).1) = (f t).1 := by
      rw [if_neg (by unfold xSTR xSCR; omega), Nat.add_sub_cancel_left]
    have h27 : t < 27 := by
      have := (List.getElem?_eq_some_iff.mp ht).1
      rw [← g_tx]
      exact this
    have etx : xTX.getD t [] = tx := by
      rw [List.getD_eq_getElem?_getD]
      have ht' : xTX[t]? = some tx := ht
      rw [ht']
      rfl
    obtain ⟨-, a1, a2, a3, a4⟩ := hf t h27
    show va_O _ (if xSTR + t = xSCR then b else (f (xSTR + t - xSTR)).1) _ _ _ ∧ va_OF _ _ _ _ (if xSTR + t = xSCR then b else (f (xSTR + t - xSTR)).1) _ _ _ ∧ va_OF _ _ _ _ (if xSTR + t = xSCR then b else (f (xSTR + t - xSTR)).1) _ _ _ ∧ _
    rw [e]
    unfold xLn1 at a4
    rw [etx] at a4
    have a5 := g_asc t h27
    rw [etx] at a5
    exact ⟨a1, a2, a3, a4, asc_at a5.1, a5.2⟩
  · exact ⟨va_Zof (hts _ (by decide +kernel)) (hts _ (by decide +kernel)) (va_eqi (hs _ (by decide +kernel))) hA, va_Zqof (hts _ (by decide +kernel)) (hts _ (by decide +kernel)) (hs _ (by decide +kernel)) hA, va_Zof (hts _ (by decide +kernel)) (hts _ (by decide +kernel)) (va_eqi (hs _ (by decide +kernel))) hA, va_Zof (hts _ (by decide +kernel)) (hts _ (by decide +kernel)) (va_eqi (hs _ (by decide +kernel))) hA, va_Zof (hts _ (by decide +kernel)) (hts _ (by decide +kernel)) (va_eqi (hs _ (by decide +kernel))) hA, vx_Zqof (hts _ (by decide +kernel)) (hts _ (by decide +kernel)) (hs _ (by decide +kernel)) hA, vx_Zqof (hts _ (by decide +kernel)) (hts _ (by decide +kernel)) (hs _ (by decide +kernel)) hA, fun w hw => va_Nw.of (xTl_on w hw) (hts w (xTl_in w hw))⟩
end GV
