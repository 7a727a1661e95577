/-! THE LAW: rests, where the class throws -/
def psQ (q0 q1 q2 q3 : Bool) : List Int32 := (if q0 then [0] else []) ++ (if q1 then [1] else []) ++ (if q2 then [2] else []) ++ (if q3 then [3] else [])
def rkQ (q0 q1 q2 q3 : Bool) (u : Int32) : Int32 := if q3 = true ∧ 0 + (if q0 then (1 : Int32) else 0) + (if q1 then 1 else 0) + (if q2 then 1 else 0) = u then 3 else if q2 = true ∧ 0 + (if q0 then (1 : Int32) else 0) + (if q1 then 1 else 0) = u then 2 else if q1 = true ∧ 0 + (if q0 then (1 : Int32) else 0) = u then 1 else if q0 = true ∧ 0 = u then 0 else -1
theorem psQ_n (q0 q1 q2 q3 : Bool) : nI (psQ q0 q1 q2 q3).length = 0 + (if q0 then (1 : Int32) else 0) + (if q1 then 1 else 0) + (if q2 then 1 else 0) + (if q3 then 1 else 0) := by
  revert q0 q1 q2 q3
  decide
theorem psQ_4 (q0 q1 q2 q3 : Bool) : (psQ q0 q1 q2 q3).length ≤ 4 := by
  revert q0 q1 q2 q3
  decide
theorem psQ_at {q0 q1 q2 q3 : Bool} {n : Nat} (hn : n < 2 ^ 31) : (psQ q0 q1 q2 q3)[n]? = if rkQ q0 q1 q2 q3 (nI n) < 0 then none else some (rkQ q0 q1 q2 q3 (nI n)) := by
  by_cases h : n < 4
  · have : n = 0 ∨ n = 1 ∨ n = 2 ∨ n = 3 := by omega
    rcases this with rfl | rfl | rfl | rfl <;> (revert q0 q1 q2 q3; decide)
  · have h4 := psQ_4 q0 q1 q2 q3
    rw [List.getElem?_eq_none (by omega)]
    have n0 : nI n ≠ nI 0 := fun z => by
      have w := congrArg Int32.toNatClampNeg z
      rw [nI_clamp hn, nI_clamp (by omega)] at w
      omega
    have n1 : nI n ≠ nI 1 := fun z => by
      have w := congrArg Int32.toNatClampNeg z
      rw [nI_clamp hn, nI_clamp (by omega)] at w
      omega
    have n2 : nI n ≠ nI 2 := fun z => by
      have w := congrArg Int32.toNatClampNeg z
      rw [nI_clamp hn, nI_clamp (by omega)] at w
      omega
    have n3 : nI n ≠ nI 3 := fun z => by
      have w := congrArg Int32.toNatClampNeg z
      rw [nI_clamp hn, nI_clamp (by omega)] at w
      omega
    have e : rkQ q0 q1 q2 q3 (nI n) = -1 := by
      generalize nI n = u at n0 n1 n2 n3
      have n0 : ¬ (0 : Int32) = u := fun z => n0 z.symm
      have n1 : ¬ (1 : Int32) = u := fun z => n1 z.symm
      have n2 : ¬ (2 : Int32) = u := fun z => n2 z.symm
      have n3 : ¬ (3 : Int32) = u := fun z => n3 z.symm
      have a : ¬ (0 + 1 : Int32) = u := n1
      have b : ¬ (0 + 0 : Int32) = u := n0
      unfold rkQ
      rw [if_neg, if_neg, if_neg, if_neg]
      · exact fun z => n0 z.2
      · rintro ⟨-, z⟩
        cases q0
        · exact b z
        · exact a z
      · rintro ⟨-, z⟩
        cases q0 <;> cases q1
        · exact n0 z
        · exact n1 z
        · exact n1 z
        · exact n2 z
      · rintro ⟨-, z⟩
        cases q0 <;> cases q1 <;> cases q2
        · exact n0 z
        · exact n1 z
        · exact n1 z
        · exact n2 z
        · exact n1 z
        · exact n2 z
        · exact n2 z
        · exact n3 z
    rw [e]
    rfl
theorem rsK_4 {l s b u : Int32} : rsK l s b u 4 = (0 + (if rsQ l s b 0 0 then (1 : Int32) else 0) + (if rsQ l s b 0 1 then 1 else 0) + (if rsQ l s b 1 0 then 1 else 0) + (if rsQ l s b 1 1 then 1 else 0), rkQ (rsQ l s b 0 0) (rsQ l s b 0 1) (rsQ l s b 1 0) (rsQ l s b 1 1) u) := rfl
theorem xrests_eq (l s b u : Int32) : xrests l s b u = rsA l s b u := by
  have g : ∀ x y : Bool, (if x then (if y then -l else s) else if y then b else 0) = getS (if x then 1 else 0) (if y then 1 else 0) l s b := fun x y => by cases x <;> cases y <;> rfl
  have q : ∀ x y : Bool, (decide ((if (!x) then (if y then -l else s) else if y then b else 0) ≤ (if x then (if y then -l else s) else if y then b else 0)) && decide ((if (!y) then (if x then -l else s) else if x then b else 0) ≤ (if y then (if x then -l else s) else if x then b else 0))) = rsQ l s b (if x then 1 else 0) (if y then 1 else 0) := fun x y => by
    rw [g, g, g, g]
    unfold rsQ
    cases x <;> cases y <;> rfl
  have eX : xrests l s b u = if (decide (0 ≤ l) && decide (l ≤ 9)) && (decide (0 ≤ s) && decide (s ≤ 9)) && (decide (0 ≤ b) && decide (b ≤ 9)) then (if u = -1 then some (nI (psQ (rsQ l s b 0 0) (rsQ l s b 0 1) (rsQ l s b 1 0) (rsQ l s b 1 1)).length) else if u < 0 then none else (psQ (rsQ l s b 0 0) (rsQ l s b 0 1) (rsQ l s b 1 0) (rsQ l s b 1 1))[u.toNatClampNeg]?) else none := by
    unfold xrests psQ
    have q00 := q false false
    have q01 := q false true
    have q10 := q true false
    have q11 := q true true
    dsimp only at q00 q01 q10 q11 ⊢
    rw [show (rsQ l s b 0 0) = _ from q00.symm, show (rsQ l s b 0 1) = _ from q01.symm, show (rsQ l s b 1 0) = _ from q10.symm, show (rsQ l s b 1 1) = _ from q11.symm]
  rw [eX]
  unfold rsA
  rw [rsK_4]
  generalize rsQ l s b 0 0 = q0
  generalize rsQ l s b 0 1 = q1
  generalize rsQ l s b 1 0 = q2
  generalize rsQ l s b 1 1 = q3
  dsimp only
  by_cases c : 0 ≤ l ∧ l ≤ 9 ∧ 0 ≤ s ∧ s ≤ 9 ∧ 0 ≤ b ∧ b ≤ 9
  · obtain ⟨c1, c2, c3, c4, c5, c6⟩ := c
    rw [if_pos (by simp [c1, c2, c3, c4, c5, c6])]
    by_cases hu : u = -1
    · subst hu
      rw [if_pos rfl, if_pos ⟨c1, c2, c3, c4, c5, c6, by decide⟩, if_pos (by decide), psQ_n]
    · rw [if_neg hu]
      by_cases h0 : u < 0
      · rw [if_pos h0, if_neg]
        rintro ⟨-, -, -, -, -, -, z⟩
        exact hu (by grind)
      · obtain ⟨n, hn, rfl⟩ := nI_of (x := u) (by grind)
        rw [if_neg h0, if_pos ⟨c1, c2, c3, c4, c5, c6, by grind⟩, if_neg h0, nI_clamp hn, psQ_at hn]
  · rw [if_neg, if_neg]
    · rintro ⟨c1, c2, c3, c4, c5, c6, -⟩
      exact c ⟨c1, c2, c3, c4, c5, c6⟩
    · intro z
      simp only [Bool.and_eq_true, decide_eq_true_eq] at z
      exact c ⟨z.1.1.1, z.1.1.2, z.1.2.1, z.1.2.2, z.2.1, z.2.2⟩
section UG
variable {e : Bool × Int32 × (Int32 → Int32)} {d t : Nat} {K : List xA} {ix : Nat} {L : xL} {st : List Value} {r : Option Value → xM → Prop} {F : Nat → Nat → Int32} {I : Nat → Int32 → Int32} {G : Nat → Nat → Int64} {J : Nat → Int32 → Int64} {ha hb ea eb : Nat}
theorem z_rests {p0 p1 p2 p3 : Int32} (hp : e.1 = true) (h0 : 0 ≤ F 999 0) (h9 : F 999 0 < 900) (hw : Nat.ble (xwt st) 3 = true) (k : X e d K (ix + 1) L (.int (if (rsA p0 p1 p2 p3).isSome then 0 else 1) :: st) (xu F 999 0 (F 999 0 + 1), I, G, (match rsA p0 p1 p2 p3 with | none => J | some v => xv J 249 0 v.toInt64), P0 ha hb ea eb, Q0, S0) r) : Z (.inr (.inr (66, []))) e d K ix L (.ref 249 :: .int p3 :: .int p2 :: .int p1 :: .int p0 :: .ref 0 :: st) (F, I, G, J, P0 ha hb ea eb, Q0, S0) r := fun hk => X.of_step hk rfl rfl (by
  have h1 : xwt (.ref 249 :: .int p3 :: .int p2 :: .int p1 :: .int p0 :: .ref 0 :: st) ≤ 9 := by
    have h3 : xwt st ≤ 3 := Nat.le_of_ble_eq_true hw
    have e6 : xwt (.ref 249 :: .int p3 :: .int p2 :: .int p1 :: .int p0 :: .ref 0 :: st) = 1 + (1 + (1 + (1 + (1 + (1 + xwt st))))) := rfl
    omega
  have h2 : xis S0 0 21 = true := by decide
  have h3 : xin S0 249 1 0 = true := by decide +kernel
  have hE := xrests_eq p0 p1 p2 p3
  simp only [xstep, xjmp, xinc, xhO, h1, hp, h2, h3, h0, h9, true_and, and_self, true_or, if_true, hE]
  cases rsA p0 p1 p2 p3 <;> rfl) k
theorem k_thrown : A e 0 M_X12_thrown [.ref 226] (F, I, G, J, P0 ha hb ea eb, Q0, S0) (.int (F 226 0)) := by
  unfold A Y
  iterate 2 ((refine X.f rfl ?_; first | refine z_iload rfl ?_ | refine z_aload rfl ?_ | refine z_push ?_ | refine z_istore rfl ?_ | refine z_astore rfl ?_ | refine z_gP rfl rfl ?_ | refine z_gI rfl ?_ | refine z_gotoF rfl ?_ | refine z_iadd ?_ | refine z_isub ?_ | refine z_imul ?_ | refine z_iand ?_ | refine z_ior ?_ | refine z_ishl ?_ | refine z_ishr ?_ | refine z_ixor ?_ | refine z_ineg ?_ | refine z_pI rfl ?_ | refine z_inc80 rfl ?_ | refine z_inc81 rfl ?_ | refine z_dup ?_ | refine z_dupr ?_ | refine z_dup2 ?_ | refine z_pop ?_ | refine z_idiv (by decide) ?_ | refine z_irem (by decide) ?_ | refine z_iaload rfl (by first | with_reducible assumption | decide | grind) (by first | with_reducible assumption | decide | grind) (by decide) ?_ | refine z_iastore rfl (by first | with_reducible assumption | decide | grind) (by first | with_reducible assumption | decide | grind) (by decide) ?_))
  exact x_ret rfl rfl ⟨rfl, rfl⟩
end UG
