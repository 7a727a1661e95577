/-! AT FIRST: the reference's constructor, what both hold -/
def h00 : HV := nearH D0.1
def X00 : XS := ([], h00, [], startS 0 (fun _ => 0), (0, fun _ => startS 0 (fun _ => 0)), (0, fun _ _ => 0), fun _ => none, lv0)
theorem h00_N : hN h00 = 0 := rfl
theorem h00_P : hP h00 = 0 := rfl
theorem h00_L : hLasts h00 = 6 := rfl
theorem h00_c : hCode h00 = [] := rfl
theorem okX_0 : okX 0 X00 := by
  refine ⟨okH_near okD_0.1, nearOK_H okD_0, okS_start (h := h00) (by decide) (by decide), fun k hk => ?_, Nat.zero_le _, fun k hk => absurd hk (Nat.not_lt_zero _), ⟨Nat.zero_le _, fun k hk => absurd hk (Nat.not_lt_zero _)⟩, fun m x hm hx => (by cases hx), ⟨Nat.zero_le _, fun k hk => absurd hk (Nat.not_lt_zero _)⟩, fun q hq => absurd hq List.not_mem_nil⟩
  obtain ⟨k0, k5, -⟩ := nI_lt5 hk (Nat.le_refl 5)
  have e2 : poS (XV X00) (nI k) = if nI k < nI 0 then 0 else 0 := if_pos ⟨k0, k5⟩
  rw [e2]
  split <;> exact ⟨Int32.le_refl _, by decide⟩
section VI
variable {e : Bool × Int32 × (Int32 → Int32)} {d : Nat} {F F' : Nat → Nat → Int32} {I I' : Nat → Int32 → Int32} {J J' : Nat → Int32 → Int64} {P : Nat → Nat → Option Nat} {Q : Nat → Int32 → Option Nat} {B : B4} {l : List (Nat × Nat)}
theorem F0v_z {c k : Nat} (h : ¬ ((c = 5 ∨ c = 17) ∧ k = 11)) : F0v c k = 0 := by
  unfold F0v
  split
  · rename_i q
    show (if k = 11 then (6 : Int32) else 0) = 0
    rw [if_neg (fun z => h ⟨q, z⟩)]
  · rfl
theorem fl_c {c m : Nat} (h : fl c = some m) {i : Int32} : I0v c i = if 0 ≤ i ∧ i < nI m then -1 else 0 := by
  unfold I0v
  rw [h]
theorem clR_0 (hF : ∀ c, c < 226 → F c = F0v c) (hI : ∀ c, c < 226 → I c = I0v c) : clR F I J 5 17 29 33 X00 := by
  have f : ∀ c k, c < 226 → ¬ ((c = 5 ∨ c = 17) ∧ k = 11) → F c k = 0 := fun c k hc h => by rw [hF c hc, F0v_z h]
  have iz : ∀ c i, c < 226 → fl c = none → I c i = 0 := fun c i hc h => by rw [hI c hc, fl_eq h]; rfl
  refine ⟨Or.inl ⟨rfl, rfl⟩, Or.inl ⟨rfl, rfl⟩, tapC_nil (f 2 1 (by decide) (by decide)), ?_, ?_, ?_, ?_, ?_, ?_, linC_0 (Or.inl rfl) (f 29 3 (by decide) (by decide))⟩
  · refine ⟨Or.inl rfl, f 5 9 (by decide) (by decide), by decide, f 5 10 (by decide) (by decide), by decide, ?_, fun s s0 s1 => absurd (Int32.lt_of_le_of_lt s0 s1) (by decide), fun s s0 s1 => absurd (Int32.lt_of_le_of_lt s0 s1) (by decide), f 14 2 (by decide) (by decide), by decide, fun k o h => (by cases h), fun h => absurd rfl h⟩
    rw [hF 5 (by decide)]
    rfl
  · refine ⟨f 5 9 (by decide) (by decide), by decide, f 5 10 (by decide) (by decide), by decide, fun x _ => ⟨?_, fun z => absurd z.1 (show ¬ (0 : Int32) ≤ -1 by decide)⟩⟩
    rfl
  · show svC F I 37 = startS 0 (fun _ => 0)
    unfold svC startS
    refine Prod.ext (f 37 5 (by decide) (by decide)) ?_
    funext k i
    match k with
    | 0 =>
      show cut 7 (I 38) i = cut 7 (fun _ => -1) i
      unfold cut
      by_cases h : 0 ≤ i ∧ i < 7
      · rw [if_pos h, if_pos h, hI 38 (by decide), fl_c (m := 7) (by decide)]
        exact if_pos h
      · rw [if_neg h, if_neg h]
    | 1 =>
      show cut 7 (I 39) i = 0
      unfold cut
      rw [iz 39 i (by decide) (by decide)]
      split <;> rfl
    | 2 =>
      show cut 5 (I 41) i = cut 5 (fun p => if p < nI 0 then 0 else 0) i
      unfold cut
      rw [iz 41 i (by decide) (by decide)]
      split
      · show (0 : Int32) = if i < nI 0 then 0 else 0
        split <;> rfl
      · rfl
    | 3 =>
      show cut 5 (I 42) i = cut 5 (fun _ => -1) i
      unfold cut
      by_cases h : 0 ≤ i ∧ i < 5
      · rw [if_pos h, if_pos h, hI 42 (by decide), fl_c (m := 5) (by decide)]
        exact if_pos h
      · rw [if_neg h, if_neg h]
    | 4 =>
      show cut 7 (I 40) i = cut 7 (fun _ => -1) i
      unfold cut
      by_cases h : 0 ≤ i ∧ i < 7
      · rw [if_pos h, if_pos h, hI 40 (by decide), fl_c (m := 7) (by decide)]
        exact if_pos h
      · rw [if_neg h, if_neg h]
    | k + 5 => rfl
  · exact ⟨0, by decide, f 44 4 (by decide) (by decide), f 44 5 (by decide) (by decide), by decide, fun k hk => absurd hk (Nat.not_lt_zero _)⟩
  · exact ⟨f 205 3 (by decide) (by decide), by decide, fun k hk => absurd hk (Nat.not_lt_zero _), fun k hk => Or.inl (iz 208 _ (by decide) (by decide))⟩
  · exact fun m hm => ⟨iz 48 _ (by decide) (by decide), fun x hx => (by cases hx)⟩
/-- the reference's words, as its constructor lays them -/
def Jw : Nat → Int32 → Int64 := (xv (xv (xv (xv (xv (xv (xv (xv (xv (xv (xv (xv (xv (xv (xv (xv (xv (xv (xv (xv (xv (xv (xv (xv (fun _ _ => 0) 231 0 969309) 231 1 25220) 231 2 57) 231 3 1119812451) 231 4 37414541655) 231 5 8774) 231 6 22567355) 231 7 43361022) 231 8 16490) 231 9 26364) 231 10 924783) 231 11 14032995) 231 12 426554) 231 13 30596128) 231 14 609378) 231 15 913842) 231 16 7797524536) 231 17 19741) 231 18 1891) 231 19 573) 231 20 12164276) 231 21 8762515035) 231 22 913652) 231 23 204726)
theorem Jw_ok : ∀ x, x < 24 → Jw 231 (nI x) = p37 (wdx x) 0 := by decide +kernel
theorem Jw_ne {c : Nat} (h : c ≠ 231) : Jw c = zJ := by
  funext i
  unfold Jw xv
  rw [if_neg (fun q => h q.1), if_neg (fun q => h q.1), if_neg (fun q => h q.1), if_neg (fun q => h q.1), if_neg (fun q => h q.1), if_neg (fun q => h q.1), if_neg (fun q => h q.1), if_neg (fun q => h q.1), if_neg (fun q => h q.1), if_neg (fun q => h q.1), if_neg (fun q => h q.1), if_neg (fun q => h q.1), if_neg (fun q => h q.1), if_neg (fun q => h q.1), if_neg (fun q => h q.1), if_neg (fun q => h q.1), if_neg (fun q => h q.1), if_neg (fun q => h q.1), if_neg (fun q => h q.1), if_neg (fun q => h q.1), if_neg (fun q => h q.1), if_neg (fun q => h q.1), if_neg (fun q => h q.1), if_neg (fun q => h q.1)]
  rfl
theorem rfR_0 (hF : ∀ k, F 226 k = 0) (hJ : J 231 = Jw 231) (h232 : ∀ x, I 232 x = if 0 ≤ x ∧ x < 40 then (if x = 3 then -1 else if x = 2 then 6 else 0) else 0) (h244 : ∀ k, k < 7 → I 244 (nI k) = 0) (hv : svR (I 242) 0 0 = startS 0 (fun _ => 0)) (h25 : I 242 25 = 0) (h239 : I 239 0 = 0) (h243 : ∀ k, k < 4 → I 243 (nI k) = 0) : rfR F I J X00 := by
  have z : ∀ x, x ≠ 3 → x ≠ 2 → I 232 x = 0 := fun x h3 h2 => by
    rw [h232, if_neg h3, if_neg h2]
    split <;> rfl
  have e3 : I 232 3 = -1 := by rw [h232]; rfl
  have en : ∀ s, hNear h00 s = 0 := fun s => by
    show nearR (hRow D0.1) (hAt D0.1) 0 s = 0
    unfold nearR
    split <;> rfl
  refine ⟨tapR_nil (hF 2), ⟨z 0 (by decide) (by decide), by decide, z 1 (by decide) (by decide), by decide, by rw [h232]; rfl, fun s s0 s7 => ?_, fun p p0 p5 => ?_, Or.inl ⟨rfl, by rw [e3]; decide⟩⟩, fun s s0 s7 => ?_, ⟨hF 18, by decide, fun k t v h => (by cases h)⟩, hv, ⟨hF 25, by decide, fun k hk => absurd hk (Nat.not_lt_zero _)⟩, ⟨h25, fun k hk => absurd hk (Nat.not_lt_zero _)⟩, ⟨h239, fun k hk => absurd hk (Nat.not_lt_zero _)⟩, fun m hm => ⟨h243 m hm, fun x hx => (by cases hx)⟩, fun x hx => by rw [hJ]; exact Jw_ok x hx, by rw [e3]; decide⟩
  · obtain ⟨k, hk, rfl⟩ := nI_ex (P := 7) (by decide) s0 s7
    have eN : hNear (XH X00) (nI k) = 0 := en _
    rw [eN]
    exact ⟨z _ (by grind) (by grind), h244 k hk, by decide, by decide⟩
  · exact ⟨z _ (by grind) (by grind), z _ (by grind) (by grind), z _ (by grind) (by grind)⟩
  · exact z _ (by grind) (by grind)
end VI
