/-! WHAT BOTH SIDES READ: the draft stays sound -/
section RH
variable {T : List Int32} {D : DV} {j : Nat}
theorem okD_0 : okD D0 := by
  refine ⟨⟨by decide, by decide, by decide, fun s s0 s1 => absurd s0 (Int32.not_le.mpr s1), fun s s0 s1 => absurd s0 (Int32.not_le.mpr s1), fun p q hp hq h => ?_, fun _ _ => rfl, by decide, fun h => absurd rfl h, fun o h => absurd h List.not_mem_nil⟩, fun q h => absurd h List.not_mem_nil, fun _ => rfl, fun h => absurd h Bool.false_ne_true⟩
  have : hFoes D0.1 (nI p) = 0 := rfl
  rw [this, tb0] at h
  exact absurd h Bool.false_ne_true
theorem okNd_snoc {L : ND} {x : List Int32} {v N P N' P' : Nat} (h : ∀ q ∈ L, q.2 < N ∨ (20 ≤ q.2 ∧ q.2 < 20 + P)) (hN : N ≤ N') (hP : P ≤ P') (hv : v < N' ∨ (20 ≤ v ∧ v < 20 + P')) : ∀ q ∈ L ++ [(x, v)], q.2 < N' ∨ (20 ≤ q.2 ∧ q.2 < 20 + P') := by
  intro q hq
  rcases List.mem_append.mp hq with r | r
  · rcases h q r with z | z
    · exact Or.inl (by omega)
    · exact Or.inr (by omega)
  · rw [List.mem_singleton] at r
    rw [r]
    exact hv
theorem seatF_0 (hT : T.length ≤ 1000) (h7 : hN D.1 ≤ 7) (h : seatF T j D = 0) : hN D.1 < 7 ∧ nnE T D.2.1 (j + 1) = 0 ∧ afE T 1 0 4 (j + 2) = 0 ∧ afE T 2 0 9 (j + 4) = 0 ∧ hadQ D.1 (numA T (j + 3)) (numA T (j + 5)) (hN D.1) = false := by
  unfold seatF at h
  split at h
  · exact absurd h (wr_gt2 hT (by decide) (by decide) _)
  split at h
  · contradiction
  split at h
  · contradiction
  split at h
  · contradiction
  split at h
  · exact absurd h (wr_gt2 hT (by decide) (by decide) _)
  · rename_i a b c d e
    exact ⟨by omega, Classical.not_not.mp b, Classical.not_not.mp c, Classical.not_not.mp d, by simpa using e⟩
theorem persF_0 (hT : T.length ≤ 1000) (h7 : hP D.1 ≤ 5) (h : persF T j D = 0) : hP D.1 < 5 ∧ nnE T D.2.1 (j + 1) = 0 ∧ onE T 13 4 (j + 2) = 0 ∧ afE T 4 0 9 (j + 3) = 0 := by
  unfold persF at h
  split at h
  · exact absurd h (wr_gt2 hT (by decide) (by decide) _)
  split at h
  · contradiction
  split at h
  · contradiction
  · rename_i a b c
    exact ⟨by omega, Classical.not_not.mp b, Classical.not_not.mp c, h⟩
theorem foeF_0 (h : foeF T j D = 0) : toE T D.2.1 20 0 (j + 1) = 0 ∧ toE T D.2.1 20 (foeB T j D) (j + 2) = 0 := by
  unfold foeF at h
  split at h
  · contradiction
  · rename_i a
    exact ⟨Classical.not_not.mp a, h⟩
theorem nuE_0 (hT : T.length ≤ 1000) {lo hi : Int32} (h : nuE T lo hi j = 0) : isU T j = true ∧ lo ≤ numA T j ∧ numA T j ≤ hi := by
  unfold nuE at h
  split at h
  · rename_i h2
    split at h
    · exact absurd h (wr_gt2 hT (by decide) (by decide) _)
    · rename_i h3
      exact ⟨h2, Int32.not_lt.mp (fun q => h3 (Or.inl q)), Int32.not_lt.mp (fun q => h3 (Or.inr q))⟩
  · exact absurd h (wr_gt2 hT (by decide) (by decide) _)
theorem okD.seat (hT : T.length ≤ 1000) (hD : okD D) (h : seatF T j D = 0) : okD (seatD T j D) := by
  obtain ⟨⟨k1, k2, k3, k4, k5, k6, k7, k8⟩, k9, k10, k11⟩ := hD
  obtain ⟨a1, a2, a3, a4, a5⟩ := seatF_0 hT k1 h
  obtain ⟨-, -, -, r0, r1⟩ := afE_lt hT a3
  obtain ⟨-, -, -, t0, t1⟩ := afE_lt hT a4
  have eF : ∀ p, hFoes (seatD T j D).1 p = hFoes D.1 p := fun p => by
    show (if (4 : Nat) = 5 ∧ p = nI (hN D.1) then numA T (j + 5) else if (4 : Nat) = 0 ∧ p = nI (hN D.1) then numA T (j + 3) else hFoes D.1 p) = _
    rw [if_neg (fun q => absurd q.1 (by decide)), if_neg (fun q => absurd q.1 (by decide))]
  have eK : ∀ p, hKind (seatD T j D).1 p = hKind D.1 p := fun p => by
    show (if (2 : Nat) = 5 ∧ p = nI (hN D.1) then numA T (j + 5) else if (2 : Nat) = 0 ∧ p = nI (hN D.1) then numA T (j + 3) else hKind D.1 p) = _
    rw [if_neg (fun q => absurd q.1 (by decide)), if_neg (fun q => absurd q.1 (by decide))]
  have eT : ∀ p, hTold (seatD T j D).1 p = hTold D.1 p := fun p => by
    show (if (3 : Nat) = 5 ∧ p = nI (hN D.1) then numA T (j + 5) else if (3 : Nat) = 0 ∧ p = nI (hN D.1) then numA T (j + 3) else hTold D.1 p) = _
    rw [if_neg (fun q => absurd q.1 (by decide)), if_neg (fun q => absurd q.1 (by decide))]
  refine ⟨⟨a1, k2, k3, fun s s0 s1 => ?_, fun p p0 p1 => by rw [eK, eT]; exact k5 p p0 p1, fun p q hp hq hh => by rw [eF] at hh ⊢; exact k6 p q hp hq hh, fun p hp => by rw [eF]; exact k7 p hp, k8⟩, okNd_snoc k9 (Nat.le_succ _) (Nat.le_refl _) (Or.inl (Nat.lt_succ_self _)), k10, k11⟩
  show 0 ≤ (if (0 : Nat) = 5 ∧ s = nI (hN D.1) then numA T (j + 5) else if (0 : Nat) = 0 ∧ s = nI (hN D.1) then numA T (j + 3) else hRow D.1 s) ∧ (if (0 : Nat) = 5 ∧ s = nI (hN D.1) then numA T (j + 5) else if (0 : Nat) = 0 ∧ s = nI (hN D.1) then numA T (j + 3) else hRow D.1 s) ≤ 4 ∧ 0 ≤ (if (5 : Nat) = 5 ∧ s = nI (hN D.1) then numA T (j + 5) else if (5 : Nat) = 0 ∧ s = nI (hN D.1) then numA T (j + 3) else hAt D.1 s) ∧ (if (5 : Nat) = 5 ∧ s = nI (hN D.1) then numA T (j + 5) else if (5 : Nat) = 0 ∧ s = nI (hN D.1) then numA T (j + 3) else hAt D.1 s) ≤ 9
  rw [if_neg (c := (0 : Nat) = 5 ∧ s = nI (hN D.1)) (fun q => absurd q.1 (by decide)), if_neg (c := (5 : Nat) = 0 ∧ s = nI (hN D.1)) (fun q => absurd q.1 (by decide))]
  by_cases q : s = nI (hN D.1)
  · rw [if_pos ⟨rfl, q⟩, if_pos ⟨rfl, q⟩]
    exact ⟨r0, r1, t0, t1⟩
  · rw [if_neg (fun z => q z.2), if_neg (fun z => q z.2)]
    have s1' : s < nI (hN D.1 + 1) := s1
    rcases (nI_lts (l := s) (i := hN D.1) (by omega)).mp ⟨s0, s1'⟩ with z | z
    · exact absurd z q
    · exact k4 s s0 z.2
theorem okD.pers (hT : T.length ≤ 1000) (hD : okD D) (h : persF T j D = 0) : okD (persD T j D) := by
  obtain ⟨⟨k1, k2, k3, k4, k5, k6, k7, k8⟩, k9, k10, k11⟩ := hD
  obtain ⟨a1, a2, a3, a4⟩ := persF_0 hT k2 h
  obtain ⟨-, kk, kk1, kk2⟩ := onE_lt (j := j + 2) hT (by omega) a3
  obtain ⟨-, -, -, t0, t1⟩ := afE_lt hT a4
  have eF : ∀ p, hFoes (persD T j D).1 p = hFoes D.1 p := fun p => by
    show (if (4 : Nat) = 3 ∧ p = nI (hP D.1) then numA T (j + 4) else if (4 : Nat) = 2 ∧ p = nI (hP D.1) then onK T (j + 2) 13 4 else hFoes D.1 p) = _
    rw [if_neg (fun q => absurd q.1 (by decide)), if_neg (fun q => absurd q.1 (by decide))]
  have eR : ∀ p, hRow (persD T j D).1 p = hRow D.1 p := fun p => by
    show (if (0 : Nat) = 3 ∧ p = nI (hP D.1) then numA T (j + 4) else if (0 : Nat) = 2 ∧ p = nI (hP D.1) then onK T (j + 2) 13 4 else hRow D.1 p) = _
    rw [if_neg (fun q => absurd q.1 (by decide)), if_neg (fun q => absurd q.1 (by decide))]
  have eA : ∀ p, hAt (persD T j D).1 p = hAt D.1 p := fun p => by
    show (if (5 : Nat) = 3 ∧ p = nI (hP D.1) then numA T (j + 4) else if (5 : Nat) = 2 ∧ p = nI (hP D.1) then onK T (j + 2) 13 4 else hAt D.1 p) = _
    rw [if_neg (fun q => absurd q.1 (by decide)), if_neg (fun q => absurd q.1 (by decide))]
  have hlt : nI (hP D.1) < nI (hP D.1 + 1) := (nI_ltI (by omega) (by omega)).mpr (Nat.lt_succ_self _)
  refine ⟨⟨k1, a1, k3, fun s s0 s1 => by rw [eR, eA]; exact k4 s s0 s1, fun p p0 p1 => ?_, fun p q hp hq hh => ?_, fun p hp => ?_, k8⟩, okNd_snoc k9 (Nat.le_refl _) (Nat.le_succ _) (Or.inr ⟨by omega, by show 20 + hP D.1 < 20 + (hP D.1 + 1); omega⟩), k10, k11⟩
  · show 0 ≤ (if (2 : Nat) = 3 ∧ p = nI (hP D.1) then numA T (j + 4) else if (2 : Nat) = 2 ∧ p = nI (hP D.1) then onK T (j + 2) 13 4 else hKind D.1 p) ∧ (if (2 : Nat) = 3 ∧ p = nI (hP D.1) then numA T (j + 4) else if (2 : Nat) = 2 ∧ p = nI (hP D.1) then onK T (j + 2) 13 4 else hKind D.1 p) ≤ 3 ∧ 0 ≤ (if (3 : Nat) = 3 ∧ p = nI (hP D.1) then numA T (j + 4) else if (3 : Nat) = 2 ∧ p = nI (hP D.1) then onK T (j + 2) 13 4 else hTold D.1 p) ∧ (if (3 : Nat) = 3 ∧ p = nI (hP D.1) then numA T (j + 4) else if (3 : Nat) = 2 ∧ p = nI (hP D.1) then onK T (j + 2) 13 4 else hTold D.1 p) ≤ 9
    rw [if_neg (c := (2 : Nat) = 3 ∧ p = nI (hP D.1)) (fun q => absurd q.1 (by decide)), if_neg (c := (3 : Nat) = 2 ∧ p = nI (hP D.1)) (fun q => absurd q.1 (by decide))]
    by_cases q : p = nI (hP D.1)
    · rw [if_pos ⟨rfl, q⟩, if_pos ⟨rfl, q⟩, kk2]
      exact ⟨nI_pos' (by omega), (nI_leI (b := 3) (by omega) (by omega)).mpr (by omega), t0, t1⟩
    · rw [if_neg (fun z => q z.2), if_neg (fun z => q z.2)]
      have s1' : p < nI (hP D.1 + 1) := p1
      rcases (nI_lts (l := p) (i := hP D.1) (by omega)).mp ⟨p0, s1'⟩ with z | z
      · exact absurd z q
      · exact k5 p p0 z.2
  · rw [eF] at hh ⊢
    obtain ⟨z1, z2, z3, z4⟩ := k6 p q hp hq hh
    exact ⟨Nat.lt_succ_of_lt z1, Nat.lt_succ_of_lt z2, z3, z4⟩
  · rw [eF]
    refine k7 p (fun q => hp ⟨q.1, ?_⟩)
    show p < nI (hP D.1 + 1)
    grind
theorem okD.foe (hT : T.length ≤ 1000) (hD : okD D) (h : foeF T j D = 0) : okD (foeD T j D) := by
  obtain ⟨⟨k1, k2, k3, k4, k5, k6, k7, k8⟩, k9, k10, k11⟩ := hD
  obtain ⟨a1, a2⟩ := foeF_0 h
  obtain ⟨-, -, ka, ka1, ka2, -⟩ := toE_per hT k1 k2 k9 a1
  obtain ⟨-, b0, kb, kb1, kb2, -⟩ := toE_per hT k1 k2 k9 a2
  unfold foeB at b0
  have eD : foeD T j D = (foeD1 (foeD1 D.1 (nI ka) (nI kb)) (nI kb) (nI ka), D.2) := by
    show (foeD1 (foeD1 D.1 (toV T D.2.1 20 (j + 1)) (toV T D.2.1 20 (j + 2))) (toV T D.2.1 20 (j + 2)) (toV T D.2.1 20 (j + 1)), D.2) = _
    rw [ka2, kb2]
  rw [eD]
  rw [ka2, kb2, tb_or (by omega), Bool.or_eq_false_iff, tb_shl (by omega) (by omega)] at b0
  have hne : ka ≠ kb := of_decide_eq_false b0.2
  have hne2 : nI kb ≠ nI ka := nI_ne (by omega) (by omega) (Ne.symm hne)
  have eF : ∀ p, hFoes (foeD1 (foeD1 D.1 (nI ka) (nI kb)) (nI kb) (nI ka)) p = if p = nI kb then hFoes D.1 (nI kb) ||| (1 <<< (nI ka &&& 31)) else if p = nI ka then hFoes D.1 (nI ka) ||| (1 <<< (nI kb &&& 31)) else hFoes D.1 p := fun p => by
    rw [foeD1_at, foeD1_at, foeD1_at, if_neg hne2]
  have tF : ∀ p q : Nat, p < 32 → q < 32 → (tb (hFoes (foeD1 (foeD1 D.1 (nI ka) (nI kb)) (nI kb) (nI ka)) (nI p)) (nI q) = true ↔ tb (hFoes D.1 (nI p)) (nI q) = true ∨ (p = ka ∧ q = kb) ∨ (p = kb ∧ q = ka)) := by
    intro p q hp hq
    rw [eF]
    by_cases h1 : p = kb
    · subst h1
      rw [if_pos rfl, tb_or hq, Bool.or_eq_true, tb_shl (by omega) hq, decide_eq_true_iff]
      constructor
      · rintro (z | z)
        · exact Or.inl z
        · exact Or.inr (Or.inr ⟨rfl, z.symm⟩)
      · rintro (z | z | z)
        · exact Or.inl z
        · exact absurd z.1.symm hne
        · exact Or.inr z.2.symm
    · rw [if_neg (fun z => h1 ((nI_eq (by omega) (by omega)).mp z))]
      by_cases h2 : p = ka
      · subst h2
        rw [if_pos rfl, tb_or hq, Bool.or_eq_true, tb_shl (by omega) hq, decide_eq_true_iff]
        constructor
        · rintro (z | z)
          · exact Or.inl z
          · exact Or.inr (Or.inl ⟨rfl, z.symm⟩)
        · rintro (z | z | z)
          · exact Or.inl z
          · exact Or.inr z.2.symm
          · exact absurd z.1 h1
      · rw [if_neg (fun z => h2 ((nI_eq (by omega) (by omega)).mp z))]
        constructor
        · exact Or.inl
        · rintro (z | z | z)
          · exact z
          · exact absurd z.1 h2
          · exact absurd z.1 h1
  refine ⟨⟨k1, k2, k3, k4, k5, fun p q hp hq hh => ?_, fun p hp => ?_, k8⟩, k9, k10, k11⟩
  · rw [tF p q hp hq] at hh
    rw [tF q p hq hp]
    rcases hh with z | ⟨rfl, rfl⟩ | ⟨rfl, rfl⟩
    · obtain ⟨z1, z2, z3, z4⟩ := k6 p q hp hq z
      exact ⟨z1, z2, z3, Or.inl z4⟩
    · exact ⟨ka1, kb1, hne, Or.inr (Or.inr ⟨rfl, rfl⟩)⟩
    · exact ⟨kb1, ka1, Ne.symm hne, Or.inr (Or.inl ⟨rfl, rfl⟩)⟩
  · rw [eF, if_neg (fun z => hp (by rw [z]; exact ⟨nI_pos' (by omega), (nI_ltI (a := kb) (b := hP D.1) (by omega) (by omega)).mpr kb1⟩)), if_neg (fun z => hp (by rw [z]; exact ⟨nI_pos' (by omega), (nI_ltI (a := ka) (b := hP D.1) (by omega) (by omega)).mpr ka1⟩))]
    exact k7 p hp
theorem okD.last (hT : T.length ≤ 1000) (hD : okD D) (h : lastF T j D = 0) : okD (lastD T j D) := by
  obtain ⟨⟨k1, k2, k3, k4, k5, k6, k7, k8⟩, k9, k10, k11⟩ := hD
  unfold lastF at h
  split at h
  · exact absurd h (wr_gt2 hT (by decide) (by decide) _)
  · obtain ⟨-, a, b⟩ := nuE_0 hT h
    exact ⟨⟨k1, k2, ⟨a, b⟩, k4, k5, k6, k7, k8⟩, k9, k10, k11⟩
theorem okD.wear0 {s : PS} (hs : s.2.2.length < 1000) (a : dpS s.2.2 0 = some 1) (b : ∀ o ∈ s.2.2, -12 ≤ o) (hD : okD D) : okD ((D.1.1, D.1.2.1, D.1.2.2.1, D.1.2.2.2.1, s.2.2), D.2.1, D.2.2.1, true) := by
  obtain ⟨⟨k1, k2, k3, k4, k5, k6, k7, k8⟩, k9, k10, k11⟩ := hD
  refine ⟨⟨k1, k2, k3, k4, k5, k6, k7, ⟨Nat.le_of_lt hs, fun _ => a, b⟩⟩, k9, fun q => absurd q (show ¬ true = false by decide), fun _ q => ?_⟩
  have q' : s.2.2 = [] := q
  rw [q'] at a
  exact absurd a (by decide)
theorem wearF_0 (hT : T.length ≤ 1000) (h : wearF T j D = 0) : (lawA T (j + 1)).1 = 0 := by
  unfold wearF at h
  cases q : D.2.2.2
  · rw [q, if_neg Bool.false_ne_true] at h
    exact h
  · rw [q, if_pos rfl] at h
    exact absurd h (wr_gt2 hT (by decide) (by decide) _)
theorem okD.wear (hT : T.length ≤ 1000) (hj : j < (toks T).length) (hD : okD D) (h : wearF T j D = 0) : okD (wearD T j D) := by
  have h' := wearF_0 hT h
  obtain ⟨a, b⟩ := lawA_wf hT h'
  obtain ⟨-, c⟩ := lawA_gr hT hj
  have e : wearD T j D = ((D.1.1, D.1.2.1, D.1.2.2.1, D.1.2.2.2.1, (lawA T (j + 1)).2.2), D.2.1, D.2.2.1, true) := rfl
  rw [e]
  exact okD.wear0 c a b hD
theorem law_at {s : PS} (g : Gr T (0, j + 1, []) s) (wf : dpS s.2.2 0 = some 1) : j + 2 ≤ s.2.1 ∧ s.2.1 ≤ (toks T).length := by
  have g1 : s.2.1 ≤ (toks T).length := g.1.1
  have g2 : s.2.2.length + (j + 1) ≤ 0 + s.2.1 := g.2.2
  have hn : s.2.2.length ≠ 0 := fun q => by
    rw [List.length_eq_zero_iff.mp q] at wf
    exact absurd wf (by decide)
  exact ⟨by omega, g1⟩
theorem lineP_cases {P : Int32 → Nat → DV → Prop} (h0 : isW T j 0 = true → P (seatF T j D) (j + 6) (seatD T j D)) (h3 : isW T j 0 = false → isW T j 3 = true → P (persF T j D) (j + 5) (persD T j D)) (h5 : isW T j 0 = false → isW T j 3 = false → isW T j 5 = true → P (foeF T j D) (j + 3) (foeD T j D)) (h7 : isW T j 0 = false → isW T j 3 = false → isW T j 5 = false → isW T j 7 = true → P (wearF T j D) (lawA T (j + 1)).2.1 (wearD T j D)) (h6 : isW T j 0 = false → isW T j 3 = false → isW T j 5 = false → isW T j 7 = false → isW T j 6 = true → P (lastF T j D) (j + 2) (lastD T j D)) (hn : isW T j 0 = false → isW T j 3 = false → isW T j 5 = false → isW T j 7 = false → isW T j 6 = false → P (bad T 1 j) j D) : P (lineP T j D).1 (lineP T j D).2.1 (lineP T j D).2.2 := by
  unfold lineP
  cases w0 : isW T j 0
  · rw [if_neg Bool.false_ne_true]
    cases w3 : isW T j 3
    · rw [if_neg Bool.false_ne_true]
      cases w5 : isW T j 5
      · rw [if_neg Bool.false_ne_true]
        cases w7 : isW T j 7
        · rw [if_neg Bool.false_ne_true]
          cases w6 : isW T j 6
          · rw [if_neg Bool.false_ne_true]
            dsimp only
            exact hn w0 w3 w5 w7 w6
          · rw [if_pos rfl]
            dsimp only
            exact h6 w0 w3 w5 w7 w6
        · rw [if_pos rfl]
          dsimp only
          exact h7 w0 w3 w5 w7
      · rw [if_pos rfl]
        dsimp only
        exact h5 w0 w3 w5
    · rw [if_pos rfl]
      dsimp only
      exact h3 w0 w3
  · rw [if_pos rfl]
    dsimp only
    exact h0 w0
theorem wear_line (hT : T.length ≤ 1000) (hD : okD D) (w : isW T j 7 = true) (h : wearF T j D = 0) : okD (wearD T j D) ∧ j + 2 ≤ (lawA T (j + 1)).2.1 ∧ (lawA T (j + 1)).2.1 ≤ (toks T).length := by
  have hj := isW_lt w
  have q := okD.wear hT hj hD h
  have r := law_at (lawA_gr hT hj).1 (lawA_wf hT (wearF_0 hT h)).1
  exact ⟨q, r.1, r.2⟩
theorem lineP_ok (hT : T.length ≤ 1000) (hD : okD D) : (lineP T j D).1 = 0 → okD (lineP T j D).2.2 ∧ j + 2 ≤ (lineP T j D).2.1 ∧ (lineP T j D).2.1 ≤ (toks T).length := by
  refine lineP_cases (P := fun f k E => f = 0 → okD E ∧ j + 2 ≤ k ∧ k ≤ (toks T).length) (fun _ h => ?_) (fun _ _ h => ?_) (fun _ _ _ h => ?_) (fun _ _ _ w h => wear_line hT hD w h) (fun _ _ _ _ _ h => ?_) (fun _ _ _ _ _ h => absurd h (wr_gt2 hT (by decide) (by decide) _))
  · obtain ⟨-, -, -, a, -⟩ := seatF_0 hT hD.1.1 h
    have := (afE_lt hT a).1
    exact ⟨hD.seat hT h, by show j + 2 ≤ j + 6; omega, by show j + 6 ≤ _; omega⟩
  · obtain ⟨-, -, -, a⟩ := persF_0 hT hD.1.2.1 h
    have := (afE_lt hT a).1
    exact ⟨hD.pers hT h, by show j + 2 ≤ j + 5; omega, by show j + 5 ≤ _; omega⟩
  · have := isNm_lt (toE_per hT hD.1.1 hD.1.2.1 hD.2.1 (foeF_0 h).2).1
    exact ⟨hD.foe hT h, by show j + 2 ≤ j + 3; omega, by show j + 3 ≤ _; omega⟩
  · have h' : lastF T j D = 0 := h
    have h2 := h'
    unfold lastF at h2
    split at h2
    · exact absurd h2 (wr_gt2 hT (by decide) (by decide) _)
    · have := isU_lt (nuE_0 hT h2).1
      exact ⟨hD.last hT h', Nat.le_refl _, by show j + 2 ≤ _; omega⟩
theorem linesP_ok (hT : T.length ≤ 1000) : ∀ (m j : Nat) (D : DV), okD D → (linesP T m j D).1 = 0 → okD (linesP T m j D).2.2
  | 0, _, _, hD, _ => hD
  | m + 1, j, D, hD, h => by
    unfold linesP at h ⊢
    split at h
    · rename_i c
      rw [if_pos c]
      exact hD
    rename_i c
    rw [if_neg c]
    split at h
    · contradiction
    rename_i c1
    rw [if_neg c1]
    obtain ⟨a, -⟩ := lineP_ok hT hD (Classical.not_not.mp c1)
    split at h
    · rename_i c2
      rw [if_pos c2]
      exact linesP_ok hT m _ _ a h
    · exact absurd h (wr_gt2 hT (by decide) (by decide) _)
theorem hallP_ok (hT : T.length ≤ 1000) (h : (hallP T).1 = 0) : okD (hallP T).2.2 := linesP_ok hT _ _ _ okD_0 h
end RH
