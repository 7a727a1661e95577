/-! WHAT HOLDS OF EVERY SCENE IS KEPT: laying, sitting, rising; at first -/
def riseT (v : SV) (p : Int32) : SV := if 0 ≤ chS v p then riseS v p else v
section P2
variable {h : HV} {v : SV} {p s : Int32}
theorem okS_po {x : Int32} (H : okS h v) (p1 : p < nI (hP h)) : okS h (upS v 2 p x) := by
  obtain ⟨a, b, c⟩ := H
  have e0 : ∀ i, owS (upS v 2 p x) i = owS v i := fun i => by simp [owS, upS]
  have e3 : ∀ i, chS (upS v 2 p x) i = chS v i := fun i => by simp [chS, upS]
  have e4 : ∀ i, siS (upS v 2 p x) i = siS v i := fun i => by simp [siS, upS]
  refine ⟨fun s s0 s1 => ?_, fun q q0 q1 => ?_, fun i j hi hj => ?_⟩
  · rw [e0, e4, (a s s0 s1).2]
    exact ⟨(a s s0 s1).1, sitterF_congr (fun k _ => (e3 _).symm)⟩
  · rw [e3]
    obtain ⟨b1, b2, b3⟩ := b q q0 q1
    refine ⟨b1, b2, fun hq => ⟨(b3 hq).1, ?_⟩⟩
    have e2 : poS (upS v 2 p x) q = poS v q := by
      have hne : q ≠ p := by grind
      simp [poS, upS, hne]
    rw [e2]
    exact (b3 hq).2
  · rw [e3, e3]
    exact c i j hi hj
theorem okS_lay (H : okS h v) (p0 : 0 ≤ p) (p1 : p < nI (hP h)) (s1 : s < nI (hN h)) : okS h (layS h v p s) := okS_put (okS_po H p1) p0 p1 s1
theorem okS_seat (H : okS h v) (hP5 : hP h ≤ 5) (p0 : 0 ≤ p) (p1 : p < nI (hP h)) (s0 : 0 ≤ s) (s1 : s < nI (hN h)) (hc : chS v p < 0) (hs : siS v s < 0) (hN8 : nI (hN h) ≤ 7) : okS h (upS (upS v 3 p s) 4 s p) := by
  obtain ⟨a, b, c⟩ := H
  have e0 : ∀ i, owS (upS (upS v 3 p s) 4 s p) i = owS v i := fun i => by simp [owS, upS]
  have e2 : ∀ i, poS (upS (upS v 3 p s) 4 s p) i = poS v i := fun i => by simp [poS, upS]
  have e3 : ∀ i, chS (upS (upS v 3 p s) 4 s p) i = if i = p then s else chS v i := fun i => by simp [chS, upS]
  have e4 : ∀ i, siS (upS (upS v 3 p s) 4 s p) i = if i = s then p else siS v i := fun i => by simp [siS, upS]
  have s7 : s < 7 := by grind
  have hn : sitterF (chS v) s (hP h) < 0 := by rw [← (a s s0 s7).2]; exact hs
  obtain ⟨kp, hkp, rfl⟩ := nI_ex (by omega) p0 p1
  have hno : ∀ k, k < hP h → chS v (nI k) ≠ s := fun k hk => sitterF_none (by omega) hn hk
  refine ⟨fun i i0 i1 => ?_, fun q q0 q1 => ?_, fun i j hi hj => ?_⟩
  · rw [e0, e4]
    refine ⟨(a i i0 i1).1, ?_⟩
    by_cases his : i = s
    · subst his
      rw [if_pos rfl]
      refine (sitterF_one hkp (by rw [e3, if_pos rfl]) (fun k hk hne => ?_)).symm
      rw [e3, if_neg (nI_ne (by omega) (by omega) hne)]
      exact hno k hk
    · rw [if_neg his, (a i i0 i1).2]
      refine sitterF_congr2 (fun k hk => ?_)
      rw [e3]
      by_cases hq : k = kp
      · subst hq
        rw [if_pos rfl]
        constructor
        · intro q; grind
        · intro q; exact absurd q.symm his
      · rw [if_neg (nI_ne (by omega) (by omega) hq)]
  · rw [e3, e2]
    by_cases hq : q = nI kp
    · subst hq
      rw [if_pos rfl]
      exact ⟨by grind, s1, fun q => by grind⟩
    · rw [if_neg hq]
      exact b q q0 q1
  · rw [e3, e3]
    intro heq h0
    by_cases h1 : i = kp
    · by_cases h2 : j = kp
      · omega
      · subst h1
        rw [if_pos rfl, if_neg (nI_ne (by omega) (by omega) h2)] at heq
        exact absurd heq.symm (hno j hj)
    · rw [if_neg (nI_ne (by omega) (by omega) h1)] at heq h0
      by_cases h2 : j = kp
      · subst h2
        rw [if_pos rfl] at heq
        exact absurd heq (hno i hi)
      · rw [if_neg (nI_ne (by omega) (by omega) h2)] at heq
        exact c i j hi hj heq h0
theorem okS_sit (H : okS h v) (hP5 : hP h ≤ 5) (hN8 : nI (hN h) ≤ 7) (p0 : 0 ≤ p) (p1 : p < nI (hP h)) (s0 : 0 ≤ s) (s1 : s < nI (hN h)) (hm : maySitS v p s = true) : okS h (sitS v p s) := by
  obtain ⟨m1, m2⟩ := maySit_si hm
  have := okS_seat H hP5 p0 p1 s0 s1 m1 m2 hN8
  unfold sitS
  split
  · exact okS_clr (okS_po this p1)
  · exact this
theorem okS_rise (H : okS h v) (hP5 : hP h ≤ 5) (hN8 : nI (hN h) ≤ 7) (p0 : 0 ≤ p) (p1 : p < nI (hP h)) (hc : 0 ≤ chS v p) : okS h (riseS v p) := by
  have p5 : p < 5 := by have := nI_le5 hP5; grind
  obtain ⟨a, b, c⟩ := H
  have e0 : ∀ i, owS (riseS v p) i = owS v i := fun i => by simp [owS, riseS, upS]
  have e2 : ∀ i, poS (riseS v p) i = poS v i := fun i => by simp [poS, riseS, upS]
  have e3 : ∀ i, chS (riseS v p) i = if i = p then -1 else chS v i := fun i => by simp [chS, riseS, upS]
  have e4 : ∀ i, siS (riseS v p) i = if i = chS v p then -1 else siS v i := fun i => by simp [siS, riseS, upS]
  obtain ⟨b1, b2, -⟩ := b p p0 p5
  obtain ⟨kp, hkp, rfl⟩ := nI_ex (by omega) p0 p1
  refine ⟨fun i i0 i1 => ?_, fun q q0 q1 => ?_, fun i j hi hj => ?_⟩
  · rw [e0, e4]
    refine ⟨(a i i0 i1).1, ?_⟩
    by_cases his : i = chS v (nI kp)
    · rw [if_pos his]
      refine (sitterF_ofnone (fun k hk => ?_)).symm
      rw [e3]
      by_cases hq : k = kp
      · subst hq
        rw [if_pos rfl]
        intro q
        grind
      · rw [if_neg (nI_ne (by omega) (by omega) hq)]
        intro q
        exact hq (c k kp hk hkp (by rw [q, his]) (by rw [q]; exact i0))
    · rw [if_neg his, (a i i0 i1).2]
      refine sitterF_congr2 (fun k hk => ?_)
      rw [e3]
      by_cases hq : k = kp
      · subst hq
        rw [if_pos rfl]
        constructor
        · intro q; exact absurd q.symm his
        · intro q; grind
      · rw [if_neg (nI_ne (by omega) (by omega) hq)]
  · rw [e3, e2]
    by_cases hq : q = nI kp
    · subst hq
      rw [if_pos rfl]
      exact ⟨by decide, by grind, fun q => by grind⟩
    · rw [if_neg hq]
      exact b q q0 q1
  · rw [e3, e3]
    intro heq h0
    by_cases h1 : i = kp
    · subst h1
      rw [if_pos rfl] at h0
      exact absurd h0 (by decide)
    · rw [if_neg (nI_ne (by omega) (by omega) h1)] at heq h0
      by_cases h2 : j = kp
      · subst h2
        rw [if_pos rfl] at heq
        rw [heq] at h0
        exact absurd h0 (by decide)
      · rw [if_neg (nI_ne (by omega) (by omega) h2)] at heq
        exact c i j hi hj heq h0
theorem okS_riseT (H : okS h v) (hP5 : hP h ≤ 5) (hN8 : nI (hN h) ≤ 7) (p0 : 0 ≤ p) (p1 : p < nI (hP h)) : okS h (riseT v p) := by
  unfold riseT
  split
  · rename_i hc
    exact okS_rise H hP5 hN8 p0 p1 hc
  · exact H
theorem okS_start {T : Int32 → Int32} (hP5 : hP h ≤ 5) (hN7 : hN h ≤ 7) : okS h (startS (hP h) T) := by
  have n0 : 0 ≤ nI (hN h) := nI_pos' (by omega)
  refine ⟨fun s s0 s1 => ?_, fun q q0 q1 => ?_, fun i j hi hj => ?_⟩
  · have e0 : owS (startS (hP h) T) s = -1 := if_pos ⟨s0, s1⟩
    have e4 : siS (startS (hP h) T) s = -1 := if_pos ⟨s0, s1⟩
    rw [e0, e4]
    refine ⟨⟨by decide, ?_, fun _ => rfl⟩, ?_⟩
    · have : 0 ≤ nI (hP h) := nI_pos' (by omega)
      grind
    · refine (sitterF_neg s0 (fun k hk => ?_)).symm
      obtain ⟨k0, k1, -⟩ := nI_lt5 hk hP5
      exact if_pos ⟨k0, k1⟩
  · have e3 : chS (startS (hP h) T) q = -1 := if_pos ⟨q0, q1⟩
    have e2 : poS (startS (hP h) T) q = if q < nI (hP h) then T q else 0 := if_pos ⟨q0, q1⟩
    rw [e3, e2]
    refine ⟨(by decide : (-1 : Int32) ≤ -1), ?_, fun hq => ⟨rfl, by rw [if_neg (Int32.not_lt.mpr hq)]⟩⟩
    grind
  · obtain ⟨k0, k1, -⟩ := nI_lt5 hi hP5
    have e3 : chS (startS (hP h) T) (nI i) = -1 := if_pos ⟨k0, k1⟩
    rw [e3]
    intro _ h0
    exact absurd h0 (by decide)
end P2
