/-! WHAT HOLDS OF EVERY SCENE IS KEPT; hours one behind the other -/
theorem okS_ow {h : HV} {v v' : SV} (H : okS h v) (h2 : ∀ k i, 2 ≤ k → v'.2 k i = v.2 k i) (h0 : ∀ s, 0 ≤ s → s < 7 → -1 ≤ owS v' s ∧ owS v' s < nI (hP h) ∧ (nI (hN h) ≤ s → owS v' s = -1)) : okS h v' := by
  obtain ⟨a, b, c⟩ := H
  have e3 : ∀ i, chS v' i = chS v i := fun i => h2 3 i (by omega)
  have e4 : ∀ i, siS v' i = siS v i := fun i => h2 4 i (by omega)
  have e2 : ∀ i, poS v' i = poS v i := fun i => h2 2 i (by omega)
  refine ⟨fun s s0 s1 => ⟨h0 s s0 s1, ?_⟩, fun p p0 p1 => ?_, fun p q hp hq => ?_⟩
  · rw [e4, (a s s0 s1).2]
    exact sitterF_congr (fun k _ => (e3 _).symm)
  · rw [e3, e2]
    exact b p p0 p1
  · rw [e3, e3]
    exact c p q hp hq
theorem okS_clr {h : HV} {v : SV} {s : Int32} (H : okS h v) : okS h (clrS v s) := by
  refine okS_ow H (fun k i hk => ?_) (fun i i0 i1 => ?_)
  · unfold clrS upS
    dsimp only
    rw [if_neg (by omega), if_neg (by omega)]
  · have := (H.1 i i0 i1).1
    by_cases hi : i = s
    · subst hi
      have e : owS (clrS v i) i = -1 := by simp [owS, clrS, upS]
      rw [e]
      refine ⟨by decide, by grind, fun _ => rfl⟩
    · have e : owS (clrS v s) i = owS v i := by simp [owS, clrS, upS, hi]
      rw [e]
      exact this
theorem okS_fr {h : HV} {v : SV} {s x : Int32} (H : okS h v) : okS h (upS v 1 s x) := by
  refine okS_ow H (fun k i hk => ?_) (fun i i0 i1 => ?_)
  · unfold upS
    dsimp only
    rw [if_neg (by omega)]
  · have e : owS (upS v 1 s x) i = owS v i := by simp [owS, upS]
    rw [e]
    exact (H.1 i i0 i1).1
theorem okS_les {h : HV} {v : SV} {s x : Int32} (H : okS h v) : okS h (lesS v s x) := by
  unfold lesS
  split
  · exact okS_clr H
  · exact okS_fr H
theorem okS_passK {h : HV} {v : SV} {d : Int32} (H : okS h v) : ∀ k, okS h (passK h v d k)
  | 0 => H
  | k + 1 => by
    rw [passK_succ]
    split
    · exact okS_les (okS_passK H k)
    · exact okS_passK H k
theorem okS_pass {h : HV} {v : SV} {d : Int32} (H : okS h v) : okS h (passS h v d) := okS_passK (d := d) H (hN h)
theorem okS_put {h : HV} {v : SV} {p s : Int32} (H : okS h v) (p0 : 0 ≤ p) (p1 : p < nI (hP h)) (s1 : s < nI (hN h)) : okS h (putS h v p s) := by
  unfold putS
  refine okS_fr (okS_ow H (fun k i hk => ?_) (fun i i0 i1 => ?_))
  · unfold upS
    dsimp only
    rw [if_neg (by omega)]
  · by_cases hi : i = s
    · subst hi
      have e : owS (upS v 0 i p) i = p := by simp [owS, upS]
      rw [e]
      refine ⟨by grind, p1, fun q => by grind⟩
    · have e : owS (upS v 0 s p) i = owS v i := by simp [owS, upS, hi]
      rw [e]
      exact (H.1 i i0 i1).1
def playS (h : HV) (v : SV) : Nat → SV
  | 0 => v
  | n + 1 => passS h (playS h v n) 0
theorem okS_play {h : HV} {v : SV} (H : okS h v) : ∀ n, okS h (playS h v n)
  | 0 => H
  | n + 1 => okS_pass (okS_play H n)
/-- the first below m, or m -/
def firstK (p : Nat → Bool) : Nat → Nat
  | 0 => 0
  | m + 1 => if firstK p m < m then firstK p m else if p m then m else m + 1
theorem firstK_le {p : Nat → Bool} : ∀ m, firstK p m ≤ m
  | 0 => Nat.le_refl _
  | m + 1 => by
    have := firstK_le (p := p) m
    unfold firstK
    split
    · omega
    · split <;> omega
theorem firstK_no {p : Nat → Bool} {i : Nat} (h : firstK p i = i) (hp : p i = false) : firstK p (i + 1) = i + 1 := by
  unfold firstK
  rw [if_neg (by omega), if_neg (by simp [hp])]
theorem firstK_yes {p : Nat → Bool} {i : Nat} (h : firstK p i = i) (hp : p i = true) : ∀ {n}, i < n → firstK p n = i
  | 0, hn => absurd hn (by omega)
  | n + 1, hn => by
    unfold firstK
    by_cases hin : n = i
    · subst hin
      rw [if_neg (by omega), if_pos hp]
    · rw [firstK_yes h hp (n := n) (by omega), if_pos (by omega)]
/-- whether a seat's nutmeg is gone by the (n + 1)-th hour -/
def goneP (h : HV) (v : SV) (s : Int32) (n : Nat) : Bool := tb (goneS h (playS h v n) 0) s
def putAll (h : HV) (v : SV) (p set : Int32) : Nat → SV
  | 0 => v
  | k + 1 => if tb set (nI k) then putS h (putAll h v p set k) p (nI k) else putAll h v p set k
theorem okS_putAll {h : HV} {v : SV} {p set : Int32} (H : okS h v) (p0 : 0 ≤ p) (p1 : p < nI (hP h)) (hN7 : hN h ≤ 7) : ∀ {k : Nat}, k ≤ hN h → okS h (putAll h v p set k)
  | 0, _ => H
  | k + 1, hk => by
    unfold putAll
    split
    · exact okS_put (okS_putAll H p0 p1 hN7 (by omega)) p0 p1 ((nI_ltI (by omega) (by omega)).mpr hk)
    · exact okS_putAll H p0 p1 hN7 (by omega)
/-- holding seats: the scene, what is to be laid, how many were -/
def holdK (h : HV) (v : SV) (p set : Int32) : Nat → SV × Int32 × Int32
  | 0 => (v, set, 0)
  | k + 1 => (passS h (putAll h (holdK h v p set k).1 p (holdK h v p set k).2.1 (hN h)) 0, goneS h (putAll h (holdK h v p set k).1 p (holdK h v p set k).2.1 (hN h)) 0 &&& set, (holdK h v p set k).2.2 + cnt (tb (holdK h v p set k).2.1) (hN h))
theorem okS_hold {h : HV} {v : SV} {p set : Int32} (H : okS h v) (p0 : 0 ≤ p) (p1 : p < nI (hP h)) (hN7 : hN h ≤ 7) : ∀ k, okS h (holdK h v p set k).1
  | 0 => H
  | k + 1 => okS_pass (okS_putAll (okS_hold H p0 p1 hN7 k) p0 p1 hN7 (by omega))
