/-! THE CLASS: a person more -/
def pD (cl c : Nat) : Prop := cl ≤ c ∧ c ≤ cl + 10
def addPD (D : DV) (x : List Int32) (kd to : Int32) : DV := ((hN D.1, hP D.1 + 1, (cel (cel D.1 2 (nI (hP D.1)) kd) 3 (nI (hP D.1)) to).2.2), D.2.1 ++ [(x, 20 + hP D.1)], D.2.2)
section DH
variable {e : Bool × Int32 × (Int32 → Int32)} {d : Nat} {F F' : Nat → Nat → Int32} {I I' : Nat → Int32 → Int32} {G G' : Nat → Nat → Int64} {J J' : Nat → Int32 → Int64} {ha hb ea eb cl N P j : Nat} {T : List Int32} {v : Int64} {L : ND} {x : List Int32} {D : DV} {kd to : Int32}
theorem drC.addP (hD : drC F I J cl D) (hL : ∀ q ∈ D.2.1, q.2 < 25) (hx : okNm x) (hnew : ¬ 0 ≤ nmF D.2.1 x) (hP5 : hP D.1 < 5) (hF0 : hFoes D.1 (nI (hP D.1)) = 0) (f9 : F' cl 9 = F cl 9) (f10 : F' cl 10 = nI (hP D.1 + 1)) (f11 : F' cl 11 = F cl 11) (fl : F' (cl + 9) = F (cl + 9)) (i2 : I' (cl + 2) = I (cl + 2)) (i3 : I' (cl + 3) = I (cl + 3)) (i4 : I' (cl + 4) = I (cl + 4)) (i10 : I' (cl + 9 + 1) = I (cl + 9 + 1)) (i6 : I' (cl + 6) = up (I (cl + 6)) (nI (hP D.1)) kd) (i7 : I' (cl + 7) = up (I (cl + 7)) (nI (hP D.1)) to) (i8 : I' (cl + 8) = up (I (cl + 8)) (nI (hP D.1)) 0) (j1 : J' (cl + 1) = J (cl + 1)) (j5 : ∀ i, i < hP D.1 → J' (cl + 5) (nI i) = J (cl + 5) (nI i)) (jn : J' (cl + 5) (nI (hP D.1)) = w32 x 0) : drC F' I' J' cl (addPD D x kd to) := by
  obtain ⟨h1, h2, h3, h4, h5⟩ := hD
  refine ⟨h1.addP hL hx hnew hP5 f9 f10 (fun i _ => by rw [j1]) j5 jn, f11.trans h2, fun s s0 s1 => ?_, fun p p0 p1 => ?_, ?_⟩
  · rw [i2, i3, i4]
    exact h3 s s0 s1
  · rw [i6, i7, i8]
    show up _ _ _ p = (if (2 : Nat) = 3 ∧ p = nI (hP D.1) then to else if (2 : Nat) = 2 ∧ p = nI (hP D.1) then kd else hKind D.1 p) ∧ up _ _ _ p = (if (3 : Nat) = 3 ∧ p = nI (hP D.1) then to else if (3 : Nat) = 2 ∧ p = nI (hP D.1) then kd else hTold D.1 p) ∧ up _ _ _ p = (if (4 : Nat) = 3 ∧ p = nI (hP D.1) then to else if (4 : Nat) = 2 ∧ p = nI (hP D.1) then kd else hFoes D.1 p)
    rw [if_neg (fun q => absurd q.1 (by decide)), if_neg (c := (4 : Nat) = 3 ∧ p = nI (hP D.1)) (fun q => absurd q.1 (by decide)), if_neg (c := (4 : Nat) = 2 ∧ p = nI (hP D.1)) (fun q => absurd q.1 (by decide)), if_neg (c := (3 : Nat) = 2 ∧ p = nI (hP D.1)) (fun q => absurd q.1 (by decide))]
    by_cases hp : p = nI (hP D.1)
    · subst hp
      rw [up_self, up_self, up_self, if_pos ⟨rfl, rfl⟩, if_pos ⟨rfl, rfl⟩]
      exact ⟨rfl, rfl, hF0.symm⟩
    · rw [up_ne hp, up_ne hp, up_ne hp, if_neg (fun q => hp q.2), if_neg (fun q => hp q.2)]
      refine h4 p p0 ?_
      have : p < nI (hP D.1 + 1) := p1
      rcases (nI_lts (l := p) (i := hP D.1) (by omega)).mp ⟨p0, this⟩ with q | q
      · exact absurd q hp
      · exact q.2
  · unfold cdC
    rw [fl, i10]
    exact h5
end DH
