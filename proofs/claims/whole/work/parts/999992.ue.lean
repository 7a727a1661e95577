/-! THE LAW: marks, side by side -/
section UE
variable {e : Bool × Int32 × (Int32 → Int32)} {d t : Nat} {q : xMeth} {args : List Value} {X X' : XS} {a : Int32} {s p o w g mi bk : Int32} {v : SV} {u : UV} {h : HV}
def nMl (X : XS) (m : Nat) : XS := (XT X, XH X, XN X, XV X, XU X, XE X, setM (XK X) m (XV X, XE X), XLn X)
def nMb (X : XS) (x : SV × NV) : XS := (XT X, XH X, XN X, x.1, (0, (XU X).2), x.2, XK X, XLn X)
theorem cpy_at {f : Int32 → Int32} {a b n i : Int32} (h0 : b ≤ i) (h1 : i < b + n) : cpy f a b n i = f (a + (i - b)) := by
  unfold cpy
  rw [if_pos ⟨h0, h1⟩]
theorem seeR_cpy {f : Int32 → Int32} {a b : Int32} {n : NV} (hn : n.1 ≤ 8) (a0 : 0 ≤ a) (a1 : a ≤ 1000) (b0 : 0 ≤ b) (b1 : b ≤ 1000) (h : seeR f a n) : seeR (cpy f a b 50) b n := by
  obtain ⟨s1, s2⟩ := h
  refine ⟨?_, fun k hk => ?_⟩
  · rw [cpy_at (by grind) (by grind), show a + (b + 25 - b) = a + 25 by grind]
    exact s1
  · have k0 : 0 ≤ nI k := nI_pos' (by omega)
    have k1 : nI k < 8 := (nI_ltI (b := 8) (by omega) (by omega)).mpr (by omega)
    rw [cpy_at (by grind) (by grind), cpy_at (by grind) (by grind), cpy_at (by grind) (by grind), show a + (b + 26 + 3 * nI k - b) = a + 26 + 3 * nI k by grind, show a + (b + 26 + 3 * nI k + 1 - b) = a + 26 + 3 * nI k + 1 by grind, show a + (b + 26 + 3 * nI k + 2 - b) = a + 26 + 3 * nI k + 2 by grind]
    exact s2 k hk
theorem m50_ne {m k : Nat} (hm : m < 4) (hk : k < 4) (hne : k ≠ m) {i : Int32} (h0 : 50 * (1 + nI k) ≤ i) (h1 : i < 50 * (1 + nI k) + 50) : i < 50 * (1 + nI m) ∨ 50 * (1 + nI m) + 50 ≤ i := by
  have k0 : 0 ≤ nI k := nI_pos' (by omega)
  have k4 : nI k < 4 := (nI_ltI (b := 4) (by omega) (by omega)).mpr hk
  have m0 : 0 ≤ nI m := nI_pos' (by omega)
  have m4 : nI m < 4 := (nI_ltI (b := 4) (by omega) (by omega)).mpr hm
  rcases Nat.lt_or_gt_of_ne hne with z | z
  · have : nI k < nI m := (nI_ltI (by omega) (by omega)).mpr z
    exact Or.inl (by grind)
  · have : nI m < nI k := (nI_ltI (by omega) (by omega)).mpr z
    exact Or.inr (by grind)
theorem undoC.noM {F F' : Nat → Nat → Int32} {I I' : Nat → Int32 → Int32} {q : Nat → Prop} (hq : ∀ c, q c → ¬ (c = 44 ∨ (49 ≤ c ∧ c ≤ 160))) (o : frm q F I F' I') (hU : undoC F I u) : undoC F' I' u := by
  obtain ⟨y, y1, y2, y3, y4, y5⟩ := hU
  have e4 : F' 44 = F 44 := (o 44 (fun z => hq _ z (by omega))).1
  refine ⟨y, y1, by rw [e4]; exact y2, by rw [e4]; exact y3, y4, fun k hk => ?_⟩
  rw [← y5 k hk]
  have hlt : (y + 16 - u.1 + k) % 16 < 16 := Nat.mod_lt _ (by decide)
  generalize (y + 16 - u.1 + k) % 16 = z at *
  exact o.sv (fun j hj q' => hq _ q' (by omega))
set_option maxHeartbeats 4000000 in
theorem b_mark (hk : okX t X) (ht : t ≤ 520) (hb : bk = 0 ∨ bk = 1) : stp e 2 6 M_X11_mark M_X12_mark [.ref 0, .int mi, .int bk] [.ref 226, .int mi, .int bk] t X := by
  have hP5 := hk.1.2.1
  by_cases c : 0 ≤ mi ∧ mi ≤ 3
  rotate_left
  · exact ⟨_, _, CSt.ofA (fun _ _ _ _ _ _ _ _ _ => f_mark_no c), RSt.ofA hk (fun _ _ _ _ _ _ _ _ _ => k_mark_no (Or.inl c)), hk.mono (by omega) (by omega)⟩
  obtain ⟨m, hm, rfl⟩ := nI_ex (P := 4) (by omega) c.1 (by have : nI 4 = 4 := rfl; grind)
  obtain ⟨c0, c1⟩ := b50_1 hm
  have m0 : 0 ≤ nI m := nI_pos' (by omega)
  have m4 : nI m < 4 := (nI_ltI (b := 4) (by omega) (by omega)).mpr hm
  rcases hb with rfl | rfl
  · -- laid
    refine ⟨1, nMl X m, ?_, ?_, ?_⟩
    · intro F I G J ha hb ea eb hX
      obtain ⟨h1, h2, h3, h4, h5, h6, h7, h8', h9, h10⟩ := hX
      have ca : ha = 5 ∨ ha = 17 := h1.a
      have ce : ea = 29 ∨ ea = 33 := h2.a
      refine Y.post (f_mark_lay hm h6 h8' h9) ?_
      rintro _ _ ⟨rfl, F', I', rfl, o, hK⟩
      refine ⟨rfl, F', I', G, J, ha, hb, ea, eb, rfl, fun c hc => ⟨(o c (by unfold pM; omega)).1, (o c (by unfold pM; omega)).2, rfl⟩, h1, h2, h3.frm o (by unfold pM; omega) (by unfold pM; omega), h4.frm o (fun j hj => by unfold pM; omega), h5.frm (o ha (by unfold pM; omega)).1 rfl rfl, ?_, h7.noM (fun c hc => by unfold pM at hc; omega) o, h8'.frm o (fun j hj => by unfold pM; omega), hK, h10.frm o (fun j hj => by unfold pM; omega)⟩
      show svC F' I' 37 = XV X
      rw [o.sv (fun j hj => by unfold pM; omega)]
      exact h6
    · intro F I G J ha hb ea eb hX
      obtain ⟨h1, h2, h3, h4, h5, h6, h7, h8', h9, h10⟩ := hX
      refine Y.post (k_mark_lay m0 m4) ?_
      rintro _ _ ⟨rfl, rfl⟩
      have eo : ∀ c2, c2 ≠ 242 → c2 ≠ 243 → row (xv I 243 (nI m) 1) 242 (cpy (I 242) 0 (50 * (1 + nI m)) 50) c2 = I c2 := fun c2 h1 h2 => by rw [row_ne h1, xv_ne h2]
      have e2 : row (xv I 243 (nI m) 1) 242 (cpy (I 242) 0 (50 * (1 + nI m)) 50) 242 = cpy (I 242) 0 (50 * (1 + nI m)) 50 := row_same
      have e3 : row (xv I 243 (nI m) 1) 242 (cpy (I 242) 0 (50 * (1 + nI m)) 50) 243 = up (I 243) (nI m) 1 := by rw [row_ne (by decide), xv_row, row_same]
      generalize row (xv I 243 (nI m) 1) 242 (cpy (I 242) 0 (50 * (1 + nI m)) 50) = I' at *
      have fk : ∀ k, k ≠ 0 → xu (xu F 226 0 0) 226 25 (F 226 25) 226 k = F 226 k := fun k h0 => by
        by_cases q : k = 25
        · rw [q, xu_same]
        · rw [xu_ne (by omega), xu_ne (by omega)]
      refine ⟨rfl, _, _, G, J, rfl, fun c hc => ⟨by rw [xu_other (by omega), xu_other (by omega)], eo c (by omega) (by omega), rfl⟩, by rw [xu_other (by decide), xu_other (by decide)], ?_, h2.off (eo 232 (by decide) (by decide)) (eo 233 (by decide) (by decide)) (eo 234 (by decide) (by decide)) (eo 244 (by decide) (by decide)), ?_, ?_, ?_, ?_, ?_, ?_, fun k hk4 => ?_, h10.1, by rw [eo 232 (by decide) (by decide)]; exact h10.2⟩
      · rw [fk 2 (by decide), eo 227 (by decide) (by decide)]
        exact h1
      · show HR2 I' (XH X)
        unfold HR2
        rw [eo 232 (by decide) (by decide)]
        exact h3
      · rw [fk 18 (by decide), eo 237 (by decide) (by decide)]
        exact h4
      · show svR (I' 242) (hP (XH X)) 0 = XV X
        rw [e2, svR_cut hP5 (by decide) (by decide) (fun i _ i1 => cpy_out (Or.inl (by grind)))]
        exact h5
      · obtain ⟨u1, u2, u3⟩ := h6
        refine ⟨by rw [fk 25 (by decide)]; exact u1, u2, fun k hk' => ?_⟩
        have hk2 : k < (XU X).1 := hk'
        obtain ⟨d0, d1⟩ := b50_5 (k := k) (by omega)
        have k0 : 0 ≤ nI k := nI_pos' (by omega)
        have k15 : nI k < 16 := (nI_ltI (b := 16) (by omega) (by omega)).mpr (by omega)
        show svR (I' 242) (hP (XH X)) (50 * (5 + nI k)) = (XU X).2 k
        rw [e2, svR_cut hP5 d0 d1 (fun i i0 i1 => cpy_out (Or.inr (by grind)))]
        exact u3 k hk'
      · rw [e2]
        exact seeR_cut (by decide) (by decide) hk.2.2.2.2.2.2.1.1 (fun i _ i1 => cpy_out (Or.inl (by grind))) h7
      · rw [eo 239 (by decide) (by decide)]
        exact h8'
      · show I' 243 (nI k) = bI (setM (XK X) m (XV X, XE X) k).isSome ∧ ∀ x, setM (XK X) m (XV X, XE X) k = some x → svR (I' 242) (hP (XH X)) (50 * (1 + nI k)) = x.1 ∧ seeR (I' 242) (50 * (1 + nI k)) x.2
        unfold setM
        rw [e2, e3]
        by_cases q : k = m
        · rw [if_pos q, q, up_self]
          refine ⟨rfl, fun x hx => ?_⟩
          cases hx
          refine ⟨?_, seeR_cpy hk.2.2.2.2.2.2.1.1 (by decide) (by decide) (by grind) (by grind) h7⟩
          rw [cpy_sv (by decide) (by grind) (by decide) (by grind) (by decide) (by decide) hP5]
          exact h5
        · rw [if_neg q, up_ne (nI_ne (by omega) (by omega) q)]
          obtain ⟨m1, m2⟩ := h9 k hk4
          refine ⟨m1, fun x hx => ?_⟩
          obtain ⟨y1, y2⟩ := m2 x hx
          obtain ⟨g0, g1⟩ := b50_1 hk4
          refine ⟨?_, seeR_cut (by grind) (by grind) (hk.2.2.2.2.2.2.2.1 k x hk4 hx).2.2.1 (fun i i0 i1 => cpy_out (m50_ne hm hk4 q (by grind) i1)) y2⟩
          rw [svR_cut hP5 (by grind) (by grind) (fun i i0 i1 => cpy_out (m50_ne hm hk4 q i0 (by grind)))]
          exact y1
    · obtain ⟨h1, h2, h3, h4, h5, h6, h7, h8, h9⟩ := hk.mono (t' := t + 1) (by omega) (by omega)
      refine ⟨h1, h2, h3, h4, h5, h6, h7, fun k x hk4 hx => ?_, h9⟩
      have hx' : (if k = m then some (XV X, XE X) else XK X k) = some x := hx
      by_cases q : k = m
      · rw [if_pos q] at hx'
        cases hx'
        exact ⟨h3, h4, h7⟩
      · rw [if_neg q] at hx'
        exact h8 k x hk4 hx'
  · cases hx : XK X m with
    | none =>
      refine ⟨_, _, CSt.ofA (fun _ _ _ _ _ _ _ _ ⟨_, _, _, h4, _, h6, h7, h8, h9, _⟩ => f_mark_none hm (by decide) h9 hx), RSt.ofA hk (fun _ _ _ _ _ _ _ _ ⟨_, h2, _, _, h5, h6, h7, _, h9, _⟩ => k_mark_no (Or.inr ⟨by decide, ?_⟩)), hk.mono (by omega) (by omega)⟩
      rw [(h9 m hm).1, hx]
      rfl
    | some x =>
      obtain ⟨kx1, kx2, kx3⟩ := hk.2.2.2.2.2.2.2.1 m x hm hx
      refine ⟨1, nMb X x, ?_, ?_, ?_⟩
      · intro F I G J ha hb ea eb hX
        obtain ⟨h1, h2, h3, h4, h5, h6, h7, h8', h9, h10⟩ := hX
        have ca : ha = 5 ∨ ha = 17 := h1.a
        have ce : ea = 29 ∨ ea = 33 := h2.a
        refine Y.post (f_mark_back hm (by decide) h7 h9 hx) ?_
        rintro _ _ ⟨rfl, F', I', rfl, o, hv, hs, hu⟩
        exact ⟨rfl, F', I', G, J, ha, hb, ea, eb, rfl, fun c hc => ⟨(o c (by unfold pB; omega)).1, (o c (by unfold pB; omega)).2, rfl⟩, h1, h2, h3.frm o (by unfold pB; omega) (by unfold pB; omega), h4.frm o (fun j hj => by unfold pB; omega), h5.frm (o ha (by unfold pB; omega)).1 rfl rfl, hv, hu, hs, h9.frm o (fun c hc => by unfold pB at hc; omega), h10.frm o (fun j hj => by unfold pB; omega)⟩
      · intro F I G J ha hb ea eb hX
        obtain ⟨h1, h2, h3, h4, h5, h6, h7, h8', h9, h10⟩ := hX
        obtain ⟨mm1, mm2⟩ := h9 m hm
        obtain ⟨mm3, mm4⟩ := mm2 x hx
        have hi1 : I 243 (nI m) = 1 := by rw [mm1, hx]; rfl
        refine Y.post (k_mark_back (bk := 1) m0 m4 (by decide) (by rw [hi1]; decide)) ?_
        rintro _ _ ⟨rfl, rfl⟩
        have eo : ∀ c2, c2 ≠ 242 → row (xv I 243 (nI m) 1) 242 (cpy (I 242) (50 * (1 + nI m)) 0 50) c2 = I c2 := fun c2 h1 => by
          rw [row_ne h1]
          by_cases q : c2 = 243
          · rw [q, xv_row, row_same]
            funext i
            by_cases z : i = nI m
            · rw [z, up_self, hi1]
            · rw [up_ne z]
          · rw [xv_ne q]
        have e2 : row (xv I 243 (nI m) 1) 242 (cpy (I 242) (50 * (1 + nI m)) 0 50) 242 = cpy (I 242) (50 * (1 + nI m)) 0 50 := row_same
        generalize row (xv I 243 (nI m) 1) 242 (cpy (I 242) (50 * (1 + nI m)) 0 50) = I' at *
        have fk : ∀ k, k ≠ 0 → k ≠ 25 → xu (xu F 226 0 0) 226 25 0 226 k = F 226 k := fun k h0 h25 => by rw [xu_ne (by omega), xu_ne (by omega)]
        refine ⟨rfl, _, _, G, J, rfl, fun c hc => ⟨by rw [xu_other (by omega), xu_other (by omega)], eo c (by omega), rfl⟩, by rw [xu_other (by decide), xu_other (by decide)], ?_, h2.off (eo 232 (by decide)) (eo 233 (by decide)) (eo 234 (by decide)) (eo 244 (by decide)), ?_, ?_, ?_, ?_, ?_, ?_, fun k hk4 => ?_, h10.1, by rw [eo 232 (by decide)]; exact h10.2⟩
        · rw [fk 2 (by decide) (by decide), eo 227 (by decide)]
          exact h1
        · show HR2 I' (XH X)
          unfold HR2
          rw [eo 232 (by decide)]
          exact h3
        · rw [fk 18 (by decide) (by decide), eo 237 (by decide)]
          exact h4
        · show svR (I' 242) (hP (XH X)) 0 = x.1
          rw [e2, cpy_sv (by grind) (by decide) (by grind) (by decide) (by decide) (by decide) hP5]
          exact mm3
        · exact ⟨xu_same, Nat.zero_le _, fun k hk' => absurd hk' (Nat.not_lt_zero _)⟩
        · show seeR (I' 242) 0 x.2
          rw [e2]
          exact seeR_cpy kx3.1 (by grind) (by grind) (by decide) (by decide) mm4
        · rw [eo 239 (by decide)]
          exact h8'
        · obtain ⟨m1, m2⟩ := h9 k hk4
          rw [eo 243 (by decide), e2]
          refine ⟨m1, fun y hy => ?_⟩
          obtain ⟨y1, y2⟩ := m2 y hy
          obtain ⟨g0, g1⟩ := b50_1 hk4
          refine ⟨?_, seeR_cut (by grind) (by grind) (hk.2.2.2.2.2.2.2.1 k y hk4 hy).2.2.1 (fun i i0 i1 => cpy_out (Or.inr (by grind))) y2⟩
          show svR (cpy (I 242) (50 * (1 + nI m)) 0 50) (hP (XH X)) (50 * (1 + nI k)) = y.1
          rw [svR_cut hP5 (by grind) (by grind) (fun i i0 i1 => cpy_out (Or.inr (by grind)))]
          exact y1
      · obtain ⟨h1, h2, h3, h4, h5, h6, h7, h8, h9⟩ := hk.mono (t' := t + 1) (by omega) (by omega)
        exact ⟨h1, h2, kx1, kx2.mono (by omega) (by omega), Nat.zero_le _, fun k hk' => absurd hk' (Nat.not_lt_zero _), kx3, h8, h9⟩
end UE
