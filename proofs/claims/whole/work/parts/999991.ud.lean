/-! THE LAW: seeing, marks, the tape, side by side -/
section UD
variable {e : Bool × Int32 × (Int32 → Int32)} {d t : Nat} {q : xMeth} {args : List Value} {X X' : XS} {a : Int32} {s p o w g x lb tt : Int32} {v : SV} {u : UV} {h : HV}
def nE (X : XS) (n : NV) : XS := (XT X, XH X, XN X, XV X, XU X, n, XK X, XLn X)
def cSee (X : XS) (s tt : Int32) : Prop := 0 ≤ s ∧ s < nI (hN (XH X)) ∧ 1 ≤ tt ∧ tt ≤ 60 ∧ (XE X).1 ≠ 8
theorem b_see (hk : okX t X) (ht : t ≤ 520) (hl : lb = 0 ∨ lb = 1) : stp e 2 6 M_X11_see M_X12_see [.ref 0, .int s, .int tt, .int lb] [.ref 226, .int s, .int tt, .int lb] t X := by
  by_cases c : cSee X s tt
  · obtain ⟨c1, c2, c3, c4, c5⟩ := id c
    have hn := hk.2.2.2.2.2.2.1
    have h8 : (XE X).1 < 8 := by have := hn.1; omega
    refine ⟨1, nE X (addN (XE X) s tt lb), ?_, ?_, ?_⟩
    · intro F I G J ha hb ea eb hX
      obtain ⟨h1, h2, h3, h4, h5, h6, h7, h8', h9, h10⟩ := hX
      have ca : ha = 5 ∨ ha = 17 := h1.a
      have ce : ea = 29 ∨ ea = 33 := h2.a
      refine Y.post (f_see_yes (lb := lb) h4 h8' c1 c2 c3 c4 h8 hl) ?_
      rintro _ _ ⟨rfl, F', I', rfl, o, hR⟩
      refine ⟨rfl, F', I', G, J, ha, hb, ea, eb, rfl, fun c hc => ⟨(o c (by unfold pN; omega)).1, (o c (by unfold pN; omega)).2, rfl⟩, h1, h2, h3.frm o (by unfold pN; omega) (by unfold pN; omega), h4.frm o (fun j hj => by unfold pN; omega), h5.frm (o ha (by unfold pN; omega)).1 rfl rfl, ?_, h7.no (fun c hc => by unfold pN at hc; omega) o, hR, h9.frm o (fun c hc => by unfold pN at hc; omega), h10.frm o (fun j hj => by unfold pN; omega)⟩
      show svC F' I' 37 = XV X
      rw [o.sv (fun j hj => by unfold pN; omega)]
      exact h6
    · intro F I G J ha hb ea eb hX
      obtain ⟨h1, h2, h3, h4, h5, h6, h7, h8', h9, h10⟩ := hX
      have hP5 := hk.1.2.1
      refine Y.post (k_see_yes (l := lb) h2 h8 h7 ⟨c1, c2⟩ ⟨c3, c4⟩) ?_
      rintro _ _ ⟨rfl, rfl⟩
      have n0 : 0 ≤ nI (XE X).1 := nI_pos' (by omega)
      have n8 : nI (XE X).1 < 8 := (nI_ltI (b := 8) (by omega) (by omega)).mpr h8
      have e242 : ∀ a b c' dd, xv (xv (xv (xv I 242 (26 + 3 * nI (XE X).1) a) 242 (26 + 3 * nI (XE X).1 + 1) b) 242 (26 + 3 * nI (XE X).1 + 2) c') 242 25 dd 242 = up (up (up (up (I 242) (26 + 3 * nI (XE X).1) a) (26 + 3 * nI (XE X).1 + 1) b) (26 + 3 * nI (XE X).1 + 2) c') 25 dd := fun a b c' dd => by rw [xv_row, row_same, xv_row, row_same, xv_row, row_same, xv_row, row_same]
      have eo : ∀ a b c' dd c2, c2 ≠ 242 → xv (xv (xv (xv I 242 (26 + 3 * nI (XE X).1) a) 242 (26 + 3 * nI (XE X).1 + 1) b) 242 (26 + 3 * nI (XE X).1 + 2) c') 242 25 dd c2 = I c2 := fun a b c' dd c2 hc => by rw [xv_ne hc, xv_ne hc, xv_ne hc, xv_ne hc]
      have ll : (if lb = 0 then 0 else 1) = lb := by rcases hl with rfl | rfl <;> decide
      rw [ll]
      have out : ∀ i, (i < 25 ∨ 50 ≤ i) → xv (xv (xv (xv I 242 (26 + 3 * nI (XE X).1) s) 242 (26 + 3 * nI (XE X).1 + 1) tt) 242 (26 + 3 * nI (XE X).1 + 2) lb) 242 25 (nI ((XE X).1 + 1)) 242 i = I 242 i := fun i hi => by
        rw [e242, up_ne (by grind), up_ne (by grind), up_ne (by grind), up_ne (by grind)]
      refine ⟨rfl, _, _, G, J, rfl, fun c hc => ⟨xu_other (by omega), eo _ _ _ _ _ (by omega), rfl⟩, xu_other (by decide), ?_⟩
      have se : seeR (xv (xv (xv (xv I 242 (26 + 3 * nI (XE X).1) s) 242 (26 + 3 * nI (XE X).1 + 1) tt) 242 (26 + 3 * nI (XE X).1 + 2) lb) 242 25 (nI ((XE X).1 + 1)) 242) 0 (addN (XE X) s tt lb) := by
        obtain ⟨s1, s2⟩ := h7
        refine ⟨by rw [e242]; exact up_self, fun k hk' => ?_⟩
        have hk2 : k < (XE X).1 + 1 := hk'
        have k0 : 0 ≤ nI k := nI_pos' (by omega)
        have z : ∀ a, (addN (XE X) s tt lb).2 a k = if k = (XE X).1 then (if a = 0 then s else if a = 1 then tt else lb) else (XE X).2 a k := fun a => rfl
        rw [z, z, z, e242]
        by_cases q : k = (XE X).1
        · subst q
          refine ⟨Eq.trans ?_ (if_pos rfl).symm, Eq.trans ?_ (if_pos rfl).symm, Eq.trans ?_ (if_pos rfl).symm⟩
          · rw [show 0 + 26 + 3 * nI (XE X).1 = 26 + 3 * nI (XE X).1 by grind, up_ne (by grind), up_ne (by grind), up_ne (by grind), up_self]
            all_goals rfl
          · rw [show 0 + 26 + 3 * nI (XE X).1 + 1 = 26 + 3 * nI (XE X).1 + 1 by grind, up_ne (by grind), up_ne (by grind), up_self]
            all_goals rfl
          · rw [show 0 + 26 + 3 * nI (XE X).1 + 2 = 26 + 3 * nI (XE X).1 + 2 by grind, up_ne (by grind), up_self]
            all_goals rfl
        · rw [if_neg q, if_neg q, if_neg q]
          have k1 : nI k < nI (XE X).1 := (nI_ltI (by omega) (by omega)).mpr (by omega)
          obtain ⟨a1, a2, a3⟩ := s2 k (by omega)
          refine ⟨?_, ?_, ?_⟩
          · rw [up_ne (by grind), up_ne (by grind), up_ne (by grind), up_ne (by grind)]
            exact a1
          · rw [up_ne (by grind), up_ne (by grind), up_ne (by grind), up_ne (by grind)]
            exact a2
          · rw [up_ne (by grind), up_ne (by grind), up_ne (by grind), up_ne (by grind)]
            exact a3
      have eo' : ∀ c2, c2 ≠ 242 → xv (xv (xv (xv I 242 (26 + 3 * nI (XE X).1) s) 242 (26 + 3 * nI (XE X).1 + 1) tt) 242 (26 + 3 * nI (XE X).1 + 2) lb) 242 25 (nI ((XE X).1 + 1)) c2 = I c2 := fun c2 hc => eo _ _ _ _ c2 hc
      generalize xv (xv (xv (xv I 242 (26 + 3 * nI (XE X).1) s) 242 (26 + 3 * nI (XE X).1 + 1) tt) 242 (26 + 3 * nI (XE X).1 + 2) lb) 242 25 (nI ((XE X).1 + 1)) = I' at *
      refine ⟨?_, h2.off (eo' 232 (by decide)) (eo' 233 (by decide)) (eo' 234 (by decide)) (eo' 244 (by decide)), ?_, ?_, ?_, ?_, se, ?_, fun m hm => ?_, h10.1, by rw [eo' 232 (by decide)]; exact h10.2⟩
      · rw [xu_ne (by omega), eo' 227 (by decide)]
        exact h1
      · show HR2 I' (XH X)
        unfold HR2
        rw [eo' 232 (by decide)]
        exact h3
      · rw [xu_ne (by omega), eo' 237 (by decide)]
        exact h4
      · show svR (I' 242) (hP (XH X)) 0 = XV X
        rw [svR_cut hP5 (by decide) (by decide) (fun i _ i1 => out i (Or.inl (by grind)))]
        exact h5
      · obtain ⟨u1, u2, u3⟩ := h6
        refine ⟨by rw [xu_ne (by omega)]; exact u1, u2, fun k hk' => ?_⟩
        obtain ⟨c0, c1⟩ := b50_5 (k := k) (by have : k < (XU X).1 := hk'; omega)
        have k0 : 0 ≤ nI k := nI_pos' (by have : k < (XU X).1 := hk'; omega)
        show svR (I' 242) (hP (XH X)) (50 * (5 + nI k)) = (XU X).2 k
        have k15 : nI k < 16 := (nI_ltI (b := 16) (by have : k < (XU X).1 := hk'; omega) (by omega)).mpr (by have : k < (XU X).1 := hk'; omega)
        rw [svR_cut hP5 c0 c1 (fun i i0 i1 => out i (Or.inr (by grind)))]
        exact u3 k hk'
      · rw [eo' 239 (by decide)]
        exact h8'
      · obtain ⟨m1, m2⟩ := h9 m hm
        rw [eo' 243 (by decide)]
        refine ⟨m1, fun x hx => ?_⟩
        obtain ⟨y1, y2⟩ := m2 x hx
        obtain ⟨c0, c1⟩ := b50_1 hm
        refine ⟨?_, seeR_cut (by grind) (by grind) (hk.2.2.2.2.2.2.2.1 m x hm hx).2.2.1 (fun i i0 i1 => out i (Or.inr (by grind))) y2⟩
        show svR (I' 242) (hP (XH X)) (50 * (1 + nI m)) = x.1
        rw [svR_cut hP5 (by grind) (by grind) (fun i i0 i1 => out i (Or.inr (by grind)))]
        exact y1
    · obtain ⟨h1, h2, h3, h4, h5, h6, h7, h9⟩ := hk.mono (t' := t + 1) (by omega) (by omega)
      refine ⟨h1, h2, h3, h4, h5, h6, ⟨by show (XE X).1 + 1 ≤ 8; omega, fun k hk' => ?_⟩, h9⟩
      have hk2 : k < (XE X).1 + 1 := hk'
      have z : ∀ a, (addN (XE X) s tt lb).2 a k = if k = (XE X).1 then (if a = 0 then s else if a = 1 then tt else lb) else (XE X).2 a k := fun a => rfl
      show (0 ≤ (addN (XE X) s tt lb).2 0 k ∧ (addN (XE X) s tt lb).2 0 k < nI (hN (XH X))) ∧ (1 ≤ (addN (XE X) s tt lb).2 1 k ∧ (addN (XE X) s tt lb).2 1 k ≤ 60) ∧ ((addN (XE X) s tt lb).2 2 k = 0 ∨ (addN (XE X) s tt lb).2 2 k = 1)
      rw [z, z, z]
      by_cases q : k = (XE X).1
      · rw [if_pos q, if_pos q, if_pos q]
        exact ⟨⟨c1, c2⟩, ⟨c3, c4⟩, hl⟩
      · rw [if_neg q, if_neg q, if_neg q]
        exact h7.2 k (by omega)
  · exact ⟨_, _, CSt.ofA (fun _ _ _ _ _ _ _ _ ⟨_, _, _, h4, _, h6, h7, h8, _⟩ => f_see_no h4 h8 c), RSt.ofA hk (fun _ _ _ _ _ _ _ _ ⟨_, h2, _, _, h5, h6, h7, _⟩ => k_see_no h2 hk.2.2.2.2.2.2.1.1 h7 c), hk.mono (by omega) (by omega)⟩
def nT (X : XS) (T : List Int32) : XS := (T, XH X, XN X, XV X, XU X, XE X, XK X, XLn X)
theorem b_feed {x y z : Int64} (hk : okX t X) (ht : t ≤ 520) : stp e 2 6 M_X11_feed M_X12_feed [.ref 0, .long x, .long y, .long z] [.ref 226, .long x, .long y, .long z] t X := by
  refine ⟨nI (fedL (XT X) x y z).length, nT X (fedL (XT X) x y z), ?_, ?_, hk.mono (by omega) (by omega)⟩
  · intro F I G J ha hb ea eb hX
    obtain ⟨h1, h2, h3, h4, h5, h6, h7, h8', h9, h10⟩ := hX
    have ca : ha = 5 ∨ ha = 17 := h1.a
    have ce : ea = 29 ∨ ea = 33 := h2.a
    refine Y.post (f_feed h3) ?_
    rintro _ _ ⟨rfl, F', I', rfl, o, hT⟩
    refine ⟨rfl, F', I', G, J, ha, hb, ea, eb, rfl, fun c hc => ⟨(o c (by omega)).1, (o c (by omega)).2, rfl⟩, h1, h2, hT, h4.frm o (fun j hj => by omega), h5.frm (o ha (by omega)).1 rfl rfl, ?_, h7.no (fun c hc => by omega) o, h8'.frm o (fun j hj => by omega), h9.frm o (fun c hc => by omega), h10.frm o (fun j hj => by omega)⟩
    show svC F' I' 37 = XV X
    rw [o.sv (fun j hj => by omega)]
    exact h6
  · intro F I G J ha hb ea eb hX
    obtain ⟨h1, h2, h3, h4, h5, h6, h7, h8', h9, h10⟩ := hX
    refine Y.post (k_feed h1) ?_
    rintro _ _ ⟨rfl, F', I', rfl, ⟨oF, oI⟩, hT⟩
    have fk : ∀ k, k ≠ 0 → k ≠ 2 → F' 226 k = F 226 k := fun k h0 h2 => by rw [oF 226 k (by omega), xu_ne (by omega)]
    refine ⟨rfl, F', I', G, J, rfl, fun c hc => ⟨?_, oI c (by omega), rfl⟩, ?_, hT, h2.off (oI 232 (by decide)) (oI 233 (by decide)) (oI 234 (by decide)) (oI 244 (by decide)), ?_, ?_, ?_, ?_, ?_, ?_, fun m hm => ?_, h10.1, by rw [oI 232 (by decide)]; exact h10.2⟩
    · funext k
      rw [oF c k (by omega), xu_ne (by omega)]
    · funext k
      rw [oF 999 k (by omega), xu_ne (by omega)]
    · show HR2 I' (XH X)
      unfold HR2
      rw [oI 232 (by decide)]
      exact h3
    · rw [fk 18 (by decide) (by decide), oI 237 (by decide)]
      exact h4
    · rw [oI 242 (by decide)]
      exact h5
    · rw [fk 25 (by decide) (by decide), oI 242 (by decide)]
      exact h6
    · rw [oI 242 (by decide)]
      exact h7
    · rw [oI 239 (by decide)]
      exact h8'
    · rw [oI 242 (by decide), oI 243 (by decide)]
      exact h9 m hm
end UD
