/-! BOTH SIDES AGREE: who can be placed, the most who can sit -/
def nearOK (h : HV) : Prop := (∀ i j : Nat, i < 32 → j < 32 → i < hN h → tb (hNear h (nI i)) (nI j) = true → j < hN h ∧ i ≠ j ∧ tb (hNear h (nI j)) (nI i) = true) ∧ ∀ s, 0 ≤ s → s < 7 → 0 ≤ hNear h s ∧ hNear h s < 128
section TA
variable {h : HV} {v : SV} {N P : Nat}
theorem tb_cof {p : Int32} {r : Int32 → Int32} {i : Nat} (hi : i < 32) : ∀ k, (∀ o, o < k → ∃ s, s < 32 ∧ r (nI o) = nI s) → (tb (cofK h p r k) (nI i) = true ↔ ∃ o, o < k ∧ tb (hFoes h p) (nI o) = true ∧ r (nI o) = nI i)
  | 0, _ => by
    rw [show cofK h p r 0 = 0 from rfl, tb_zero hi]
    constructor
    · intro q; cases q
    · rintro ⟨o, ho, -⟩; omega
  | k + 1, hr => by
    have ih := tb_cof (p := p) (r := r) hi k (fun o ho => hr o (by omega))
    obtain ⟨s, hs, es⟩ := hr k (by omega)
    unfold cofK
    by_cases c : tb (hFoes h p) (nI k) = true
    · rw [if_pos c, tb_or hi, Bool.or_eq_true, ih, es, tb_shl hs hi, decide_eq_true_iff]
      constructor
      · rintro (⟨o, a, b, d⟩ | rfl)
        · exact ⟨o, by omega, b, d⟩
        · exact ⟨k, by omega, c, es⟩
      · rintro ⟨o, a, b, d⟩
        by_cases hk : o = k
        · subst hk
          rw [es, nI_eq (by omega) (by omega)] at d
          exact Or.inr d
        · exact Or.inl ⟨o, by omega, b, d⟩
    · rw [if_neg c, ih]
      constructor
      · rintro ⟨o, a, b, d⟩
        exact ⟨o, by omega, b, d⟩
      · rintro ⟨o, a, b, d⟩
        by_cases hk : o = k
        · subst hk
          exact absurd b c
        · exact ⟨o, by omega, b, d⟩
theorem plcQ_iff {met p s : Int32} {r : Int32 → Int32} : ∀ k, plcQ h met p r s k = true ↔ tb met s = false ∧ ∀ o, o < k → ¬ (tb (hFoes h p) (nI o) = true ∧ tb (hNear h s) (r (nI o)) = true)
  | 0 => by
    unfold plcQ
    simp
  | k + 1 => by
    have ih := plcQ_iff (met := met) (p := p) (s := s) (r := r) k
    have ef : foeS h p (nI k) = tb (hFoes h p) (nI k) := rfl
    unfold plcQ
    rw [Bool.and_eq_true, ih, ef, Bool.not_eq_true', Bool.and_eq_false_imp]
    constructor
    · rintro ⟨⟨a, b⟩, c⟩
      refine ⟨a, fun o ho => ?_⟩
      by_cases hk : o = k
      · subst hk
        rintro ⟨x, y⟩
        rw [c x] at y
        exact absurd y Bool.false_ne_true
      · exact b o (by omega)
    · rintro ⟨a, b⟩
      refine ⟨⟨a, fun o ho => b o (by omega)⟩, fun x => ?_⟩
      have := b k (by omega)
      cases hh : tb (hNear h s) (r (nI k))
      · rfl
      · exact absurd ⟨x, hh⟩ this
theorem plc_test (hk : nearOK h) (hN7 : hN h ≤ 7) {met : Int32} {p s : Nat} (hs : s < hN h) {r r' : Int32 → Int32} (hr : ∀ o, o < p → r (nI o) = r' (nI o) ∧ ∃ t, t < hN h ∧ r' (nI o) = nI t) : (!tb (met ||| nrA h (cofK h (nI p) r p) (hN h)) (nI s)) = plcQ h met (nI p) r' (nI s) p := by
  rw [Bool.eq_iff_iff, plcQ_iff, Bool.not_eq_true', tb_or (by omega), Bool.or_eq_false_iff]
  refine and_congr Iff.rfl ?_
  have hc := fun i (hi : i < 32) => tb_cof (h := h) (p := nI p) (r := r) hi p (fun o ho => by
    obtain ⟨a, t, b, c⟩ := hr o ho
    exact ⟨t, by omega, a.trans c⟩)
  constructor
  · intro hno o ho ⟨x, y⟩
    obtain ⟨a, t, b, c⟩ := hr o ho
    rw [c] at y
    have : tb (nrA h (cofK h (nI p) r p) (hN h)) (nI s) = true := (tb_nr (by omega) _).mpr ⟨t, b, (hc t (by omega)).mpr ⟨o, ho, x, a.trans c⟩, (hk.1 s t (by omega) (by omega) hs y).2.2⟩
    rw [this] at hno
    cases hno
  · intro hall
    cases hh : tb (nrA h (cofK h (nI p) r p) (hN h)) (nI s)
    · rfl
    · obtain ⟨i, i1, i2, i3⟩ := (tb_nr (by omega) _).mp hh
      obtain ⟨o, o1, o2, o3⟩ := (hc i (by omega)).mp i2
      obtain ⟨a, t, b, c⟩ := hr o o1
      refine absurd ⟨o2, ?_⟩ (hall o o1)
      rw [← a, o3]
      exact (hk.1 i s (by omega) (by omega) i1 i3).2.2
/-- the same places so far; the same count; the same first row -/
def plR (h : HV) (k : Nat) (a b : sg) : Prop := (∀ o, o < k → a.1 (nI o) = b.1 (nI o) ∧ ∃ t, t < hN h ∧ b.1 (nI o) = nI t) ∧ a.2.2 = b.2.2 ∧ (a.2.2 ≠ 0 → ∀ o, o < hP h → a.2.1 (nI o) = b.2.1 (nI o))
theorem cp5_at {r b : Int32 → Int32} {o : Nat} : ∀ n, n ≤ 5 → cp5 r b n (nI o) = (if o < n ∧ o < 5 then r (nI o) else b (nI o)) ∨ 5 ≤ o
  | 0, _ => Or.inl (by rw [if_neg (by omega)]; rfl)
  | n + 1, hn => by
    by_cases h5 : 5 ≤ o
    · exact Or.inr h5
    refine Or.inl ?_
    have ih := (cp5_at (r := r) (b := b) (o := o) n (by omega)).resolve_right h5
    unfold cp5
    by_cases hk : o = n
    · subst hk
      rw [up_self, if_pos ⟨by omega, by omega⟩]
    · rw [up_ne (nI_ne (by omega) (by omega) hk), ih]
      by_cases ho : o < n
      · rw [if_pos ⟨ho, by omega⟩, if_pos ⟨by omega, by omega⟩]
      · rw [if_neg (fun z => ho z.1), if_neg (fun z => by omega)]
theorem cp5_5 {r b : Int32 → Int32} {o : Nat} (ho : o < 5) : cp5 r b 5 (nI o) = r (nI o) := by
  have := (cp5_at (r := r) (b := b) (o := o) 5 (Nat.le_refl _)).resolve_right (by omega)
  rw [this, if_pos ⟨ho, ho⟩]
theorem plR.up {p : Nat} {a b : sg} {m : Nat} (h1 : plR h p a b) (hm : m < hN h) (hN7 : hN h ≤ 7) (hp5 : p < 5) : plR h (p + 1) (up a.1 (nI p) (nI m), a.2.1, a.2.2) (up b.1 (nI p) (nI m), b.2.1, b.2.2) := by
  obtain ⟨q1, q2, q3⟩ := h1
  refine ⟨fun o ho => ?_, q2, q3⟩
  dsimp only
  by_cases q : o = p
  · rw [q, up_self, up_self]
    exact ⟨rfl, m, hm, rfl⟩
  · rw [up_ne (nI_ne (by omega) (by omega) q), up_ne (nI_ne (by omega) (by omega) q)]
    exact q1 o (by omega)
theorem plc_rel (hk : nearOK h) (hN7 : hN h ≤ 7) (hP5 : hP h ≤ 5) : ∀ (n p : Nat) (met : Int32) (a b : sg), n + p = hP h → plR h p a b → plR h p (plcC h n p met a) (plc h n p met b) ∧ ∀ o, o < p → (plc h n p met b).1 (nI o) = b.1 (nI o) := by
  intro n
  induction n with
  | zero =>
    intro p met a b hp hab
    obtain ⟨ra, ba, wa⟩ := a
    obtain ⟨rb, bb, wb⟩ := b
    obtain ⟨h1, h2, h3⟩ := hab
    dsimp only at h1 h2 h3
    subst h2
    unfold plcC plc
    refine ⟨⟨h1, rfl, fun _ o ho => ?_⟩, fun _ _ => rfl⟩
    dsimp only
    by_cases q : wa = 0
    · rw [if_pos q, if_pos q, cp5_5 (by omega), cp5_5 (by omega)]
      exact (h1 o (by omega)).1
    · rw [if_neg q, if_neg q]
      exact h3 q o ho
  | succ n ih =>
    intro p met a b hp hab
    unfold plcC plc
    have : ∀ m, m ≤ hN h → plR h p (plcL (fun s g => plcC h n (p + 1) (met ||| (1 <<< (s &&& 31))) (up g.1 (nI p) s, g.2.1, g.2.2)) (fun _ s => !tb (met ||| nrA h (cofK h (nI p) a.1 p) (hN h)) s) m a) (plcL (fun s g => plc h n (p + 1) (met ||| (1 <<< (s &&& 31))) (up g.1 (nI p) s, g.2.1, g.2.2)) (fun r s => plcQ h met (nI p) r s p) m b) ∧ ∀ o, o < p → (plcL (fun s g => plc h n (p + 1) (met ||| (1 <<< (s &&& 31))) (up g.1 (nI p) s, g.2.1, g.2.2)) (fun r s => plcQ h met (nI p) r s p) m b).1 (nI o) = b.1 (nI o) := by
      intro m
      induction m with
      | zero => intro _; exact ⟨hab, fun _ _ => rfl⟩
      | succ m ihm =>
        intro hm
        obtain ⟨ihm, ihf⟩ := ihm (by omega)
        unfold plcL
        generalize plcL (fun s g => plcC h n (p + 1) (met ||| (1 <<< (s &&& 31))) (up g.1 (nI p) s, g.2.1, g.2.2)) (fun _ s => !tb (met ||| nrA h (cofK h (nI p) a.1 p) (hN h)) s) m a = a' at *
        generalize plcL (fun s g => plc h n (p + 1) (met ||| (1 <<< (s &&& 31))) (up g.1 (nI p) s, g.2.1, g.2.2)) (fun r s => plcQ h met (nI p) r s p) m b = b' at *
        have e1 : (!tb (met ||| nrA h (cofK h (nI p) a.1 p) (hN h)) (nI m)) = plcQ h met (nI p) b'.1 (nI m) p := plc_test hk hN7 (by omega) (fun o ho => by
          obtain ⟨x, t, y, z⟩ := hab.1 o ho
          rw [ihf o ho]
          exact ⟨x, t, y, z⟩)
        rw [e1]
        cases plcQ h met (nI p) b'.1 (nI m) p
        · exact ⟨ihm, ihf⟩
        · obtain ⟨r1, r2⟩ := ih (p + 1) (met ||| (1 <<< (nI m &&& 31))) _ _ (by omega) (ihm.up (m := m) (by omega) hN7 (by omega))
          rw [if_pos rfl, if_pos rfl]
          refine ⟨⟨fun o ho => r1.1 o (by omega), r1.2.1, r1.2.2⟩, fun o ho => ?_⟩
          rw [r2 o (by omega)]
          dsimp only
          rw [up_ne (nI_ne (by omega) (by omega) (by omega))]
          exact ihf o ho
    exact this (hN h) (Nat.le_refl _)
theorem placed_eq (hk : nearOK h) (hN7 : hN h ≤ 7) (hP5 : hP h ≤ 5) {r b r' b' : Int32 → Int32} {t : Int32} : (if t = -1 then (plcC h (hP h) 0 0 (r, b, 0)).2.2 else if 0 ≤ t ∧ t < nI (hP h) then (if (plcC h (hP h) 0 0 (r, b, 0)).2.2 = 0 then -2 else (plcC h (hP h) 0 0 (r, b, 0)).2.1 t) else -2) = aPlaced h r' b' t := by
  obtain ⟨⟨-, e1, e2⟩, -⟩ := plc_rel hk hN7 hP5 (hP h) 0 0 (r, b, 0) (r', b', 0) (by omega) ⟨fun o ho => by omega, rfl, fun q => absurd rfl q⟩
  unfold aPlaced
  rw [← e1]
  split
  · rfl
  split
  · rename_i hh
    split
    · rfl
    · rename_i hne
      obtain ⟨k, hk1, rfl⟩ := nI_ex (P := hP h) (by omega) hh.1 hh.2
      exact e2 hne k hk1
  · rfl
/-- the same for the most: rows so far, how many, the first row -/
def moR (h : HV) (k : Nat) (a b : sg) : Prop := (∀ o, o < k → a.1 (nI o) = b.1 (nI o)) ∧ a.2.2 = b.2.2 ∧ (a.2.2 ≠ -1 → ∀ o, o < hP h → a.2.1 (nI o) = b.2.1 (nI o))
/-- so many seats are met -/
def metN (met : Int32) (c : Nat) : Prop := (0 ≤ met ∧ met < 128) ∧ bW met = nI c
theorem cnt_up {p q : Int32 → Bool} {j : Nat} (hj : p (nI j) = false) (hq : ∀ k, k < 32 → q (nI k) = (p (nI k) || decide (k = j))) : ∀ n, n ≤ 32 → cnt q n = cnt p n + (if j < n then 1 else 0)
  | 0, _ => rfl
  | n + 1, hn => by
    have ih := cnt_up hj hq n (by omega)
    unfold cnt
    rw [ih, hq n (by omega)]
    by_cases h1 : n = j
    · subst h1
      rw [hj, if_neg (Nat.lt_irrefl _), if_pos (Nat.lt_succ_self _), decide_eq_true rfl]
      simp
    · rw [decide_eq_false h1, Bool.or_false]
      by_cases h2 : j < n
      · rw [if_pos h2, if_pos (show j < n + 1 by omega)]
        grind
      · rw [if_neg h2, if_neg (show ¬ j < n + 1 by omega)]
        simp
theorem or_128 {x y : Int32} (h1 : 0 ≤ x ∧ x < 128) (h2 : 0 ≤ y ∧ y < 128) : 0 ≤ x ||| y ∧ x ||| y < 128 := by
  have e : x ||| y = bset (fun s => tb (x ||| y) s) 7 := by
    refine tb_ext (fun j hj => ?_)
    rw [tb_bset hj (by omega)]
    by_cases c : j < 7
    · rw [decide_eq_true c, Bool.true_and]
    · have a := tb_lt (N := 7) (k := j) h1.1 h1.2 (by omega) (by omega) hj
      have b := tb_lt (N := 7) (k := j) h2.1 h2.2 (by omega) (by omega) hj
      rw [decide_eq_false c, Bool.false_and, tb_or hj, a, b]
      rfl
  rw [e]
  exact bset_128 (Nat.le_refl _)
theorem metN.add {met : Int32} {c s : Nat} (hm : metN met c) (hs : s < 7) (hn : tb met (nI s) = false) : metN (met ||| (1 <<< (nI s &&& 31))) (c + 1) := by
  obtain ⟨h1, h2⟩ := hm
  obtain ⟨b1, b2, b3, -⟩ := bW_one hs
  refine ⟨or_128 h1 ⟨b2, b3⟩, ?_⟩
  rw [bW_eq, bc_cnt 30 (by omega)] at h2 ⊢
  rw [cnt_up (p := tb met) (j := s) hn (fun k hk => by rw [tb_or hk, tb_shl (by omega) hk, show decide (s = k) = decide (k = s) from by simp [eq_comm]]) 30 (by omega), h2, if_pos (by omega), nI_succ]
theorem metN_0 : metN 0 0 := ⟨by decide, by rw [bW_nil]; rfl⟩
theorem and_not_met {x met : Int32} {s : Nat} (hs : s < 32) (h : tb (x &&& (met ^^^ (-1))) (nI s) = true) : tb met (nI s) = false := by
  rw [tb_and hs, tb_xor1 hs, Bool.and_eq_true] at h
  simpa using h.2
theorem srch_prune (hN7 : hN h ≤ 7) (hP5 : hP h ≤ 5) : ∀ (n p c : Nat) (met m : Int32) (r b : Int32 → Int32), n + p = hP h → c ≤ p → metN met c → nI (c + n) ≤ m → (srch h v n p met (r, b, m)).2 = (b, m) ∧ ∀ o, o < p → (srch h v n p met (r, b, m)).1 (nI o) = r (nI o) := by
  intro n
  induction n with
  | zero =>
    intro p c met m r b hp hc hm hle
    unfold srch
    have hle0 : nI c ≤ m := hle
    rw [hm.2, if_neg (Int32.not_lt.mpr hle0)]
    exact ⟨rfl, fun _ _ => rfl⟩
  | succ n ih =>
    intro p c met m r b hp hc hm hle
    have hle' : nI (c + n) ≤ m := by
      have : nI (c + n) ≤ nI (c + (n + 1)) := (nI_leI (by omega) (by omega)).mpr (by omega)
      exact Int32.le_trans this hle
    have upo : ∀ {f : Int32 → Int32} {x : Int32} {o : Nat}, o < p → up f (nI p) x (nI o) = f (nI o) := fun ho => up_ne (nI_ne (by omega) (by omega) (by omega))
    unfold srch
    split
    · have lp : ∀ k, k ≤ hN h → (srchL (fun s g => srch h v n (p + 1) (met ||| (1 <<< (s &&& 31))) (up g.1 (nI p) s, g.2.1, g.2.2)) (bset (maySitS v (nI p)) (hN h) &&& (met ^^^ (-1))) k (up r (nI p) (-1), b, m)).2 = (b, m) ∧ ∀ o, o < p → (srchL (fun s g => srch h v n (p + 1) (met ||| (1 <<< (s &&& 31))) (up g.1 (nI p) s, g.2.1, g.2.2)) (bset (maySitS v (nI p)) (hN h) &&& (met ^^^ (-1))) k (up r (nI p) (-1), b, m)).1 (nI o) = r (nI o) := by
        intro k
        induction k with
        | zero => intro _; exact ⟨rfl, fun o ho => upo ho⟩
        | succ k ihk =>
          intro hk
          obtain ⟨k1, k2⟩ := ihk (by omega)
          unfold srchL
          split
          · rename_i ht
            generalize srchL (fun s g => srch h v n (p + 1) (met ||| (1 <<< (s &&& 31))) (up g.1 (nI p) s, g.2.1, g.2.2)) (bset (maySitS v (nI p)) (hN h) &&& (met ^^^ (-1))) k (up r (nI p) (-1), b, m) = g at *
            obtain ⟨r1, b1, m1⟩ := g
            cases k1
            obtain ⟨z1, z2⟩ := ih (p + 1) (c + 1) (met ||| (1 <<< (nI k &&& 31))) m (up r1 (nI p) (nI k)) b (by omega) (by omega) (hm.add (by omega) (and_not_met (by omega) ht)) (by rw [show c + 1 + n = c + (n + 1) by omega]; exact hle)
            exact ⟨z1, fun o ho => by rw [z2 o (by omega), upo ho]; exact k2 o ho⟩
          · exact ⟨k1, k2⟩
      obtain ⟨k1, k2⟩ := lp (hN h) (Nat.le_refl _)
      dsimp only
      generalize srchL (fun s g => srch h v n (p + 1) (met ||| (1 <<< (s &&& 31))) (up g.1 (nI p) s, g.2.1, g.2.2)) (bset (maySitS v (nI p)) (hN h) &&& (met ^^^ (-1))) (hN h) (up r (nI p) (-1), b, m) = g at *
      obtain ⟨r1, b1, m1⟩ := g
      cases k1
      obtain ⟨z1, z2⟩ := ih (p + 1) c met m (up r1 (nI p) (-1)) b (by omega) (by omega) hm hle'
      exact ⟨z1, fun o ho => by rw [z2 o (by omega), upo ho]; exact k2 o ho⟩
    · obtain ⟨z1, z2⟩ := ih (p + 1) c met m (up r (nI p) (-1)) b (by omega) (by omega) hm hle'
      exact ⟨z1, fun o ho => by rw [z2 o (by omega), upo ho]⟩
theorem srch_ge (hP5 : hP h ≤ 5) : ∀ (n p c : Nat) (met : Int32) (g : sg), metN met c → nI c ≤ (srch h v n p met g).2.2 := by
  intro n
  induction n with
  | zero =>
    intro p c met g hm
    obtain ⟨r, b, m⟩ := g
    unfold srch
    rw [hm.2]
    split
    · exact Int32.le_refl _
    · rename_i q
      exact Int32.not_lt.mp q
  | succ n ih =>
    intro p c met g hm
    obtain ⟨r, b, m⟩ := g
    unfold srch
    split
    · exact ih (p + 1) c met _ hm
    · exact ih (p + 1) c met _ hm
theorem moR.up {p : Nat} {a b : sg} {x : Int32} (h1 : moR h p a b) (hp5 : p < 5) : moR h (p + 1) (up a.1 (nI p) x, a.2.1, a.2.2) (up b.1 (nI p) x, b.2.1, b.2.2) := by
  obtain ⟨q1, q2, q3⟩ := h1
  refine ⟨fun o ho => ?_, q2, q3⟩
  dsimp only
  by_cases q : o = p
  · rw [q, up_self, up_self]
  · rw [up_ne (nI_ne (by omega) (by omega) q), up_ne (nI_ne (by omega) (by omega) q)]
    exact q1 o (by omega)
theorem moR.less {p : Nat} {a b : sg} (h1 : moR h (p + 1) a b) : moR h p a b := ⟨fun o ho => h1.1 o (by omega), h1.2⟩
theorem srch_rel (hN7 : hN h ≤ 7) (hP5 : hP h ≤ 5) : ∀ (n p c : Nat) (met : Int32) (a b : sg), n + p = hP h → c ≤ p → metN met c → moR h p a b → moR h p (srcC h v n p met (nI c) a) (srch h v n p met b) := by
  intro n
  induction n with
  | zero =>
    intro p c met a b hp hc hm hab
    obtain ⟨ra, ba, ma⟩ := a
    obtain ⟨rb, bb, mb⟩ := b
    obtain ⟨h1, h2, h3⟩ := hab
    dsimp only at h1 h2 h3
    subst h2
    have e1 : nI c + nI (hP h) - nI p = nI c := by rw [show hP h = p by omega]; grind
    unfold srcC srch
    rw [e1, hm.2]
    by_cases q : nI c ≤ ma
    · rw [if_pos q, if_neg (Int32.not_lt.mpr q)]
      exact ⟨h1, rfl, h3⟩
    · rw [if_neg q, if_pos (Int32.not_le.mp q)]
      refine ⟨h1, rfl, fun _ o ho => ?_⟩
      dsimp only
      rw [cp5_5 (by omega), cp5_5 (by omega)]
      exact h1 o (by omega)
  | succ n ih =>
    intro p c met a b hp hc hm hab
    obtain ⟨ra, ba, ma⟩ := a
    obtain ⟨rb, bb, mb⟩ := b
    have e1 : nI c + nI (hP h) - nI p = nI (c + (n + 1)) := by
      rw [show hP h = (n + 1) + p by omega, nI_addN, nI_addN (a := c)]
      grind
    have h2 : ma = mb := hab.2.1
    subst h2
    unfold srcC
    rw [e1]
    by_cases q : nI (c + (n + 1)) ≤ ma
    · rw [if_pos q]
      obtain ⟨z1, z2⟩ := srch_prune (v := v) hN7 hP5 (n + 1) p c met ma rb bb hp hc hm q
      generalize srch h v (n + 1) p met (rb, bb, ma) = g at *
      obtain ⟨r1, b1, m1⟩ := g
      cases z1
      exact ⟨fun o ho => by rw [z2 o ho]; exact hab.1 o ho, rfl, hab.2.2⟩
    · rw [if_neg q]
      clear q
      unfold srch
      by_cases hch : chS v (nI p) < 0
      · rw [if_pos hch, if_pos hch]
        dsimp only
        have lp : ∀ k, k ≤ hN h → moR h p (srchL (fun s g => srcC h v n (p + 1) (met ||| (1 <<< (s &&& 31))) (nI c + 1) (up g.1 (nI p) s, g.2.1, g.2.2)) (bset (maySitS v (nI p)) (hN h) &&& (met ^^^ (-1))) k (ra, ba, ma)) (srchL (fun s g => srch h v n (p + 1) (met ||| (1 <<< (s &&& 31))) (up g.1 (nI p) s, g.2.1, g.2.2)) (bset (maySitS v (nI p)) (hN h) &&& (met ^^^ (-1))) k (up rb (nI p) (-1), bb, ma)) := by
          intro k
          induction k with
          | zero =>
            intro _
            refine ⟨fun o ho => ?_, rfl, hab.2.2⟩
            show ra (nI o) = up rb (nI p) (-1) (nI o)
            rw [up_ne (nI_ne (by omega) (by omega) (by omega))]
            exact hab.1 o ho
          | succ k ihk =>
            intro hk
            have ihk := ihk (by omega)
            unfold srchL
            cases ht : tb (bset (maySitS v (nI p)) (hN h) &&& (met ^^^ (-1))) (nI k)
            · rw [if_neg Bool.false_ne_true, if_neg Bool.false_ne_true]
              exact ihk
            · rw [if_pos rfl, if_pos rfl, ← nI_succ]
              exact (ih (p + 1) (c + 1) _ _ _ (by omega) (by omega) (hm.add (by omega) (and_not_met (by omega) ht)) (by rw [← nI_succ] at ihk; exact ihk.up (by omega))).less
        have l := lp (hN h) (Nat.le_refl _)
        exact (ih (p + 1) c met _ _ (by omega) (by omega) hm (l.up (by omega))).less
      · rw [if_neg hch, if_neg hch]
        dsimp only
        have l0 : ∀ k, k ≤ 32 → srchL (fun s g => srcC h v n (p + 1) (met ||| (1 <<< (s &&& 31))) (nI c + 1) (up g.1 (nI p) s, g.2.1, g.2.2)) 0 k (ra, ba, ma) = (ra, ba, ma) := by
          intro k
          induction k with
          | zero => intro _; rfl
          | succ k ihk =>
            intro hk
            unfold srchL
            rw [tb_zero (by omega), if_neg Bool.false_ne_true]
            exact ihk (by omega)
        rw [l0 (hN h) (by omega)]
        exact (ih (p + 1) c met _ _ (by omega) (by omega) hm (moR.up (a := (ra, ba, ma)) (b := (rb, bb, ma)) hab (by omega))).less
theorem most_eq (hN7 : hN h ≤ 7) (hP5 : hP h ≤ 5) {r b r' b' : Int32 → Int32} {t : Int32} : (if t = -1 then (srcC h v (hP h) 0 0 0 (r, b, -1)).2.2 else if 0 ≤ t ∧ t < nI (hP h) ∧ chS v t < 0 then (srcC h v (hP h) 0 0 0 (r, b, -1)).2.1 t else -2) = aMost h v r' b' t := by
  obtain ⟨-, e1, e2⟩ := srch_rel (v := v) hN7 hP5 (hP h) 0 0 0 (r, b, -1) (r', b', -1) (by omega) (Nat.le_refl _) metN_0 ⟨fun o ho => by omega, rfl, fun q => absurd rfl q⟩
  have ge := srch_ge (v := v) hP5 (hP h) 0 0 0 (r', b', -1) metN_0
  unfold aMost
  have e1' : (srcC h v (hP h) 0 0 0 (r, b, -1)).2.2 = (srch h v (hP h) 0 0 (r', b', -1)).2.2 := e1
  rw [← e1'] at ge ⊢
  split
  · rfl
  split
  · rename_i hh
    obtain ⟨k, hk1, rfl⟩ := nI_ex (P := hP h) (by omega) hh.1 hh.2.1
    refine e2 (fun q => ?_) k hk1
    have q' : (srcC h v (hP h) 0 0 0 (r, b, -1)).2.2 = -1 := q
    rw [q'] at ge
    exact absurd ge (by decide)
  · rfl
end TA
