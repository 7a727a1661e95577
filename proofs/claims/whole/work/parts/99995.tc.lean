/-! BOTH SIDES AGREE: blocks -/
section TC
variable {h : HV} {v : SV} {fr : Int32}
/-- reached from a seat, by so many steps, over some seats -/
def mem (h : HV) (fr : Int32) (n s t : Nat) : Bool := tb (aroK h (nI s) fr n) (nI t)
theorem mem_0 {s t : Nat} (hs : s < 32) (ht : t < 32) : mem h fr 0 s t = decide (s = t) := tb_shl hs ht
theorem mem_s {n s t : Nat} (ht : t < 32) : mem h fr (n + 1) s t = true ↔ mem h fr n s t = true ∨ (tb fr (nI t) = true ∧ ∃ i, i < hN h ∧ mem h fr n s i = true ∧ tb (hNear h (nI i)) (nI t) = true) := by
  have e : mem h fr (n + 1) s t = tb (arS h (aroK h (nI s) fr n) fr (hN h)) (nI t) := rfl
  rw [e, tb_ar ht, Bool.or_eq_true, Bool.and_eq_true, tb_nr ht]
  constructor
  · rintro (a | ⟨⟨i, b, c, d⟩, f⟩)
    · exact Or.inl a
    · exact Or.inr ⟨f, i, b, c, d⟩
  · rintro (a | ⟨f, i, b, c, d⟩)
    · exact Or.inl a
    · exact Or.inr ⟨⟨i, b, c, d⟩, f⟩
theorem mem_mono {s t n : Nat} (ht : t < 32) : ∀ m, n ≤ m → mem h fr n s t = true → mem h fr m s t = true
  | 0, hm, hh => by rw [show n = 0 by omega] at hh; exact hh
  | m + 1, hm, hh => by
    by_cases q : n = m + 1
    · rw [q] at hh
      exact hh
    · exact (mem_s ht).mpr (Or.inl (mem_mono ht m (by omega) hh))
theorem mem_fr {s : Nat} (hs : s < 32) (hf : tb fr (nI s) = true) : ∀ n t, t < 32 → mem h fr n s t = true → tb fr (nI t) = true
  | 0, t, ht, hh => by
    rw [mem_0 hs ht, decide_eq_true_iff] at hh
    rw [← hh]
    exact hf
  | n + 1, t, ht, hh => by
    rcases (mem_s ht).mp hh with a | ⟨a, -⟩
    · exact mem_fr hs hf n t ht a
    · exact a
theorem mem_stab {s n : Nat} (hN7 : hN h ≤ 7) (h1 : ∀ t, t < 32 → mem h fr (n + 1) s t = mem h fr n s t) : ∀ m, ∀ t, t < 32 → mem h fr (n + m) s t = mem h fr n s t
  | 0, t, _ => rfl
  | m + 1, t, ht => by
    have ih := mem_stab hN7 h1 m
    rw [← h1 t ht, Bool.eq_iff_iff, show n + (m + 1) = (n + m) + 1 by omega, mem_s ht, mem_s ht, ih t ht]
    refine or_congr Iff.rfl (and_congr Iff.rfl (exists_congr fun i => and_congr_right fun hi => ?_))
    rw [ih i (by omega)]
theorem cN_strict {q r : Nat → Bool} {t : Nat} (hr : r t = true) (hq : q t = false) : ∀ n, (∀ k, k < n → q k = true → r k = true) → cN q n + (if t < n then 1 else 0) ≤ cN r n
  | 0, _ => by simp [cN]
  | n + 1, hh => by
    have ih := cN_strict hr hq n (fun k hk => hh k (by omega))
    rw [cN_s, cN_s]
    by_cases c : n = t
    · subst c
      rw [if_neg (Nat.lt_irrefl _)] at ih
      rw [hr, hq, if_pos rfl, if_neg Bool.false_ne_true, if_pos (Nat.lt_succ_self _)]
      omega
    · have e : (if t < n + 1 then 1 else 0) = (if t < n then 1 else 0) := by
        by_cases d : t < n
        · rw [if_pos d, if_pos (show t < n + 1 by omega)]
        · rw [if_neg d, if_neg (show ¬ t < n + 1 by omega)]
      rw [e]
      cases hqn : q n
      · rw [if_neg Bool.false_ne_true]
        omega
      · rw [hh n (by omega) hqn]
        omega
theorem mem_grow {s : Nat} (hN7 : hN h ≤ 7) (hs : s < hN h) (hfr : ∀ t, t < 32 → tb fr (nI t) = true → t < hN h) (hf : tb fr (nI s) = true) : ∀ n, (∀ t, t < 32 → mem h fr (n + 1) s t = mem h fr n s t) ∨ n + 2 ≤ cN (mem h fr (n + 1) s) (hN h) := by
  have key : ∀ n, (∀ t, t < 32 → mem h fr (n + 1) s t = mem h fr n s t) ∨ cN (mem h fr n s) (hN h) + 1 ≤ cN (mem h fr (n + 1) s) (hN h) := by
    intro n
    by_cases c : ∀ t, t < 32 → mem h fr (n + 1) s t = mem h fr n s t
    · exact Or.inl c
    · obtain ⟨t, c⟩ := Classical.not_forall.mp c
      obtain ⟨ht, c⟩ := Classical.not_imp.mp c
      have h2 : mem h fr n s t = false := by
        cases q : mem h fr n s t
        · rfl
        · rw [q] at c
          exact absurd ((mem_s ht).mpr (Or.inl q)) c
      have h1 : mem h fr (n + 1) s t = true := by
        cases q : mem h fr (n + 1) s t
        · rw [q, h2] at c
          exact absurd rfl c
        · rfl
      have htN := hfr t ht (mem_fr (by omega) hf (n + 1) t ht h1)
      have := cN_strict (q := mem h fr n s) (r := mem h fr (n + 1) s) h1 h2 (hN h) (fun k hk hh => (mem_s (by omega)).mpr (Or.inl hh))
      rw [if_pos htN] at this
      exact Or.inr this
  intro n
  induction n with
  | zero =>
    rcases key 0 with a | a
    · exact Or.inl a
    · have h0 : mem h fr 0 s s = true := by rw [mem_0 (by omega) (by omega), decide_eq_true rfl]
      have := cN_strict (q := fun _ => false) (r := mem h fr 0 s) (t := s) h0 rfl (hN h) (fun k hk hh => by cases hh)
      rw [if_pos hs] at this
      exact Or.inr (by omega)
  | succ n ih =>
    rcases ih with a | a
    · refine Or.inl (fun t ht => ?_)
      have e1 := mem_stab hN7 a 2 t ht
      have e2 := mem_stab hN7 a 1 t ht
      rw [show n + 1 + 1 = n + 2 by omega, e1, ← e2]
    · rcases key (n + 1) with b | b
      · exact Or.inl b
      · exact Or.inr (by omega)
theorem mem_full {s : Nat} (hN7 : hN h ≤ 7) (hs : s < hN h) (hfr : ∀ t, t < 32 → tb fr (nI t) = true → t < hN h) (hf : tb fr (nI s) = true) (m : Nat) (hm : hN h - 1 ≤ m) : ∀ t, t < 32 → mem h fr m s t = mem h fr (hN h - 1) s t := by
  intro t ht
  have st : ∀ t, t < 32 → mem h fr (hN h - 1 + 1) s t = mem h fr (hN h - 1) s t := by
    rcases mem_grow hN7 hs hfr hf (hN h - 1) with a | a
    · exact a
    · have := cN_le (q := mem h fr (hN h - 1 + 1) s) (hN h)
      omega
  have := mem_stab hN7 st (m - (hN h - 1)) t ht
  rw [show hN h - 1 + (m - (hN h - 1)) = m by omega] at this
  exact this
theorem aro_full {s : Nat} (hN7 : hN h ≤ 7) (hs : s < hN h) (hfr : ∀ t, t < 32 → tb fr (nI t) = true → t < hN h) (hf : tb fr (nI s) = true) : aroK h (nI s) fr (hN h - 1) = aroK h (nI s) fr 7 :=
  tb_ext (fun t ht => (mem_full hN7 hs hfr hf 7 (by omega) t ht).symm)
/-- hang together -/
def con (h : HV) (fr : Int32) (s t : Nat) : Prop := mem h fr 7 s t = true
theorem con_step {s i t : Nat} (hN7 : hN h ≤ 7) (hs : s < hN h) (hfr : ∀ t, t < 32 → tb fr (nI t) = true → t < hN h) (hf : tb fr (nI s) = true) (hi : i < hN h) (ht : t < 32) (c : con h fr s i) (hn : tb (hNear h (nI i)) (nI t) = true) (hft : tb fr (nI t) = true) : con h fr s t := by
  have e7 := mem_full hN7 hs hfr hf 7 (by omega) t ht
  have e8 := mem_full hN7 hs hfr hf 8 (by omega) t ht
  unfold con
  rw [e7, ← e8]
  exact (mem_s ht).mpr (Or.inr ⟨hft, i, hi, c, hn⟩)
theorem con_trans {s i : Nat} (hN7 : hN h ≤ 7) (hs : s < hN h) (hfr : ∀ t, t < 32 → tb fr (nI t) = true → t < hN h) (hf : tb fr (nI s) = true) (hi : i < hN h) (hfi : tb fr (nI i) = true) (c : con h fr s i) : ∀ n t, t < 32 → mem h fr n i t = true → con h fr s t
  | 0, t, ht, hh => by
    rw [mem_0 (by omega) ht, decide_eq_true_iff] at hh
    rw [← hh]
    exact c
  | n + 1, t, ht, hh => by
    rcases (mem_s ht).mp hh with a | ⟨a, j, b, d, f⟩
    · exact con_trans hN7 hs hfr hf hi hfi c n t ht a
    · exact con_step hN7 hs hfr hf b ht (con_trans hN7 hs hfr hf hi hfi c n j (by omega) d) f a
theorem con_self {s : Nat} (hs : s < 32) : con h fr s s := mem_mono hs 7 (Nat.zero_le _) (by rw [mem_0 hs hs, decide_eq_true rfl])
theorem con_sym {s : Nat} (hk : nearOK h) (hN7 : hN h ≤ 7) (hs : s < hN h) (hfr : ∀ t, t < 32 → tb fr (nI t) = true → t < hN h) (hf : tb fr (nI s) = true) : ∀ n t, t < 32 → mem h fr n s t = true → con h fr t s
  | 0, t, ht, hh => by
    rw [mem_0 (by omega) ht, decide_eq_true_iff] at hh
    rw [← hh]
    exact con_self (by omega)
  | n + 1, t, ht, hh => by
    rcases (mem_s ht).mp hh with a | ⟨a, j, b, d, f⟩
    · exact con_sym hk hN7 hs hfr hf n t ht a
    · have hj := con_sym hk hN7 hs hfr hf n j (by omega) d
      have fj := mem_fr (by omega) hf n j (by omega) d
      have tN := hfr t ht a
      have tj : con h fr t j := con_step hN7 tN hfr a tN (by omega) (con_self ht) (hk.1 j t (by omega) ht b f).2.2 fj
      exact con_trans hN7 tN hfr a b fj tj 7 s (by omega) hj
theorem blk_max {k : Nat} : ∀ n, k < n → tb fr (nI k) = true → bc (aroK h (nI k) fr 7) 30 ≤ (blkK h fr n).2
  | 0, hk, _ => by omega
  | n + 1, hk, hf => by
    by_cases q : k = n
    · subst q
      unfold blkK
      rw [if_pos hf]
      dsimp only
      split
      · exact Int32.le_refl _
      · rename_i c
        exact Int32.not_lt.mp c
    · have ih := blk_max n (by omega) hf
      unfold blkK
      split
      · dsimp only
        split
        · rename_i c
          exact Int32.le_trans ih (Int32.le_of_lt c)
        · exact ih
      · exact ih
theorem blk_eq (hk : nearOK h) (hN7 : hN h ≤ 7) (hfr : ∀ t, t < 32 → tb fr (nI t) = true → t < hN h) : ∀ k, k ≤ hN h → (∀ t, t < 32 → (tb (blkC h fr k).1 (nI t) = true ↔ tb fr (nI t) = true ∧ ∀ i, i < k → tb fr (nI i) = true → ¬ con h fr i t)) ∧ (blkC h fr k).2.1 = (blkK h fr k).1 ∧ (blkC h fr k).2.2 = (blkK h fr k).2
  | 0, _ => ⟨fun t _ => ⟨fun a => ⟨a, fun i hi => by omega⟩, fun a => a.1⟩, rfl, rfl⟩
  | k + 1, hle => by
    obtain ⟨i1, i2, i3⟩ := blk_eq hk hN7 hfr k (by omega)
    have ek : blkK h fr (k + 1) = if tb fr (nI k) then ((blkK h fr k).1 + (if aroK h (nI k) fr 7 &&& ((1 <<< (nI k &&& 31)) - 1) = 0 then 1 else 0), if (blkK h fr k).2 < bc (aroK h (nI k) fr 7) 30 then bc (aroK h (nI k) fr 7) 30 else (blkK h fr k).2) else blkK h fr k := rfl
    have ec : blkC h fr (k + 1) = if tb (blkC h fr k).1 (nI k) then ((blkC h fr k).1 &&& (aroK h (nI k) fr (hN h - 1) ^^^ (-1)), (blkC h fr k).2.1 + 1, if (blkC h fr k).2.2 < bW (aroK h (nI k) fr (hN h - 1)) then bW (aroK h (nI k) fr (hN h - 1)) else (blkC h fr k).2.2) else blkC h fr k := rfl
    have hkN : k < hN h := by omega
    rw [ek, ec]
    have irest := i1 k (by omega)
    cases hf : tb fr (nI k)
    · have hr : tb (blkC h fr k).1 (nI k) = false := by
        cases q : tb (blkC h fr k).1 (nI k)
        · rfl
        · have := (irest.mp q).1
          rw [hf] at this
          cases this
      rw [hr, if_neg Bool.false_ne_true, if_neg Bool.false_ne_true]
      refine ⟨fun t ht => ?_, i2, i3⟩
      rw [i1 t ht]
      refine and_congr Iff.rfl ⟨fun a i hi hfi => ?_, fun a i hi hfi => a i (by omega) hfi⟩
      by_cases q : i = k
      · rw [q, hf] at hfi
        cases hfi
      · exact a i (by omega) hfi
    · rw [if_pos rfl]
      have af := aro_full (h := h) hN7 hkN hfr hf
      have low : aroK h (nI k) fr 7 &&& ((1 <<< (nI k &&& 31)) - 1) = 0 ↔ ∀ t, t < k → ¬ con h fr k t := by
        have bits : ∀ t, t < 32 → tb (aroK h (nI k) fr 7 &&& ((1 <<< (nI k &&& 31)) - 1)) (nI t) = (mem h fr 7 k t && decide (t < k)) := fun t ht => by
          rw [tb_and ht, tb_full (by omega) ht]
          rfl
        constructor
        · intro z t ht c
          have := bits t (by omega)
          rw [z, tb_zero (by omega), decide_eq_true ht, Bool.and_true] at this
          unfold con at c
          rw [← this] at c
          cases c
        · intro a
          refine tb_ext (fun t ht => ?_)
          rw [bits t ht, tb_zero ht]
          by_cases q : t < k
          · rw [decide_eq_true q, Bool.and_true]
            cases hm : mem h fr 7 k t
            · rfl
            · exact absurd hm (a t q)
          · rw [decide_eq_false q, Bool.and_false]
      cases hr : tb (blkC h fr k).1 (nI k)
      · -- a smaller seat hangs together with this one
        have hex : ∃ i, i < k ∧ tb fr (nI i) = true ∧ con h fr i k := by
          refine Classical.byContradiction (fun z => ?_)
          have : tb (blkC h fr k).1 (nI k) = true := irest.mpr ⟨hf, fun i hi hfi c => z ⟨i, hi, hfi, c⟩⟩
          rw [hr] at this
          cases this
        obtain ⟨i, hi, hfi, hc⟩ := hex
        have hiN : i < hN h := by omega
        have hci : con h fr k i := con_sym hk hN7 hiN hfr hfi 7 k (by omega) hc
        have same : aroK h (nI k) fr 7 = aroK h (nI i) fr 7 := tb_ext (fun t ht => by
          rw [Bool.eq_iff_iff]
          exact ⟨fun z => con_trans hN7 hiN hfr hfi hkN hf hc 7 t ht z, fun z => con_trans hN7 hkN hfr hf hiN hfi hci 7 t ht z⟩)
        have nlow : ¬ aroK h (nI k) fr 7 &&& ((1 <<< (nI k &&& 31)) - 1) = 0 := fun z => (low.mp z) i hi hci
        have mx := blk_max (h := h) (fr := fr) k hi hfi
        rw [if_neg Bool.false_ne_true, if_neg nlow, same, if_neg (Int32.not_lt.mpr mx), Int32.add_zero]
        refine ⟨fun t ht => ?_, i2, i3⟩
        rw [i1 t ht]
        refine and_congr Iff.rfl ⟨fun a j hj hfj => ?_, fun a j hj hfj => a j (by omega) hfj⟩
        by_cases q : j = k
        · rw [q]
          exact fun z => a i hi hfi (con_trans hN7 hiN hfr hfi hkN hf hc 7 t ht z)
        · exact a j (by omega) hfj
      · rw [if_pos rfl]
        have hno := (irest.mp hr).2
        have lw : aroK h (nI k) fr 7 &&& ((1 <<< (nI k &&& 31)) - 1) = 0 := low.mpr (fun t ht c => by
          have ft := mem_fr (by omega) hf 7 t (by omega) c
          exact hno t ht ft (con_sym hk hN7 hkN hfr hf 7 t (by omega) c))
        rw [if_pos lw, af, bW_eq, i2, i3]
        refine ⟨fun t ht => ?_, rfl, rfl⟩
        dsimp only
        rw [tb_and ht, tb_xor1 ht, Bool.and_eq_true, i1 t ht, Bool.not_eq_true']
        constructor
        · rintro ⟨⟨a, b⟩, c⟩
          refine ⟨a, fun i hi hfi => ?_⟩
          by_cases q : i = k
          · rw [q]
            intro z
            unfold con mem at z
            rw [c] at z
            cases z
          · exact b i (by omega) hfi
        · rintro ⟨a, b⟩
          refine ⟨⟨a, fun i hi hfi => b i (by omega) hfi⟩, ?_⟩
          cases q : tb (aroK h (nI k) fr 7) (nI t)
          · rfl
          · exact absurd q (b k (by omega) hf)
theorem blocks_eq (hk : nearOK h) (hN7 : hN h ≤ 7) {wt : Int32} : (if 0 ≤ wt ∧ wt ≤ 1 then (if wt = 0 then (blkC h (frees h v) (hN h)).2.1 else (blkC h (frees h v) (hN h)).2.2) else -1) = aBlocks h v wt := by
  have hfr : ∀ t, t < 32 → tb (frees h v) (nI t) = true → t < hN h := fun t ht hh => by
    unfold frees at hh
    rw [tb_bset ht (by omega), Bool.and_eq_true] at hh
    exact of_decide_eq_true hh.1
  obtain ⟨-, e1, e2⟩ := blk_eq hk hN7 hfr (hN h) (Nat.le_refl _)
  unfold aBlocks
  rw [e1, e2]
end TC
