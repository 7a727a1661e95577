/-! BITS -/
def tb (x i : Int32) : Bool := decide ((x >>> (i &&& 31)) &&& 1 = 1)
theorem tb_sm : ∀ k, k < 32 → ((nI k &&& 31).toBitVec.smod 32).toNat = k := by decide +kernel
theorem tb_get {x : Int32} {k : Nat} (hk : k < 32) : tb x (nI k) = x.toBitVec.getLsbD k := by
  have e1 : ((x >>> (nI k &&& 31)) &&& 1).toBitVec = (x.toBitVec.sshiftRight k) &&& 1#32 := by
    rw [Int32.toBitVec_and, Int32.toBitVec_shiftRight, BitVec.sshiftRight']
    rw [tb_sm k hk]
    rfl
  have e2 : ((x.toBitVec.sshiftRight k) &&& 1#32 = 1#32) ↔ x.toBitVec.getLsbD k = true := by
    rw [BitVec.and_one_eq_setWidth_ofBool_getLsbD, BitVec.getLsbD_sshiftRight]
    rw [show k + 0 = k from rfl, if_pos hk]
    generalize x.toBitVec.getLsbD k = q
    cases q <;> simp
  unfold tb
  have e3 : (x >>> (nI k &&& 31)) &&& 1 = 1 ↔ x.toBitVec.getLsbD k = true := by
    rw [← e2, ← e1, ← Int32.toBitVec_inj]
    rfl
  by_cases hq : x.toBitVec.getLsbD k = true
  · rw [hq, decide_eq_true (e3.mpr hq)]
  · rw [decide_eq_false (fun q => hq (e3.mp q))]
    simpa using hq
theorem tb_ext {x y : Int32} (h : ∀ k, k < 32 → tb x (nI k) = tb y (nI k)) : x = y := by
  rw [← Int32.toBitVec_inj]
  refine BitVec.eq_of_getLsbD_eq (fun k hk => ?_)
  rw [← tb_get hk, ← tb_get hk]
  exact h k hk
theorem tb_or {x y : Int32} {k : Nat} (hk : k < 32) : tb (x ||| y) (nI k) = (tb x (nI k) || tb y (nI k)) := by
  rw [tb_get hk, tb_get hk, tb_get hk, Int32.toBitVec_or, BitVec.getLsbD_or]
theorem tb_and {x y : Int32} {k : Nat} (hk : k < 32) : tb (x &&& y) (nI k) = (tb x (nI k) && tb y (nI k)) := by
  rw [tb_get hk, tb_get hk, tb_get hk, Int32.toBitVec_and, BitVec.getLsbD_and]
theorem tb_xor1 {x : Int32} {k : Nat} (hk : k < 32) : tb (x ^^^ (-1)) (nI k) = !tb x (nI k) := by
  rw [tb_get hk, tb_get hk, Int32.toBitVec_xor, BitVec.getLsbD_xor]
  have : ∀ k, k < 32 → (Int32.toBitVec (-1)).getLsbD k = true := by decide +kernel
  rw [this k hk]
  simp
theorem tb_zero {k : Nat} (hk : k < 32) : tb 0 (nI k) = false := by
  rw [tb_get hk]
  simp
theorem tb_shl {j k : Nat} (hj : j < 32) (hk : k < 32) : tb (1 <<< (nI j &&& 31)) (nI k) = decide (j = k) := by
  have : ∀ j, j < 32 → ∀ k, k < 32 → tb (1 <<< (nI j &&& 31)) (nI k) = decide (j = k) := by decide +kernel
  exact this j hj k hk
theorem tb_bset {p : Int32 → Bool} {k : Nat} (hk : k < 32) : ∀ {n : Nat}, n ≤ 32 → tb (bset p n) (nI k) = (decide (k < n) && p (nI k))
  | 0, _ => by
    rw [show bset p 0 = 0 from rfl, tb_zero hk]
    simp
  | n + 1, hn => by
    have ih := tb_bset (p := p) hk (n := n) (by omega)
    unfold bset
    by_cases hkn : n = k
    · subst hkn
      split
      · rename_i hp
        rw [tb_or hk, tb_shl (by omega) hk, ih, hp]
        simp
      · rename_i hp
        rw [ih]
        simp [hp]
    · have e : decide (k < n + 1) = decide (k < n) := by
        rw [decide_eq_decide]
        omega
      rw [e]
      split
      · rw [tb_or hk, tb_shl (by omega) hk, ih]
        simp [hkn]
      · exact ih
/-- every number below 128 is a set of its bits -/
theorem i128 {x : Int32} (h0 : 0 ≤ x) (h1 : x < 128) : ∃ j, j < 128 ∧ x = nI j := by
  obtain ⟨j, hj, rfl⟩ := nI_of (x := x) (by grind)
  exact ⟨j, (nI_ltI (b := 128) hj (by omega)).mp h1, rfl⟩
theorem bset_lt {p : Int32 → Bool} : ∀ {n : Nat}, n ≤ 7 → 0 ≤ bset p n ∧ bset p n < nI (2 ^ n)
  | 0, _ => (by decide : (0 : Int32) ≤ 0 ∧ (0 : Int32) < nI (2 ^ 0))
  | n + 1, hn => by
    obtain ⟨i0, i1⟩ := bset_lt (p := p) (n := n) (by omega)
    have hpow : ∀ n, n < 7 → ∀ j, j < 2 ^ n → (0 : Int32) ≤ (nI j ||| (1 <<< (nI n &&& 31)) : Int32) ∧ (nI j ||| (1 <<< (nI n &&& 31)) : Int32) < nI (2 ^ (n + 1)) := by decide +kernel
    have h2 : 2 ^ n < 128 := by
      have : ∀ n, n < 7 → 2 ^ n < 128 := by decide
      exact this n (by omega)
    obtain ⟨j, hj, e⟩ := nI_of (x := bset p n) (by grind)
    rw [e] at i1
    have hj2 := (nI_ltI hj (by omega)).mp i1
    have := hpow n (by omega) j hj2
    unfold bset
    split
    · rw [e]; exact this
    · rw [e]
      refine ⟨nI_pos' hj, ?_⟩
      rw [nI_ltI hj (by omega)]
      omega
theorem bset_128 {p : Int32 → Bool} {n : Nat} (hn : n ≤ 7) : 0 ≤ bset p n ∧ bset p n < 128 := by
  obtain ⟨h0, h1⟩ := bset_lt (p := p) hn
  have : ∀ n, n < 8 → nI (2 ^ n) ≤ 128 := by decide +kernel
  have := this n (by omega)
  exact ⟨h0, by grind⟩
theorem tb_lt {x : Int32} {N k : Nat} (h0 : 0 ≤ x) (h1 : x < nI (2 ^ N)) (hN : N ≤ 7) (hk : N ≤ k) (hk2 : k < 32) : tb x (nI k) = false := by
  have : ∀ N, N < 8 → ∀ j, j < 2 ^ N → ∀ k, k < 32 → N ≤ k → tb (nI j) (nI k) = false := by decide +kernel
  have h2 : ∀ n, n < 8 → 2 ^ n < 1000 := by decide
  obtain ⟨j, hj, rfl⟩ := nI_of (x := x) (by grind)
  exact this N (by omega) j ((nI_ltI hj (by have := h2 N (by omega); omega)).mp h1) k hk2 hk
/-- the same set, by its bits below n -/
theorem tb_bset_eq {p : Int32 → Bool} {x : Int32} {N : Nat} (hN : N ≤ 7) (h0 : 0 ≤ x) (h1 : x < nI (2 ^ N)) (h : ∀ k, k < N → tb x (nI k) = p (nI k)) : x = bset p N := by
  refine tb_ext (fun k hk => ?_)
  rw [tb_bset hk (by omega)]
  by_cases hkN : k < N
  · rw [h k hkN]; simp [hkN]
  · rw [tb_lt h0 h1 hN (by omega) hk]; simp [hkN]
theorem bset_zero {p : Int32 → Bool} {n : Nat} (hn : n ≤ 7) : bset p n = 0 ↔ ∀ k, k < n → p (nI k) = false := by
  constructor
  · intro h k hk
    have := tb_bset (p := p) (k := k) (by omega) (n := n) (by omega)
    rw [h, tb_zero (by omega)] at this
    simpa [hk] using this.symm
  · intro h
    refine tb_ext (fun k hk => ?_)
    rw [tb_bset hk (by omega), tb_zero hk]
    by_cases hkn : k < n
    · rw [h k hkn]; simp
    · simp [hkn]
/-- the number of persons or seats of a set -/
def cnt (p : Int32 → Bool) : Nat → Int32
  | 0 => 0
  | k + 1 => cnt p k + (if p (nI k) then 1 else 0)
theorem bc_cnt {x : Int32} : ∀ n, n ≤ 32 → bc x n = cnt (tb x) n
  | 0, _ => rfl
  | n + 1, hn => by
    unfold bc cnt
    rw [bc_cnt n (by omega)]
    congr 1
    have : ((x >>> (nI n &&& 31)) &&& 1) = 0 ∨ ((x >>> (nI n &&& 31)) &&& 1) = 1 := by
      obtain ⟨j, hj, e⟩ := pk_andE (x >>> (nI n &&& 31)) (m := 1) 1 rfl
      rw [e]
      have : ∀ j, j < 2 → nI j = 0 ∨ nI j = 1 := by decide +kernel
      exact this j hj
    unfold tb
    rcases this with q | q
    · rw [q]; rfl
    · rw [q]; rfl
theorem cnt_congr {p q : Int32 → Bool} : ∀ {n : Nat}, (∀ k, k < n → p (nI k) = q (nI k)) → cnt p n = cnt q n
  | 0, _ => rfl
  | n + 1, h => by
    unfold cnt
    rw [h n (by omega), cnt_congr (fun k hk => h k (by omega))]
theorem cnt_more {p : Int32 → Bool} {N : Nat} : ∀ {m : Nat}, (∀ k, N ≤ k → k < N + m → p (nI k) = false) → cnt p (N + m) = cnt p N
  | 0, _ => rfl
  | m + 1, h => by
    rw [← Nat.add_assoc]
    show cnt p (N + m) + (if p (nI (N + m)) then 1 else 0) = cnt p N
    rw [h (N + m) (by omega) (by omega), cnt_more (fun k h1 h2 => h k h1 (by omega))]
    simp
theorem bc_bset {p : Int32 → Bool} {n : Nat} (hn : n ≤ 7) : bc (bset p n) 30 = cnt p n := by
  rw [bc_cnt 30 (by omega)]
  have e : (30 : Nat) = n + (30 - n) := by omega
  rw [e, cnt_more (fun k h1 h2 => by rw [tb_bset (by omega) (by omega), show decide (k < n) = false by simp; omega]; rfl)]
  exact cnt_congr (fun k hk => by rw [tb_bset (by omega) (by omega)]; simp [hk])
