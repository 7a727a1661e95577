/-! BOTH SIDES AGREE: pairs -/
def cN (q : Nat → Bool) : Nat → Nat
  | 0 => 0
  | n + 1 => cN q n + (if q n then 1 else 0)
def sN (f : Nat → Nat) : Nat → Nat
  | 0 => 0
  | n + 1 => sN f n + f n
def foesOK (h : HV) : Prop := ∀ p q : Nat, p < 32 → q < 32 → tb (hFoes h (nI p)) (nI q) = true → p < hP h ∧ q < hP h ∧ p ≠ q ∧ tb (hFoes h (nI q)) (nI p) = true
section TB
variable {h : HV} {v : SV} {N P : Nat} {f : Bool}
theorem cN_le {q : Nat → Bool} : ∀ n, cN q n ≤ n
  | 0 => Nat.le_refl _
  | n + 1 => by
    have := cN_le (q := q) n
    unfold cN
    split <;> omega
theorem cN_congr {q r : Nat → Bool} : ∀ n, (∀ k, k < n → q k = r k) → cN q n = cN r n
  | 0, _ => rfl
  | n + 1, h => by
    unfold cN
    rw [cN_congr n (fun k hk => h k (by omega)), h n (by omega)]
theorem cnt_cN {p : Int32 → Bool} {q : Nat → Bool} : ∀ n, (∀ k, k < n → p (nI k) = q k) → cnt p n = nI (cN q n)
  | 0, _ => rfl
  | n + 1, h => by
    unfold cnt cN
    rw [cnt_cN n (fun k hk => h k (by omega)), h n (by omega)]
    cases q n
    · simp
    · rw [if_pos rfl, if_pos rfl, nI_succ]
theorem cN_s {q : Nat → Bool} {n : Nat} : cN q (n + 1) = cN q n + (if q n then 1 else 0) := rfl
theorem cN_cut {q : Nat → Bool} {P : Nat} : ∀ n, cN (fun k => decide (k < P) && q k) n = cN q (min n P)
  | 0 => by simp [cN]
  | n + 1 => by
    have ih := cN_cut (q := q) (P := P) n
    rw [cN_s, ih]
    by_cases c : n < P
    · rw [decide_eq_true c, Bool.true_and, show min n P = n by omega, show min (n + 1) P = n + 1 by omega, cN_s]
    · rw [decide_eq_false c, Bool.false_and, show min n P = P by omega, show min (n + 1) P = P by omega, if_neg Bool.false_ne_true]
      rfl
theorem sN_congr {f g : Nat → Nat} : ∀ n, (∀ k, k < n → f k = g k) → sN f n = sN g n
  | 0, _ => rfl
  | n + 1, h => by
    unfold sN
    rw [sN_congr n (fun k hk => h k (by omega)), h n (by omega)]
theorem sN_add {f g : Nat → Nat} : ∀ n, sN (fun k => f k + g k) n = sN f n + sN g n
  | 0 => rfl
  | n + 1 => by
    unfold sN
    rw [sN_add n]
    omega
theorem sN_ind {q : Nat → Bool} : ∀ n, sN (fun k => if q k then 1 else 0) n = cN q n
  | 0 => rfl
  | n + 1 => by
    unfold sN cN
    rw [sN_ind n]
theorem sum_twice {q : Nat → Nat → Bool} : ∀ P, (∀ a b, a < P → b < P → q a b = q b a) → (∀ a, a < P → q a a = false) → sN (fun k => cN (q k) P) P = 2 * sN (fun k => cN (q k) k) P
  | 0, _, _ => rfl
  | P + 1, hs, hi => by
    have ih := sum_twice (q := q) P (fun a b ha hb => hs a b (by omega) (by omega)) (fun a ha => hi a (by omega))
    have e1 : sN (fun k => cN (q k) (P + 1)) P = sN (fun k => cN (q k) P) P + cN (q P) P := by
      have : sN (fun k => cN (q k) (P + 1)) P = sN (fun k => cN (q k) P + (if q k P then 1 else 0)) P := rfl
      rw [this, sN_add, sN_ind]
      congr 1
      exact cN_congr P (fun k hk => hs k P (by omega) (by omega))
    have e2 : cN (q P) (P + 1) = cN (q P) P := by
      show cN (q P) P + (if q P P then 1 else 0) = _
      rw [hi P (by omega)]
      rfl
    show sN (fun k => cN (q k) (P + 1)) P + cN (q P) (P + 1) = 2 * (sN (fun k => cN (q k) k) P + cN (q P) P)
    rw [e1, e2, ih]
    omega
theorem chS_ex (H : okS h v) (hN7 : hN h ≤ 7) {k : Nat} (hk : k < 5) (h0 : 0 ≤ chS v (nI k)) : ∃ s, s < hN h ∧ chS v (nI k) = nI s := by
  have := H.ch (s := nI k) (nI_pos' (by omega)) ((nI_ltI (b := 5) (by omega) (by omega)).mpr hk)
  exact nI_ex (by omega) h0 this.2
theorem pairQ_sym (H : okS h v) (hk : nearOK h) (hf : foesOK h) (hN7 : hN h ≤ 7) {x : Int32} {a b : Nat} (ha : a < 5) (hb : b < 5) : pairQ h v x (nI a) (nI b) = true → pairQ h v x (nI b) (nI a) = true := by
  unfold pairQ
  simp only [Bool.and_eq_true, decide_eq_true_iff]
  rintro ⟨c1, c2, c3, c4⟩
  obtain ⟨s, s1, s2⟩ := chS_ex H hN7 ha c1
  obtain ⟨t, t1, t2⟩ := chS_ex H hN7 hb c2
  refine ⟨c2, c1, ?_, ?_⟩
  · rw [s2, t2] at c3 ⊢
    have c3' : tb (hNear h (nI s)) (nI t) = true := c3
    exact (hk.1 s t (by omega) (by omega) s1 c3').2.2
  · have e : foeS h (nI b) (nI a) = foeS h (nI a) (nI b) := by
      show tb (hFoes h (nI b)) (nI a) = tb (hFoes h (nI a)) (nI b)
      rw [Bool.eq_iff_iff]
      exact ⟨fun z => (hf b a (by omega) (by omega) z).2.2.2, fun z => (hf a b (by omega) (by omega) z).2.2.2⟩
    rw [e]
    exact c4
theorem pairQ_self (H : okS h v) (hk : nearOK h) (hN7 : hN h ≤ 7) {x : Int32} {a : Nat} (ha : a < 5) : pairQ h v x (nI a) (nI a) = false := by
  cases hh : pairQ h v x (nI a) (nI a)
  · rfl
  · unfold pairQ at hh
    simp only [Bool.and_eq_true, decide_eq_true_iff] at hh
    obtain ⟨c1, c2, c3, c4⟩ := hh
    obtain ⟨s, s1, s2⟩ := chS_ex H hN7 ha c1
    rw [s2] at c3
    have c3' : tb (hNear h (nI s)) (nI s) = true := c3
    exact absurd rfl (hk.1 s s (by omega) (by omega) s1 c3').2.1
theorem pairJ_cN {x p acc : Int32} : ∀ j, pairJ h v x p acc j = acc + nI (cN (fun o => pairQ h v x p (nI o)) j)
  | 0 => by
    show acc = acc + nI 0
    have : nI 0 = 0 := rfl
    rw [this, Int32.add_zero]
  | j + 1 => by
    have ih := pairJ_cN (x := x) (p := p) (acc := acc) j
    unfold pairJ cN
    rw [ih]
    cases pairQ h v x p (nI j)
    · simp
    · rw [if_pos rfl, if_pos rfl, nI_succ]
      grind
theorem pairK_sN {x : Int32} : ∀ k, pairK h v x k = nI (sN (fun k => cN (fun o => pairQ h v x (nI k) (nI o)) k) k)
  | 0 => rfl
  | k + 1 => by
    have ih := pairK_sN (x := x) k
    unfold pairK sN
    rw [pairJ_cN, ih, nI_addN]
theorem prC_one (H : okS h v) (hk : nearOK h) (hN7 : hN h ≤ 7) (hP5 : hP h ≤ 5) {k : Nat} (hk5 : k < hP h) : bW ((if chS v (nI k) = -1 then 0 else gthK (siS v) (hNear h (chS v (nI k))) 7) &&& (if f then hFoes h (nI k) else hFoes h (nI k) ^^^ (-1))) = nI (cN (fun o => pairQ h v (bI f) (nI k) (nI o)) (hP h)) := by
  rw [bW_eq, bc_cnt 30 (by omega), cnt_cN (q := fun o => decide (o < hP h) && pairQ h v (bI f) (nI k) (nI o)) 30, cN_cut, show min 30 (hP h) = hP h by omega]
  intro o ho
  rw [tb_and (by omega)]
  have hch := H.ch (s := nI k) (nI_pos' (by omega)) ((nI_ltI (b := 5) (by omega) (by omega)).mpr (by omega))
  by_cases c : chS v (nI k) = -1
  · rw [if_pos c, tb_zero (by omega), Bool.false_and]
    have : pairQ h v (bI f) (nI k) (nI o) = false := by
      unfold pairQ
      rw [c]
      rfl
    rw [this, Bool.and_false]
  · have c0 : 0 ≤ chS v (nI k) := by have := hch.1; grind
    rw [if_neg c]
    have e2 : tb (if f then hFoes h (nI k) else hFoes h (nI k) ^^^ (-1)) (nI o) = decide (bI (foeS h (nI k) (nI o)) = bI f) := by
      have ef : foeS h (nI k) (nI o) = tb (hFoes h (nI k)) (nI o) := rfl
      rw [ef]
      cases f
      · rw [if_neg Bool.false_ne_true, tb_xor1 (by omega)]
        cases tb (hFoes h (nI k)) (nI o) <;> rfl
      · rw [if_pos rfl]
        cases tb (hFoes h (nI k)) (nI o) <;> rfl
    rw [e2]
    unfold pairQ
    rw [decide_eq_true c0, Bool.true_and]
    have e1 := tb_sitters H hP5 hN7 (set := hNear h (chS v (nI k))) (p := o) (by omega)
    have en : nearS h (chS v (nI k)) (chS v (nI o)) = tb (hNear h (chS v (nI k))) (chS v (nI o)) := rfl
    rw [en]
    rw [Bool.eq_iff_iff]
    simp only [Bool.and_eq_true, e1, decide_eq_true_iff]
    constructor
    · rintro ⟨⟨a, b, d⟩, e⟩
      exact ⟨a, b, d, e⟩
    · rintro ⟨a, b, d, e⟩
      exact ⟨⟨a, b, d⟩, e⟩
theorem prC_sN (H : okS h v) (hk : nearOK h) (hN7 : hN h ≤ 7) (hP5 : hP h ≤ 5) : ∀ k, k ≤ hP h → prC h v f k = nI (sN (fun k => cN (fun o => pairQ h v (bI f) (nI k) (nI o)) (hP h)) k)
  | 0, _ => rfl
  | k + 1, hle => by
    have ih := prC_sN H hk hN7 hP5 k (by omega)
    unfold prC sN
    rw [ih, prC_one H hk hN7 hP5 (by omega), nI_addN]
theorem sN_le {g : Nat → Nat} {B : Nat} : ∀ n, (∀ k, k < n → g k ≤ B) → sN g n ≤ n * B
  | 0, _ => by simp [sN]
  | n + 1, h => by
    have ih := sN_le (g := g) (B := B) n (fun k hk => h k (by omega))
    have := h n (by omega)
    unfold sN
    rw [Nat.succ_mul]
    omega
theorem pairs_eq (H : okS h v) (hk : nearOK h) (hf : foesOK h) (hN7 : hN h ≤ 7) (hP5 : hP h ≤ 5) : prC h v f (hP h) / 2 = pairK h v (bI f) (hP h) := by
  have st := sum_twice (q := fun a b => pairQ h v (bI f) (nI a) (nI b)) (hP h) (fun a b ha hb => by
    rw [Bool.eq_iff_iff]
    exact ⟨pairQ_sym H hk hf hN7 (by omega) (by omega), pairQ_sym H hk hf hN7 (by omega) (by omega)⟩) (fun a ha => pairQ_self H hk hN7 (by omega))
  rw [prC_sN H hk hN7 hP5 (hP h) (Nat.le_refl _), pairK_sN, st]
  have le := sN_le (g := fun k => cN (fun o => pairQ h v (bI f) (nI k) (nI o)) k) (B := 5) (hP h) (fun k hk' => Nat.le_trans (cN_le k) (by omega))
  have le2 : sN (fun k => cN (fun o => pairQ h v (bI f) (nI k) (nI o)) k) (hP h) ≤ 25 := Nat.le_trans le (by omega)
  generalize sN (fun k => cN (fun o => pairQ h v (bI f) (nI k) (nI o)) k) (hP h) = m at *
  have : ∀ m, m ≤ 25 → nI (2 * m) / 2 = nI m := by decide +kernel
  exact this m le2
end TB
