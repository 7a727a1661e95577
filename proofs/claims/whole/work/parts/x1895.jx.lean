/-! INDEXOF -/
def jxF (ch : Int32) : List Nat → Nat → Int32
  | [], _ => -1
  | c :: t, k => if nI c = ch then nI k else jxF ch t (k + 1)
theorem jxF_out {ch : Int32} : ∀ (t : List Nat) (k : Nat), (∀ c ∈ t, nI c ≠ ch) → jxF ch t k = -1
  | [], _, _ => rfl
  | c :: t, k, h => by
    rw [jxF, if_neg (h c List.mem_cons_self)]
    exact jxF_out t (k + 1) (fun c hc => h c (List.mem_cons_of_mem _ hc))
theorem jxF_find {ch : Int32} : ∀ (t : List Nat) (k : Nat), (match t.findIdx? (fun c => nI c == ch) with
    | some q => nI (q + k)
    | none => -1) = jxF ch t k
  | [], _ => rfl
  | c :: t, k => by
    rw [List.findIdx?_cons, jxF]
    by_cases h : nI c = ch
    · rw [if_pos h, if_pos (by simpa using h)]
      dsimp only
      rw [Nat.zero_add]
    · rw [if_neg h, if_neg (by simpa using h), ← jxF_find t (k + 1)]
      cases t.findIdx? (fun c => nI c == ch) with
      | none => rfl
      | some q => show nI (q + 1 + k) = nI (q + (k + 1)); rw [Nat.add_assoc, Nat.add_comm 1 k]
section JX
variable {l : Launch} {a d : Nat} {tx : List Nat}
def jCan (ch : Int32) : Int32 := if ch < 0 then 0 else if 255 < ch then 0 else 1
theorem jm_can {ch : Int32} : jMet l yJ1_canEncode_9a6ad cJ1_canEncode_9a6ad 1 (some .boolean) 0 0 a d tx [.int ch] (some (.int (jCan ch))) := by
  refine jMet.of (by decide +kernel) (Nat.le_of_ble_eq_true rfl) ?_
  intro p e s m below meth c ls J hl
  obtain ⟨hx, hb, hr, hlk, hml, hown, hts, hT⟩ := id J
  have hl : lv_has ls 1 [(0, .int ch)] := hl
  refine lv_iload_n hx hb dJ1_canEncode_9a6ad_0 rfl (lv_at hl 0 rfl) ?_
  refine lv_if_lt hx hb (tgt := 15) dJ1_canEncode_9a6ad_1 (by decide) (fun h0 => ?_) (fun h0 => ?_)
  · refine lv_iconst hx hb (v := 0) dJ1_canEncode_9a6ad_15 rfl ?_
    have e0 : jCan ch = 0 := by unfold jCan; rw [if_pos h0]
    rw [e0] at *
    exact jret J rfl rfl dJ1_canEncode_9a6ad_16
  · refine lv_iload_n hx hb dJ1_canEncode_9a6ad_4 rfl (lv_at hl 0 rfl) ?_
    refine lv_sipush hx hb (v := 255) dJ1_canEncode_9a6ad_5 rfl ?_
    refine lv_icmp_gt hx hb (tgt := 15) dJ1_canEncode_9a6ad_8 (by decide) (fun h1 => ?_) (fun h1 => ?_)
    · refine lv_iconst hx hb (v := 0) dJ1_canEncode_9a6ad_15 rfl ?_
      have e0 : jCan ch = 0 := by unfold jCan; rw [if_neg h0, if_pos h1]
      rw [e0] at *
      exact jret J rfl rfl dJ1_canEncode_9a6ad_16
    · refine lv_iconst hx hb (v := 1) dJ1_canEncode_9a6ad_11 rfl ?_
      refine lv_goto hx hb (tgt := 16) dJ1_canEncode_9a6ad_12 (by decide) ?_
      have e0 : jCan ch = 1 := by unfold jCan; rw [if_neg h0, if_neg h1]
      rw [e0] at *
      exact jret J rfl rfl dJ1_canEncode_9a6ad_16
theorem jm_ixc {n : Nat} (hn : n < 256) (h5 : (∀ j, tx.getD j 0 < 128) ∧ tx.length < 1000) : jMet l yJ1_indexOfChar_4cfef cJ1_indexOfChar_4cfef 6 (some .int) 0 0 a d tx [.ref d, .int (nI n), .int 0, .int (nI tx.length)] (some (.int (jxF (nI n) tx 0))) := by
  refine jMet.of (by decide +kernel) (Nat.le_of_ble_eq_true rfl) ?_
  intro p e s m below meth c ls J hl
  obtain ⟨hx, hb, hr, hlk, hml, hown, hts, hT⟩ := id J
  have hl : lv_has ls 6 [(0, .ref d), (1, .int (nI n)), (2, .int 0), (3, .int (nI tx.length))] := hl
  have hL := h5.2
  refine lv_iload_n hx hb dJ1_indexOfChar_4cfef_0 rfl (lv_at hl 1 rfl) ?_
  refine lv_i2b hx hb (v := (nI n).toInt8.toInt32) dJ1_indexOfChar_4cfef_1 rfl ?_
  refine lv_istore hx hb dJ1_indexOfChar_4cfef_2 hl (by decide) rfl (fun ls hl => ?_)
  refine lv_iload_n hx hb dJ1_indexOfChar_4cfef_4 rfl (lv_at hl 3 rfl) ?_
  refine lv_istore hx hb dJ1_indexOfChar_4cfef_5 hl (by decide) rfl (fun ls hl => ?_)
  have key : ∀ (r i : Nat) (ls : Array Slot), i + r = tx.length → lv_has ls 6 [(5, .int (nI i)), (4, .int (nI n).toInt8.toInt32), (0, .ref d), (3, .int (nI tx.length))] → jxF (nI n) (tx.drop i) i = jxF (nI n) tx 0 → W p l e (jRoom 0 0) s m ([.ref d, .int (nI n), .int 0, .int (nI tx.length)] : List Value).toArray below meth c s.heap [] 0 0 (MQ below (jQ (some (.int (jxF (nI n) tx 0)))) ([.ref d, .int (nI n), .int 0, .int (nI tx.length)] : List Value).toArray s 0 0 jN) (F0 m 7 ls []) := by
    intro r
    induction r with
    | zero =>
      intro i ls hi hl hq
      have e0 : tx.drop i = [] := List.drop_eq_nil_iff.mpr (by omega)
      rw [e0] at hq
      refine lv_iload hx hb dJ1_indexOfChar_4cfef_7 (lv_at hl 0 rfl) ?_
      refine lv_iload_n hx hb dJ1_indexOfChar_4cfef_9 rfl (lv_at hl 3 rfl) ?_
      refine lv_icmp_ge hx hb (tgt := 31) dJ1_indexOfChar_4cfef_10 (by decide) (fun _ => ?_) (fun h => absurd (nI_le (by omega) (by omega)) h)
      refine lv_iconst hx hb (v := -1) dJ1_indexOfChar_4cfef_31 rfl ?_
      rw [← hq]
      exact jret J rfl rfl dJ1_indexOfChar_4cfef_32
    | succ r ih =>
      intro i ls hi hl hq
      have hi2 : i < tx.length := by omega
      have e0 : tx.drop i = tx.getD i 0 :: tx.drop (i + 1) := by
        rw [List.drop_eq_getElem_cons hi2, List.getD_eq_getElem?_getD, List.getElem?_eq_getElem hi2]
        rfl
      rw [e0, jxF] at hq
      refine lv_iload hx hb dJ1_indexOfChar_4cfef_7 (lv_at hl 0 rfl) ?_
      refine lv_iload_n hx hb dJ1_indexOfChar_4cfef_9 rfl (lv_at hl 3 rfl) ?_
      refine lv_icmp_ge hx hb (tgt := 31) dJ1_indexOfChar_4cfef_10 (by decide) (fun h => absurd h (nI_ge (by omega) (by omega))) (fun _ => ?_)
      refine lv_aload_n hx hb dJ1_indexOfChar_4cfef_13 rfl (lv_at hl 2 rfl) ?_
      refine lv_iload hx hb dJ1_indexOfChar_4cfef_14 (lv_at hl 0 rfl) ?_
      refine va_tb hx hb hT.2.2.2.1 va_S.rf (vp_in_nI hi2 (by omega)) (v := .int (nI (tx.getD i 0))) (by rw [nI_clamp (by omega)]) dJ1_indexOfChar_4cfef_16 ?_
      refine lv_iload hx hb dJ1_indexOfChar_4cfef_17 (lv_at hl 1 rfl) ?_
      obtain ⟨b1, -, b3, -⟩ := j_byte _ (h5.1 i)
      have hiff := sc_eq b3 hn
      rw [b1] at hiff
      refine lv_icmp_ne hx hb (tgt := 25) dJ1_indexOfChar_4cfef_19 (by decide) (fun h => ?_) (fun h => ?_)
      · rw [if_neg (fun z => h (hiff.mpr z))] at hq
        refine lv_iinc hx hb dJ1_indexOfChar_4cfef_25 hl (k := 0) rfl (show nI i + Int32.ofInt 1 = nI (i + 1) from nI_1 i) (by decide) rfl (fun ls hl => ?_)
        refine lv_goto hx hb (tgt := 7) dJ1_indexOfChar_4cfef_28 (by decide) ?_
        exact ih (i + 1) ls (by omega) hl hq
      · rw [if_pos (hiff.mp h)] at hq
        refine lv_iload hx hb dJ1_indexOfChar_4cfef_22 (lv_at hl 0 rfl) ?_
        rw [← hq]
        exact jret J rfl rfl dJ1_indexOfChar_4cfef_24
  exact key tx.length 0 ls (by omega) (lv_sub hl [0, 1, 2, 5] rfl) rfl
theorem j_can1 {ch : Int32} (h : ¬ jCan ch = 0) : ∃ n, n < 256 ∧ ch = nI n := by
  unfold jCan at h
  by_cases h0 : ch < 0
  · rw [if_pos h0] at h
    exact absurd rfl h
  · rw [if_neg h0] at h
    by_cases h1 : 255 < ch
    · rw [if_pos h1] at h
      exact absurd rfl h
    · obtain ⟨j, hj, rfl⟩ := nI_of h0
      exact ⟨j, Nat.not_le.mp fun q => h1 (nI_lt (a := 255) (by omega) hj), rfl⟩
theorem j_can0 {ch : Int32} (h : jCan ch = 0) {c : Nat} (hc : c < 128) : nI c ≠ ch := by
  intro e
  unfold jCan at h
  have h2 : ¬ (255 : Int32) < nI c := nI_nlt (a := 255) (by omega) (by omega)
  rw [← e, if_neg (nI_pos (by omega)), if_neg h2] at h
  exact absurd h (by decide)
theorem j_mem {h5 : ∀ j, tx.getD j 0 < 128} : ∀ c ∈ tx, c < 128 := by
  intro c hc
  obtain ⟨i, hi⟩ := List.getElem?_of_mem hc
  have := h5 i
  rw [List.getD_eq_getElem?_getD, hi] at this
  exact this
theorem jm_ix1 {ch : Int32} (h5 : (∀ j, tx.getD j 0 < 128) ∧ tx.length < 1000) : jMet l yJ1_indexOf_4cfef cJ1_indexOf_4cfef 4 (some .int) 1 40 a d tx [.ref d, .int ch, .int 0, .int (nI tx.length)] (some (.int (jxF ch tx 0))) := by
  refine jMet.of (by decide +kernel) (Nat.le_of_ble_eq_true rfl) ?_
  intro p e s m below meth c ls J hl
  obtain ⟨hx, hb, hr, hlk, hml, hown, hts, hT⟩ := id J
  have hl : lv_has ls 4 [(0, .ref d), (1, .int ch), (2, .int 0), (3, .int (nI tx.length))] := hl
  have hL := h5.2
  refine lv_iload_n hx hb dJ1_indexOf_4cfef_0 rfl (lv_at hl 1 rfl) ?_
  refine j_callS (as := [.int ch]) (rest := []) hx hb hml hl.1 hown hts jm_can hT ⟨by decide +kernel, by decide +kernel, by decide +kernel, by decide +kernel⟩ ⟨by decide, by decide, by show _ = some 1; decide +kernel⟩ ⟨by decide, by decide⟩ ⟨Nat.le_refl _, Nat.le_refl _⟩ (by decide) dJ1_indexOf_4cfef_1 ?_
  refine lv_if_ne hx hb (tgt := 9) dJ1_indexOf_4cfef_4 (by decide) (fun hc => ?_) (fun hc => ?_)
  · obtain ⟨n, hn, rfl⟩ := j_can1 hc
    refine lv_iload_n hx hb dJ1_indexOf_4cfef_9 rfl (lv_at hl 2 rfl) ?_
    refine lv_iconst hx hb (v := 0) dJ1_indexOf_4cfef_10 rfl ?_
    refine va_mmax hx hb (hml.trans hl.1.symm) hown (hts _ (xGW_in (w := .methodLink RJ1 92 Lib.Math.max.name) (by decide +kernel) rfl)) (hts _ (xGW_in (by decide +kernel) rfl)) (hts _ (xGW_in (by decide +kernel) rfl)) (hts _ (xGW_in (by decide +kernel) rfl)) (by decide) (by decide) (Nat.le_refl _) (Nat.le_refl _) dJ1_indexOf_4cfef_11 ?_
    refine lv_istore_n hx hb dJ1_indexOf_4cfef_14 rfl hl (by decide) rfl (fun ls hl => ?_)
    refine lv_iload_n hx hb dJ1_indexOf_4cfef_15 rfl (lv_at hl 3 rfl) ?_
    refine lv_aload_n hx hb dJ1_indexOf_4cfef_16 rfl (lv_at hl 1 rfl) ?_
    refine va_tlen hx hb hT.2.2.2.1 va_S.rf (v := nI tx.length) rfl dJ1_indexOf_4cfef_17 ?_
    refine va_mmin hx hb (hml.trans hl.1.symm) hown (hts _ (xGW_in (w := .methodLink RJ1 38 Lib.Math.min.name) (by decide +kernel) rfl)) (hts _ (xGW_in (by decide +kernel) rfl)) (hts _ (xGW_in (by decide +kernel) rfl)) (hts _ (xGW_in (by decide +kernel) rfl)) (by decide) (by decide) (Nat.le_refl _) (Nat.le_refl _) dJ1_indexOf_4cfef_18 ?_
    rw [ite_self]
    refine lv_istore_n hx hb dJ1_indexOf_4cfef_21 rfl hl (by decide) rfl (fun ls hl => ?_)
    have hl : lv_has ls 4 [(3, .int (nI tx.length)), (2, .int 0), (0, .ref d), (1, .int (nI n))] := hl
    refine lv_iload_n hx hb dJ1_indexOf_4cfef_22 rfl (lv_at hl 1 rfl) ?_
    refine lv_iload_n hx hb dJ1_indexOf_4cfef_23 rfl (lv_at hl 0 rfl) ?_
    refine lv_icmp_lt hx hb (tgt := 29) dJ1_indexOf_4cfef_24 (by decide) (fun hq => ?_) (fun hq => ?_)
    · refine lv_aload_n hx hb dJ1_indexOf_4cfef_29 rfl (lv_at hl 2 rfl) ?_
      refine lv_iload_n hx hb dJ1_indexOf_4cfef_30 rfl (lv_at hl 3 rfl) ?_
      refine lv_iload_n hx hb dJ1_indexOf_4cfef_31 rfl (lv_at hl 1 rfl) ?_
      refine lv_iload_n hx hb dJ1_indexOf_4cfef_32 rfl (lv_at hl 0 rfl) ?_
      refine j_callS (as := [.ref d, .int (nI n), .int 0, .int (nI tx.length)]) (rest := []) hx hb hml hl.1 hown hts (jm_ixc hn h5) hT ⟨by decide +kernel, by decide +kernel, by decide +kernel, by decide +kernel⟩ ⟨by decide, by decide, by show _ = some 4; decide +kernel⟩ ⟨by decide, by decide⟩ ⟨Nat.le_refl _, Nat.le_refl _⟩ (by decide) dJ1_indexOf_4cfef_33 ?_
      exact jret J rfl rfl dJ1_indexOf_4cfef_36
    · have e0 : tx = [] := by
        cases tx with
        | nil => rfl
        | cons x t => exact absurd (nI_lt (a := 0) (by simp) (by omega)) hq
      subst e0
      refine lv_iconst hx hb (v := -1) dJ1_indexOf_4cfef_27 rfl ?_
      exact jret J rfl rfl dJ1_indexOf_4cfef_28
  · have e0 : jxF ch tx 0 = -1 := jxF_out tx 0 (fun c hm => j_can0 hc (j_mem (h5 := h5.1) c hm))
    rw [e0] at *
    refine lv_iconst hx hb (v := -1) dJ1_indexOf_4cfef_7 rfl ?_
    exact jret J rfl rfl dJ1_indexOf_4cfef_8
theorem jm_ix2 {ch : Int32} (h5 : (∀ j, tx.getD j 0 < 128) ∧ tx.length < 1000) : jMet l yJ0_indexOf_7cf53 cJ0_indexOf_7cf53 3 (some .int) 2 72 a d tx [.ref a, .int ch, .int 0] (some (.int (jxF ch tx 0))) := by
  refine jMet.of (by decide +kernel) (Nat.le_of_ble_eq_true rfl) ?_
  intro p e s m below meth c ls J hl
  obtain ⟨hx, hb, hr, hlk, hml, hown, hts, hT⟩ := id J
  have hl : lv_has ls 3 [(0, .ref a), (1, .int ch), (2, .int 0)] := hl
  refine lv_aload_n hx hb dJ0_indexOf_7cf53_0 rfl (lv_at hl 0 rfl) ?_
  refine j_callV (as := []) (rest := []) hx hb hml hl.1 hown hts jm_isLatin1 hT ⟨by decide +kernel, by decide +kernel, by decide +kernel, by decide +kernel, by decide +kernel⟩ ⟨by decide, by decide, by show _ = some 0; decide +kernel⟩ ⟨by decide, by decide⟩ ⟨Nat.le_refl _, Nat.le_refl _⟩ (by decide) dJ0_indexOf_7cf53_1 ?_
  refine lv_if_eq hx hb (tgt := 23) dJ0_indexOf_7cf53_4 (by decide) (fun h => absurd h (by decide)) (fun _ => ?_)
  refine lv_aload_n hx hb dJ0_indexOf_7cf53_7 rfl (lv_at hl 0 rfl) ?_
  refine vk_getf hx hb hT.2.2.1 va_S.rf hown (hts _ (xGW_in (w := .fieldLink RJ0 9 "java/lang/String" "value" "[B") (by decide +kernel) rfl)) (fun _ h => h) dJ0_indexOf_7cf53_8 ?_
  refine lv_iload_n hx hb dJ0_indexOf_7cf53_11 rfl (lv_at hl 1 rfl) ?_
  refine lv_iload_n hx hb dJ0_indexOf_7cf53_12 rfl (lv_at hl 2 rfl) ?_
  refine lv_aload_n hx hb dJ0_indexOf_7cf53_13 rfl (lv_at hl 0 rfl) ?_
  refine j_callV (as := []) (rest := [.int 0, .int ch, .ref d]) hx hb hml hl.1 hown hts jm_length hT ⟨by decide +kernel, by decide +kernel, by decide +kernel, by decide +kernel, by decide +kernel⟩ ⟨by decide, by decide, by show _ = some 0; decide +kernel⟩ ⟨by decide, by decide⟩ ⟨Nat.le_refl _, Nat.le_refl _⟩ (by show 1 + (1 + (1 + 0)) ≤ 8; decide) dJ0_indexOf_7cf53_14 ?_
  refine j_callS (as := [.ref d, .int ch, .int 0, .int (nI tx.length)]) (rest := []) hx hb hml hl.1 hown hts (jm_ix1 h5) hT ⟨by decide +kernel, by decide +kernel, by decide +kernel, by decide +kernel⟩ ⟨by decide, by decide, by show _ = some 4; decide +kernel⟩ ⟨by decide, by decide⟩ ⟨Nat.le_refl _, Nat.le_refl _⟩ (by decide) dJ0_indexOf_7cf53_17 ?_
  refine lv_goto hx hb (tgt := 36) dJ0_indexOf_7cf53_20 (by decide) ?_
  exact jret J rfl rfl dJ0_indexOf_7cf53_36
theorem jm_ix {ch : Int32} (h5 : (∀ j, tx.getD j 0 < 128) ∧ tx.length < 1000) : jMet l yJ0_indexOf_0f7a4 cJ0_indexOf_0f7a4 2 (some .int) 3 100 a d tx [.ref a, .int ch] (some (.int (jxF ch tx 0))) := by
  refine jMet.of (by decide +kernel) (Nat.le_of_ble_eq_true rfl) ?_
  intro p e s m below meth c ls J hl
  obtain ⟨hx, hb, hr, hlk, hml, hown, hts, hT⟩ := id J
  have hl : lv_has ls 2 [(0, .ref a), (1, .int ch)] := hl
  refine lv_aload_n hx hb dJ0_indexOf_0f7a4_0 rfl (lv_at hl 0 rfl) ?_
  refine lv_iload_n hx hb dJ0_indexOf_0f7a4_1 rfl (lv_at hl 1 rfl) ?_
  refine lv_iconst hx hb (v := 0) dJ0_indexOf_0f7a4_2 rfl ?_
  refine j_callV (as := [.int ch, .int 0]) (rest := []) hx hb hml hl.1 hown hts (jm_ix2 h5) hT ⟨by decide +kernel, by decide +kernel, by decide +kernel, by decide +kernel, by decide +kernel⟩ ⟨by decide, by decide, by show _ = some 2; decide +kernel⟩ ⟨by decide, by decide⟩ ⟨Nat.le_refl _, Nat.le_refl _⟩ (by decide) dJ0_indexOf_0f7a4_3 ?_
  exact jret J rfl rfl dJ0_indexOf_0f7a4_6
end JX
