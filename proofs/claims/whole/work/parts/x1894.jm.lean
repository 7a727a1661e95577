/-! THE MEMBERS OF TEXTS -/
section JM
variable {l : Launch} {a d : Nat} {tx : List Nat}
theorem jm_coder : jMet l yJ0_coder_7d493 cJ0_coder_7d493 1 (some .byte) 0 0 a d tx [.ref a] (some (.int 0)) := by
  refine jMet.of (by decide +kernel) (Nat.le_of_ble_eq_true rfl) ?_
  intro p e s m below meth c ls J hl
  obtain ⟨hx, hb, hr, hlk, hml, hown, hts, hT⟩ := id J
  have hl : lv_has ls 1 [(0, .ref a)] := hl
  refine va_gets hx hb hT.2.2.2.2.2.1 va_S.rf hown (hts _ (xGW_in (w := .fieldLink RJ0 38 "java/lang/String" "COMPACT_STRINGS" "Z") (by decide +kernel) rfl)) (fun _ h => h) dJ0_coder_7d493_0 ?_
  refine lv_if_eq hx hb (tgt := 13) dJ0_coder_7d493_3 (by decide) (fun h => absurd h (by decide)) (fun _ => ?_)
  refine lv_aload_n hx hb dJ0_coder_7d493_6 rfl (lv_at hl 0 rfl) ?_
  refine vk_getf hx hb hT.2.1 va_S.rf hown (hts _ (xGW_in (w := .fieldLink RJ0 15 "java/lang/String" "coder" "B") (by decide +kernel) rfl)) (fun _ h => h) dJ0_coder_7d493_7 ?_
  refine lv_goto hx hb (tgt := 14) dJ0_coder_7d493_10 (by decide) ?_
  exact jret J rfl rfl dJ0_coder_7d493_14
theorem jm_isLatin1 : jMet l yJ0_isLatin1_aae02 cJ0_isLatin1_aae02 1 (some .boolean) 0 0 a d tx [.ref a] (some (.int 1)) := by
  refine jMet.of (by decide +kernel) (Nat.le_of_ble_eq_true rfl) ?_
  intro p e s m below meth c ls J hl
  obtain ⟨hx, hb, hr, hlk, hml, hown, hts, hT⟩ := id J
  have hl : lv_has ls 1 [(0, .ref a)] := hl
  refine va_gets hx hb hT.2.2.2.2.2.1 va_S.rf hown (hts _ (xGW_in (w := .fieldLink RJ0 38 "java/lang/String" "COMPACT_STRINGS" "Z") (by decide +kernel) rfl)) (fun _ h => h) dJ0_isLatin1_aae02_0 ?_
  refine lv_if_eq hx hb (tgt := 17) dJ0_isLatin1_aae02_3 (by decide) (fun h => absurd h (by decide)) (fun _ => ?_)
  refine lv_aload_n hx hb dJ0_isLatin1_aae02_6 rfl (lv_at hl 0 rfl) ?_
  refine vk_getf hx hb hT.2.1 va_S.rf hown (hts _ (xGW_in (w := .fieldLink RJ0 15 "java/lang/String" "coder" "B") (by decide +kernel) rfl)) (fun _ h => h) dJ0_isLatin1_aae02_7 ?_
  refine lv_if_ne hx hb (tgt := 17) dJ0_isLatin1_aae02_10 (by decide) (fun h => absurd rfl h) (fun _ => ?_)
  refine lv_iconst hx hb dJ0_isLatin1_aae02_13 rfl ?_
  refine lv_goto hx hb (tgt := 18) dJ0_isLatin1_aae02_14 (by decide) ?_
  exact jret J rfl rfl dJ0_isLatin1_aae02_18
theorem jm_length : jMet l yJ0_length_8abf5 cJ0_length_8abf5 1 (some .int) 1 24 a d tx [.ref a] (some (.int (nI tx.length))) := by
  refine jMet.of (by decide +kernel) (Nat.le_of_ble_eq_true rfl) ?_
  intro p e s m below meth c ls J hl
  obtain ⟨hx, hb, hr, hlk, hml, hown, hts, hT⟩ := id J
  have hl : lv_has ls 1 [(0, .ref a)] := hl
  have hn : tx.length < 1000 := hT.2.2.2.2.1.2
  refine lv_aload_n hx hb dJ0_length_8abf5_0 rfl (lv_at hl 0 rfl) ?_
  refine vk_getf hx hb hT.2.2.1 va_S.rf hown (hts _ (xGW_in (w := .fieldLink RJ0 9 "java/lang/String" "value" "[B") (by decide +kernel) rfl)) (fun _ h => h) dJ0_length_8abf5_1 ?_
  refine va_tlen hx hb hT.2.2.2.1 va_S.rf (v := nI tx.length) rfl dJ0_length_8abf5_4 ?_
  refine lv_aload_n hx hb dJ0_length_8abf5_5 rfl (lv_at hl 0 rfl) ?_
  refine j_callV (as := []) (rest := [.int (nI tx.length)]) hx hb hml hl.1 hown hts jm_coder hT ⟨by decide +kernel, by decide +kernel, by decide +kernel, by decide +kernel, by decide +kernel⟩ ⟨by decide, by decide, by show _ = some 0; decide +kernel⟩ ⟨by decide, by decide⟩ ⟨Nat.le_refl _, Nat.le_refl _⟩ (by show 1 + 0 ≤ 8; decide) dJ0_length_8abf5_6 ?_
  refine lv_ishr hx hb dJ0_length_8abf5_9 ?_
  rw [sc_shr0 (by omega)]
  exact jret J rfl rfl dJ0_length_8abf5_10
theorem jm_preCheck {k n : Nat} {v : Value} (hv : v = .null ∨ ∃ t, v = .ref t) (h : k < n) (hn : n < 1000) : jMet l yJ3_checkIndex_8e157 cJ3_checkIndex_8e157 3 (some .int) 0 0 a d tx [.int (nI k), .int (nI n), v] (some (.int (nI k))) := by
  have hsl : (lg_sl [.int (nI k), .int (nI n), v]).length ≤ 3 := by rcases hv with rfl | ⟨t, rfl⟩ <;> exact Nat.le_of_ble_eq_true rfl
  refine jMet.of (by decide +kernel) hsl ?_
  intro p e s m below meth c ls J hl
  obtain ⟨hx, hb, hr, hlk, hml, hown, hts, hT⟩ := id J
  have hl : lv_has ls 3 [(0, .int (nI k)), (1, .int (nI n))] := by
    rcases hv with rfl | ⟨t, rfl⟩
    · exact lv_sub hl [0, 1] rfl
    · exact lv_sub hl [0, 1] rfl
  refine lv_iload_n hx hb dJ3_checkIndex_8e157_0 rfl (lv_at hl 0 rfl) ?_
  refine lv_if_lt hx hb (tgt := 9) dJ3_checkIndex_8e157_1 (by decide) (fun h => absurd h (nI_pos (by omega))) (fun _ => ?_)
  refine lv_iload_n hx hb dJ3_checkIndex_8e157_4 rfl (lv_at hl 0 rfl) ?_
  refine lv_iload_n hx hb dJ3_checkIndex_8e157_5 rfl (lv_at hl 1 rfl) ?_
  refine lv_icmp_lt hx hb (tgt := 16) dJ3_checkIndex_8e157_6 (by decide) (fun _ => ?_) (fun h2 => absurd (nI_lt h (by omega)) h2)
  refine lv_iload_n hx hb dJ3_checkIndex_8e157_16 rfl (lv_at hl 0 rfl) ?_
  exact jret J rfl rfl dJ3_checkIndex_8e157_17
theorem jm_checkIndex {k n : Nat} (h : k < n) (hn : n < 1000) : jMet l yJ0_checkIndex_df160 cJ0_checkIndex_df160 2 none 1 24 a d tx [.int (nI k), .int (nI n)] none := by
  refine jMet.of (by decide +kernel) (Nat.le_of_ble_eq_true rfl) ?_
  intro p e s m below meth c ls J hl
  obtain ⟨hx, hb, hr, hlk, hml, hown, hts, hT⟩ := id J
  have hl : lv_has ls 2 [(0, .int (nI k)), (1, .int (nI n))] := hl
  obtain ⟨v, hv, hZ⟩ : ∃ v : Value, (v = .null ∨ ∃ t, v = .ref t) ∧ va_Z "jdk/internal/util/Preconditions" "SIOOBE_FORMATTER" "Ljava/util/function/BiFunction;" v jN s s.heap := by
    rcases hT.2.2.2.2.2.2 with h | ⟨t, h⟩
    · exact ⟨_, Or.inl rfl, h⟩
    · exact ⟨_, Or.inr ⟨t, rfl⟩, h⟩
  refine lv_iload_n hx hb dJ0_checkIndex_df160_0 rfl (lv_at hl 0 rfl) ?_
  refine lv_iload_n hx hb dJ0_checkIndex_df160_1 rfl (lv_at hl 1 rfl) ?_
  refine va_gets hx hb hZ va_S.rf hown (hts _ (xGW_in (w := .fieldLink RJ0 1053 "jdk/internal/util/Preconditions" "SIOOBE_FORMATTER" "Ljava/util/function/BiFunction;") (by decide +kernel) rfl)) (fun _ h => h) dJ0_checkIndex_df160_2 ?_
  refine j_callS (as := [.int (nI k), .int (nI n), v]) (rest := []) hx hb hml hl.1 hown hts (jm_preCheck hv h hn) hT ⟨by decide +kernel, by decide +kernel, by decide +kernel, by decide +kernel⟩ ⟨by decide, by decide, by show _ = some 3; decide +kernel⟩ ⟨by decide, by decide⟩ ⟨Nat.le_refl _, Nat.le_refl _⟩ (by decide) dJ0_checkIndex_df160_5 ?_
  refine lv_pop hx hb dJ0_checkIndex_df160_8 rfl ?_
  exact jvret J dJ0_checkIndex_df160_9
theorem j_byte : ∀ c, c < 128 → (nI c &&& 255) = nI c ∧ ((nI c).toUInt32 % 65536).toInt32 = nI c ∧ (nI c).toInt8.toInt32 = nI c ∧ narrow .char (.int (nI c)) = .int (nI c) := by decide +kernel
theorem jm_charAt1 {k : Nat} (hk : k < tx.length) (h5 : (∀ j, tx.getD j 0 < 128) ∧ tx.length < 1000) : jMet l yJ1_charAt_3b067 cJ1_charAt_3b067 2 (some .char) 2 48 a d tx [.ref d, .int (nI k)] (some (.int (nI (tx.getD k 0)))) := by
  refine jMet.of (by decide +kernel) (Nat.le_of_ble_eq_true rfl) ?_
  intro p e s m below meth c ls J hl
  obtain ⟨hx, hb, hr, hlk, hml, hown, hts, hT⟩ := id J
  have hl : lv_has ls 2 [(0, .ref d), (1, .int (nI k))] := hl
  obtain ⟨b1, b2, -, b4⟩ := j_byte _ (h5.1 k)
  have hn := h5.2
  refine lv_iload_n hx hb dJ1_charAt_3b067_0 rfl (lv_at hl 1 rfl) ?_
  refine lv_aload_n hx hb dJ1_charAt_3b067_1 rfl (lv_at hl 0 rfl) ?_
  refine va_tlen hx hb hT.2.2.2.1 va_S.rf (v := nI tx.length) rfl dJ1_charAt_3b067_2 ?_
  refine j_callS (as := [.int (nI k), .int (nI tx.length)]) (rest := []) hx hb hml hl.1 hown hts (jm_checkIndex hk hn) hT ⟨by decide +kernel, by decide +kernel, by decide +kernel, by decide +kernel⟩ ⟨by decide, by decide, by show _ = some 2; decide +kernel⟩ ⟨by decide, by decide⟩ ⟨Nat.le_refl _, Nat.le_refl _⟩ (by decide) dJ1_charAt_3b067_3 ?_
  refine lv_aload_n hx hb dJ1_charAt_3b067_6 rfl (lv_at hl 0 rfl) ?_
  refine lv_iload_n hx hb dJ1_charAt_3b067_7 rfl (lv_at hl 1 rfl) ?_
  refine va_tb hx hb hT.2.2.2.1 va_S.rf (vp_in_nI hk (by omega)) (v := .int (nI (tx.getD k 0))) (by rw [nI_clamp (by omega)]) dJ1_charAt_3b067_8 ?_
  refine lv_sipush hx hb (v := 255) dJ1_charAt_3b067_9 rfl ?_
  refine lv_iand hx hb dJ1_charAt_3b067_12 ?_
  rw [b1]
  refine lv_i2c hx hb dJ1_charAt_3b067_13 b2 ?_
  exact jret J rfl b4 dJ1_charAt_3b067_14
theorem jm_charAt {k : Nat} (hk : k < tx.length) (h5 : (∀ j, tx.getD j 0 < 128) ∧ tx.length < 1000) : jMet l yJ0_charAt_5068e cJ0_charAt_5068e 2 (some .char) 3 72 a d tx [.ref a, .int (nI k)] (some (.int (nI (tx.getD k 0)))) := by
  refine jMet.of (by decide +kernel) (Nat.le_of_ble_eq_true rfl) ?_
  intro p e s m below meth c ls J hl
  obtain ⟨hx, hb, hr, hlk, hml, hown, hts, hT⟩ := id J
  have hl : lv_has ls 2 [(0, .ref a), (1, .int (nI k))] := hl
  obtain ⟨-, -, -, b4⟩ := j_byte _ (h5.1 k)
  refine lv_aload_n hx hb dJ0_charAt_5068e_0 rfl (lv_at hl 0 rfl) ?_
  refine j_callV (as := []) (rest := []) hx hb hml hl.1 hown hts jm_isLatin1 hT ⟨by decide +kernel, by decide +kernel, by decide +kernel, by decide +kernel, by decide +kernel⟩ ⟨by decide, by decide, by show _ = some 0; decide +kernel⟩ ⟨by decide, by decide⟩ ⟨Nat.le_refl _, Nat.le_refl _⟩ (by decide) dJ0_charAt_5068e_1 ?_
  refine lv_if_eq hx hb (tgt := 16) dJ0_charAt_5068e_4 (by decide) (fun h => absurd h (by decide)) (fun _ => ?_)
  refine lv_aload_n hx hb dJ0_charAt_5068e_7 rfl (lv_at hl 0 rfl) ?_
  refine vk_getf hx hb hT.2.2.1 va_S.rf hown (hts _ (xGW_in (w := .fieldLink RJ0 9 "java/lang/String" "value" "[B") (by decide +kernel) rfl)) (fun _ h => h) dJ0_charAt_5068e_8 ?_
  refine lv_iload_n hx hb dJ0_charAt_5068e_11 rfl (lv_at hl 1 rfl) ?_
  refine j_callS (as := [.ref d, .int (nI k)]) (rest := []) hx hb hml hl.1 hown hts (jm_charAt1 hk h5) hT ⟨by decide +kernel, by decide +kernel, by decide +kernel, by decide +kernel⟩ ⟨by decide, by decide, by show _ = some 2; decide +kernel⟩ ⟨by decide, by decide⟩ ⟨Nat.le_refl _, Nat.le_refl _⟩ (by decide) dJ0_charAt_5068e_12 ?_
  exact jret J rfl b4 dJ0_charAt_5068e_15
end JM
