/-! WHOLE_START -/
theorem law_chunks : ∀ k, k < 28 → xokL cL_law P_L_law 15 false (some .boolean) (32 * k) ((K_L_law.drop (32 * k)).take 32) = true := fun k hk =>
  match k, hk with
  | 0, _ => ok_law_0
  | 1, _ => ok_law_1
  | 2, _ => ok_law_2
  | 3, _ => ok_law_3
  | 4, _ => ok_law_4
  | 5, _ => ok_law_5
  | 6, _ => ok_law_6
  | 7, _ => ok_law_7
  | 8, _ => ok_law_8
  | 9, _ => ok_law_9
  | 10, _ => ok_law_10
  | 11, _ => ok_law_11
  | 12, _ => ok_law_12
  | 13, _ => ok_law_13
  | 14, _ => ok_law_14
  | 15, _ => ok_law_15
  | 16, _ => ok_law_16
  | 17, _ => ok_law_17
  | 18, _ => ok_law_18
  | 19, _ => ok_law_19
  | 20, _ => ok_law_20
  | 21, _ => ok_law_21
  | 22, _ => ok_law_22
  | 23, _ => ok_law_23
  | 24, _ => ok_law_24
  | 25, _ => ok_law_25
  | 26, _ => ok_law_26
  | 27, _ => ok_law_27
  | k + 28, hk => absurd hk (by omega)
set_option maxRecDepth 10000 in
theorem law_len : K_L_law.length = 888 := by decide +kernel
theorem law_ok : ∀ (ix : Nat) (ai : xA), K_L_law[ix]? = some ai → xrel cL_law P_L_law 15 false (some .boolean) (P_L_law.getD ix 0) (P_L_law.getD (ix + 1) 0) ai = true := fun ix ai hk => by
  have hl : ix < K_L_law.length := (List.getElem?_eq_some_iff.mp hk).1
  rw [law_len] at hl
  exact chunk_ok (law_chunks (ix / 32) (by omega)) (by omega) (by omega) hk
theorem whole_start {p : Program} {e : Env} {s : State} {m : MethodId} {below : List Frame} {meth : Method} {c : Code} (l : Launch) (hflags : l.flags = flags0) {b L : Nat} {xs : Nat → Int32} (hL : L ≤ 3584) (C0 : lw_At p s m meth c b L xs) : W p l e room_1 s m #[Value.ref b] below meth c s.heap [] 0 0 (lw_Z below #[Value.ref b] s) (entryFrame m ([Value.ref b] : List Value).toArray 7) := by
  obtain ⟨hx, hb, hr, hml, hown, hts, hX, hbl, hlocks, hgv⟩ := id C0
  obtain ⟨ad, h1, h2, h3⟩ := given_all (E1 := (nI L, fun i => xs i.toNatClampNeg)) b hgv hts
  obtain ⟨n, v, M', hrun, rfl, hS, hg⟩ := law_run (e := (true, nI L, fun i => xs i.toNatClampNeg)) (n := L) rfl rfl hL
  refine law_start l (xPrim_T l (flags_st hflags) xRT_ok) xRT_ok law_ok hL C0 h1 h2 h3 hrun ?_ ?_
  · unfold xcs
    rw [hS, S0_len]
    omega
  · have : xsz S0 ≤ 100000 := by decide +kernel
    unfold xss
    rw [hS]
    omega
