/-! ROWS OF THE PLAIN MACHINE: X e d K ix L st M r: from here the run ends, and r holds of its answer and store. -/
def X (e : Bool × Int32 × (Int32 → Int32)) (d : Nat) (K : List xA) (ix : Nat) (L : xL) (st : List Value) (M : xM) (r : Option Value → xM → Prop) : Prop := ∃ n v M', xrun xMT e.1 (e.2, xTX) n d K ix L st M = some (v, M') ∧ r v M'
/-- a method's run: its number, its arguments -/
def Y (e : Bool × Int32 × (Int32 → Int32)) (d : Nat) (q : xMeth) (args : List Value) (M : xM) (r : Option Value → xM → Prop) : Prop := X e d q.2.2 0 (xent args q.2.1) [] M r
theorem xrun_mono {MT : List xMeth} {pr : Bool} {E : xE} : ∀ (n d : Nat) (K : List xA) (ix : Nat) (L : xL) (st : List Value) (M : xM) (r : Option Value × xM) (k j : Nat), xrun MT pr E n d K ix L st M = some r → xrun MT pr E (n + k) (d + j) K ix L st M = some r := by
  intro n
  induction n with
  | zero => intro d K ix L st M r k j h; simp [xrun] at h
  | succ n ih =>
    intro d K ix L st M r k j h
    rw [Nat.succ_add]
    unfold xrun at h ⊢
    cases hk : K[ix]? with
    | none => rw [hk] at h; cases h
    | some ai =>
      rw [hk] at h
      dsimp only at h ⊢
      cases hx : xret ai st with
      | some v => rw [hx] at h; exact h
      | none =>
        rw [hx] at h
        dsimp only at h ⊢
        cases hc : xcallee ai with
        | some kr =>
          obtain ⟨kk, rc⟩ := kr
          rw [hc] at h
          dsimp only at h ⊢
          cases d with
          | zero => simp at h
          | succ d' =>
            cases hq : MT[kk]? with
            | none => rw [hq] at h; simp at h
            | some q =>
              rw [hq] at h
              rw [Nat.succ_add]
              dsimp only at h ⊢
              split at h
              · rename_i hcond
                rw [if_pos hcond]
                cases hr : xrun MT pr E n d' q.2.2 0 (xent (st.take q.1).reverse q.2.1) [] M with
                | none => rw [hr] at h; cases h
                | some rm =>
                  obtain ⟨r', M'⟩ := rm
                  rw [hr] at h
                  rw [ih _ _ _ _ _ _ _ k j hr]
                  dsimp only at h ⊢
                  have := ih (d' + 1) _ _ _ _ _ _ k j h
                  rw [Nat.succ_add] at this
                  exact this
              · cases h
        | none =>
          rw [hc] at h
          dsimp only at h ⊢
          cases hs : xstep pr E ai ix L st M with
          | none => rw [hs] at h; cases h
          | some c' =>
            obtain ⟨ix', L', st', M'⟩ := c'
            rw [hs] at h
            dsimp only at h ⊢
            exact ih _ _ _ _ _ _ _ k j h
theorem X.mono {e : Bool × Int32 × (Int32 → Int32)} {d d' : Nat} {K : List xA} {ix : Nat} {L : xL} {st : List Value} {M : xM} {r : Option Value → xM → Prop} (hd : d ≤ d') (h : X e d K ix L st M r) : X e d' K ix L st M r := by
  obtain ⟨n, v, M', hn, hr⟩ := h
  obtain ⟨j, rfl⟩ := Nat.exists_eq_add_of_le hd
  exact ⟨n, v, M', xrun_mono n d K ix L st M (v, M') 0 j hn, hr⟩
theorem Y.mono {e : Bool × Int32 × (Int32 → Int32)} {d d' : Nat} {q : xMeth} {args : List Value} {M : xM} {r : Option Value → xM → Prop} (hd : d ≤ d') (h : Y e d q args M r) : Y e d' q args M r := X.mono hd h
section XR
variable {e : Bool × Int32 × (Int32 → Int32)} {d : Nat} {K : List xA} {ix : Nat} {L : xL} {st : List Value} {M : xM} {r : Option Value → xM → Prop}
theorem X.of_step {ai : xA} {ix' : Nat} {L' : xL} {st' : List Value} {M' : xM} (hk : K[ix]? = some ai) (h1 : xret ai st = none) (h2 : xcallee ai = none) (hs : xstep e.1 (e.2, xTX) ai ix L st M = some (ix', L', st', M')) (k : X e d K ix' L' st' M' r) : X e d K ix L st M r := by
  obtain ⟨n, v, M2, hn, hr⟩ := k
  refine ⟨n + 1, v, M2, ?_, hr⟩
  unfold xrun
  rw [hk]
  dsimp only
  rw [h1]
  dsimp only
  rw [h2]
  dsimp only
  rw [hs]
  exact hn
theorem X.post {r' : Option Value → xM → Prop} (h : X e d K ix L st M r) (e2 : ∀ v M', r v M' → r' v M') : X e d K ix L st M r' := by
  obtain ⟨n, v, M', hn, hr⟩ := h
  exact ⟨n, v, M', hn, e2 v M' hr⟩
theorem x_ret {v : Option Value} {ai : xA} (hk : K[ix]? = some ai) (h1 : xret ai st = some v) (hr : r v M) : X e d K ix L st M r := ⟨1, v, M, by unfold xrun; rw [hk]; dsimp only; rw [h1], hr⟩
theorem x_call {ai : xA} {k dc : Nat} {rc : Option Nat} {q : xMeth} {args rest : List Value} {rq : Option Value → xM → Prop} (hk : K[ix]? = some ai) (h1 : xret ai st = none) (h2 : xcallee ai = some (k, rc)) (hq : xMT[k]? = some q) (hs : st = args.reverse ++ rest) (hn : args.length = q.1) (hw : xwt rest ≤ 8) (hw2 : xwt args ≤ q.2.1) (hv : xrecv rc args M = true) (hc : Y e dc q args M rq) (hd : dc + 1 ≤ d)
    (kk : ∀ (v : Option Value) (M' : xM), rq v M' → X e d K (ix + 1) L (v.toList ++ rest) M' r) : X e d K ix L st M r := by
  obtain ⟨j, rfl⟩ := Nat.exists_eq_add_of_le hd
  obtain ⟨n, v, M1, hn1, hr1⟩ := hc
  obtain ⟨n2, v2, M2, hn2, hr2⟩ := kk v M1 hr1
  refine ⟨n + n2 + 1, v2, M2, ?_, hr2⟩
  have e1 : dc + 1 + j = dc + j + 1 := by omega
  rw [e1] at hn2 ⊢
  unfold xrun
  rw [hk]
  dsimp only
  rw [h1]
  dsimp only
  rw [h2]
  dsimp only
  rw [hq]
  dsimp only
  have hl : st.length = q.1 + rest.length := by rw [hs]; simp [hn]
  have ht : (st.take q.1).reverse = args := by rw [hs, ← hn]; simp
  have hdr : st.drop q.1 = rest := by rw [hs, ← hn]; simp
  rw [ht, hdr, if_pos ⟨by omega, hw, hw2, hv⟩]
  rw [xrun_mono n dc _ _ _ _ _ _ n2 j hn1]
  dsimp only
  rw [Nat.add_comm n n2]
  exact xrun_mono n2 (dc + j + 1) _ _ _ _ _ _ n 0 hn2
theorem x_push {v : Value} (hk : K[ix]? = some (.inr (.inl v))) (k : X e d K (ix + 1) L (v :: st) M r) : X e d K ix L st M r := X.of_step hk (by cases st <;> rfl) rfl rfl k
theorem x_iload {i : Nat} {v : Int32} (hk : K[ix]? = some (.inl (.iload i))) (hl : L[i]? = some (some (.int v))) (k : X e d K (ix + 1) L (.int v :: st) M r) : X e d K ix L st M r := X.of_step hk rfl rfl (by simp [xstep, xpure, hl]) k
theorem x_lload {i : Nat} {v : Int64} (hk : K[ix]? = some (.inl (.lload i))) (hl : L[i]? = some (some (.long v))) (k : X e d K (ix + 1) L (.long v :: st) M r) : X e d K ix L st M r := X.of_step hk rfl rfl (by simp [xstep, xpure, hl]) k
theorem x_aload {i : Nat} {v : Nat} (hk : K[ix]? = some (.inl (.aload i))) (hl : L[i]? = some (some (.ref v))) (k : X e d K (ix + 1) L (.ref v :: st) M r) : X e d K ix L st M r := X.of_step hk rfl rfl (by simp [xstep, xpure, hl]) k
theorem x_istore {i : Nat} {v : Int32} (hk : K[ix]? = some (.inl (.istore i))) (hi : Nat.ble (i + 1) L.length = true) (k : X e d K (ix + 1) (xset L i (.int v)) st M r) : X e d K ix L (.int v :: st) M r := X.of_step hk rfl rfl (by simp [xstep, xpure, show i < L.length from Nat.le_of_ble_eq_true hi]) k
theorem x_astore {i : Nat} {v : Nat} (hk : K[ix]? = some (.inl (.astore i))) (hi : Nat.ble (i + 1) L.length = true) (k : X e d K (ix + 1) (xset L i (.ref v)) st M r) : X e d K ix L (.ref v :: st) M r := X.of_step hk rfl rfl (by simp [xstep, xpure, show i < L.length from Nat.le_of_ble_eq_true hi]) k
theorem x_lstore {i : Nat} {v : Int64} (hk : K[ix]? = some (.inl (.lstore i))) (hi : Nat.ble (i + 2) L.length = true) (k : X e d K (ix + 1) (xset2 L i (.long v)) st M r) : X e d K ix L (.long v :: st) M r := X.of_step hk rfl rfl (by simp [xstep, xpure, show i + 1 < L.length from Nat.le_of_ble_eq_true hi]) k
theorem x_iadd {x y : Int32} (hk : K[ix]? = some (.inl .iadd)) (k : X e d K (ix + 1) L (.int (x + y) :: st) M r) : X e d K ix L (.int y :: .int x :: st) M r := X.of_step hk rfl rfl (by simp [xstep, xpure]) k
theorem x_isub {x y : Int32} (hk : K[ix]? = some (.inl .isub)) (k : X e d K (ix + 1) L (.int (x - y) :: st) M r) : X e d K ix L (.int y :: .int x :: st) M r := X.of_step hk rfl rfl (by simp [xstep, xpure]) k
theorem x_imul {x y : Int32} (hk : K[ix]? = some (.inl .imul)) (k : X e d K (ix + 1) L (.int (x * y) :: st) M r) : X e d K ix L (.int y :: .int x :: st) M r := X.of_step hk rfl rfl (by simp [xstep, xpure]) k
theorem x_iand {x y : Int32} (hk : K[ix]? = some (.inl .iand)) (k : X e d K (ix + 1) L (.int (x &&& y) :: st) M r) : X e d K ix L (.int y :: .int x :: st) M r := X.of_step hk rfl rfl (by simp [xstep, xpure]) k
theorem x_ior {x y : Int32} (hk : K[ix]? = some (.inl .ior)) (k : X e d K (ix + 1) L (.int (x ||| y) :: st) M r) : X e d K ix L (.int y :: .int x :: st) M r := X.of_step hk rfl rfl (by simp [xstep, xpure]) k
theorem x_ixor {x y : Int32} (hk : K[ix]? = some (.inl .ixor)) (k : X e d K (ix + 1) L (.int (x ^^^ y) :: st) M r) : X e d K ix L (.int y :: .int x :: st) M r := X.of_step hk rfl rfl (by simp [xstep, xpure]) k
theorem x_ishl {x y : Int32} (hk : K[ix]? = some (.inl .ishl)) (k : X e d K (ix + 1) L (.int (x <<< (y &&& 31)) :: st) M r) : X e d K ix L (.int y :: .int x :: st) M r := X.of_step hk rfl rfl (by simp [xstep, xpure]) k
theorem x_ishr {x y : Int32} (hk : K[ix]? = some (.inl .ishr)) (k : X e d K (ix + 1) L (.int (x >>> (y &&& 31)) :: st) M r) : X e d K ix L (.int y :: .int x :: st) M r := X.of_step hk rfl rfl (by simp [xstep, xpure]) k
theorem x_iushr {x y : Int32} (hk : K[ix]? = some (.inl .iushr)) (k : X e d K (ix + 1) L (.int ((x.toUInt32 >>> (y.toUInt32 &&& Int32.toUInt32 31)).toInt32) :: st) M r) : X e d K ix L (.int y :: .int x :: st) M r := X.of_step hk rfl rfl (by simp [xstep, xpure]) k
theorem x_idiv {x y : Int32} (hk : K[ix]? = some (.inl .idiv)) (hy : ¬ y = 0) (k : X e d K (ix + 1) L (.int (x / y) :: st) M r) : X e d K ix L (.int y :: .int x :: st) M r := X.of_step hk rfl rfl (by simp [xstep, xpure, hy]) k
theorem x_irem {x y : Int32} (hk : K[ix]? = some (.inl .irem)) (hy : ¬ y = 0) (k : X e d K (ix + 1) L (.int (x - x / y * y) :: st) M r) : X e d K ix L (.int y :: .int x :: st) M r := X.of_step hk rfl rfl (by simp [xstep, xpure, hy]) k
theorem x_ineg {x : Int32} (hk : K[ix]? = some (.inl .ineg)) (k : X e d K (ix + 1) L (.int (-x) :: st) M r) : X e d K ix L (.int x :: st) M r := X.of_step hk rfl rfl (by simp [xstep, xpure]) k
theorem x_i2l {x : Int32} (hk : K[ix]? = some (.inl .i2l)) (k : X e d K (ix + 1) L (.long x.toInt64 :: st) M r) : X e d K ix L (.int x :: st) M r := X.of_step hk rfl rfl (by simp [xstep, xpure]) k
theorem x_i2c {x : Int32} (hk : K[ix]? = some (.inl .i2c)) (k : X e d K (ix + 1) L (.int (x.toUInt32 % 65536).toInt32 :: st) M r) : X e d K ix L (.int x :: st) M r := X.of_step hk rfl rfl (by simp [xstep, xpure]) k
theorem x_l2i {x : Int64} (hk : K[ix]? = some (.inl .l2i)) (k : X e d K (ix + 1) L (.int x.toInt32 :: st) M r) : X e d K ix L (.long x :: st) M r := X.of_step hk rfl rfl (by simp [xstep, xpure]) k
theorem x_ladd {x y : Int64} (hk : K[ix]? = some (.inl .ladd)) (k : X e d K (ix + 1) L (.long (x + y) :: st) M r) : X e d K ix L (.long y :: .long x :: st) M r := X.of_step hk rfl rfl (by simp [xstep, xpure]) k
theorem x_lsub {x y : Int64} (hk : K[ix]? = some (.inl .lsub)) (k : X e d K (ix + 1) L (.long (x - y) :: st) M r) : X e d K ix L (.long y :: .long x :: st) M r := X.of_step hk rfl rfl (by simp [xstep, xpure]) k
theorem x_lmul {x y : Int64} (hk : K[ix]? = some (.inl .lmul)) (k : X e d K (ix + 1) L (.long (x * y) :: st) M r) : X e d K ix L (.long y :: .long x :: st) M r := X.of_step hk rfl rfl (by simp [xstep, xpure]) k
theorem x_land {x y : Int64} (hk : K[ix]? = some (.inl .land)) (k : X e d K (ix + 1) L (.long (x &&& y) :: st) M r) : X e d K ix L (.long y :: .long x :: st) M r := X.of_step hk rfl rfl (by simp [xstep, xpure]) k
theorem x_lor {x y : Int64} (hk : K[ix]? = some (.inl .lor)) (k : X e d K (ix + 1) L (.long (x ||| y) :: st) M r) : X e d K ix L (.long y :: .long x :: st) M r := X.of_step hk rfl rfl (by simp [xstep, xpure]) k
theorem x_ldiv {x y : Int64} (hk : K[ix]? = some (.inl .ldiv)) (hy : ¬ y = 0) (k : X e d K (ix + 1) L (.long (x / y) :: st) M r) : X e d K ix L (.long y :: .long x :: st) M r := X.of_step hk rfl rfl (by simp [xstep, xpure, hy]) k
theorem x_lrem {x y : Int64} (hk : K[ix]? = some (.inl .lrem)) (hy : ¬ y = 0) (k : X e d K (ix + 1) L (.long (x - x / y * y) :: st) M r) : X e d K ix L (.long y :: .long x :: st) M r := X.of_step hk rfl rfl (by simp [xstep, xpure, hy]) k
theorem x_lcmp {x y : Int64} (hk : K[ix]? = some (.inl .lcmp)) (k : X e d K (ix + 1) L (.int (lg_cmp x y) :: st) M r) : X e d K ix L (.long y :: .long x :: st) M r := X.of_step hk rfl rfl (by simp [xstep, xpure]) k
theorem x_lshl {x : Int64} {y : Int32} (hk : K[ix]? = some (.inl .lshl)) (k : X e d K (ix + 1) L (.long (x <<< (y.toInt64 &&& 63)) :: st) M r) : X e d K ix L (.int y :: .long x :: st) M r := X.of_step hk rfl rfl (by simp [xstep, xpure]) k
theorem x_lshr {x : Int64} {y : Int32} (hk : K[ix]? = some (.inl .lshr)) (k : X e d K (ix + 1) L (.long (x >>> (y.toInt64 &&& 63)) :: st) M r) : X e d K ix L (.int y :: .long x :: st) M r := X.of_step hk rfl rfl (by simp [xstep, xpure]) k
theorem x_lushr {x : Int64} {y : Int32} (hk : K[ix]? = some (.inl .lushr)) (k : X e d K (ix + 1) L (.long ((x.toUInt64 >>> (y.toInt64.toUInt64 &&& Int64.toUInt64 63)).toInt64) :: st) M r) : X e d K ix L (.int y :: .long x :: st) M r := X.of_step hk rfl rfl (by simp [xstep, xpure]) k
theorem x_dup {x : Int32} (hk : K[ix]? = some (.inl .dup)) (k : X e d K (ix + 1) L (.int x :: .int x :: st) M r) : X e d K ix L (.int x :: st) M r := X.of_step hk rfl rfl (by simp [xstep, xpure]) k
theorem x_dupr {x : Nat} (hk : K[ix]? = some (.inl .dup)) (k : X e d K (ix + 1) L (.ref x :: .ref x :: st) M r) : X e d K ix L (.ref x :: st) M r := X.of_step hk rfl rfl (by simp [xstep, xpure]) k
theorem x_pop {x : Int32} (hk : K[ix]? = some (.inl .pop)) (k : X e d K (ix + 1) L st M r) : X e d K ix L (.int x :: st) M r := X.of_step hk rfl rfl (by simp [xstep, xpure]) k
theorem x_dup2 {x : Int32} {y : Nat} (hk : K[ix]? = some (.inl .dup2)) (k : X e d K (ix + 1) L (.int x :: .ref y :: .int x :: .ref y :: st) M r) : X e d K ix L (.int x :: .ref y :: st) M r := X.of_step hk rfl rfl (by simp [xstep, xpure]) k
theorem x_goto {t : Nat} (hk : K[ix]? = some (.inr (.inr (10, [t])))) (k : X e d K t L st M r) : X e d K ix L st M r := X.of_step hk rfl rfl (by simp [xstep, xjmp]) k
theorem x_ifeq {x : Int32} {t : Nat} (hk : K[ix]? = some (.inr (.inr (11, [t])))) (kt : x = 0 → X e d K t L st M r) (kf : ¬ (x = 0) → X e d K (ix + 1) L st M r) : X e d K ix L (.int x :: st) M r := by
  by_cases h : x = 0
  · exact X.of_step hk rfl rfl (by simp only [xstep, xjmp, if_pos h]) (kt h)
  · exact X.of_step hk rfl rfl (by simp only [xstep, xjmp, if_neg h]) (kf h)
theorem x_ifne {x : Int32} {t : Nat} (hk : K[ix]? = some (.inr (.inr (12, [t])))) (kt : ¬ x = 0 → X e d K t L st M r) (kf : ¬ (¬ x = 0) → X e d K (ix + 1) L st M r) : X e d K ix L (.int x :: st) M r := by
  by_cases h : ¬ x = 0
  · exact X.of_step hk rfl rfl (by simp only [xstep, xjmp, if_pos h]) (kt h)
  · exact X.of_step hk rfl rfl (by simp only [xstep, xjmp, if_neg h]) (kf h)
theorem x_iflt {x : Int32} {t : Nat} (hk : K[ix]? = some (.inr (.inr (13, [t])))) (kt : x < 0 → X e d K t L st M r) (kf : ¬ (x < 0) → X e d K (ix + 1) L st M r) : X e d K ix L (.int x :: st) M r := by
  by_cases h : x < 0
  · exact X.of_step hk rfl rfl (by simp only [xstep, xjmp, if_pos h]) (kt h)
  · exact X.of_step hk rfl rfl (by simp only [xstep, xjmp, if_neg h]) (kf h)
theorem x_ifge {x : Int32} {t : Nat} (hk : K[ix]? = some (.inr (.inr (14, [t])))) (kt : 0 ≤ x → X e d K t L st M r) (kf : ¬ (0 ≤ x) → X e d K (ix + 1) L st M r) : X e d K ix L (.int x :: st) M r := by
  by_cases h : 0 ≤ x
  · exact X.of_step hk rfl rfl (by simp only [xstep, xjmp, if_pos h]) (kt h)
  · exact X.of_step hk rfl rfl (by simp only [xstep, xjmp, if_neg h]) (kf h)
theorem x_ifgt {x : Int32} {t : Nat} (hk : K[ix]? = some (.inr (.inr (15, [t])))) (kt : 0 < x → X e d K t L st M r) (kf : ¬ (0 < x) → X e d K (ix + 1) L st M r) : X e d K ix L (.int x :: st) M r := by
  by_cases h : 0 < x
  · exact X.of_step hk rfl rfl (by simp only [xstep, xjmp, if_pos h]) (kt h)
  · exact X.of_step hk rfl rfl (by simp only [xstep, xjmp, if_neg h]) (kf h)
theorem x_ifle {x : Int32} {t : Nat} (hk : K[ix]? = some (.inr (.inr (16, [t])))) (kt : x ≤ 0 → X e d K t L st M r) (kf : ¬ (x ≤ 0) → X e d K (ix + 1) L st M r) : X e d K ix L (.int x :: st) M r := by
  by_cases h : x ≤ 0
  · exact X.of_step hk rfl rfl (by simp only [xstep, xjmp, if_pos h]) (kt h)
  · exact X.of_step hk rfl rfl (by simp only [xstep, xjmp, if_neg h]) (kf h)
theorem x_ieq {x y : Int32} {t : Nat} (hk : K[ix]? = some (.inr (.inr (21, [t])))) (kt : x = y → X e d K t L st M r) (kf : ¬ (x = y) → X e d K (ix + 1) L st M r) : X e d K ix L (.int y :: .int x :: st) M r := by
  by_cases h : x = y
  · exact X.of_step hk rfl rfl (by simp only [xstep, xjmp, if_pos h]) (kt h)
  · exact X.of_step hk rfl rfl (by simp only [xstep, xjmp, if_neg h]) (kf h)
theorem x_ine {x y : Int32} {t : Nat} (hk : K[ix]? = some (.inr (.inr (22, [t])))) (kt : ¬ x = y → X e d K t L st M r) (kf : ¬ (¬ x = y) → X e d K (ix + 1) L st M r) : X e d K ix L (.int y :: .int x :: st) M r := by
  by_cases h : ¬ x = y
  · exact X.of_step hk rfl rfl (by simp only [xstep, xjmp, if_pos h]) (kt h)
  · exact X.of_step hk rfl rfl (by simp only [xstep, xjmp, if_neg h]) (kf h)
theorem x_ilt {x y : Int32} {t : Nat} (hk : K[ix]? = some (.inr (.inr (23, [t])))) (kt : x < y → X e d K t L st M r) (kf : ¬ (x < y) → X e d K (ix + 1) L st M r) : X e d K ix L (.int y :: .int x :: st) M r := by
  by_cases h : x < y
  · exact X.of_step hk rfl rfl (by simp only [xstep, xjmp, if_pos h]) (kt h)
  · exact X.of_step hk rfl rfl (by simp only [xstep, xjmp, if_neg h]) (kf h)
theorem x_ige {x y : Int32} {t : Nat} (hk : K[ix]? = some (.inr (.inr (24, [t])))) (kt : y ≤ x → X e d K t L st M r) (kf : ¬ (y ≤ x) → X e d K (ix + 1) L st M r) : X e d K ix L (.int y :: .int x :: st) M r := by
  by_cases h : y ≤ x
  · exact X.of_step hk rfl rfl (by simp only [xstep, xjmp, if_pos h]) (kt h)
  · exact X.of_step hk rfl rfl (by simp only [xstep, xjmp, if_neg h]) (kf h)
theorem x_igt {x y : Int32} {t : Nat} (hk : K[ix]? = some (.inr (.inr (25, [t])))) (kt : y < x → X e d K t L st M r) (kf : ¬ (y < x) → X e d K (ix + 1) L st M r) : X e d K ix L (.int y :: .int x :: st) M r := by
  by_cases h : y < x
  · exact X.of_step hk rfl rfl (by simp only [xstep, xjmp, if_pos h]) (kt h)
  · exact X.of_step hk rfl rfl (by simp only [xstep, xjmp, if_neg h]) (kf h)
theorem x_ile {x y : Int32} {t : Nat} (hk : K[ix]? = some (.inr (.inr (26, [t])))) (kt : x ≤ y → X e d K t L st M r) (kf : ¬ (x ≤ y) → X e d K (ix + 1) L st M r) : X e d K ix L (.int y :: .int x :: st) M r := by
  by_cases h : x ≤ y
  · exact X.of_step hk rfl rfl (by simp only [xstep, xjmp, if_pos h]) (kt h)
  · exact X.of_step hk rfl rfl (by simp only [xstep, xjmp, if_neg h]) (kf h)
theorem x_sw {lo dd : Nat} {ts : List Nat} {x : Int32} (hk : K[ix]? = some (.inr (.inr (27, lo :: dd :: ts)))) (k : X e d K (xswi lo dd ts x) L st M r) : X e d K ix L (.int x :: st) M r := X.of_step hk rfl rfl (by simp only [xstep, xjmp]) k
theorem x_inc80 {i : Nat} {v : Int32} (hk : K[ix]? = some (.inr (.inr (80, [i])))) (hl : L[i]? = some (some (.int v))) (k : X e d K (ix + 1) (L.set i (some (.int (v + 1)))) st M r) : X e d K ix L st M r := X.of_step hk rfl rfl (by simp [xstep, xjmp, xinc, hl]) k
theorem x_inc81 {i : Nat} {v : Int32} (hk : K[ix]? = some (.inr (.inr (81, [i])))) (hl : L[i]? = some (some (.int v))) (k : X e d K (ix + 1) (L.set i (some (.int (v + -1)))) st M r) : X e d K ix L st M r := X.of_step hk rfl rfl (by simp [xstep, xjmp, xinc, hl]) k
theorem x_inc82 {i : Nat} {v : Int32} (hk : K[ix]? = some (.inr (.inr (82, [i])))) (hl : L[i]? = some (some (.int v))) (k : X e d K (ix + 1) (L.set i (some (.int (v + -8)))) st M r) : X e d K ix L st M r := X.of_step hk rfl rfl (by simp [xstep, xjmp, xinc, hl]) k
theorem x_inc83 {i : Nat} {v : Int32} (hk : K[ix]? = some (.inr (.inr (83, [i])))) (hl : L[i]? = some (some (.int v))) (k : X e d K (ix + 1) (L.set i (some (.int (v + 7)))) st M r) : X e d K ix L st M r := X.of_step hk rfl rfl (by simp [xstep, xjmp, xinc, hl]) k
variable {F : Nat → Nat → Int32} {I : Nat → Int32 → Int32} {G : Nat → Nat → Int64} {J : Nat → Int32 → Int64} {P : Nat → Nat → Option Nat} {Q : Nat → Int32 → Option Nat} {S : List (Nat × Int32)}
theorem x_gI {ci k0 c : Nat} (hk : K[ix]? = some (.inr (.inr (1, [ci, k0])))) (hS : xis S c (10 + ci) = true) (k : X e d K (ix + 1) L (.int (F c k0) :: st) (F, I, G, J, P, Q, S) r) : X e d K ix L (.ref c :: st) (F, I, G, J, P, Q, S) r := X.of_step hk rfl rfl (by simp [xstep, xpure, xjmp, xinc, xhI, xhO, hS]) k
theorem x_gL {ci k0 c : Nat} (hk : K[ix]? = some (.inr (.inr (2, [ci, k0])))) (hS : xis S c (10 + ci) = true) (k : X e d K (ix + 1) L (.long (G c k0) :: st) (F, I, G, J, P, Q, S) r) : X e d K ix L (.ref c :: st) (F, I, G, J, P, Q, S) r := X.of_step hk rfl rfl (by simp [xstep, xpure, xjmp, xinc, xhI, xhO, hS]) k
theorem x_gP {ci k0 c j : Nat} (hk : K[ix]? = some (.inr (.inr (3, [ci, k0])))) (hS : xis S c (10 + ci) = true) (hP : P c k0 = some j) (k : X e d K (ix + 1) L (.ref j :: st) (F, I, G, J, P, Q, S) r) : X e d K ix L (.ref c :: st) (F, I, G, J, P, Q, S) r := X.of_step hk rfl rfl (by simp [xstep, xpure, xjmp, xinc, xhI, xhO, hS, hP, xvp]) k
theorem x_pI {ci k0 c : Nat} {x : Int32} (hk : K[ix]? = some (.inr (.inr (4, [ci, k0])))) (hS : xis S c (10 + ci) = true) (k : X e d K (ix + 1) L st (xu F c k0 x, I, G, J, P, Q, S) r) : X e d K ix L (.int x :: .ref c :: st) (F, I, G, J, P, Q, S) r := X.of_step hk rfl rfl (by simp [xstep, xpure, xjmp, xinc, xhI, xhO, hS]) k
theorem x_pL {ci k0 c : Nat} {x : Int64} (hk : K[ix]? = some (.inr (.inr (5, [ci, k0])))) (hS : xis S c (10 + ci) = true) (k : X e d K (ix + 1) L st (F, I, xu G c k0 x, J, P, Q, S) r) : X e d K ix L (.long x :: .ref c :: st) (F, I, G, J, P, Q, S) r := X.of_step hk rfl rfl (by simp [xstep, xpure, xjmp, xinc, xhI, xhO, hS]) k
theorem x_pP {ci k0 c x : Nat} (hk : K[ix]? = some (.inr (.inr (6, [ci, k0])))) (hS : xis S c (10 + ci) = true) (hx : x < S.length) (k : X e d K (ix + 1) L st (F, I, G, J, xu P c k0 (some x), Q, S) r) : X e d K ix L (.ref x :: .ref c :: st) (F, I, G, J, P, Q, S) r := X.of_step hk rfl rfl (by simp [xstep, xpure, xjmp, xinc, xhI, xhO, hS, hx]) k
theorem x_pZ {ci k0 c : Nat} {x : Int32} (hk : K[ix]? = some (.inr (.inr (7, [ci, k0])))) (hS : xis S c (10 + ci) = true) (hx : x = 0 ∨ x = 1) (k : X e d K (ix + 1) L st (xu F c k0 x, I, G, J, P, Q, S) r) : X e d K ix L (.int x :: .ref c :: st) (F, I, G, J, P, Q, S) r := X.of_step hk rfl rfl (by simp [xstep, xpure, xjmp, xinc, xhI, xhO, hS, hx]) k
theorem x_iaload {c : Nat} {i n : Int32} (hk : K[ix]? = some (.inl .iaload)) (hS : S[c]? = some (0, n)) (h0 : 0 ≤ i) (h1 : i < n) (hc : c < 2000) (k : X e d K (ix + 1) L (.int (I c i) :: st) (F, I, G, J, P, Q, S) r) : X e d K ix L (.int i :: .ref c :: st) (F, I, G, J, P, Q, S) r := X.of_step hk rfl rfl (by simp [xstep, xpure, xjmp, xinc, xhI, xhO, xin, hS, h0, h1, xSCR, Nat.ne_of_lt hc]) k
theorem x_baload {c : Nat} {i n : Int32} (hk : K[ix]? = some (.inl .baload)) (hS : S[c]? = some (3, n)) (h0 : 0 ≤ i) (h1 : i < n) (hc : c < 2000) (k : X e d K (ix + 1) L (.int (I c i) :: st) (F, I, G, J, P, Q, S) r) : X e d K ix L (.int i :: .ref c :: st) (F, I, G, J, P, Q, S) r := X.of_step hk rfl rfl (by simp [xstep, xpure, xjmp, xinc, xhI, xhO, xin, hS, h0, h1, xSCR, Nat.ne_of_lt hc]) k
theorem x_caload {c : Nat} {i n : Int32} (hk : K[ix]? = some (.inl .caload)) (hS : S[c]? = some (2, n)) (h0 : 0 ≤ i) (h1 : i < n) (hc : c < 2000) (k : X e d K (ix + 1) L (.int (I c i) :: st) (F, I, G, J, P, Q, S) r) : X e d K ix L (.int i :: .ref c :: st) (F, I, G, J, P, Q, S) r := X.of_step hk rfl rfl (by simp [xstep, xpure, xjmp, xinc, xhI, xhO, xin, hS, h0, h1, xSCR, Nat.ne_of_lt hc]) k
theorem x_laload {c : Nat} {i n : Int32} (hk : K[ix]? = some (.inl .laload)) (hS : S[c]? = some (1, n)) (h0 : 0 ≤ i) (h1 : i < n) (hc : c < 2000) (k : X e d K (ix + 1) L (.long (J c i) :: st) (F, I, G, J, P, Q, S) r) : X e d K ix L (.int i :: .ref c :: st) (F, I, G, J, P, Q, S) r := X.of_step hk rfl rfl (by simp [xstep, xpure, xjmp, xinc, xhI, xhO, xin, hS, h0, h1, xSCR, Nat.ne_of_lt hc]) k
theorem x_iastore {c : Nat} {i n x : Int32} (hk : K[ix]? = some (.inl .iastore)) (hS : S[c]? = some (0, n)) (h0 : 0 ≤ i) (h1 : i < n) (hc : c < 2000) (k : X e d K (ix + 1) L st (F, xv I c i x, G, J, P, Q, S) r) : X e d K ix L (.int x :: .int i :: .ref c :: st) (F, I, G, J, P, Q, S) r := X.of_step hk rfl rfl (by simp [xstep, xpure, xjmp, xinc, xhI, xhO, xin, hS, h0, h1, xSCR, Nat.ne_of_lt hc]) k
theorem x_bastore {c : Nat} {i n x : Int32} (hk : K[ix]? = some (.inl .bastore)) (hS : S[c]? = some (3, n)) (h0 : 0 ≤ i) (h1 : i < n) (hc : c < 2000) (hx : x = 0 ∨ x = 1) (k : X e d K (ix + 1) L st (F, xv I c i x, G, J, P, Q, S) r) : X e d K ix L (.int x :: .int i :: .ref c :: st) (F, I, G, J, P, Q, S) r := X.of_step hk rfl rfl (by simp [xstep, xpure, xjmp, xinc, xhI, xhO, xin, hS, h0, h1, xSCR, Nat.ne_of_lt hc, hx]) k
theorem x_castore {c : Nat} {i n x : Int32} (hk : K[ix]? = some (.inl .castore)) (hS : S[c]? = some (2, n)) (h0 : 0 ≤ i) (h1 : i < n) (hc : c < 2000) (hx : 0 ≤ x) (hx2 : x < 65536) (k : X e d K (ix + 1) L st (F, xv I c i x, G, J, P, Q, S) r) : X e d K ix L (.int x :: .int i :: .ref c :: st) (F, I, G, J, P, Q, S) r := X.of_step hk rfl rfl (by simp [xstep, xpure, xjmp, xinc, xhI, xhO, xin, hS, h0, h1, xSCR, Nat.ne_of_lt hc, hx, hx2]) k
theorem x_lastore {c : Nat} {i n : Int32} {x : Int64} (hk : K[ix]? = some (.inl .lastore)) (hS : S[c]? = some (1, n)) (h0 : 0 ≤ i) (h1 : i < n) (hc : c < 2000) (k : X e d K (ix + 1) L st (F, I, G, xv J c i x, P, Q, S) r) : X e d K ix L (.long x :: .int i :: .ref c :: st) (F, I, G, J, P, Q, S) r := X.of_step hk rfl rfl (by simp [xstep, xpure, xjmp, xinc, xhI, xhO, xin, hS, h0, h1, xSCR, Nat.ne_of_lt hc]) k
theorem x_aaload4 {c j : Nat} {i n : Int32} (hk : K[ix]? = some (.inl .aaload)) (hS : S[c]? = some (4, n)) (h0 : 0 ≤ i) (h1 : i < n) (hc : c < 2000) (hQ : Q c i = some j) (k : X e d K (ix + 1) L (.ref j :: st) (F, I, G, J, P, Q, S) r) : X e d K ix L (.int i :: .ref c :: st) (F, I, G, J, P, Q, S) r := X.of_step hk rfl rfl (by simp [xstep, xpure, xjmp, xinc, xhI, xhO, xin, hS, h0, h1, xSCR, Nat.ne_of_lt hc, hQ, xvp]) k
theorem x_aaload5 {c j : Nat} {i n : Int32} (hk : K[ix]? = some (.inl .aaload)) (hS : S[c]? = some (5, n)) (h0 : 0 ≤ i) (h1 : i < n) (hc : c < 2000) (hQ : Q c i = some j) (k : X e d K (ix + 1) L (.ref j :: st) (F, I, G, J, P, Q, S) r) : X e d K ix L (.int i :: .ref c :: st) (F, I, G, J, P, Q, S) r := X.of_step hk rfl rfl (by simp [xstep, xpure, xjmp, xinc, xhI, xhO, xin, hS, h0, h1, xSCR, Nat.ne_of_lt hc, hQ, xvp]) k
theorem x_aaload6 {c j : Nat} {i n : Int32} (hk : K[ix]? = some (.inl .aaload)) (hS : S[c]? = some (6, n)) (h0 : 0 ≤ i) (h1 : i < n) (hc : c < 2000) (hQ : Q c i = some j) (k : X e d K (ix + 1) L (.ref j :: st) (F, I, G, J, P, Q, S) r) : X e d K ix L (.int i :: .ref c :: st) (F, I, G, J, P, Q, S) r := X.of_step hk rfl rfl (by simp [xstep, xpure, xjmp, xinc, xhI, xhO, xin, hS, h0, h1, xSCR, Nat.ne_of_lt hc, hQ, xvp]) k
theorem x_alen {c k0 : Nat} {n : Int32} (hk : K[ix]? = some (.inl .arraylength)) (hS : S[c]? = some (k0, n)) (h0 : k0 < 10) (hc : c < 2000) (k : X e d K (ix + 1) L (.int n :: st) (F, I, G, J, P, Q, S) r) : X e d K ix L (.ref c :: st) (F, I, G, J, P, Q, S) r := X.of_step hk rfl rfl (by simp [xstep, xpure, xjmp, xinc, xhI, xhO, hS, h0, xSCR, Nat.ne_of_lt hc]) k
theorem x_max {x y : Int32} (hk : K[ix]? = some (.inr (.inr (60, [])))) (hw : Nat.ble (xwt (.int y :: .int x :: st)) 9 = true) (k : X e d K (ix + 1) L (.int (if x < y then y else x) :: st) (F, I, G, J, P, Q, S) r) : X e d K ix L (.int y :: .int x :: st) (F, I, G, J, P, Q, S) r := X.of_step hk rfl rfl (by simp [xstep, xpure, xjmp, xinc, xhI, xhO, show xwt (.int y :: .int x :: st) ≤ 9 from Nat.le_of_ble_eq_true hw]) k
theorem x_min {x y : Int32} (hk : K[ix]? = some (.inr (.inr (61, [])))) (hw : Nat.ble (xwt (.int y :: .int x :: st)) 9 = true) (k : X e d K (ix + 1) L (.int (if y < x then y else x) :: st) (F, I, G, J, P, Q, S) r) : X e d K ix L (.int y :: .int x :: st) (F, I, G, J, P, Q, S) r := X.of_step hk rfl rfl (by simp [xstep, xpure, xjmp, xinc, xhI, xhO, show xwt (.int y :: .int x :: st) ≤ 9 from Nat.le_of_ble_eq_true hw]) k
theorem x_abs {x : Int32} (hk : K[ix]? = some (.inr (.inr (62, [])))) (hw : Nat.ble (xwt (.int x :: st)) 9 = true) (k : X e d K (ix + 1) L (.int (if 0 ≤ x then x else 0 - x) :: st) (F, I, G, J, P, Q, S) r) : X e d K ix L (.int x :: st) (F, I, G, J, P, Q, S) r := X.of_step hk rfl rfl (by simp [xstep, xpure, xjmp, xinc, xhI, xhO, show xwt (.int x :: st) ≤ 9 from Nat.le_of_ble_eq_true hw]) k
def Z (ai : xA) (e : Bool × Int32 × (Int32 → Int32)) (d : Nat) (K : List xA) (ix : Nat) (L : xL) (st : List Value) (M : xM) (r : Option Value → xM → Prop) : Prop := K[ix]? = some ai → X e d K ix L st M r
theorem X.f {ai : xA} (hk : K[ix]? = some ai) (h : Z ai e d K ix L st M r) : X e d K ix L st M r := h hk
theorem z_push {v : Value} (k : X e d K (ix + 1) L (v :: st) M r) : Z (.inr (.inl v)) e d K ix L st M r := fun hk => x_push hk k
theorem z_iload {i : Nat} {v : Int32} (hl : L[i]? = some (some (.int v))) (k : X e d K (ix + 1) L (.int v :: st) M r) : Z (.inl (.iload i)) e d K ix L st M r := fun hk => x_iload hk hl k
theorem z_lload {i : Nat} {v : Int64} (hl : L[i]? = some (some (.long v))) (k : X e d K (ix + 1) L (.long v :: st) M r) : Z (.inl (.lload i)) e d K ix L st M r := fun hk => x_lload hk hl k
theorem z_aload {i : Nat} {v : Nat} (hl : L[i]? = some (some (.ref v))) (k : X e d K (ix + 1) L (.ref v :: st) M r) : Z (.inl (.aload i)) e d K ix L st M r := fun hk => x_aload hk hl k
theorem z_istore {i : Nat} {v : Int32} (hi : Nat.ble (i + 1) L.length = true) (k : X e d K (ix + 1) (xset L i (.int v)) st M r) : Z (.inl (.istore i)) e d K ix L (.int v :: st) M r := fun hk => x_istore hk hi k
theorem z_astore {i : Nat} {v : Nat} (hi : Nat.ble (i + 1) L.length = true) (k : X e d K (ix + 1) (xset L i (.ref v)) st M r) : Z (.inl (.astore i)) e d K ix L (.ref v :: st) M r := fun hk => x_astore hk hi k
theorem z_lstore {i : Nat} {v : Int64} (hi : Nat.ble (i + 2) L.length = true) (k : X e d K (ix + 1) (xset2 L i (.long v)) st M r) : Z (.inl (.lstore i)) e d K ix L (.long v :: st) M r := fun hk => x_lstore hk hi k
theorem z_iadd {x y : Int32} (k : X e d K (ix + 1) L (.int (x + y) :: st) M r) : Z (.inl .iadd) e d K ix L (.int y :: .int x :: st) M r := fun hk => x_iadd hk k
theorem z_isub {x y : Int32} (k : X e d K (ix + 1) L (.int (x - y) :: st) M r) : Z (.inl .isub) e d K ix L (.int y :: .int x :: st) M r := fun hk => x_isub hk k
theorem z_imul {x y : Int32} (k : X e d K (ix + 1) L (.int (x * y) :: st) M r) : Z (.inl .imul) e d K ix L (.int y :: .int x :: st) M r := fun hk => x_imul hk k
theorem z_iand {x y : Int32} (k : X e d K (ix + 1) L (.int (x &&& y) :: st) M r) : Z (.inl .iand) e d K ix L (.int y :: .int x :: st) M r := fun hk => x_iand hk k
theorem z_ior {x y : Int32} (k : X e d K (ix + 1) L (.int (x ||| y) :: st) M r) : Z (.inl .ior) e d K ix L (.int y :: .int x :: st) M r := fun hk => x_ior hk k
theorem z_ixor {x y : Int32} (k : X e d K (ix + 1) L (.int (x ^^^ y) :: st) M r) : Z (.inl .ixor) e d K ix L (.int y :: .int x :: st) M r := fun hk => x_ixor hk k
theorem z_ishl {x y : Int32} (k : X e d K (ix + 1) L (.int (x <<< (y &&& 31)) :: st) M r) : Z (.inl .ishl) e d K ix L (.int y :: .int x :: st) M r := fun hk => x_ishl hk k
theorem z_ishr {x y : Int32} (k : X e d K (ix + 1) L (.int (x >>> (y &&& 31)) :: st) M r) : Z (.inl .ishr) e d K ix L (.int y :: .int x :: st) M r := fun hk => x_ishr hk k
theorem z_iushr {x y : Int32} (k : X e d K (ix + 1) L (.int ((x.toUInt32 >>> (y.toUInt32 &&& Int32.toUInt32 31)).toInt32) :: st) M r) : Z (.inl .iushr) e d K ix L (.int y :: .int x :: st) M r := fun hk => x_iushr hk k
theorem z_idiv {x y : Int32} (hy : ¬ y = 0) (k : X e d K (ix + 1) L (.int (x / y) :: st) M r) : Z (.inl .idiv) e d K ix L (.int y :: .int x :: st) M r := fun hk => x_idiv hk hy k
theorem z_irem {x y : Int32} (hy : ¬ y = 0) (k : X e d K (ix + 1) L (.int (x - x / y * y) :: st) M r) : Z (.inl .irem) e d K ix L (.int y :: .int x :: st) M r := fun hk => x_irem hk hy k
theorem z_ineg {x : Int32} (k : X e d K (ix + 1) L (.int (-x) :: st) M r) : Z (.inl .ineg) e d K ix L (.int x :: st) M r := fun hk => x_ineg hk k
theorem z_i2l {x : Int32} (k : X e d K (ix + 1) L (.long x.toInt64 :: st) M r) : Z (.inl .i2l) e d K ix L (.int x :: st) M r := fun hk => x_i2l hk k
theorem z_i2c {x : Int32} (k : X e d K (ix + 1) L (.int (x.toUInt32 % 65536).toInt32 :: st) M r) : Z (.inl .i2c) e d K ix L (.int x :: st) M r := fun hk => x_i2c hk k
theorem z_l2i {x : Int64} (k : X e d K (ix + 1) L (.int x.toInt32 :: st) M r) : Z (.inl .l2i) e d K ix L (.long x :: st) M r := fun hk => x_l2i hk k
theorem z_ladd {x y : Int64} (k : X e d K (ix + 1) L (.long (x + y) :: st) M r) : Z (.inl .ladd) e d K ix L (.long y :: .long x :: st) M r := fun hk => x_ladd hk k
theorem z_lsub {x y : Int64} (k : X e d K (ix + 1) L (.long (x - y) :: st) M r) : Z (.inl .lsub) e d K ix L (.long y :: .long x :: st) M r := fun hk => x_lsub hk k
theorem z_lmul {x y : Int64} (k : X e d K (ix + 1) L (.long (x * y) :: st) M r) : Z (.inl .lmul) e d K ix L (.long y :: .long x :: st) M r := fun hk => x_lmul hk k
theorem z_land {x y : Int64} (k : X e d K (ix + 1) L (.long (x &&& y) :: st) M r) : Z (.inl .land) e d K ix L (.long y :: .long x :: st) M r := fun hk => x_land hk k
theorem z_lor {x y : Int64} (k : X e d K (ix + 1) L (.long (x ||| y) :: st) M r) : Z (.inl .lor) e d K ix L (.long y :: .long x :: st) M r := fun hk => x_lor hk k
theorem z_ldiv {x y : Int64} (hy : ¬ y = 0) (k : X e d K (ix + 1) L (.long (x / y) :: st) M r) : Z (.inl .ldiv) e d K ix L (.long y :: .long x :: st) M r := fun hk => x_ldiv hk hy k
theorem z_lrem {x y : Int64} (hy : ¬ y = 0) (k : X e d K (ix + 1) L (.long (x - x / y * y) :: st) M r) : Z (.inl .lrem) e d K ix L (.long y :: .long x :: st) M r := fun hk => x_lrem hk hy k
theorem z_lcmp {x y : Int64} (k : X e d K (ix + 1) L (.int (lg_cmp x y) :: st) M r) : Z (.inl .lcmp) e d K ix L (.long y :: .long x :: st) M r := fun hk => x_lcmp hk k
theorem z_lshl {x : Int64} {y : Int32} (k : X e d K (ix + 1) L (.long (x <<< (y.toInt64 &&& 63)) :: st) M r) : Z (.inl .lshl) e d K ix L (.int y :: .long x :: st) M r := fun hk => x_lshl hk k
theorem z_lshr {x : Int64} {y : Int32} (k : X e d K (ix + 1) L (.long (x >>> (y.toInt64 &&& 63)) :: st) M r) : Z (.inl .lshr) e d K ix L (.int y :: .long x :: st) M r := fun hk => x_lshr hk k
theorem z_lushr {x : Int64} {y : Int32} (k : X e d K (ix + 1) L (.long ((x.toUInt64 >>> (y.toInt64.toUInt64 &&& Int64.toUInt64 63)).toInt64) :: st) M r) : Z (.inl .lushr) e d K ix L (.int y :: .long x :: st) M r := fun hk => x_lushr hk k
theorem z_dup {x : Int32} (k : X e d K (ix + 1) L (.int x :: .int x :: st) M r) : Z (.inl .dup) e d K ix L (.int x :: st) M r := fun hk => x_dup hk k
theorem z_dupr {x : Nat} (k : X e d K (ix + 1) L (.ref x :: .ref x :: st) M r) : Z (.inl .dup) e d K ix L (.ref x :: st) M r := fun hk => x_dupr hk k
theorem z_pop {x : Int32} (k : X e d K (ix + 1) L st M r) : Z (.inl .pop) e d K ix L (.int x :: st) M r := fun hk => x_pop hk k
theorem z_dup2 {x : Int32} {y : Nat} (k : X e d K (ix + 1) L (.int x :: .ref y :: .int x :: .ref y :: st) M r) : Z (.inl .dup2) e d K ix L (.int x :: .ref y :: st) M r := fun hk => x_dup2 hk k
theorem z_goto {t : Nat} (k : X e d K t L st M r) : Z (.inr (.inr (10, [t]))) e d K ix L st M r := fun hk => x_goto hk k
theorem z_ifeq {x : Int32} {t : Nat} (kt : x = 0 → X e d K t L st M r) (kf : ¬ (x = 0) → X e d K (ix + 1) L st M r) : Z (.inr (.inr (11, [t]))) e d K ix L (.int x :: st) M r := fun hk => x_ifeq hk kt kf
theorem z_ifne {x : Int32} {t : Nat} (kt : ¬ x = 0 → X e d K t L st M r) (kf : ¬ (¬ x = 0) → X e d K (ix + 1) L st M r) : Z (.inr (.inr (12, [t]))) e d K ix L (.int x :: st) M r := fun hk => x_ifne hk kt kf
theorem z_iflt {x : Int32} {t : Nat} (kt : x < 0 → X e d K t L st M r) (kf : ¬ (x < 0) → X e d K (ix + 1) L st M r) : Z (.inr (.inr (13, [t]))) e d K ix L (.int x :: st) M r := fun hk => x_iflt hk kt kf
theorem z_ifge {x : Int32} {t : Nat} (kt : 0 ≤ x → X e d K t L st M r) (kf : ¬ (0 ≤ x) → X e d K (ix + 1) L st M r) : Z (.inr (.inr (14, [t]))) e d K ix L (.int x :: st) M r := fun hk => x_ifge hk kt kf
theorem z_ifgt {x : Int32} {t : Nat} (kt : 0 < x → X e d K t L st M r) (kf : ¬ (0 < x) → X e d K (ix + 1) L st M r) : Z (.inr (.inr (15, [t]))) e d K ix L (.int x :: st) M r := fun hk => x_ifgt hk kt kf
theorem z_ifle {x : Int32} {t : Nat} (kt : x ≤ 0 → X e d K t L st M r) (kf : ¬ (x ≤ 0) → X e d K (ix + 1) L st M r) : Z (.inr (.inr (16, [t]))) e d K ix L (.int x :: st) M r := fun hk => x_ifle hk kt kf
theorem z_ieq {x y : Int32} {t : Nat} (kt : x = y → X e d K t L st M r) (kf : ¬ (x = y) → X e d K (ix + 1) L st M r) : Z (.inr (.inr (21, [t]))) e d K ix L (.int y :: .int x :: st) M r := fun hk => x_ieq hk kt kf
theorem z_ine {x y : Int32} {t : Nat} (kt : ¬ x = y → X e d K t L st M r) (kf : ¬ (¬ x = y) → X e d K (ix + 1) L st M r) : Z (.inr (.inr (22, [t]))) e d K ix L (.int y :: .int x :: st) M r := fun hk => x_ine hk kt kf
theorem z_ilt {x y : Int32} {t : Nat} (kt : x < y → X e d K t L st M r) (kf : ¬ (x < y) → X e d K (ix + 1) L st M r) : Z (.inr (.inr (23, [t]))) e d K ix L (.int y :: .int x :: st) M r := fun hk => x_ilt hk kt kf
theorem z_ige {x y : Int32} {t : Nat} (kt : y ≤ x → X e d K t L st M r) (kf : ¬ (y ≤ x) → X e d K (ix + 1) L st M r) : Z (.inr (.inr (24, [t]))) e d K ix L (.int y :: .int x :: st) M r := fun hk => x_ige hk kt kf
theorem z_igt {x y : Int32} {t : Nat} (kt : y < x → X e d K t L st M r) (kf : ¬ (y < x) → X e d K (ix + 1) L st M r) : Z (.inr (.inr (25, [t]))) e d K ix L (.int y :: .int x :: st) M r := fun hk => x_igt hk kt kf
theorem z_ile {x y : Int32} {t : Nat} (kt : x ≤ y → X e d K t L st M r) (kf : ¬ (x ≤ y) → X e d K (ix + 1) L st M r) : Z (.inr (.inr (26, [t]))) e d K ix L (.int y :: .int x :: st) M r := fun hk => x_ile hk kt kf
theorem z_sw {lo dd : Nat} {ts : List Nat} {x : Int32} (k : X e d K (xswi lo dd ts x) L st M r) : Z (.inr (.inr (27, lo :: dd :: ts))) e d K ix L (.int x :: st) M r := fun hk => x_sw hk k
theorem z_inc80 {i : Nat} {v : Int32} (hl : L[i]? = some (some (.int v))) (k : X e d K (ix + 1) (L.set i (some (.int (v + 1)))) st M r) : Z (.inr (.inr (80, [i]))) e d K ix L st M r := fun hk => x_inc80 hk hl k
theorem z_inc81 {i : Nat} {v : Int32} (hl : L[i]? = some (some (.int v))) (k : X e d K (ix + 1) (L.set i (some (.int (v + -1)))) st M r) : Z (.inr (.inr (81, [i]))) e d K ix L st M r := fun hk => x_inc81 hk hl k
theorem z_inc82 {i : Nat} {v : Int32} (hl : L[i]? = some (some (.int v))) (k : X e d K (ix + 1) (L.set i (some (.int (v + -8)))) st M r) : Z (.inr (.inr (82, [i]))) e d K ix L st M r := fun hk => x_inc82 hk hl k
theorem z_inc83 {i : Nat} {v : Int32} (hl : L[i]? = some (some (.int v))) (k : X e d K (ix + 1) (L.set i (some (.int (v + 7)))) st M r) : Z (.inr (.inr (83, [i]))) e d K ix L st M r := fun hk => x_inc83 hk hl k
theorem z_gI {ci k0 c : Nat} (hS : xis S c (10 + ci) = true) (k : X e d K (ix + 1) L (.int (F c k0) :: st) (F, I, G, J, P, Q, S) r) : Z (.inr (.inr (1, [ci, k0]))) e d K ix L (.ref c :: st) (F, I, G, J, P, Q, S) r := fun hk => x_gI hk hS k
theorem z_gL {ci k0 c : Nat} (hS : xis S c (10 + ci) = true) (k : X e d K (ix + 1) L (.long (G c k0) :: st) (F, I, G, J, P, Q, S) r) : Z (.inr (.inr (2, [ci, k0]))) e d K ix L (.ref c :: st) (F, I, G, J, P, Q, S) r := fun hk => x_gL hk hS k
theorem z_gP {ci k0 c j : Nat} (hS : xis S c (10 + ci) = true) (hP : P c k0 = some j) (k : X e d K (ix + 1) L (.ref j :: st) (F, I, G, J, P, Q, S) r) : Z (.inr (.inr (3, [ci, k0]))) e d K ix L (.ref c :: st) (F, I, G, J, P, Q, S) r := fun hk => x_gP hk hS hP k
theorem z_pI {ci k0 c : Nat} {x : Int32} (hS : xis S c (10 + ci) = true) (k : X e d K (ix + 1) L st (xu F c k0 x, I, G, J, P, Q, S) r) : Z (.inr (.inr (4, [ci, k0]))) e d K ix L (.int x :: .ref c :: st) (F, I, G, J, P, Q, S) r := fun hk => x_pI hk hS k
theorem z_pL {ci k0 c : Nat} {x : Int64} (hS : xis S c (10 + ci) = true) (k : X e d K (ix + 1) L st (F, I, xu G c k0 x, J, P, Q, S) r) : Z (.inr (.inr (5, [ci, k0]))) e d K ix L (.long x :: .ref c :: st) (F, I, G, J, P, Q, S) r := fun hk => x_pL hk hS k
theorem z_pP {ci k0 c x : Nat} (hS : xis S c (10 + ci) = true) (hx : x < S.length) (k : X e d K (ix + 1) L st (F, I, G, J, xu P c k0 (some x), Q, S) r) : Z (.inr (.inr (6, [ci, k0]))) e d K ix L (.ref x :: .ref c :: st) (F, I, G, J, P, Q, S) r := fun hk => x_pP hk hS hx k
theorem z_pZ {ci k0 c : Nat} {x : Int32} (hS : xis S c (10 + ci) = true) (hx : x = 0 ∨ x = 1) (k : X e d K (ix + 1) L st (xu F c k0 x, I, G, J, P, Q, S) r) : Z (.inr (.inr (7, [ci, k0]))) e d K ix L (.int x :: .ref c :: st) (F, I, G, J, P, Q, S) r := fun hk => x_pZ hk hS hx k
theorem z_iaload {c : Nat} {i n : Int32} (hS : S[c]? = some (0, n)) (h0 : 0 ≤ i) (h1 : i < n) (hc : c < 2000) (k : X e d K (ix + 1) L (.int (I c i) :: st) (F, I, G, J, P, Q, S) r) : Z (.inl .iaload) e d K ix L (.int i :: .ref c :: st) (F, I, G, J, P, Q, S) r := fun hk => x_iaload hk hS h0 h1 hc k
theorem z_baload {c : Nat} {i n : Int32} (hS : S[c]? = some (3, n)) (h0 : 0 ≤ i) (h1 : i < n) (hc : c < 2000) (k : X e d K (ix + 1) L (.int (I c i) :: st) (F, I, G, J, P, Q, S) r) : Z (.inl .baload) e d K ix L (.int i :: .ref c :: st) (F, I, G, J, P, Q, S) r := fun hk => x_baload hk hS h0 h1 hc k
theorem z_caload {c : Nat} {i n : Int32} (hS : S[c]? = some (2, n)) (h0 : 0 ≤ i) (h1 : i < n) (hc : c < 2000) (k : X e d K (ix + 1) L (.int (I c i) :: st) (F, I, G, J, P, Q, S) r) : Z (.inl .caload) e d K ix L (.int i :: .ref c :: st) (F, I, G, J, P, Q, S) r := fun hk => x_caload hk hS h0 h1 hc k
theorem z_laload {c : Nat} {i n : Int32} (hS : S[c]? = some (1, n)) (h0 : 0 ≤ i) (h1 : i < n) (hc : c < 2000) (k : X e d K (ix + 1) L (.long (J c i) :: st) (F, I, G, J, P, Q, S) r) : Z (.inl .laload) e d K ix L (.int i :: .ref c :: st) (F, I, G, J, P, Q, S) r := fun hk => x_laload hk hS h0 h1 hc k
theorem z_iastore {c : Nat} {i n x : Int32} (hS : S[c]? = some (0, n)) (h0 : 0 ≤ i) (h1 : i < n) (hc : c < 2000) (k : X e d K (ix + 1) L st (F, xv I c i x, G, J, P, Q, S) r) : Z (.inl .iastore) e d K ix L (.int x :: .int i :: .ref c :: st) (F, I, G, J, P, Q, S) r := fun hk => x_iastore hk hS h0 h1 hc k
theorem z_bastore {c : Nat} {i n x : Int32} (hS : S[c]? = some (3, n)) (h0 : 0 ≤ i) (h1 : i < n) (hc : c < 2000) (hx : x = 0 ∨ x = 1) (k : X e d K (ix + 1) L st (F, xv I c i x, G, J, P, Q, S) r) : Z (.inl .bastore) e d K ix L (.int x :: .int i :: .ref c :: st) (F, I, G, J, P, Q, S) r := fun hk => x_bastore hk hS h0 h1 hc hx k
theorem z_castore {c : Nat} {i n x : Int32} (hS : S[c]? = some (2, n)) (h0 : 0 ≤ i) (h1 : i < n) (hc : c < 2000) (hx : 0 ≤ x) (hx2 : x < 65536) (k : X e d K (ix + 1) L st (F, xv I c i x, G, J, P, Q, S) r) : Z (.inl .castore) e d K ix L (.int x :: .int i :: .ref c :: st) (F, I, G, J, P, Q, S) r := fun hk => x_castore hk hS h0 h1 hc hx hx2 k
theorem z_lastore {c : Nat} {i n : Int32} {x : Int64} (hS : S[c]? = some (1, n)) (h0 : 0 ≤ i) (h1 : i < n) (hc : c < 2000) (k : X e d K (ix + 1) L st (F, I, G, xv J c i x, P, Q, S) r) : Z (.inl .lastore) e d K ix L (.long x :: .int i :: .ref c :: st) (F, I, G, J, P, Q, S) r := fun hk => x_lastore hk hS h0 h1 hc k
theorem z_aaload4 {c j : Nat} {i n : Int32} (hS : S[c]? = some (4, n)) (h0 : 0 ≤ i) (h1 : i < n) (hc : c < 2000) (hQ : Q c i = some j) (k : X e d K (ix + 1) L (.ref j :: st) (F, I, G, J, P, Q, S) r) : Z (.inl .aaload) e d K ix L (.int i :: .ref c :: st) (F, I, G, J, P, Q, S) r := fun hk => x_aaload4 hk hS h0 h1 hc hQ k
theorem z_aaload5 {c j : Nat} {i n : Int32} (hS : S[c]? = some (5, n)) (h0 : 0 ≤ i) (h1 : i < n) (hc : c < 2000) (hQ : Q c i = some j) (k : X e d K (ix + 1) L (.ref j :: st) (F, I, G, J, P, Q, S) r) : Z (.inl .aaload) e d K ix L (.int i :: .ref c :: st) (F, I, G, J, P, Q, S) r := fun hk => x_aaload5 hk hS h0 h1 hc hQ k
theorem z_aaload6 {c j : Nat} {i n : Int32} (hS : S[c]? = some (6, n)) (h0 : 0 ≤ i) (h1 : i < n) (hc : c < 2000) (hQ : Q c i = some j) (k : X e d K (ix + 1) L (.ref j :: st) (F, I, G, J, P, Q, S) r) : Z (.inl .aaload) e d K ix L (.int i :: .ref c :: st) (F, I, G, J, P, Q, S) r := fun hk => x_aaload6 hk hS h0 h1 hc hQ k
theorem z_alen {c k0 : Nat} {n : Int32} (hS : S[c]? = some (k0, n)) (h0 : k0 < 10) (hc : c < 2000) (k : X e d K (ix + 1) L (.int n :: st) (F, I, G, J, P, Q, S) r) : Z (.inl .arraylength) e d K ix L (.ref c :: st) (F, I, G, J, P, Q, S) r := fun hk => x_alen hk hS h0 hc k
theorem z_max {x y : Int32} (hw : Nat.ble (xwt (.int y :: .int x :: st)) 9 = true) (k : X e d K (ix + 1) L (.int (if x < y then y else x) :: st) (F, I, G, J, P, Q, S) r) : Z (.inr (.inr (60, []))) e d K ix L (.int y :: .int x :: st) (F, I, G, J, P, Q, S) r := fun hk => x_max hk hw k
theorem z_min {x y : Int32} (hw : Nat.ble (xwt (.int y :: .int x :: st)) 9 = true) (k : X e d K (ix + 1) L (.int (if y < x then y else x) :: st) (F, I, G, J, P, Q, S) r) : Z (.inr (.inr (61, []))) e d K ix L (.int y :: .int x :: st) (F, I, G, J, P, Q, S) r := fun hk => x_min hk hw k
theorem z_abs {x : Int32} (hw : Nat.ble (xwt (.int x :: st)) 9 = true) (k : X e d K (ix + 1) L (.int (if 0 ≤ x then x else 0 - x) :: st) (F, I, G, J, P, Q, S) r) : Z (.inr (.inr (62, []))) e d K ix L (.int x :: st) (F, I, G, J, P, Q, S) r := fun hk => x_abs hk hw k
end XR
