theorem z_cs {e : Bool × Int32 × (Int32 → Int32)} {d : Nat} {K : List xA} {ix : Nat} {L : xL} {st : List Value} {M : xM} {r : Option Value × xM} {k dc : Nat} {q : xMeth} {args rest : List Value} {v : Option Value} {M' : xM} (hc : Y e dc q args M (v, M')) (hq : xMT[k]? = some q) (hs : st = args.reverse ++ rest) (hn : args.length = q.1) (hw : Nat.ble (xwt rest) 8 = true) (hw2 : Nat.ble (xwt args) q.2.1 = true) (hd : Nat.ble (dc + 1) d = true) (kk : X e d K (ix + 1) L (v.toList ++ rest) M' r) : Z (.inr (.inr (40, [k]))) e d K ix L st M r :=
  fun hk => x_call hk (by cases st <;> rfl) rfl hq hs hn (Nat.le_of_ble_eq_true hw) (Nat.le_of_ble_eq_true hw2) (by rfl) hc (Nat.le_of_ble_eq_true hd) kk
theorem z_cv {e : Bool × Int32 × (Int32 → Int32)} {d : Nat} {K : List xA} {ix : Nat} {L : xL} {st : List Value} {M : xM} {r : Option Value × xM} {k ci dc : Nat} {q : xMeth} {args rest : List Value} {v : Option Value} {M' : xM} (hc : Y e dc q args M (v, M')) (hq : xMT[k]? = some q) (hs : st = args.reverse ++ rest) (hn : args.length = q.1) (hw : Nat.ble (xwt rest) 8 = true) (hw2 : Nat.ble (xwt args) q.2.1 = true) (hv : xrecv (some ci) args M = true) (hd : Nat.ble (dc + 1) d = true) (kk : X e d K (ix + 1) L (v.toList ++ rest) M' r) : Z (.inr (.inr (41, [k, ci]))) e d K ix L st M r :=
  fun hk => x_call hk (by cases st <;> rfl) rfl hq hs hn (Nat.le_of_ble_eq_true hw) (Nat.le_of_ble_eq_true hw2) hv hc (Nat.le_of_ble_eq_true hd) kk
theorem z_gotoF {e : Bool × Int32 × (Int32 → Int32)} {d : Nat} {K : List xA} {ix : Nat} {L : xL} {st : List Value} {M : xM} {r : Option Value × xM} {t : Nat} (hf : Nat.blt ix t = true) (k : X e d K t L st M r) : Z (.inr (.inr (10, [t]))) e d K ix L st M r := z_goto k
def bc (x : Int32) : Nat → Int32
  | 0 => 0
  | k + 1 => bc x k + ((x >>> (nI k &&& 31)) &&& 1)
theorem x_for {e : Bool × Int32 × (Int32 → Int32)} {d : Nat} {K : List xA} {h : Nat} {r : Option Value × xM} (N : Nat) (L : Nat → xL) (M : Nat → xM) (step : ∀ i, i < N → X e d K h (L (i + 1)) [] (M (i + 1)) r → X e d K h (L i) [] (M i) r) (exit : X e d K h (L N) [] (M N) r) : X e d K h (L 0) [] (M 0) r := by
  have : ∀ m i, i + m = N → X e d K h (L i) [] (M i) r := by
    intro m
    induction m with
    | zero => intro i hi; have : i = N := by omega
              subst this; exact exit
    | succ m ih => intro i hi; exact step i (by omega) (ih (i + 1) (by omega))
  exact this N 0 (by omega)
theorem t_bits {e : Bool × Int32 × (Int32 → Int32)} {x : Int32} {M : xM} : Y e 1 M_X12_bits [.int x] M (some (.int (bc x 30)), M) := by
  unfold Y
  iterate 4 (first | refine X.f rfl (z_iload rfl ?_) | refine X.f rfl (z_aload rfl ?_) | refine X.f rfl (z_push ?_) | refine X.f rfl (z_istore rfl ?_) | refine X.f rfl (z_gP rfl rfl ?_) | refine X.f rfl (z_gI rfl ?_) | refine X.f rfl (z_gotoF rfl ?_) | refine X.f rfl (z_iadd ?_) | refine X.f rfl (z_isub ?_) | refine X.f rfl (z_imul ?_) | refine X.f rfl (z_iand ?_) | refine X.f rfl (z_ior ?_) | refine X.f rfl (z_ishl ?_) | refine X.f rfl (z_ishr ?_) | refine X.f rfl (z_pI rfl ?_) | refine X.f rfl (z_inc80 rfl ?_) | refine X.f rfl (z_dup ?_) | refine X.f rfl (z_dupr ?_) | refine X.f rfl (z_dup2 ?_) | refine X.f rfl (z_pop ?_) | refine X.f rfl (z_ixor ?_))
  refine x_for 30 (fun i => [some (.int x), some (.int (bc x i)), some (.int (nI i))]) (fun _ => M) (fun i hi k => ?_) ?_
  · repeat (first | refine X.f rfl (z_iload rfl ?_) | refine X.f rfl (z_aload rfl ?_) | refine X.f rfl (z_push ?_) | refine X.f rfl (z_istore rfl ?_) | refine X.f rfl (z_gP rfl rfl ?_) | refine X.f rfl (z_gI rfl ?_) | refine X.f rfl (z_gotoF rfl ?_) | refine X.f rfl (z_iadd ?_) | refine X.f rfl (z_isub ?_) | refine X.f rfl (z_imul ?_) | refine X.f rfl (z_iand ?_) | refine X.f rfl (z_ior ?_) | refine X.f rfl (z_ishl ?_) | refine X.f rfl (z_ishr ?_) | refine X.f rfl (z_pI rfl ?_) | refine X.f rfl (z_inc80 rfl ?_) | refine X.f rfl (z_dup ?_) | refine X.f rfl (z_dupr ?_) | refine X.f rfl (z_dup2 ?_) | refine X.f rfl (z_pop ?_) | refine X.f rfl (z_ixor ?_))
    refine X.f rfl (z_ige (fun c => ?_) (fun c => ?_))
    · exact absurd c (by have := nI_leI (a := 30) (b := i) (by omega) (by omega); grind [nI])
    · repeat (first | refine X.f rfl (z_iload rfl ?_) | refine X.f rfl (z_aload rfl ?_) | refine X.f rfl (z_push ?_) | refine X.f rfl (z_istore rfl ?_) | refine X.f rfl (z_gP rfl rfl ?_) | refine X.f rfl (z_gI rfl ?_) | refine X.f rfl (z_gotoF rfl ?_) | refine X.f rfl (z_iadd ?_) | refine X.f rfl (z_isub ?_) | refine X.f rfl (z_imul ?_) | refine X.f rfl (z_iand ?_) | refine X.f rfl (z_ior ?_) | refine X.f rfl (z_ishl ?_) | refine X.f rfl (z_ishr ?_) | refine X.f rfl (z_pI rfl ?_) | refine X.f rfl (z_inc80 rfl ?_) | refine X.f rfl (z_dup ?_) | refine X.f rfl (z_dupr ?_) | refine X.f rfl (z_dup2 ?_) | refine X.f rfl (z_pop ?_) | refine X.f rfl (z_ixor ?_))
      refine X.f rfl (z_goto ?_)
      rw [← nI_1] at k
      exact k
  · repeat (first | refine X.f rfl (z_iload rfl ?_) | refine X.f rfl (z_aload rfl ?_) | refine X.f rfl (z_push ?_) | refine X.f rfl (z_istore rfl ?_) | refine X.f rfl (z_gP rfl rfl ?_) | refine X.f rfl (z_gI rfl ?_) | refine X.f rfl (z_gotoF rfl ?_) | refine X.f rfl (z_iadd ?_) | refine X.f rfl (z_isub ?_) | refine X.f rfl (z_imul ?_) | refine X.f rfl (z_iand ?_) | refine X.f rfl (z_ior ?_) | refine X.f rfl (z_ishl ?_) | refine X.f rfl (z_ishr ?_) | refine X.f rfl (z_pI rfl ?_) | refine X.f rfl (z_inc80 rfl ?_) | refine X.f rfl (z_dup ?_) | refine X.f rfl (z_dupr ?_) | refine X.f rfl (z_dup2 ?_) | refine X.f rfl (z_pop ?_) | refine X.f rfl (z_ixor ?_))
    refine X.f rfl (z_ige (fun c => ?_) (fun c => ?_))
    · repeat (first | refine X.f rfl (z_iload rfl ?_) | refine X.f rfl (z_aload rfl ?_) | refine X.f rfl (z_push ?_) | refine X.f rfl (z_istore rfl ?_) | refine X.f rfl (z_gP rfl rfl ?_) | refine X.f rfl (z_gI rfl ?_) | refine X.f rfl (z_gotoF rfl ?_) | refine X.f rfl (z_iadd ?_) | refine X.f rfl (z_isub ?_) | refine X.f rfl (z_imul ?_) | refine X.f rfl (z_iand ?_) | refine X.f rfl (z_ior ?_) | refine X.f rfl (z_ishl ?_) | refine X.f rfl (z_ishr ?_) | refine X.f rfl (z_pI rfl ?_) | refine X.f rfl (z_inc80 rfl ?_) | refine X.f rfl (z_dup ?_) | refine X.f rfl (z_dupr ?_) | refine X.f rfl (z_dup2 ?_) | refine X.f rfl (z_pop ?_) | refine X.f rfl (z_ixor ?_))
      exact x_ret rfl rfl rfl
    · exact absurd (by decide) c
