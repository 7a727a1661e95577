/-! THE LAW: its cases, one after another (written by genlaw.py) -/
def LB (i : Int32) : xL := [some (.ref 2000), some (.ref 0), some (.ref 226), some (.ref 249), some (.int i), none, none]
/-- between two rounds of the law -/
def LI (t : Nat) (W : XS) (M : xM) : Prop := ∃ F I G J ha hb ea eb c, M = (F, I, G, J, P0 ha hb ea eb, Q0, S0) ∧ clR F I J ha hb ea eb W ∧ rfR F I J W ∧ okX t W ∧ F 999 0 = nI c ∧ c ≤ t
def okI (e : Bool × Int32 × (Int32 → Int32)) (i : Int32) : Prop := e.1 = true ∧ 0 ≤ i ∧ i < e.2.1 ∧ (0 ≤ i + 1 ∧ i + 1 < e.2.1) ∧ (0 ≤ i + 2 ∧ i + 2 < e.2.1) ∧ (0 ≤ i + 3 ∧ i + 3 < e.2.1) ∧ (0 ≤ i + 4 ∧ i + 4 < e.2.1) ∧ (0 ≤ i + 5 ∧ i + 5 < e.2.1) ∧ (0 ≤ i + 6 ∧ i + 6 < e.2.1)
section UHr
variable {e : Bool × Int32 × (Int32 → Int32)} {d : Nat} {K : List xA} {ix : Nat} {L : xL} {st : List Value} {M : xM} {r : Option Value → xM → Prop}
theorem z_scr {i : Int32} (h0 : 0 ≤ i) (h1 : i < e.2.1) (k : X e d K (ix + 1) L (.int (e.2.2 i) :: st) M r) : Z (.inl .iaload) e d K ix L (.int i :: .ref 2000 :: st) M r := fun hk => X.of_step hk rfl rfl (by
  obtain ⟨F, I, G, J, P, Q, S⟩ := M
  simp [xstep, xpure, xhI, xSCR, h0, h1]) k
theorem z_scl (k : X e d K (ix + 1) L (.int e.2.1 :: st) M r) : Z (.inl .arraylength) e d K ix L (.ref 2000 :: st) M r := fun hk => X.of_step hk rfl rfl (by
  obtain ⟨F, I, G, J, P, Q, S⟩ := M
  simp [xstep, xpure, xhI, xSCR]) k
end UHr
section UH
set_option maxRecDepth 10000
variable {e : Bool × Int32 × (Int32 → Int32)} {t : Nat} {r : Option Value → xM → Prop} {i : Int32} {W : XS} {M : xM}
theorem lc_feed (hs : okI e i) (hI : LI t W M) (ht : t ≤ 512) (kont : ∀ W' M', LI (t + 1) W' M' → X e 60 K_L_law 884 (LB i) [] M' r) : X e 60 K_L_law 25 (LB i) [] M r := by
  obtain ⟨F, I, G, J, ha, hb, ea, eb, c, rfl, hcl, hrf, hk, hc, hct⟩ := hI
  obtain ⟨hpr, i0, i1, ⟨i10, i11⟩, ⟨i20, i21⟩, ⟨i30, i31⟩, ⟨i40, i41⟩, ⟨i50, i51⟩, i60, i61⟩ := hs
  obtain ⟨a, W', hC, hR, hk'⟩ := b_feed (x := ((e.2.2 (i + 1)).toInt64 <<< ((32 : Int32).toInt64 &&& 63) ||| (e.2.2 (i + 2)).toInt64 &&& 4294967295)) (y := ((e.2.2 (i + 3)).toInt64 <<< ((32 : Int32).toInt64 &&& 63) ||| (e.2.2 (i + 4)).toInt64 &&& 4294967295)) (z := ((e.2.2 (i + 5)).toInt64 <<< ((32 : Int32).toInt64 &&& 63) ||| (e.2.2 (i + 6)).toInt64 &&& 4294967295)) hk (by omega)
  iterate 52 ((refine X.f rfl ?_; first | refine z_iload rfl ?_ | refine z_aload rfl ?_ | refine z_push ?_ | refine z_iadd ?_ | refine z_scr (by with_reducible assumption) (by with_reducible assumption) ?_ | refine z_gotoF rfl ?_ | refine z_i2l ?_ | refine z_lshl ?_ | refine z_land ?_ | refine z_lor ?_ | refine z_ifeq (fun _ => ?_) (fun w => absurd (by with_reducible assumption) w) | refine z_ifeq (fun w => absurd w (by with_reducible assumption)) (fun _ => ?_)))
  refine X.f rfl (z_cv (hC F I G J ha hb ea eb hcl) rfl (by rfl) (by rfl) rfl rfl rfl rfl ?_)
  rintro _ _ ⟨rfl, F1, I1, G1, J1, ha1, hb1, ea1, eb1, rfl, o1, hcl1⟩
  iterate 52 ((refine X.f rfl ?_; first | refine z_iload rfl ?_ | refine z_aload rfl ?_ | refine z_push ?_ | refine z_iadd ?_ | refine z_scr (by with_reducible assumption) (by with_reducible assumption) ?_ | refine z_gotoF rfl ?_ | refine z_i2l ?_ | refine z_lshl ?_ | refine z_land ?_ | refine z_lor ?_ | refine z_ifeq (fun _ => ?_) (fun w => absurd (by with_reducible assumption) w) | refine z_ifeq (fun w => absurd w (by with_reducible assumption)) (fun _ => ?_)))
  refine X.f rfl (z_cv (hR F1 I1 G1 J1 ha1 hb1 ea1 eb1 (hrf.hi o1)) rfl (by rfl) (by rfl) rfl rfl rfl rfl ?_)
  rintro _ _ ⟨rfl, F2, I2, G2, J2, rfl, o2, o3, hrf2⟩
  refine X.f rfl (z_ieq (fun _ => ?_) (fun w => absurd rfl w))
  exact kont _ _ ⟨F2, I2, G2, J2, ha1, hb1, ea1, eb1, c, rfl, hcl1.lo o2, hrf2, hk', by rw [congrFun o3 0, congrFun (o1 999 (by omega)).1 0]; exact hc, by omega⟩
theorem lc_hall (hs : okI e i) (hI : LI t W M) (ht : t ≤ 512) (kont : ∀ W' M', LI (t + 1) W' M' → X e 60 K_L_law 884 (LB i) [] M' r) : X e 60 K_L_law 134 (LB i) [] M r := by
  obtain ⟨F, I, G, J, ha, hb, ea, eb, c, rfl, hcl, hrf, hk, hc, hct⟩ := hI
  obtain ⟨hpr, i0, i1, ⟨i10, i11⟩, ⟨i20, i21⟩, ⟨i30, i31⟩, ⟨i40, i41⟩, ⟨i50, i51⟩, i60, i61⟩ := hs
  obtain ⟨a, W', hC, hR, hk'⟩ := b_hall hk (by omega) hcl.2.2.1.1.2.1
  iterate 1 ((refine X.f rfl ?_; first | refine z_iload rfl ?_ | refine z_aload rfl ?_ | refine z_push ?_ | refine z_iadd ?_ | refine z_scr (by with_reducible assumption) (by with_reducible assumption) ?_ | refine z_gotoF rfl ?_ | refine z_i2l ?_ | refine z_lshl ?_ | refine z_land ?_ | refine z_lor ?_ | refine z_ifeq (fun _ => ?_) (fun w => absurd (by with_reducible assumption) w) | refine z_ifeq (fun w => absurd w (by with_reducible assumption)) (fun _ => ?_)))
  refine X.f rfl (z_cv (hC F I G J ha hb ea eb hcl) rfl (by rfl) (by rfl) rfl rfl rfl rfl ?_)
  rintro _ _ ⟨rfl, F1, I1, G1, J1, ha1, hb1, ea1, eb1, rfl, o1, hcl1⟩
  iterate 1 ((refine X.f rfl ?_; first | refine z_iload rfl ?_ | refine z_aload rfl ?_ | refine z_push ?_ | refine z_iadd ?_ | refine z_scr (by with_reducible assumption) (by with_reducible assumption) ?_ | refine z_gotoF rfl ?_ | refine z_i2l ?_ | refine z_lshl ?_ | refine z_land ?_ | refine z_lor ?_ | refine z_ifeq (fun _ => ?_) (fun w => absurd (by with_reducible assumption) w) | refine z_ifeq (fun w => absurd w (by with_reducible assumption)) (fun _ => ?_)))
  refine X.f rfl (z_cv (hR F1 I1 G1 J1 ha1 hb1 ea1 eb1 (hrf.hi o1)) rfl (by rfl) (by rfl) rfl rfl rfl rfl ?_)
  rintro _ _ ⟨rfl, F2, I2, G2, J2, rfl, o2, o3, hrf2⟩
  refine X.f rfl (z_ieq (fun _ => ?_) (fun w => absurd rfl w))
  exact kont _ _ ⟨F2, I2, G2, J2, ha1, hb1, ea1, eb1, c, rfl, hcl1.lo o2, hrf2, hk', by rw [congrFun o3 0, congrFun (o1 999 (by omega)).1 0]; exact hc, by omega⟩
theorem lc_evening (hs : okI e i) (hI : LI t W M) (ht : t ≤ 512) (kont : ∀ W' M', LI (t + 1) W' M' → X e 60 K_L_law 884 (LB i) [] M' r) : X e 60 K_L_law 141 (LB i) [] M r := by
  obtain ⟨F, I, G, J, ha, hb, ea, eb, c, rfl, hcl, hrf, hk, hc, hct⟩ := hI
  obtain ⟨hpr, i0, i1, ⟨i10, i11⟩, ⟨i20, i21⟩, ⟨i30, i31⟩, ⟨i40, i41⟩, ⟨i50, i51⟩, i60, i61⟩ := hs
  obtain ⟨a, W', hC, hR, hk'⟩ := b_evening hk (by omega) hcl.2.2.1.1.2.1
  iterate 1 ((refine X.f rfl ?_; first | refine z_iload rfl ?_ | refine z_aload rfl ?_ | refine z_push ?_ | refine z_iadd ?_ | refine z_scr (by with_reducible assumption) (by with_reducible assumption) ?_ | refine z_gotoF rfl ?_ | refine z_i2l ?_ | refine z_lshl ?_ | refine z_land ?_ | refine z_lor ?_ | refine z_ifeq (fun _ => ?_) (fun w => absurd (by with_reducible assumption) w) | refine z_ifeq (fun w => absurd w (by with_reducible assumption)) (fun _ => ?_)))
  refine X.f rfl (z_cv (hC F I G J ha hb ea eb hcl) rfl (by rfl) (by rfl) rfl rfl rfl rfl ?_)
  rintro _ _ ⟨rfl, F1, I1, G1, J1, ha1, hb1, ea1, eb1, rfl, o1, hcl1⟩
  iterate 1 ((refine X.f rfl ?_; first | refine z_iload rfl ?_ | refine z_aload rfl ?_ | refine z_push ?_ | refine z_iadd ?_ | refine z_scr (by with_reducible assumption) (by with_reducible assumption) ?_ | refine z_gotoF rfl ?_ | refine z_i2l ?_ | refine z_lshl ?_ | refine z_land ?_ | refine z_lor ?_ | refine z_ifeq (fun _ => ?_) (fun w => absurd (by with_reducible assumption) w) | refine z_ifeq (fun w => absurd w (by with_reducible assumption)) (fun _ => ?_)))
  refine X.f rfl (z_cv (hR F1 I1 G1 J1 ha1 hb1 ea1 eb1 (hrf.hi o1)) rfl (by rfl) (by rfl) rfl rfl rfl rfl ?_)
  rintro _ _ ⟨rfl, F2, I2, G2, J2, rfl, o2, o3, hrf2⟩
  refine X.f rfl (z_ieq (fun _ => ?_) (fun w => absurd rfl w))
  exact kont _ _ ⟨F2, I2, G2, J2, ha1, hb1, ea1, eb1, c, rfl, hcl1.lo o2, hrf2, hk', by rw [congrFun o3 0, congrFun (o1 999 (by omega)).1 0]; exact hc, by omega⟩
theorem lc_seat (hs : okI e i) (hI : LI t W M) (ht : t ≤ 512) (kont : ∀ W' M', LI (t + 1) W' M' → X e 60 K_L_law 884 (LB i) [] M' r) : X e 60 K_L_law 148 (LB i) [] M r := by
  obtain ⟨F, I, G, J, ha, hb, ea, eb, c, rfl, hcl, hrf, hk, hc, hct⟩ := hI
  obtain ⟨hpr, i0, i1, ⟨i10, i11⟩, ⟨i20, i21⟩, ⟨i30, i31⟩, ⟨i40, i41⟩, ⟨i50, i51⟩, i60, i61⟩ := hs
  obtain ⟨a, W', hC, hR, hk'⟩ := stp.ask hk (by omega) (b_seat (s := (e.2.2 (i + 1))) (w := (e.2.2 (i + 2))) hk)
  iterate 11 ((refine X.f rfl ?_; first | refine z_iload rfl ?_ | refine z_aload rfl ?_ | refine z_push ?_ | refine z_iadd ?_ | refine z_scr (by with_reducible assumption) (by with_reducible assumption) ?_ | refine z_gotoF rfl ?_ | refine z_i2l ?_ | refine z_lshl ?_ | refine z_land ?_ | refine z_lor ?_ | refine z_ifeq (fun _ => ?_) (fun w => absurd (by with_reducible assumption) w) | refine z_ifeq (fun w => absurd w (by with_reducible assumption)) (fun _ => ?_)))
  refine X.f rfl (z_cv (hC F I G J ha hb ea eb hcl) rfl (by rfl) (by rfl) rfl rfl rfl rfl ?_)
  rintro _ _ ⟨rfl, F1, I1, G1, J1, ha1, hb1, ea1, eb1, rfl, o1, hcl1⟩
  iterate 11 ((refine X.f rfl ?_; first | refine z_iload rfl ?_ | refine z_aload rfl ?_ | refine z_push ?_ | refine z_iadd ?_ | refine z_scr (by with_reducible assumption) (by with_reducible assumption) ?_ | refine z_gotoF rfl ?_ | refine z_i2l ?_ | refine z_lshl ?_ | refine z_land ?_ | refine z_lor ?_ | refine z_ifeq (fun _ => ?_) (fun w => absurd (by with_reducible assumption) w) | refine z_ifeq (fun w => absurd w (by with_reducible assumption)) (fun _ => ?_)))
  refine X.f rfl (z_cv (hR F1 I1 G1 J1 ha1 hb1 ea1 eb1 (hrf.hi o1)) rfl (by rfl) (by rfl) rfl rfl rfl rfl ?_)
  rintro _ _ ⟨rfl, F2, I2, G2, J2, rfl, o2, o3, hrf2⟩
  refine X.f rfl (z_ieq (fun _ => ?_) (fun w => absurd rfl w))
  exact kont _ _ ⟨F2, I2, G2, J2, ha1, hb1, ea1, eb1, c, rfl, hcl1.lo o2, hrf2, hk', by rw [congrFun o3 0, congrFun (o1 999 (by omega)).1 0]; exact hc, by omega⟩
theorem lc_person (hs : okI e i) (hI : LI t W M) (ht : t ≤ 512) (kont : ∀ W' M', LI (t + 1) W' M' → X e 60 K_L_law 884 (LB i) [] M' r) : X e 60 K_L_law 175 (LB i) [] M r := by
  obtain ⟨F, I, G, J, ha, hb, ea, eb, c, rfl, hcl, hrf, hk, hc, hct⟩ := hI
  obtain ⟨hpr, i0, i1, ⟨i10, i11⟩, ⟨i20, i21⟩, ⟨i30, i31⟩, ⟨i40, i41⟩, ⟨i50, i51⟩, i60, i61⟩ := hs
  obtain ⟨a, W', hC, hR, hk'⟩ := stp.ask hk (by omega) (b_person (p := (e.2.2 (i + 1))) (w := (e.2.2 (i + 2))) hk)
  iterate 11 ((refine X.f rfl ?_; first | refine z_iload rfl ?_ | refine z_aload rfl ?_ | refine z_push ?_ | refine z_iadd ?_ | refine z_scr (by with_reducible assumption) (by with_reducible assumption) ?_ | refine z_gotoF rfl ?_ | refine z_i2l ?_ | refine z_lshl ?_ | refine z_land ?_ | refine z_lor ?_ | refine z_ifeq (fun _ => ?_) (fun w => absurd (by with_reducible assumption) w) | refine z_ifeq (fun w => absurd w (by with_reducible assumption)) (fun _ => ?_)))
  refine X.f rfl (z_cv (hC F I G J ha hb ea eb hcl) rfl (by rfl) (by rfl) rfl rfl rfl rfl ?_)
  rintro _ _ ⟨rfl, F1, I1, G1, J1, ha1, hb1, ea1, eb1, rfl, o1, hcl1⟩
  iterate 11 ((refine X.f rfl ?_; first | refine z_iload rfl ?_ | refine z_aload rfl ?_ | refine z_push ?_ | refine z_iadd ?_ | refine z_scr (by with_reducible assumption) (by with_reducible assumption) ?_ | refine z_gotoF rfl ?_ | refine z_i2l ?_ | refine z_lshl ?_ | refine z_land ?_ | refine z_lor ?_ | refine z_ifeq (fun _ => ?_) (fun w => absurd (by with_reducible assumption) w) | refine z_ifeq (fun w => absurd w (by with_reducible assumption)) (fun _ => ?_)))
  refine X.f rfl (z_cv (hR F1 I1 G1 J1 ha1 hb1 ea1 eb1 (hrf.hi o1)) rfl (by rfl) (by rfl) rfl rfl rfl rfl ?_)
  rintro _ _ ⟨rfl, F2, I2, G2, J2, rfl, o2, o3, hrf2⟩
  refine X.f rfl (z_ieq (fun _ => ?_) (fun w => absurd rfl w))
  exact kont _ _ ⟨F2, I2, G2, J2, ha1, hb1, ea1, eb1, c, rfl, hcl1.lo o2, hrf2, hk', by rw [congrFun o3 0, congrFun (o1 999 (by omega)).1 0]; exact hc, by omega⟩
theorem lc_lay (hs : okI e i) (hI : LI t W M) (ht : t ≤ 512) (kont : ∀ W' M', LI (t + 1) W' M' → X e 60 K_L_law 884 (LB i) [] M' r) : X e 60 K_L_law 202 (LB i) [] M r := by
  obtain ⟨F, I, G, J, ha, hb, ea, eb, c, rfl, hcl, hrf, hk, hc, hct⟩ := hI
  obtain ⟨hpr, i0, i1, ⟨i10, i11⟩, ⟨i20, i21⟩, ⟨i30, i31⟩, ⟨i40, i41⟩, ⟨i50, i51⟩, i60, i61⟩ := hs
  obtain ⟨a, W', hC, hR, hk'⟩ := b_lay (p := (e.2.2 (i + 1))) (s := (e.2.2 (i + 2))) hk (by omega)
  iterate 11 ((refine X.f rfl ?_; first | refine z_iload rfl ?_ | refine z_aload rfl ?_ | refine z_push ?_ | refine z_iadd ?_ | refine z_scr (by with_reducible assumption) (by with_reducible assumption) ?_ | refine z_gotoF rfl ?_ | refine z_i2l ?_ | refine z_lshl ?_ | refine z_land ?_ | refine z_lor ?_ | refine z_ifeq (fun _ => ?_) (fun w => absurd (by with_reducible assumption) w) | refine z_ifeq (fun w => absurd w (by with_reducible assumption)) (fun _ => ?_)))
  refine X.f rfl (z_cv (hC F I G J ha hb ea eb hcl) rfl (by rfl) (by rfl) rfl rfl rfl rfl ?_)
  rintro _ _ ⟨rfl, F1, I1, G1, J1, ha1, hb1, ea1, eb1, rfl, o1, hcl1⟩
  iterate 11 ((refine X.f rfl ?_; first | refine z_iload rfl ?_ | refine z_aload rfl ?_ | refine z_push ?_ | refine z_iadd ?_ | refine z_scr (by with_reducible assumption) (by with_reducible assumption) ?_ | refine z_gotoF rfl ?_ | refine z_i2l ?_ | refine z_lshl ?_ | refine z_land ?_ | refine z_lor ?_ | refine z_ifeq (fun _ => ?_) (fun w => absurd (by with_reducible assumption) w) | refine z_ifeq (fun w => absurd w (by with_reducible assumption)) (fun _ => ?_)))
  refine X.f rfl (z_cv (hR F1 I1 G1 J1 ha1 hb1 ea1 eb1 (hrf.hi o1)) rfl (by rfl) (by rfl) rfl rfl rfl rfl ?_)
  rintro _ _ ⟨rfl, F2, I2, G2, J2, rfl, o2, o3, hrf2⟩
  refine X.f rfl (z_ieq (fun _ => ?_) (fun w => absurd rfl w))
  exact kont _ _ ⟨F2, I2, G2, J2, ha1, hb1, ea1, eb1, c, rfl, hcl1.lo o2, hrf2, hk', by rw [congrFun o3 0, congrFun (o1 999 (by omega)).1 0]; exact hc, by omega⟩
theorem lc_sit (hs : okI e i) (hI : LI t W M) (ht : t ≤ 512) (kont : ∀ W' M', LI (t + 1) W' M' → X e 60 K_L_law 884 (LB i) [] M' r) : X e 60 K_L_law 229 (LB i) [] M r := by
  obtain ⟨F, I, G, J, ha, hb, ea, eb, c, rfl, hcl, hrf, hk, hc, hct⟩ := hI
  obtain ⟨hpr, i0, i1, ⟨i10, i11⟩, ⟨i20, i21⟩, ⟨i30, i31⟩, ⟨i40, i41⟩, ⟨i50, i51⟩, i60, i61⟩ := hs
  obtain ⟨a, W', hC, hR, hk'⟩ := b_sit (p := (e.2.2 (i + 1))) (s := (e.2.2 (i + 2))) hk (by omega)
  iterate 11 ((refine X.f rfl ?_; first | refine z_iload rfl ?_ | refine z_aload rfl ?_ | refine z_push ?_ | refine z_iadd ?_ | refine z_scr (by with_reducible assumption) (by with_reducible assumption) ?_ | refine z_gotoF rfl ?_ | refine z_i2l ?_ | refine z_lshl ?_ | refine z_land ?_ | refine z_lor ?_ | refine z_ifeq (fun _ => ?_) (fun w => absurd (by with_reducible assumption) w) | refine z_ifeq (fun w => absurd w (by with_reducible assumption)) (fun _ => ?_)))
  refine X.f rfl (z_cv (hC F I G J ha hb ea eb hcl) rfl (by rfl) (by rfl) rfl rfl rfl rfl ?_)
  rintro _ _ ⟨rfl, F1, I1, G1, J1, ha1, hb1, ea1, eb1, rfl, o1, hcl1⟩
  iterate 11 ((refine X.f rfl ?_; first | refine z_iload rfl ?_ | refine z_aload rfl ?_ | refine z_push ?_ | refine z_iadd ?_ | refine z_scr (by with_reducible assumption) (by with_reducible assumption) ?_ | refine z_gotoF rfl ?_ | refine z_i2l ?_ | refine z_lshl ?_ | refine z_land ?_ | refine z_lor ?_ | refine z_ifeq (fun _ => ?_) (fun w => absurd (by with_reducible assumption) w) | refine z_ifeq (fun w => absurd w (by with_reducible assumption)) (fun _ => ?_)))
  refine X.f rfl (z_cv (hR F1 I1 G1 J1 ha1 hb1 ea1 eb1 (hrf.hi o1)) rfl (by rfl) (by rfl) rfl rfl rfl rfl ?_)
  rintro _ _ ⟨rfl, F2, I2, G2, J2, rfl, o2, o3, hrf2⟩
  refine X.f rfl (z_ieq (fun _ => ?_) (fun w => absurd rfl w))
  exact kont _ _ ⟨F2, I2, G2, J2, ha1, hb1, ea1, eb1, c, rfl, hcl1.lo o2, hrf2, hk', by rw [congrFun o3 0, congrFun (o1 999 (by omega)).1 0]; exact hc, by omega⟩
theorem lc_rise (hs : okI e i) (hI : LI t W M) (ht : t ≤ 512) (kont : ∀ W' M', LI (t + 1) W' M' → X e 60 K_L_law 884 (LB i) [] M' r) : X e 60 K_L_law 256 (LB i) [] M r := by
  obtain ⟨F, I, G, J, ha, hb, ea, eb, c, rfl, hcl, hrf, hk, hc, hct⟩ := hI
  obtain ⟨hpr, i0, i1, ⟨i10, i11⟩, ⟨i20, i21⟩, ⟨i30, i31⟩, ⟨i40, i41⟩, ⟨i50, i51⟩, i60, i61⟩ := hs
  obtain ⟨a, W', hC, hR, hk'⟩ := b_rise (p := (e.2.2 (i + 1))) hk (by omega)
  iterate 6 ((refine X.f rfl ?_; first | refine z_iload rfl ?_ | refine z_aload rfl ?_ | refine z_push ?_ | refine z_iadd ?_ | refine z_scr (by with_reducible assumption) (by with_reducible assumption) ?_ | refine z_gotoF rfl ?_ | refine z_i2l ?_ | refine z_lshl ?_ | refine z_land ?_ | refine z_lor ?_ | refine z_ifeq (fun _ => ?_) (fun w => absurd (by with_reducible assumption) w) | refine z_ifeq (fun w => absurd w (by with_reducible assumption)) (fun _ => ?_)))
  refine X.f rfl (z_cv (hC F I G J ha hb ea eb hcl) rfl (by rfl) (by rfl) rfl rfl rfl rfl ?_)
  rintro _ _ ⟨rfl, F1, I1, G1, J1, ha1, hb1, ea1, eb1, rfl, o1, hcl1⟩
  iterate 6 ((refine X.f rfl ?_; first | refine z_iload rfl ?_ | refine z_aload rfl ?_ | refine z_push ?_ | refine z_iadd ?_ | refine z_scr (by with_reducible assumption) (by with_reducible assumption) ?_ | refine z_gotoF rfl ?_ | refine z_i2l ?_ | refine z_lshl ?_ | refine z_land ?_ | refine z_lor ?_ | refine z_ifeq (fun _ => ?_) (fun w => absurd (by with_reducible assumption) w) | refine z_ifeq (fun w => absurd w (by with_reducible assumption)) (fun _ => ?_)))
  refine X.f rfl (z_cv (hR F1 I1 G1 J1 ha1 hb1 ea1 eb1 (hrf.hi o1)) rfl (by rfl) (by rfl) rfl rfl rfl rfl ?_)
  rintro _ _ ⟨rfl, F2, I2, G2, J2, rfl, o2, o3, hrf2⟩
  refine X.f rfl (z_ieq (fun _ => ?_) (fun w => absurd rfl w))
  exact kont _ _ ⟨F2, I2, G2, J2, ha1, hb1, ea1, eb1, c, rfl, hcl1.lo o2, hrf2, hk', by rw [congrFun o3 0, congrFun (o1 999 (by omega)).1 0]; exact hc, by omega⟩
theorem lc_grate (hs : okI e i) (hI : LI t W M) (ht : t ≤ 512) (kont : ∀ W' M', LI (t + 1) W' M' → X e 60 K_L_law 884 (LB i) [] M' r) : X e 60 K_L_law 273 (LB i) [] M r := by
  obtain ⟨F, I, G, J, ha, hb, ea, eb, c, rfl, hcl, hrf, hk, hc, hct⟩ := hI
  obtain ⟨hpr, i0, i1, ⟨i10, i11⟩, ⟨i20, i21⟩, ⟨i30, i31⟩, ⟨i40, i41⟩, ⟨i50, i51⟩, i60, i61⟩ := hs
  obtain ⟨a, W', hC, hR, hk'⟩ := b_grate (p := (e.2.2 (i + 1))) (s := (e.2.2 (i + 2))) hk (by omega)
  iterate 11 ((refine X.f rfl ?_; first | refine z_iload rfl ?_ | refine z_aload rfl ?_ | refine z_push ?_ | refine z_iadd ?_ | refine z_scr (by with_reducible assumption) (by with_reducible assumption) ?_ | refine z_gotoF rfl ?_ | refine z_i2l ?_ | refine z_lshl ?_ | refine z_land ?_ | refine z_lor ?_ | refine z_ifeq (fun _ => ?_) (fun w => absurd (by with_reducible assumption) w) | refine z_ifeq (fun w => absurd w (by with_reducible assumption)) (fun _ => ?_)))
  refine X.f rfl (z_cv (hC F I G J ha hb ea eb hcl) rfl (by rfl) (by rfl) rfl rfl rfl rfl ?_)
  rintro _ _ ⟨rfl, F1, I1, G1, J1, ha1, hb1, ea1, eb1, rfl, o1, hcl1⟩
  iterate 11 ((refine X.f rfl ?_; first | refine z_iload rfl ?_ | refine z_aload rfl ?_ | refine z_push ?_ | refine z_iadd ?_ | refine z_scr (by with_reducible assumption) (by with_reducible assumption) ?_ | refine z_gotoF rfl ?_ | refine z_i2l ?_ | refine z_lshl ?_ | refine z_land ?_ | refine z_lor ?_ | refine z_ifeq (fun _ => ?_) (fun w => absurd (by with_reducible assumption) w) | refine z_ifeq (fun w => absurd w (by with_reducible assumption)) (fun _ => ?_)))
  refine X.f rfl (z_cv (hR F1 I1 G1 J1 ha1 hb1 ea1 eb1 (hrf.hi o1)) rfl (by rfl) (by rfl) rfl rfl rfl rfl ?_)
  rintro _ _ ⟨rfl, F2, I2, G2, J2, rfl, o2, o3, hrf2⟩
  refine X.f rfl (z_ieq (fun _ => ?_) (fun w => absurd rfl w))
  exact kont _ _ ⟨F2, I2, G2, J2, ha1, hb1, ea1, eb1, c, rfl, hcl1.lo o2, hrf2, hk', by rw [congrFun o3 0, congrFun (o1 999 (by omega)).1 0]; exact hc, by omega⟩
theorem lc_hour (hs : okI e i) (hI : LI t W M) (ht : t ≤ 512) (kont : ∀ W' M', LI (t + 1) W' M' → X e 60 K_L_law 884 (LB i) [] M' r) : X e 60 K_L_law 300 (LB i) [] M r := by
  obtain ⟨F, I, G, J, ha, hb, ea, eb, c, rfl, hcl, hrf, hk, hc, hct⟩ := hI
  obtain ⟨hpr, i0, i1, ⟨i10, i11⟩, ⟨i20, i21⟩, ⟨i30, i31⟩, ⟨i40, i41⟩, ⟨i50, i51⟩, i60, i61⟩ := hs
  obtain ⟨a, W', hC, hR, hk'⟩ := b_hour hk (by omega)
  iterate 1 ((refine X.f rfl ?_; first | refine z_iload rfl ?_ | refine z_aload rfl ?_ | refine z_push ?_ | refine z_iadd ?_ | refine z_scr (by with_reducible assumption) (by with_reducible assumption) ?_ | refine z_gotoF rfl ?_ | refine z_i2l ?_ | refine z_lshl ?_ | refine z_land ?_ | refine z_lor ?_ | refine z_ifeq (fun _ => ?_) (fun w => absurd (by with_reducible assumption) w) | refine z_ifeq (fun w => absurd w (by with_reducible assumption)) (fun _ => ?_)))
  refine X.f rfl (z_cv (hC F I G J ha hb ea eb hcl) rfl (by rfl) (by rfl) rfl rfl rfl rfl ?_)
  rintro _ _ ⟨rfl, F1, I1, G1, J1, ha1, hb1, ea1, eb1, rfl, o1, hcl1⟩
  iterate 1 ((refine X.f rfl ?_; first | refine z_iload rfl ?_ | refine z_aload rfl ?_ | refine z_push ?_ | refine z_iadd ?_ | refine z_scr (by with_reducible assumption) (by with_reducible assumption) ?_ | refine z_gotoF rfl ?_ | refine z_i2l ?_ | refine z_lshl ?_ | refine z_land ?_ | refine z_lor ?_ | refine z_ifeq (fun _ => ?_) (fun w => absurd (by with_reducible assumption) w) | refine z_ifeq (fun w => absurd w (by with_reducible assumption)) (fun _ => ?_)))
  refine X.f rfl (z_cv (hR F1 I1 G1 J1 ha1 hb1 ea1 eb1 (hrf.hi o1)) rfl (by rfl) (by rfl) rfl rfl rfl rfl ?_)
  rintro _ _ ⟨rfl, F2, I2, G2, J2, rfl, o2, o3, hrf2⟩
  refine X.f rfl (z_ieq (fun _ => ?_) (fun w => absurd rfl w))
  exact kont _ _ ⟨F2, I2, G2, J2, ha1, hb1, ea1, eb1, c, rfl, hcl1.lo o2, hrf2, hk', by rw [congrFun o3 0, congrFun (o1 999 (by omega)).1 0]; exact hc, by omega⟩
theorem lc_undo (hs : okI e i) (hI : LI t W M) (ht : t ≤ 512) (kont : ∀ W' M', LI (t + 1) W' M' → X e 60 K_L_law 884 (LB i) [] M' r) : X e 60 K_L_law 307 (LB i) [] M r := by
  obtain ⟨F, I, G, J, ha, hb, ea, eb, c, rfl, hcl, hrf, hk, hc, hct⟩ := hI
  obtain ⟨hpr, i0, i1, ⟨i10, i11⟩, ⟨i20, i21⟩, ⟨i30, i31⟩, ⟨i40, i41⟩, ⟨i50, i51⟩, i60, i61⟩ := hs
  obtain ⟨a, W', hC, hR, hk'⟩ := b_undo hk (by omega)
  iterate 1 ((refine X.f rfl ?_; first | refine z_iload rfl ?_ | refine z_aload rfl ?_ | refine z_push ?_ | refine z_iadd ?_ | refine z_scr (by with_reducible assumption) (by with_reducible assumption) ?_ | refine z_gotoF rfl ?_ | refine z_i2l ?_ | refine z_lshl ?_ | refine z_land ?_ | refine z_lor ?_ | refine z_ifeq (fun _ => ?_) (fun w => absurd (by with_reducible assumption) w) | refine z_ifeq (fun w => absurd w (by with_reducible assumption)) (fun _ => ?_)))
  refine X.f rfl (z_cv (hC F I G J ha hb ea eb hcl) rfl (by rfl) (by rfl) rfl rfl rfl rfl ?_)
  rintro _ _ ⟨rfl, F1, I1, G1, J1, ha1, hb1, ea1, eb1, rfl, o1, hcl1⟩
  iterate 1 ((refine X.f rfl ?_; first | refine z_iload rfl ?_ | refine z_aload rfl ?_ | refine z_push ?_ | refine z_iadd ?_ | refine z_scr (by with_reducible assumption) (by with_reducible assumption) ?_ | refine z_gotoF rfl ?_ | refine z_i2l ?_ | refine z_lshl ?_ | refine z_land ?_ | refine z_lor ?_ | refine z_ifeq (fun _ => ?_) (fun w => absurd (by with_reducible assumption) w) | refine z_ifeq (fun w => absurd w (by with_reducible assumption)) (fun _ => ?_)))
  refine X.f rfl (z_cv (hR F1 I1 G1 J1 ha1 hb1 ea1 eb1 (hrf.hi o1)) rfl (by rfl) (by rfl) rfl rfl rfl rfl ?_)
  rintro _ _ ⟨rfl, F2, I2, G2, J2, rfl, o2, o3, hrf2⟩
  refine X.f rfl (z_ieq (fun _ => ?_) (fun w => absurd rfl w))
  exact kont _ _ ⟨F2, I2, G2, J2, ha1, hb1, ea1, eb1, c, rfl, hcl1.lo o2, hrf2, hk', by rw [congrFun o3 0, congrFun (o1 999 (by omega)).1 0]; exact hc, by omega⟩
theorem lc_judged (hs : okI e i) (hI : LI t W M) (ht : t ≤ 512) (kont : ∀ W' M', LI (t + 1) W' M' → X e 60 K_L_law 884 (LB i) [] M' r) : X e 60 K_L_law 314 (LB i) [] M r := by
  obtain ⟨F, I, G, J, ha, hb, ea, eb, c, rfl, hcl, hrf, hk, hc, hct⟩ := hI
  obtain ⟨hpr, i0, i1, ⟨i10, i11⟩, ⟨i20, i21⟩, ⟨i30, i31⟩, ⟨i40, i41⟩, ⟨i50, i51⟩, i60, i61⟩ := hs
  obtain ⟨a, W', hC, hR, hk'⟩ := stp.ask hk (by omega) (b_judged (w := (e.2.2 (i + 1))) hk)
  iterate 6 ((refine X.f rfl ?_; first | refine z_iload rfl ?_ | refine z_aload rfl ?_ | refine z_push ?_ | refine z_iadd ?_ | refine z_scr (by with_reducible assumption) (by with_reducible assumption) ?_ | refine z_gotoF rfl ?_ | refine z_i2l ?_ | refine z_lshl ?_ | refine z_land ?_ | refine z_lor ?_ | refine z_ifeq (fun _ => ?_) (fun w => absurd (by with_reducible assumption) w) | refine z_ifeq (fun w => absurd w (by with_reducible assumption)) (fun _ => ?_)))
  refine X.f rfl (z_cv (hC F I G J ha hb ea eb hcl) rfl (by rfl) (by rfl) rfl rfl rfl rfl ?_)
  rintro _ _ ⟨rfl, F1, I1, G1, J1, ha1, hb1, ea1, eb1, rfl, o1, hcl1⟩
  iterate 6 ((refine X.f rfl ?_; first | refine z_iload rfl ?_ | refine z_aload rfl ?_ | refine z_push ?_ | refine z_iadd ?_ | refine z_scr (by with_reducible assumption) (by with_reducible assumption) ?_ | refine z_gotoF rfl ?_ | refine z_i2l ?_ | refine z_lshl ?_ | refine z_land ?_ | refine z_lor ?_ | refine z_ifeq (fun _ => ?_) (fun w => absurd (by with_reducible assumption) w) | refine z_ifeq (fun w => absurd w (by with_reducible assumption)) (fun _ => ?_)))
  refine X.f rfl (z_cv (hR F1 I1 G1 J1 ha1 hb1 ea1 eb1 (hrf.hi o1)) rfl (by rfl) (by rfl) rfl rfl rfl rfl ?_)
  rintro _ _ ⟨rfl, F2, I2, G2, J2, rfl, o2, o3, hrf2⟩
  refine X.f rfl (z_ieq (fun _ => ?_) (fun w => absurd rfl w))
  exact kont _ _ ⟨F2, I2, G2, J2, ha1, hb1, ea1, eb1, c, rfl, hcl1.lo o2, hrf2, hk', by rw [congrFun o3 0, congrFun (o1 999 (by omega)).1 0]; exact hc, by omega⟩
end UH
