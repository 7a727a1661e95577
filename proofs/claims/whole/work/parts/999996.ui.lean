/-! THE LAW: its cases (written by genlaw.py) -/
section UI
set_option maxRecDepth 10000
variable {e : Bool × Int32 × (Int32 → Int32)} {t : Nat} {r : Option Value → xM → Prop} {i : Int32} {W : XS} {M : xM}
theorem lc_left (hs : okI e i) (hI : LI t W M) (ht : t ≤ 512) (kont : ∀ W' M', LI (t + 1) W' M' → X e 60 K_L_law 884 (LB i) [] M' r) : X e 60 K_L_law 331 (LB i) [] M r := by
  obtain ⟨F, I, G, J, ha, hb, ea, eb, c, rfl, hcl, hrf, hk, hc, hct⟩ := hI
  obtain ⟨hpr, i0, i1, ⟨i10, i11⟩, ⟨i20, i21⟩, ⟨i30, i31⟩, ⟨i40, i41⟩, ⟨i50, i51⟩, i60, i61⟩ := hs
  obtain ⟨a, W', hC, hR, hk'⟩ := stp.ask hk (by omega) (b_left (s := (e.2.2 (i + 1))) hk)
  iterate 6 ((refine X.f rfl ?_; first | refine z_iload rfl ?_ | refine z_aload rfl ?_ | refine z_push ?_ | refine z_iadd ?_ | refine z_scr (by with_reducible assumption) (by with_reducible assumption) ?_ | refine z_gotoF rfl ?_ | refine z_i2l ?_ | refine z_lshl ?_ | refine z_land ?_ | refine z_lor ?_ | refine z_ifeq (fun _ => ?_) (fun w => absurd (by with_reducible assumption) w) | refine z_ifeq (fun w => absurd w (by with_reducible assumption)) (fun _ => ?_)))
  refine X.f rfl (z_cv (hC F I G J ha hb ea eb hcl) rfl (by rfl) (by rfl) rfl rfl rfl rfl ?_)
  rintro _ _ ⟨rfl, F1, I1, G1, J1, ha1, hb1, ea1, eb1, rfl, o1, hcl1⟩
  iterate 6 ((refine X.f rfl ?_; first | refine z_iload rfl ?_ | refine z_aload rfl ?_ | refine z_push ?_ | refine z_iadd ?_ | refine z_scr (by with_reducible assumption) (by with_reducible assumption) ?_ | refine z_gotoF rfl ?_ | refine z_i2l ?_ | refine z_lshl ?_ | refine z_land ?_ | refine z_lor ?_ | refine z_ifeq (fun _ => ?_) (fun w => absurd (by with_reducible assumption) w) | refine z_ifeq (fun w => absurd w (by with_reducible assumption)) (fun _ => ?_)))
  refine X.f rfl (z_cv (hR F1 I1 G1 J1 ha1 hb1 ea1 eb1 (hrf.hi o1)) rfl (by rfl) (by rfl) rfl rfl rfl rfl ?_)
  rintro _ _ ⟨rfl, F2, I2, G2, J2, rfl, o2, o3, hrf2⟩
  refine X.f rfl (z_ieq (fun _ => ?_) (fun w => absurd rfl w))
  exact kont _ _ ⟨F2, I2, G2, J2, ha1, hb1, ea1, eb1, c, rfl, hcl1.lo o2, hrf2, hk', by rw [congrFun o3 0, congrFun (o1 999 (by omega)).1 0]; exact hc, by omega⟩
theorem lc_later (hs : okI e i) (hI : LI t W M) (ht : t ≤ 512) (kont : ∀ W' M', LI (t + 1) W' M' → X e 60 K_L_law 884 (LB i) [] M' r) : X e 60 K_L_law 348 (LB i) [] M r := by
  obtain ⟨F, I, G, J, ha, hb, ea, eb, c, rfl, hcl, hrf, hk, hc, hct⟩ := hI
  obtain ⟨hpr, i0, i1, ⟨i10, i11⟩, ⟨i20, i21⟩, ⟨i30, i31⟩, ⟨i40, i41⟩, ⟨i50, i51⟩, i60, i61⟩ := hs
  obtain ⟨a, W', hC, hR, hk'⟩ := stp.ask hk (by omega) (b_later (s := (e.2.2 (i + 1))) (o := (e.2.2 (i + 2))) hk)
  iterate 11 ((refine X.f rfl ?_; first | refine z_iload rfl ?_ | refine z_aload rfl ?_ | refine z_push ?_ | refine z_iadd ?_ | refine z_scr (by with_reducible assumption) (by with_reducible assumption) ?_ | refine z_gotoF rfl ?_ | refine z_i2l ?_ | refine z_lshl ?_ | refine z_land ?_ | refine z_lor ?_ | refine z_ifeq (fun _ => ?_) (fun w => absurd (by with_reducible assumption) w) | refine z_ifeq (fun w => absurd w (by with_reducible assumption)) (fun _ => ?_)))
  refine X.f rfl (z_cv (hC F I G J ha hb ea eb hcl) rfl (by rfl) (by rfl) rfl rfl rfl rfl ?_)
  rintro _ _ ⟨rfl, F1, I1, G1, J1, ha1, hb1, ea1, eb1, rfl, o1, hcl1⟩
  iterate 11 ((refine X.f rfl ?_; first | refine z_iload rfl ?_ | refine z_aload rfl ?_ | refine z_push ?_ | refine z_iadd ?_ | refine z_scr (by with_reducible assumption) (by with_reducible assumption) ?_ | refine z_gotoF rfl ?_ | refine z_i2l ?_ | refine z_lshl ?_ | refine z_land ?_ | refine z_lor ?_ | refine z_ifeq (fun _ => ?_) (fun w => absurd (by with_reducible assumption) w) | refine z_ifeq (fun w => absurd w (by with_reducible assumption)) (fun _ => ?_)))
  refine X.f rfl (z_cv (hR F1 I1 G1 J1 ha1 hb1 ea1 eb1 (hrf.hi o1)) rfl (by rfl) (by rfl) rfl rfl rfl rfl ?_)
  rintro _ _ ⟨rfl, F2, I2, G2, J2, rfl, o2, o3, hrf2⟩
  refine X.f rfl (z_ieq (fun _ => ?_) (fun w => absurd rfl w))
  exact kont _ _ ⟨F2, I2, G2, J2, ha1, hb1, ea1, eb1, c, rfl, hcl1.lo o2, hrf2, hk', by rw [congrFun o3 0, congrFun (o1 999 (by omega)).1 0]; exact hc, by omega⟩
theorem lc_first (hs : okI e i) (hI : LI t W M) (ht : t ≤ 512) (kont : ∀ W' M', LI (t + 1) W' M' → X e 60 K_L_law 884 (LB i) [] M' r) : X e 60 K_L_law 375 (LB i) [] M r := by
  obtain ⟨F, I, G, J, ha, hb, ea, eb, c, rfl, hcl, hrf, hk, hc, hct⟩ := hI
  obtain ⟨hpr, i0, i1, ⟨i10, i11⟩, ⟨i20, i21⟩, ⟨i30, i31⟩, ⟨i40, i41⟩, ⟨i50, i51⟩, i60, i61⟩ := hs
  obtain ⟨a, W', hC, hR, hk'⟩ := stp.ask hk (by omega) (b_first hk)
  iterate 1 ((refine X.f rfl ?_; first | refine z_iload rfl ?_ | refine z_aload rfl ?_ | refine z_push ?_ | refine z_iadd ?_ | refine z_scr (by with_reducible assumption) (by with_reducible assumption) ?_ | refine z_gotoF rfl ?_ | refine z_i2l ?_ | refine z_lshl ?_ | refine z_land ?_ | refine z_lor ?_ | refine z_ifeq (fun _ => ?_) (fun w => absurd (by with_reducible assumption) w) | refine z_ifeq (fun w => absurd w (by with_reducible assumption)) (fun _ => ?_)))
  refine X.f rfl (z_cv (hC F I G J ha hb ea eb hcl) rfl (by rfl) (by rfl) rfl rfl rfl rfl ?_)
  rintro _ _ ⟨rfl, F1, I1, G1, J1, ha1, hb1, ea1, eb1, rfl, o1, hcl1⟩
  iterate 1 ((refine X.f rfl ?_; first | refine z_iload rfl ?_ | refine z_aload rfl ?_ | refine z_push ?_ | refine z_iadd ?_ | refine z_scr (by with_reducible assumption) (by with_reducible assumption) ?_ | refine z_gotoF rfl ?_ | refine z_i2l ?_ | refine z_lshl ?_ | refine z_land ?_ | refine z_lor ?_ | refine z_ifeq (fun _ => ?_) (fun w => absurd (by with_reducible assumption) w) | refine z_ifeq (fun w => absurd w (by with_reducible assumption)) (fun _ => ?_)))
  refine X.f rfl (z_cv (hR F1 I1 G1 J1 ha1 hb1 ea1 eb1 (hrf.hi o1)) rfl (by rfl) (by rfl) rfl rfl rfl rfl ?_)
  rintro _ _ ⟨rfl, F2, I2, G2, J2, rfl, o2, o3, hrf2⟩
  refine X.f rfl (z_ieq (fun _ => ?_) (fun w => absurd rfl w))
  exact kont _ _ ⟨F2, I2, G2, J2, ha1, hb1, ea1, eb1, c, rfl, hcl1.lo o2, hrf2, hk', by rw [congrFun o3 0, congrFun (o1 999 (by omega)).1 0]; exact hc, by omega⟩
theorem lc_empties (hs : okI e i) (hI : LI t W M) (ht : t ≤ 512) (kont : ∀ W' M', LI (t + 1) W' M' → X e 60 K_L_law 884 (LB i) [] M' r) : X e 60 K_L_law 382 (LB i) [] M r := by
  obtain ⟨F, I, G, J, ha, hb, ea, eb, c, rfl, hcl, hrf, hk, hc, hct⟩ := hI
  obtain ⟨hpr, i0, i1, ⟨i10, i11⟩, ⟨i20, i21⟩, ⟨i30, i31⟩, ⟨i40, i41⟩, ⟨i50, i51⟩, i60, i61⟩ := hs
  obtain ⟨a, W', hC, hR, hk'⟩ := stp.ask hk (by omega) (b_empties hk)
  iterate 1 ((refine X.f rfl ?_; first | refine z_iload rfl ?_ | refine z_aload rfl ?_ | refine z_push ?_ | refine z_iadd ?_ | refine z_scr (by with_reducible assumption) (by with_reducible assumption) ?_ | refine z_gotoF rfl ?_ | refine z_i2l ?_ | refine z_lshl ?_ | refine z_land ?_ | refine z_lor ?_ | refine z_ifeq (fun _ => ?_) (fun w => absurd (by with_reducible assumption) w) | refine z_ifeq (fun w => absurd w (by with_reducible assumption)) (fun _ => ?_)))
  refine X.f rfl (z_cv (hC F I G J ha hb ea eb hcl) rfl (by rfl) (by rfl) rfl rfl rfl rfl ?_)
  rintro _ _ ⟨rfl, F1, I1, G1, J1, ha1, hb1, ea1, eb1, rfl, o1, hcl1⟩
  iterate 1 ((refine X.f rfl ?_; first | refine z_iload rfl ?_ | refine z_aload rfl ?_ | refine z_push ?_ | refine z_iadd ?_ | refine z_scr (by with_reducible assumption) (by with_reducible assumption) ?_ | refine z_gotoF rfl ?_ | refine z_i2l ?_ | refine z_lshl ?_ | refine z_land ?_ | refine z_lor ?_ | refine z_ifeq (fun _ => ?_) (fun w => absurd (by with_reducible assumption) w) | refine z_ifeq (fun w => absurd w (by with_reducible assumption)) (fun _ => ?_)))
  refine X.f rfl (z_cv (hR F1 I1 G1 J1 ha1 hb1 ea1 eb1 (hrf.hi o1)) rfl (by rfl) (by rfl) rfl rfl rfl rfl ?_)
  rintro _ _ ⟨rfl, F2, I2, G2, J2, rfl, o2, o3, hrf2⟩
  refine X.f rfl (z_ieq (fun _ => ?_) (fun w => absurd rfl w))
  exact kont _ _ ⟨F2, I2, G2, J2, ha1, hb1, ea1, eb1, c, rfl, hcl1.lo o2, hrf2, hk', by rw [congrFun o3 0, congrFun (o1 999 (by omega)).1 0]; exact hc, by omega⟩
theorem lc_most (hs : okI e i) (hI : LI t W M) (ht : t ≤ 512) (kont : ∀ W' M', LI (t + 1) W' M' → X e 60 K_L_law 884 (LB i) [] M' r) : X e 60 K_L_law 389 (LB i) [] M r := by
  obtain ⟨F, I, G, J, ha, hb, ea, eb, c, rfl, hcl, hrf, hk, hc, hct⟩ := hI
  obtain ⟨hpr, i0, i1, ⟨i10, i11⟩, ⟨i20, i21⟩, ⟨i30, i31⟩, ⟨i40, i41⟩, ⟨i50, i51⟩, i60, i61⟩ := hs
  obtain ⟨a, W', hC, hR, hk'⟩ := stp.ask hk (by omega) (b_most (w := (e.2.2 (i + 1))) hk)
  iterate 6 ((refine X.f rfl ?_; first | refine z_iload rfl ?_ | refine z_aload rfl ?_ | refine z_push ?_ | refine z_iadd ?_ | refine z_scr (by with_reducible assumption) (by with_reducible assumption) ?_ | refine z_gotoF rfl ?_ | refine z_i2l ?_ | refine z_lshl ?_ | refine z_land ?_ | refine z_lor ?_ | refine z_ifeq (fun _ => ?_) (fun w => absurd (by with_reducible assumption) w) | refine z_ifeq (fun w => absurd w (by with_reducible assumption)) (fun _ => ?_)))
  refine X.f rfl (z_cv (hC F I G J ha hb ea eb hcl) rfl (by rfl) (by rfl) rfl rfl rfl rfl ?_)
  rintro _ _ ⟨rfl, F1, I1, G1, J1, ha1, hb1, ea1, eb1, rfl, o1, hcl1⟩
  iterate 6 ((refine X.f rfl ?_; first | refine z_iload rfl ?_ | refine z_aload rfl ?_ | refine z_push ?_ | refine z_iadd ?_ | refine z_scr (by with_reducible assumption) (by with_reducible assumption) ?_ | refine z_gotoF rfl ?_ | refine z_i2l ?_ | refine z_lshl ?_ | refine z_land ?_ | refine z_lor ?_ | refine z_ifeq (fun _ => ?_) (fun w => absurd (by with_reducible assumption) w) | refine z_ifeq (fun w => absurd w (by with_reducible assumption)) (fun _ => ?_)))
  refine X.f rfl (z_cv (hR F1 I1 G1 J1 ha1 hb1 ea1 eb1 (hrf.hi o1)) rfl (by rfl) (by rfl) rfl rfl rfl rfl ?_)
  rintro _ _ ⟨rfl, F2, I2, G2, J2, rfl, o2, o3, hrf2⟩
  refine X.f rfl (z_ieq (fun _ => ?_) (fun w => absurd rfl w))
  exact kont _ _ ⟨F2, I2, G2, J2, ha1, hb1, ea1, eb1, c, rfl, hcl1.lo o2, hrf2, hk', by rw [congrFun o3 0, congrFun (o1 999 (by omega)).1 0]; exact hc, by omega⟩
theorem lc_could (hs : okI e i) (hI : LI t W M) (ht : t ≤ 512) (kont : ∀ W' M', LI (t + 1) W' M' → X e 60 K_L_law 884 (LB i) [] M' r) : X e 60 K_L_law 406 (LB i) [] M r := by
  obtain ⟨F, I, G, J, ha, hb, ea, eb, c, rfl, hcl, hrf, hk, hc, hct⟩ := hI
  obtain ⟨hpr, i0, i1, ⟨i10, i11⟩, ⟨i20, i21⟩, ⟨i30, i31⟩, ⟨i40, i41⟩, ⟨i50, i51⟩, i60, i61⟩ := hs
  obtain ⟨a, W', hC, hR, hk'⟩ := stp.ask hk (by omega) (b_could (p := (e.2.2 (i + 1))) hk)
  iterate 6 ((refine X.f rfl ?_; first | refine z_iload rfl ?_ | refine z_aload rfl ?_ | refine z_push ?_ | refine z_iadd ?_ | refine z_scr (by with_reducible assumption) (by with_reducible assumption) ?_ | refine z_gotoF rfl ?_ | refine z_i2l ?_ | refine z_lshl ?_ | refine z_land ?_ | refine z_lor ?_ | refine z_ifeq (fun _ => ?_) (fun w => absurd (by with_reducible assumption) w) | refine z_ifeq (fun w => absurd w (by with_reducible assumption)) (fun _ => ?_)))
  refine X.f rfl (z_cv (hC F I G J ha hb ea eb hcl) rfl (by rfl) (by rfl) rfl rfl rfl rfl ?_)
  rintro _ _ ⟨rfl, F1, I1, G1, J1, ha1, hb1, ea1, eb1, rfl, o1, hcl1⟩
  iterate 6 ((refine X.f rfl ?_; first | refine z_iload rfl ?_ | refine z_aload rfl ?_ | refine z_push ?_ | refine z_iadd ?_ | refine z_scr (by with_reducible assumption) (by with_reducible assumption) ?_ | refine z_gotoF rfl ?_ | refine z_i2l ?_ | refine z_lshl ?_ | refine z_land ?_ | refine z_lor ?_ | refine z_ifeq (fun _ => ?_) (fun w => absurd (by with_reducible assumption) w) | refine z_ifeq (fun w => absurd w (by with_reducible assumption)) (fun _ => ?_)))
  refine X.f rfl (z_cv (hR F1 I1 G1 J1 ha1 hb1 ea1 eb1 (hrf.hi o1)) rfl (by rfl) (by rfl) rfl rfl rfl rfl ?_)
  rintro _ _ ⟨rfl, F2, I2, G2, J2, rfl, o2, o3, hrf2⟩
  refine X.f rfl (z_ieq (fun _ => ?_) (fun w => absurd rfl w))
  exact kont _ _ ⟨F2, I2, G2, J2, ha1, hb1, ea1, eb1, c, rfl, hcl1.lo o2, hrf2, hk', by rw [congrFun o3 0, congrFun (o1 999 (by omega)).1 0]; exact hc, by omega⟩
theorem lc_needs (hs : okI e i) (hI : LI t W M) (ht : t ≤ 512) (kont : ∀ W' M', LI (t + 1) W' M' → X e 60 K_L_law 884 (LB i) [] M' r) : X e 60 K_L_law 423 (LB i) [] M r := by
  obtain ⟨F, I, G, J, ha, hb, ea, eb, c, rfl, hcl, hrf, hk, hc, hct⟩ := hI
  obtain ⟨hpr, i0, i1, ⟨i10, i11⟩, ⟨i20, i21⟩, ⟨i30, i31⟩, ⟨i40, i41⟩, ⟨i50, i51⟩, i60, i61⟩ := hs
  obtain ⟨a, W', hC, hR, hk'⟩ := stp.ask hk (by omega) (b_needs (p := (e.2.2 (i + 1))) (s := (e.2.2 (i + 2))) (o := (e.2.2 (i + 3))) hk)
  iterate 16 ((refine X.f rfl ?_; first | refine z_iload rfl ?_ | refine z_aload rfl ?_ | refine z_push ?_ | refine z_iadd ?_ | refine z_scr (by with_reducible assumption) (by with_reducible assumption) ?_ | refine z_gotoF rfl ?_ | refine z_i2l ?_ | refine z_lshl ?_ | refine z_land ?_ | refine z_lor ?_ | refine z_ifeq (fun _ => ?_) (fun w => absurd (by with_reducible assumption) w) | refine z_ifeq (fun w => absurd w (by with_reducible assumption)) (fun _ => ?_)))
  refine X.f rfl (z_cv (hC F I G J ha hb ea eb hcl) rfl (by rfl) (by rfl) rfl rfl rfl rfl ?_)
  rintro _ _ ⟨rfl, F1, I1, G1, J1, ha1, hb1, ea1, eb1, rfl, o1, hcl1⟩
  iterate 16 ((refine X.f rfl ?_; first | refine z_iload rfl ?_ | refine z_aload rfl ?_ | refine z_push ?_ | refine z_iadd ?_ | refine z_scr (by with_reducible assumption) (by with_reducible assumption) ?_ | refine z_gotoF rfl ?_ | refine z_i2l ?_ | refine z_lshl ?_ | refine z_land ?_ | refine z_lor ?_ | refine z_ifeq (fun _ => ?_) (fun w => absurd (by with_reducible assumption) w) | refine z_ifeq (fun w => absurd w (by with_reducible assumption)) (fun _ => ?_)))
  refine X.f rfl (z_cv (hR F1 I1 G1 J1 ha1 hb1 ea1 eb1 (hrf.hi o1)) rfl (by rfl) (by rfl) rfl rfl rfl rfl ?_)
  rintro _ _ ⟨rfl, F2, I2, G2, J2, rfl, o2, o3, hrf2⟩
  refine X.f rfl (z_ieq (fun _ => ?_) (fun w => absurd rfl w))
  exact kont _ _ ⟨F2, I2, G2, J2, ha1, hb1, ea1, eb1, c, rfl, hcl1.lo o2, hrf2, hk', by rw [congrFun o3 0, congrFun (o1 999 (by omega)).1 0]; exact hc, by omega⟩
theorem lc_keeps (hs : okI e i) (hI : LI t W M) (ht : t ≤ 512) (kont : ∀ W' M', LI (t + 1) W' M' → X e 60 K_L_law 884 (LB i) [] M' r) : X e 60 K_L_law 460 (LB i) [] M r := by
  obtain ⟨F, I, G, J, ha, hb, ea, eb, c, rfl, hcl, hrf, hk, hc, hct⟩ := hI
  obtain ⟨hpr, i0, i1, ⟨i10, i11⟩, ⟨i20, i21⟩, ⟨i30, i31⟩, ⟨i40, i41⟩, ⟨i50, i51⟩, i60, i61⟩ := hs
  obtain ⟨a, W', hC, hR, hk'⟩ := stp.ask hk (by omega) (b_keeps (p := (e.2.2 (i + 1))) (o := (e.2.2 (i + 2))) (w := (e.2.2 (i + 3))) hk)
  iterate 16 ((refine X.f rfl ?_; first | refine z_iload rfl ?_ | refine z_aload rfl ?_ | refine z_push ?_ | refine z_iadd ?_ | refine z_scr (by with_reducible assumption) (by with_reducible assumption) ?_ | refine z_gotoF rfl ?_ | refine z_i2l ?_ | refine z_lshl ?_ | refine z_land ?_ | refine z_lor ?_ | refine z_ifeq (fun _ => ?_) (fun w => absurd (by with_reducible assumption) w) | refine z_ifeq (fun w => absurd w (by with_reducible assumption)) (fun _ => ?_)))
  refine X.f rfl (z_cv (hC F I G J ha hb ea eb hcl) rfl (by rfl) (by rfl) rfl rfl rfl rfl ?_)
  rintro _ _ ⟨rfl, F1, I1, G1, J1, ha1, hb1, ea1, eb1, rfl, o1, hcl1⟩
  iterate 16 ((refine X.f rfl ?_; first | refine z_iload rfl ?_ | refine z_aload rfl ?_ | refine z_push ?_ | refine z_iadd ?_ | refine z_scr (by with_reducible assumption) (by with_reducible assumption) ?_ | refine z_gotoF rfl ?_ | refine z_i2l ?_ | refine z_lshl ?_ | refine z_land ?_ | refine z_lor ?_ | refine z_ifeq (fun _ => ?_) (fun w => absurd (by with_reducible assumption) w) | refine z_ifeq (fun w => absurd w (by with_reducible assumption)) (fun _ => ?_)))
  refine X.f rfl (z_cv (hR F1 I1 G1 J1 ha1 hb1 ea1 eb1 (hrf.hi o1)) rfl (by rfl) (by rfl) rfl rfl rfl rfl ?_)
  rintro _ _ ⟨rfl, F2, I2, G2, J2, rfl, o2, o3, hrf2⟩
  refine X.f rfl (z_ieq (fun _ => ?_) (fun w => absurd rfl w))
  exact kont _ _ ⟨F2, I2, G2, J2, ha1, hb1, ea1, eb1, c, rfl, hcl1.lo o2, hrf2, hk', by rw [congrFun o3 0, congrFun (o1 999 (by omega)).1 0]; exact hc, by omega⟩
theorem lc_placed (hs : okI e i) (hI : LI t W M) (ht : t ≤ 512) (kont : ∀ W' M', LI (t + 1) W' M' → X e 60 K_L_law 884 (LB i) [] M' r) : X e 60 K_L_law 497 (LB i) [] M r := by
  obtain ⟨F, I, G, J, ha, hb, ea, eb, c, rfl, hcl, hrf, hk, hc, hct⟩ := hI
  obtain ⟨hpr, i0, i1, ⟨i10, i11⟩, ⟨i20, i21⟩, ⟨i30, i31⟩, ⟨i40, i41⟩, ⟨i50, i51⟩, i60, i61⟩ := hs
  obtain ⟨a, W', hC, hR, hk'⟩ := stp.ask hk (by omega) (b_placed (w := (e.2.2 (i + 1))) hk)
  iterate 6 ((refine X.f rfl ?_; first | refine z_iload rfl ?_ | refine z_aload rfl ?_ | refine z_push ?_ | refine z_iadd ?_ | refine z_scr (by with_reducible assumption) (by with_reducible assumption) ?_ | refine z_gotoF rfl ?_ | refine z_i2l ?_ | refine z_lshl ?_ | refine z_land ?_ | refine z_lor ?_ | refine z_ifeq (fun _ => ?_) (fun w => absurd (by with_reducible assumption) w) | refine z_ifeq (fun w => absurd w (by with_reducible assumption)) (fun _ => ?_)))
  refine X.f rfl (z_cv (hC F I G J ha hb ea eb hcl) rfl (by rfl) (by rfl) rfl rfl rfl rfl ?_)
  rintro _ _ ⟨rfl, F1, I1, G1, J1, ha1, hb1, ea1, eb1, rfl, o1, hcl1⟩
  iterate 6 ((refine X.f rfl ?_; first | refine z_iload rfl ?_ | refine z_aload rfl ?_ | refine z_push ?_ | refine z_iadd ?_ | refine z_scr (by with_reducible assumption) (by with_reducible assumption) ?_ | refine z_gotoF rfl ?_ | refine z_i2l ?_ | refine z_lshl ?_ | refine z_land ?_ | refine z_lor ?_ | refine z_ifeq (fun _ => ?_) (fun w => absurd (by with_reducible assumption) w) | refine z_ifeq (fun w => absurd w (by with_reducible assumption)) (fun _ => ?_)))
  refine X.f rfl (z_cv (hR F1 I1 G1 J1 ha1 hb1 ea1 eb1 (hrf.hi o1)) rfl (by rfl) (by rfl) rfl rfl rfl rfl ?_)
  rintro _ _ ⟨rfl, F2, I2, G2, J2, rfl, o2, o3, hrf2⟩
  refine X.f rfl (z_ieq (fun _ => ?_) (fun w => absurd rfl w))
  exact kont _ _ ⟨F2, I2, G2, J2, ha1, hb1, ea1, eb1, c, rfl, hcl1.lo o2, hrf2, hk', by rw [congrFun o3 0, congrFun (o1 999 (by omega)).1 0]; exact hc, by omega⟩
theorem lc_peace (hs : okI e i) (hI : LI t W M) (ht : t ≤ 512) (kont : ∀ W' M', LI (t + 1) W' M' → X e 60 K_L_law 884 (LB i) [] M' r) : X e 60 K_L_law 514 (LB i) [] M r := by
  obtain ⟨F, I, G, J, ha, hb, ea, eb, c, rfl, hcl, hrf, hk, hc, hct⟩ := hI
  obtain ⟨hpr, i0, i1, ⟨i10, i11⟩, ⟨i20, i21⟩, ⟨i30, i31⟩, ⟨i40, i41⟩, ⟨i50, i51⟩, i60, i61⟩ := hs
  obtain ⟨a, W', hC, hR, hk'⟩ := stp.ask hk (by omega) (b_peace hk)
  iterate 1 ((refine X.f rfl ?_; first | refine z_iload rfl ?_ | refine z_aload rfl ?_ | refine z_push ?_ | refine z_iadd ?_ | refine z_scr (by with_reducible assumption) (by with_reducible assumption) ?_ | refine z_gotoF rfl ?_ | refine z_i2l ?_ | refine z_lshl ?_ | refine z_land ?_ | refine z_lor ?_ | refine z_ifeq (fun _ => ?_) (fun w => absurd (by with_reducible assumption) w) | refine z_ifeq (fun w => absurd w (by with_reducible assumption)) (fun _ => ?_)))
  refine X.f rfl (z_cv (hC F I G J ha hb ea eb hcl) rfl (by rfl) (by rfl) rfl rfl rfl rfl ?_)
  rintro _ _ ⟨rfl, F1, I1, G1, J1, ha1, hb1, ea1, eb1, rfl, o1, hcl1⟩
  iterate 1 ((refine X.f rfl ?_; first | refine z_iload rfl ?_ | refine z_aload rfl ?_ | refine z_push ?_ | refine z_iadd ?_ | refine z_scr (by with_reducible assumption) (by with_reducible assumption) ?_ | refine z_gotoF rfl ?_ | refine z_i2l ?_ | refine z_lshl ?_ | refine z_land ?_ | refine z_lor ?_ | refine z_ifeq (fun _ => ?_) (fun w => absurd (by with_reducible assumption) w) | refine z_ifeq (fun w => absurd w (by with_reducible assumption)) (fun _ => ?_)))
  refine X.f rfl (z_cv (hR F1 I1 G1 J1 ha1 hb1 ea1 eb1 (hrf.hi o1)) rfl (by rfl) (by rfl) rfl rfl rfl rfl ?_)
  rintro _ _ ⟨rfl, F2, I2, G2, J2, rfl, o2, o3, hrf2⟩
  refine X.f rfl (z_ieq (fun _ => ?_) (fun w => absurd rfl w))
  exact kont _ _ ⟨F2, I2, G2, J2, ha1, hb1, ea1, eb1, c, rfl, hcl1.lo o2, hrf2, hk', by rw [congrFun o3 0, congrFun (o1 999 (by omega)).1 0]; exact hc, by omega⟩
theorem lc_war (hs : okI e i) (hI : LI t W M) (ht : t ≤ 512) (kont : ∀ W' M', LI (t + 1) W' M' → X e 60 K_L_law 884 (LB i) [] M' r) : X e 60 K_L_law 521 (LB i) [] M r := by
  obtain ⟨F, I, G, J, ha, hb, ea, eb, c, rfl, hcl, hrf, hk, hc, hct⟩ := hI
  obtain ⟨hpr, i0, i1, ⟨i10, i11⟩, ⟨i20, i21⟩, ⟨i30, i31⟩, ⟨i40, i41⟩, ⟨i50, i51⟩, i60, i61⟩ := hs
  obtain ⟨a, W', hC, hR, hk'⟩ := stp.ask hk (by omega) (b_war hk)
  iterate 1 ((refine X.f rfl ?_; first | refine z_iload rfl ?_ | refine z_aload rfl ?_ | refine z_push ?_ | refine z_iadd ?_ | refine z_scr (by with_reducible assumption) (by with_reducible assumption) ?_ | refine z_gotoF rfl ?_ | refine z_i2l ?_ | refine z_lshl ?_ | refine z_land ?_ | refine z_lor ?_ | refine z_ifeq (fun _ => ?_) (fun w => absurd (by with_reducible assumption) w) | refine z_ifeq (fun w => absurd w (by with_reducible assumption)) (fun _ => ?_)))
  refine X.f rfl (z_cv (hC F I G J ha hb ea eb hcl) rfl (by rfl) (by rfl) rfl rfl rfl rfl ?_)
  rintro _ _ ⟨rfl, F1, I1, G1, J1, ha1, hb1, ea1, eb1, rfl, o1, hcl1⟩
  iterate 1 ((refine X.f rfl ?_; first | refine z_iload rfl ?_ | refine z_aload rfl ?_ | refine z_push ?_ | refine z_iadd ?_ | refine z_scr (by with_reducible assumption) (by with_reducible assumption) ?_ | refine z_gotoF rfl ?_ | refine z_i2l ?_ | refine z_lshl ?_ | refine z_land ?_ | refine z_lor ?_ | refine z_ifeq (fun _ => ?_) (fun w => absurd (by with_reducible assumption) w) | refine z_ifeq (fun w => absurd w (by with_reducible assumption)) (fun _ => ?_)))
  refine X.f rfl (z_cv (hR F1 I1 G1 J1 ha1 hb1 ea1 eb1 (hrf.hi o1)) rfl (by rfl) (by rfl) rfl rfl rfl rfl ?_)
  rintro _ _ ⟨rfl, F2, I2, G2, J2, rfl, o2, o3, hrf2⟩
  refine X.f rfl (z_ieq (fun _ => ?_) (fun w => absurd rfl w))
  exact kont _ _ ⟨F2, I2, G2, J2, ha1, hb1, ea1, eb1, c, rfl, hcl1.lo o2, hrf2, hk', by rw [congrFun o3 0, congrFun (o1 999 (by omega)).1 0]; exact hc, by omega⟩
theorem lc_safe (hs : okI e i) (hI : LI t W M) (ht : t ≤ 512) (kont : ∀ W' M', LI (t + 1) W' M' → X e 60 K_L_law 884 (LB i) [] M' r) : X e 60 K_L_law 528 (LB i) [] M r := by
  obtain ⟨F, I, G, J, ha, hb, ea, eb, c, rfl, hcl, hrf, hk, hc, hct⟩ := hI
  obtain ⟨hpr, i0, i1, ⟨i10, i11⟩, ⟨i20, i21⟩, ⟨i30, i31⟩, ⟨i40, i41⟩, ⟨i50, i51⟩, i60, i61⟩ := hs
  obtain ⟨a, W', hC, hR, hk'⟩ := stp.ask hk (by omega) (b_safe hk)
  iterate 1 ((refine X.f rfl ?_; first | refine z_iload rfl ?_ | refine z_aload rfl ?_ | refine z_push ?_ | refine z_iadd ?_ | refine z_scr (by with_reducible assumption) (by with_reducible assumption) ?_ | refine z_gotoF rfl ?_ | refine z_i2l ?_ | refine z_lshl ?_ | refine z_land ?_ | refine z_lor ?_ | refine z_ifeq (fun _ => ?_) (fun w => absurd (by with_reducible assumption) w) | refine z_ifeq (fun w => absurd w (by with_reducible assumption)) (fun _ => ?_)))
  refine X.f rfl (z_cv (hC F I G J ha hb ea eb hcl) rfl (by rfl) (by rfl) rfl rfl rfl rfl ?_)
  rintro _ _ ⟨rfl, F1, I1, G1, J1, ha1, hb1, ea1, eb1, rfl, o1, hcl1⟩
  iterate 1 ((refine X.f rfl ?_; first | refine z_iload rfl ?_ | refine z_aload rfl ?_ | refine z_push ?_ | refine z_iadd ?_ | refine z_scr (by with_reducible assumption) (by with_reducible assumption) ?_ | refine z_gotoF rfl ?_ | refine z_i2l ?_ | refine z_lshl ?_ | refine z_land ?_ | refine z_lor ?_ | refine z_ifeq (fun _ => ?_) (fun w => absurd (by with_reducible assumption) w) | refine z_ifeq (fun w => absurd w (by with_reducible assumption)) (fun _ => ?_)))
  refine X.f rfl (z_cv (hR F1 I1 G1 J1 ha1 hb1 ea1 eb1 (hrf.hi o1)) rfl (by rfl) (by rfl) rfl rfl rfl rfl ?_)
  rintro _ _ ⟨rfl, F2, I2, G2, J2, rfl, o2, o3, hrf2⟩
  refine X.f rfl (z_ieq (fun _ => ?_) (fun w => absurd rfl w))
  exact kont _ _ ⟨F2, I2, G2, J2, ha1, hb1, ea1, eb1, c, rfl, hcl1.lo o2, hrf2, hk', by rw [congrFun o3 0, congrFun (o1 999 (by omega)).1 0]; exact hc, by omega⟩
theorem lc_see (hs : okI e i) (hI : LI t W M) (ht : t ≤ 512) (kont : ∀ W' M', LI (t + 1) W' M' → X e 60 K_L_law 884 (LB i) [] M' r) : X e 60 K_L_law 535 (LB i) [] M r := by
  obtain ⟨F, I, G, J, ha, hb, ea, eb, c, rfl, hcl, hrf, hk, hc, hct⟩ := hI
  obtain ⟨hpr, i0, i1, ⟨i10, i11⟩, ⟨i20, i21⟩, ⟨i30, i31⟩, ⟨i40, i41⟩, ⟨i50, i51⟩, i60, i61⟩ := hs
  by_cases z : (e.2.2 (i + 3)) = 0
  · obtain ⟨a, W', hC, hR, hk'⟩ := b_see (s := (e.2.2 (i + 1))) (tt := (e.2.2 (i + 2))) (lb := 0) hk (by omega) (Or.inl rfl)
    iterate 18 ((refine X.f rfl ?_; first | refine z_iload rfl ?_ | refine z_aload rfl ?_ | refine z_push ?_ | refine z_iadd ?_ | refine z_scr (by with_reducible assumption) (by with_reducible assumption) ?_ | refine z_gotoF rfl ?_ | refine z_i2l ?_ | refine z_lshl ?_ | refine z_land ?_ | refine z_lor ?_ | refine z_ifeq (fun _ => ?_) (fun w => absurd (by with_reducible assumption) w) | refine z_ifeq (fun w => absurd w (by with_reducible assumption)) (fun _ => ?_)))
    refine X.f rfl (z_cv (hC F I G J ha hb ea eb hcl) rfl (by rfl) (by rfl) rfl rfl rfl rfl ?_)
    rintro _ _ ⟨rfl, F1, I1, G1, J1, ha1, hb1, ea1, eb1, rfl, o1, hcl1⟩
    iterate 18 ((refine X.f rfl ?_; first | refine z_iload rfl ?_ | refine z_aload rfl ?_ | refine z_push ?_ | refine z_iadd ?_ | refine z_scr (by with_reducible assumption) (by with_reducible assumption) ?_ | refine z_gotoF rfl ?_ | refine z_i2l ?_ | refine z_lshl ?_ | refine z_land ?_ | refine z_lor ?_ | refine z_ifeq (fun _ => ?_) (fun w => absurd (by with_reducible assumption) w) | refine z_ifeq (fun w => absurd w (by with_reducible assumption)) (fun _ => ?_)))
    refine X.f rfl (z_cv (hR F1 I1 G1 J1 ha1 hb1 ea1 eb1 (hrf.hi o1)) rfl (by rfl) (by rfl) rfl rfl rfl rfl ?_)
    rintro _ _ ⟨rfl, F2, I2, G2, J2, rfl, o2, o3, hrf2⟩
    refine X.f rfl (z_ieq (fun _ => ?_) (fun w => absurd rfl w))
    exact kont _ _ ⟨F2, I2, G2, J2, ha1, hb1, ea1, eb1, c, rfl, hcl1.lo o2, hrf2, hk', by rw [congrFun o3 0, congrFun (o1 999 (by omega)).1 0]; exact hc, by omega⟩
  · obtain ⟨a, W', hC, hR, hk'⟩ := b_see (s := (e.2.2 (i + 1))) (tt := (e.2.2 (i + 2))) (lb := 1) hk (by omega) (Or.inr rfl)
    iterate 19 ((refine X.f rfl ?_; first | refine z_iload rfl ?_ | refine z_aload rfl ?_ | refine z_push ?_ | refine z_iadd ?_ | refine z_scr (by with_reducible assumption) (by with_reducible assumption) ?_ | refine z_gotoF rfl ?_ | refine z_i2l ?_ | refine z_lshl ?_ | refine z_land ?_ | refine z_lor ?_ | refine z_ifeq (fun _ => ?_) (fun w => absurd (by with_reducible assumption) w) | refine z_ifeq (fun w => absurd w (by with_reducible assumption)) (fun _ => ?_)))
    refine X.f rfl (z_cv (hC F I G J ha hb ea eb hcl) rfl (by rfl) (by rfl) rfl rfl rfl rfl ?_)
    rintro _ _ ⟨rfl, F1, I1, G1, J1, ha1, hb1, ea1, eb1, rfl, o1, hcl1⟩
    iterate 19 ((refine X.f rfl ?_; first | refine z_iload rfl ?_ | refine z_aload rfl ?_ | refine z_push ?_ | refine z_iadd ?_ | refine z_scr (by with_reducible assumption) (by with_reducible assumption) ?_ | refine z_gotoF rfl ?_ | refine z_i2l ?_ | refine z_lshl ?_ | refine z_land ?_ | refine z_lor ?_ | refine z_ifeq (fun _ => ?_) (fun w => absurd (by with_reducible assumption) w) | refine z_ifeq (fun w => absurd w (by with_reducible assumption)) (fun _ => ?_)))
    refine X.f rfl (z_cv (hR F1 I1 G1 J1 ha1 hb1 ea1 eb1 (hrf.hi o1)) rfl (by rfl) (by rfl) rfl rfl rfl rfl ?_)
    rintro _ _ ⟨rfl, F2, I2, G2, J2, rfl, o2, o3, hrf2⟩
    refine X.f rfl (z_ieq (fun _ => ?_) (fun w => absurd rfl w))
    exact kont _ _ ⟨F2, I2, G2, J2, ha1, hb1, ea1, eb1, c, rfl, hcl1.lo o2, hrf2, hk', by rw [congrFun o3 0, congrFun (o1 999 (by omega)).1 0]; exact hc, by omega⟩
end UI
