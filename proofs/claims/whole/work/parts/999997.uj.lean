/-! THE LAW: its cases (written by genlaw.py) -/
section UJ
set_option maxRecDepth 10000
variable {e : Bool × Int32 × (Int32 → Int32)} {t : Nat} {r : Option Value → xM → Prop} {i : Int32} {W : XS} {M : xM}
theorem lc_who (hs : okI e i) (hI : LI t W M) (ht : t ≤ 512) (kont : ∀ W' M', LI (t + 1) W' M' → X e 60 K_L_law 884 (LB i) [] M' r) : X e 60 K_L_law 580 (LB i) [] M r := by
  obtain ⟨F, I, G, J, ha, hb, ea, eb, c, rfl, hcl, hrf, hk, hc, hct⟩ := hI
  obtain ⟨hpr, i0, i1, ⟨i10, i11⟩, ⟨i20, i21⟩, ⟨i30, i31⟩, ⟨i40, i41⟩, ⟨i50, i51⟩, i60, i61⟩ := hs
  obtain ⟨a, W', hC, hR, hk'⟩ := stp.ask hk (by omega) (b_who hk)
  iterate 1 ((refine X.f rfl ?_; first | refine z_iload rfl ?_ | refine z_aload rfl ?_ | refine z_push ?_ | refine z_iadd ?_ | refine z_scr (by with_reducible assumption) (by with_reducible assumption) ?_ | refine z_gotoF rfl ?_ | refine z_i2l ?_ | refine z_lshl ?_ | refine z_land ?_ | refine z_lor ?_ | refine z_ifeq (fun _ => ?_) (fun w => absurd (by with_reducible assumption) w) | refine z_ifeq (fun w => absurd w (by with_reducible assumption)) (fun _ => ?_)))
  refine X.f rfl (z_cv (hC F I G J ha hb ea eb hcl) rfl (by rfl) (by rfl) rfl rfl rfl rfl ?_)
  rintro _ _ ⟨rfl, F1, I1, G1, J1, ha1, hb1, ea1, eb1, rfl, o1, hcl1⟩
  iterate 1 ((refine X.f rfl ?_; first | refine z_iload rfl ?_ | refine z_aload rfl ?_ | refine z_push ?_ | refine z_iadd ?_ | refine z_scr (by with_reducible assumption) (by with_reducible assumption) ?_ | refine z_gotoF rfl ?_ | refine z_i2l ?_ | refine z_lshl ?_ | refine z_land ?_ | refine z_lor ?_ | refine z_ifeq (fun _ => ?_) (fun w => absurd (by with_reducible assumption) w) | refine z_ifeq (fun w => absurd w (by with_reducible assumption)) (fun _ => ?_)))
  refine X.f rfl (z_cv (hR F1 I1 G1 J1 ha1 hb1 ea1 eb1 (hrf.hi o1)) rfl (by rfl) (by rfl) rfl rfl rfl rfl ?_)
  rintro _ _ ⟨rfl, F2, I2, G2, J2, rfl, o2, o3, hrf2⟩
  refine X.f rfl (z_ieq (fun _ => ?_) (fun w => absurd rfl w))
  exact kont _ _ ⟨F2, I2, G2, J2, ha1, hb1, ea1, eb1, c, rfl, hcl1.lo o2, hrf2, hk', by rw [congrFun o3 0, congrFun (o1 999 (by omega)).1 0]; exact hc, by omega⟩
theorem lc_ask (hs : okI e i) (hI : LI t W M) (ht : t ≤ 512) (kont : ∀ W' M', LI (t + 1) W' M' → X e 60 K_L_law 884 (LB i) [] M' r) : X e 60 K_L_law 587 (LB i) [] M r := by
  obtain ⟨F, I, G, J, ha, hb, ea, eb, c, rfl, hcl, hrf, hk, hc, hct⟩ := hI
  obtain ⟨hpr, i0, i1, ⟨i10, i11⟩, ⟨i20, i21⟩, ⟨i30, i31⟩, ⟨i40, i41⟩, ⟨i50, i51⟩, i60, i61⟩ := hs
  obtain ⟨a, W', hC, hR, hk'⟩ := stp.ask hk (by omega) (b_ask hk)
  iterate 1 ((refine X.f rfl ?_; first | refine z_iload rfl ?_ | refine z_aload rfl ?_ | refine z_push ?_ | refine z_iadd ?_ | refine z_scr (by with_reducible assumption) (by with_reducible assumption) ?_ | refine z_gotoF rfl ?_ | refine z_i2l ?_ | refine z_lshl ?_ | refine z_land ?_ | refine z_lor ?_ | refine z_ifeq (fun _ => ?_) (fun w => absurd (by with_reducible assumption) w) | refine z_ifeq (fun w => absurd w (by with_reducible assumption)) (fun _ => ?_)))
  refine X.f rfl (z_cv (hC F I G J ha hb ea eb hcl) rfl (by rfl) (by rfl) rfl rfl rfl rfl ?_)
  rintro _ _ ⟨rfl, F1, I1, G1, J1, ha1, hb1, ea1, eb1, rfl, o1, hcl1⟩
  iterate 1 ((refine X.f rfl ?_; first | refine z_iload rfl ?_ | refine z_aload rfl ?_ | refine z_push ?_ | refine z_iadd ?_ | refine z_scr (by with_reducible assumption) (by with_reducible assumption) ?_ | refine z_gotoF rfl ?_ | refine z_i2l ?_ | refine z_lshl ?_ | refine z_land ?_ | refine z_lor ?_ | refine z_ifeq (fun _ => ?_) (fun w => absurd (by with_reducible assumption) w) | refine z_ifeq (fun w => absurd w (by with_reducible assumption)) (fun _ => ?_)))
  refine X.f rfl (z_cv (hR F1 I1 G1 J1 ha1 hb1 ea1 eb1 (hrf.hi o1)) rfl (by rfl) (by rfl) rfl rfl rfl rfl ?_)
  rintro _ _ ⟨rfl, F2, I2, G2, J2, rfl, o2, o3, hrf2⟩
  refine X.f rfl (z_ieq (fun _ => ?_) (fun w => absurd rfl w))
  exact kont _ _ ⟨F2, I2, G2, J2, ha1, hb1, ea1, eb1, c, rfl, hcl1.lo o2, hrf2, hk', by rw [congrFun o3 0, congrFun (o1 999 (by omega)).1 0]; exact hc, by omega⟩
theorem lc_far (hs : okI e i) (hI : LI t W M) (ht : t ≤ 512) (kont : ∀ W' M', LI (t + 1) W' M' → X e 60 K_L_law 884 (LB i) [] M' r) : X e 60 K_L_law 594 (LB i) [] M r := by
  obtain ⟨F, I, G, J, ha, hb, ea, eb, c, rfl, hcl, hrf, hk, hc, hct⟩ := hI
  obtain ⟨hpr, i0, i1, ⟨i10, i11⟩, ⟨i20, i21⟩, ⟨i30, i31⟩, ⟨i40, i41⟩, ⟨i50, i51⟩, i60, i61⟩ := hs
  obtain ⟨a, W', hC, hR, hk'⟩ := stp.ask hk (by omega) (b_far (s := (e.2.2 (i + 1))) (o := (e.2.2 (i + 2))) hk)
  iterate 11 ((refine X.f rfl ?_; first | refine z_iload rfl ?_ | refine z_aload rfl ?_ | refine z_push ?_ | refine z_iadd ?_ | refine z_scr (by with_reducible assumption) (by with_reducible assumption) ?_ | refine z_gotoF rfl ?_ | refine z_i2l ?_ | refine z_lshl ?_ | refine z_land ?_ | refine z_lor ?_ | refine z_ifeq (fun _ => ?_) (fun w => absurd (by with_reducible assumption) w) | refine z_ifeq (fun w => absurd w (by with_reducible assumption)) (fun _ => ?_)))
  refine X.f rfl (z_cv (hC F I G J ha hb ea eb hcl) rfl (by rfl) (by rfl) rfl rfl rfl rfl ?_)
  rintro _ _ ⟨rfl, F1, I1, G1, J1, ha1, hb1, ea1, eb1, rfl, o1, hcl1⟩
  iterate 11 ((refine X.f rfl ?_; first | refine z_iload rfl ?_ | refine z_aload rfl ?_ | refine z_push ?_ | refine z_iadd ?_ | refine z_scr (by with_reducible assumption) (by with_reducible assumption) ?_ | refine z_gotoF rfl ?_ | refine z_i2l ?_ | refine z_lshl ?_ | refine z_land ?_ | refine z_lor ?_ | refine z_ifeq (fun _ => ?_) (fun w => absurd (by with_reducible assumption) w) | refine z_ifeq (fun w => absurd w (by with_reducible assumption)) (fun _ => ?_)))
  refine X.f rfl (z_cv (hR F1 I1 G1 J1 ha1 hb1 ea1 eb1 (hrf.hi o1)) rfl (by rfl) (by rfl) rfl rfl rfl rfl ?_)
  rintro _ _ ⟨rfl, F2, I2, G2, J2, rfl, o2, o3, hrf2⟩
  refine X.f rfl (z_ieq (fun _ => ?_) (fun w => absurd rfl w))
  exact kont _ _ ⟨F2, I2, G2, J2, ha1, hb1, ea1, eb1, c, rfl, hcl1.lo o2, hrf2, hk', by rw [congrFun o3 0, congrFun (o1 999 (by omega)).1 0]; exact hc, by omega⟩
theorem lc_blocks (hs : okI e i) (hI : LI t W M) (ht : t ≤ 512) (kont : ∀ W' M', LI (t + 1) W' M' → X e 60 K_L_law 884 (LB i) [] M' r) : X e 60 K_L_law 621 (LB i) [] M r := by
  obtain ⟨F, I, G, J, ha, hb, ea, eb, c, rfl, hcl, hrf, hk, hc, hct⟩ := hI
  obtain ⟨hpr, i0, i1, ⟨i10, i11⟩, ⟨i20, i21⟩, ⟨i30, i31⟩, ⟨i40, i41⟩, ⟨i50, i51⟩, i60, i61⟩ := hs
  obtain ⟨a, W', hC, hR, hk'⟩ := stp.ask hk (by omega) (b_blocks (w := (e.2.2 (i + 1))) hk)
  iterate 6 ((refine X.f rfl ?_; first | refine z_iload rfl ?_ | refine z_aload rfl ?_ | refine z_push ?_ | refine z_iadd ?_ | refine z_scr (by with_reducible assumption) (by with_reducible assumption) ?_ | refine z_gotoF rfl ?_ | refine z_i2l ?_ | refine z_lshl ?_ | refine z_land ?_ | refine z_lor ?_ | refine z_ifeq (fun _ => ?_) (fun w => absurd (by with_reducible assumption) w) | refine z_ifeq (fun w => absurd w (by with_reducible assumption)) (fun _ => ?_)))
  refine X.f rfl (z_cv (hC F I G J ha hb ea eb hcl) rfl (by rfl) (by rfl) rfl rfl rfl rfl ?_)
  rintro _ _ ⟨rfl, F1, I1, G1, J1, ha1, hb1, ea1, eb1, rfl, o1, hcl1⟩
  iterate 6 ((refine X.f rfl ?_; first | refine z_iload rfl ?_ | refine z_aload rfl ?_ | refine z_push ?_ | refine z_iadd ?_ | refine z_scr (by with_reducible assumption) (by with_reducible assumption) ?_ | refine z_gotoF rfl ?_ | refine z_i2l ?_ | refine z_lshl ?_ | refine z_land ?_ | refine z_lor ?_ | refine z_ifeq (fun _ => ?_) (fun w => absurd (by with_reducible assumption) w) | refine z_ifeq (fun w => absurd w (by with_reducible assumption)) (fun _ => ?_)))
  refine X.f rfl (z_cv (hR F1 I1 G1 J1 ha1 hb1 ea1 eb1 (hrf.hi o1)) rfl (by rfl) (by rfl) rfl rfl rfl rfl ?_)
  rintro _ _ ⟨rfl, F2, I2, G2, J2, rfl, o2, o3, hrf2⟩
  refine X.f rfl (z_ieq (fun _ => ?_) (fun w => absurd rfl w))
  exact kont _ _ ⟨F2, I2, G2, J2, ha1, hb1, ea1, eb1, c, rfl, hcl1.lo o2, hrf2, hk', by rw [congrFun o3 0, congrFun (o1 999 (by omega)).1 0]; exact hc, by omega⟩
theorem lc_rich (hs : okI e i) (hI : LI t W M) (ht : t ≤ 512) (kont : ∀ W' M', LI (t + 1) W' M' → X e 60 K_L_law 884 (LB i) [] M' r) : X e 60 K_L_law 638 (LB i) [] M r := by
  obtain ⟨F, I, G, J, ha, hb, ea, eb, c, rfl, hcl, hrf, hk, hc, hct⟩ := hI
  obtain ⟨hpr, i0, i1, ⟨i10, i11⟩, ⟨i20, i21⟩, ⟨i30, i31⟩, ⟨i40, i41⟩, ⟨i50, i51⟩, i60, i61⟩ := hs
  obtain ⟨a, W', hC, hR, hk'⟩ := stp.ask hk (by omega) (b_rich hk (by omega))
  iterate 1 ((refine X.f rfl ?_; first | refine z_iload rfl ?_ | refine z_aload rfl ?_ | refine z_push ?_ | refine z_iadd ?_ | refine z_scr (by with_reducible assumption) (by with_reducible assumption) ?_ | refine z_gotoF rfl ?_ | refine z_i2l ?_ | refine z_lshl ?_ | refine z_land ?_ | refine z_lor ?_ | refine z_ifeq (fun _ => ?_) (fun w => absurd (by with_reducible assumption) w) | refine z_ifeq (fun w => absurd w (by with_reducible assumption)) (fun _ => ?_)))
  refine X.f rfl (z_cv (hC F I G J ha hb ea eb hcl) rfl (by rfl) (by rfl) rfl rfl rfl rfl ?_)
  rintro _ _ ⟨rfl, F1, I1, G1, J1, ha1, hb1, ea1, eb1, rfl, o1, hcl1⟩
  iterate 1 ((refine X.f rfl ?_; first | refine z_iload rfl ?_ | refine z_aload rfl ?_ | refine z_push ?_ | refine z_iadd ?_ | refine z_scr (by with_reducible assumption) (by with_reducible assumption) ?_ | refine z_gotoF rfl ?_ | refine z_i2l ?_ | refine z_lshl ?_ | refine z_land ?_ | refine z_lor ?_ | refine z_ifeq (fun _ => ?_) (fun w => absurd (by with_reducible assumption) w) | refine z_ifeq (fun w => absurd w (by with_reducible assumption)) (fun _ => ?_)))
  refine X.f rfl (z_cv (hR F1 I1 G1 J1 ha1 hb1 ea1 eb1 (hrf.hi o1)) rfl (by rfl) (by rfl) rfl rfl rfl rfl ?_)
  rintro _ _ ⟨rfl, F2, I2, G2, J2, rfl, o2, o3, hrf2⟩
  refine X.f rfl (z_ieq (fun _ => ?_) (fun w => absurd rfl w))
  exact kont _ _ ⟨F2, I2, G2, J2, ha1, hb1, ea1, eb1, c, rfl, hcl1.lo o2, hrf2, hk', by rw [congrFun o3 0, congrFun (o1 999 (by omega)).1 0]; exact hc, by omega⟩
theorem lc_lone (hs : okI e i) (hI : LI t W M) (ht : t ≤ 512) (kont : ∀ W' M', LI (t + 1) W' M' → X e 60 K_L_law 884 (LB i) [] M' r) : X e 60 K_L_law 645 (LB i) [] M r := by
  obtain ⟨F, I, G, J, ha, hb, ea, eb, c, rfl, hcl, hrf, hk, hc, hct⟩ := hI
  obtain ⟨hpr, i0, i1, ⟨i10, i11⟩, ⟨i20, i21⟩, ⟨i30, i31⟩, ⟨i40, i41⟩, ⟨i50, i51⟩, i60, i61⟩ := hs
  obtain ⟨a, W', hC, hR, hk'⟩ := stp.ask hk (by omega) (b_lone hk)
  iterate 1 ((refine X.f rfl ?_; first | refine z_iload rfl ?_ | refine z_aload rfl ?_ | refine z_push ?_ | refine z_iadd ?_ | refine z_scr (by with_reducible assumption) (by with_reducible assumption) ?_ | refine z_gotoF rfl ?_ | refine z_i2l ?_ | refine z_lshl ?_ | refine z_land ?_ | refine z_lor ?_ | refine z_ifeq (fun _ => ?_) (fun w => absurd (by with_reducible assumption) w) | refine z_ifeq (fun w => absurd w (by with_reducible assumption)) (fun _ => ?_)))
  refine X.f rfl (z_cv (hC F I G J ha hb ea eb hcl) rfl (by rfl) (by rfl) rfl rfl rfl rfl ?_)
  rintro _ _ ⟨rfl, F1, I1, G1, J1, ha1, hb1, ea1, eb1, rfl, o1, hcl1⟩
  iterate 1 ((refine X.f rfl ?_; first | refine z_iload rfl ?_ | refine z_aload rfl ?_ | refine z_push ?_ | refine z_iadd ?_ | refine z_scr (by with_reducible assumption) (by with_reducible assumption) ?_ | refine z_gotoF rfl ?_ | refine z_i2l ?_ | refine z_lshl ?_ | refine z_land ?_ | refine z_lor ?_ | refine z_ifeq (fun _ => ?_) (fun w => absurd (by with_reducible assumption) w) | refine z_ifeq (fun w => absurd w (by with_reducible assumption)) (fun _ => ?_)))
  refine X.f rfl (z_cv (hR F1 I1 G1 J1 ha1 hb1 ea1 eb1 (hrf.hi o1)) rfl (by rfl) (by rfl) rfl rfl rfl rfl ?_)
  rintro _ _ ⟨rfl, F2, I2, G2, J2, rfl, o2, o3, hrf2⟩
  refine X.f rfl (z_ieq (fun _ => ?_) (fun w => absurd rfl w))
  exact kont _ _ ⟨F2, I2, G2, J2, ha1, hb1, ea1, eb1, c, rfl, hcl1.lo o2, hrf2, hk', by rw [congrFun o3 0, congrFun (o1 999 (by omega)).1 0]; exact hc, by omega⟩
theorem lc_row (hs : okI e i) (hI : LI t W M) (ht : t ≤ 512) (kont : ∀ W' M', LI (t + 1) W' M' → X e 60 K_L_law 884 (LB i) [] M' r) : X e 60 K_L_law 652 (LB i) [] M r := by
  obtain ⟨F, I, G, J, ha, hb, ea, eb, c, rfl, hcl, hrf, hk, hc, hct⟩ := hI
  obtain ⟨hpr, i0, i1, ⟨i10, i11⟩, ⟨i20, i21⟩, ⟨i30, i31⟩, ⟨i40, i41⟩, ⟨i50, i51⟩, i60, i61⟩ := hs
  obtain ⟨a, W', hC, hR, hk'⟩ := stp.ask hk (by omega) (b_row (s := (e.2.2 (i + 1))) hk)
  iterate 6 ((refine X.f rfl ?_; first | refine z_iload rfl ?_ | refine z_aload rfl ?_ | refine z_push ?_ | refine z_iadd ?_ | refine z_scr (by with_reducible assumption) (by with_reducible assumption) ?_ | refine z_gotoF rfl ?_ | refine z_i2l ?_ | refine z_lshl ?_ | refine z_land ?_ | refine z_lor ?_ | refine z_ifeq (fun _ => ?_) (fun w => absurd (by with_reducible assumption) w) | refine z_ifeq (fun w => absurd w (by with_reducible assumption)) (fun _ => ?_)))
  refine X.f rfl (z_cv (hC F I G J ha hb ea eb hcl) rfl (by rfl) (by rfl) rfl rfl rfl rfl ?_)
  rintro _ _ ⟨rfl, F1, I1, G1, J1, ha1, hb1, ea1, eb1, rfl, o1, hcl1⟩
  iterate 6 ((refine X.f rfl ?_; first | refine z_iload rfl ?_ | refine z_aload rfl ?_ | refine z_push ?_ | refine z_iadd ?_ | refine z_scr (by with_reducible assumption) (by with_reducible assumption) ?_ | refine z_gotoF rfl ?_ | refine z_i2l ?_ | refine z_lshl ?_ | refine z_land ?_ | refine z_lor ?_ | refine z_ifeq (fun _ => ?_) (fun w => absurd (by with_reducible assumption) w) | refine z_ifeq (fun w => absurd w (by with_reducible assumption)) (fun _ => ?_)))
  refine X.f rfl (z_cv (hR F1 I1 G1 J1 ha1 hb1 ea1 eb1 (hrf.hi o1)) rfl (by rfl) (by rfl) rfl rfl rfl rfl ?_)
  rintro _ _ ⟨rfl, F2, I2, G2, J2, rfl, o2, o3, hrf2⟩
  refine X.f rfl (z_ieq (fun _ => ?_) (fun w => absurd rfl w))
  exact kont _ _ ⟨F2, I2, G2, J2, ha1, hb1, ea1, eb1, c, rfl, hcl1.lo o2, hrf2, hk', by rw [congrFun o3 0, congrFun (o1 999 (by omega)).1 0]; exact hc, by omega⟩
theorem lc_stands (hs : okI e i) (hI : LI t W M) (ht : t ≤ 512) (kont : ∀ W' M', LI (t + 1) W' M' → X e 60 K_L_law 884 (LB i) [] M' r) : X e 60 K_L_law 669 (LB i) [] M r := by
  obtain ⟨F, I, G, J, ha, hb, ea, eb, c, rfl, hcl, hrf, hk, hc, hct⟩ := hI
  obtain ⟨hpr, i0, i1, ⟨i10, i11⟩, ⟨i20, i21⟩, ⟨i30, i31⟩, ⟨i40, i41⟩, ⟨i50, i51⟩, i60, i61⟩ := hs
  obtain ⟨a, W', hC, hR, hk'⟩ := stp.ask hk (by omega) (b_stands hk)
  iterate 1 ((refine X.f rfl ?_; first | refine z_iload rfl ?_ | refine z_aload rfl ?_ | refine z_push ?_ | refine z_iadd ?_ | refine z_scr (by with_reducible assumption) (by with_reducible assumption) ?_ | refine z_gotoF rfl ?_ | refine z_i2l ?_ | refine z_lshl ?_ | refine z_land ?_ | refine z_lor ?_ | refine z_ifeq (fun _ => ?_) (fun w => absurd (by with_reducible assumption) w) | refine z_ifeq (fun w => absurd w (by with_reducible assumption)) (fun _ => ?_)))
  refine X.f rfl (z_cv (hC F I G J ha hb ea eb hcl) rfl (by rfl) (by rfl) rfl rfl rfl rfl ?_)
  rintro _ _ ⟨rfl, F1, I1, G1, J1, ha1, hb1, ea1, eb1, rfl, o1, hcl1⟩
  iterate 1 ((refine X.f rfl ?_; first | refine z_iload rfl ?_ | refine z_aload rfl ?_ | refine z_push ?_ | refine z_iadd ?_ | refine z_scr (by with_reducible assumption) (by with_reducible assumption) ?_ | refine z_gotoF rfl ?_ | refine z_i2l ?_ | refine z_lshl ?_ | refine z_land ?_ | refine z_lor ?_ | refine z_ifeq (fun _ => ?_) (fun w => absurd (by with_reducible assumption) w) | refine z_ifeq (fun w => absurd w (by with_reducible assumption)) (fun _ => ?_)))
  refine X.f rfl (z_cv (hR F1 I1 G1 J1 ha1 hb1 ea1 eb1 (hrf.hi o1)) rfl (by rfl) (by rfl) rfl rfl rfl rfl ?_)
  rintro _ _ ⟨rfl, F2, I2, G2, J2, rfl, o2, o3, hrf2⟩
  refine X.f rfl (z_ieq (fun _ => ?_) (fun w => absurd rfl w))
  exact kont _ _ ⟨F2, I2, G2, J2, ha1, hb1, ea1, eb1, c, rfl, hcl1.lo o2, hrf2, hk', by rw [congrFun o3 0, congrFun (o1 999 (by omega)).1 0]; exact hc, by omega⟩
theorem lc_guards (hs : okI e i) (hI : LI t W M) (ht : t ≤ 512) (kont : ∀ W' M', LI (t + 1) W' M' → X e 60 K_L_law 884 (LB i) [] M' r) : X e 60 K_L_law 676 (LB i) [] M r := by
  obtain ⟨F, I, G, J, ha, hb, ea, eb, c, rfl, hcl, hrf, hk, hc, hct⟩ := hI
  obtain ⟨hpr, i0, i1, ⟨i10, i11⟩, ⟨i20, i21⟩, ⟨i30, i31⟩, ⟨i40, i41⟩, ⟨i50, i51⟩, i60, i61⟩ := hs
  obtain ⟨a, W', hC, hR, hk'⟩ := stp.ask hk (by omega) (b_guards (p := (e.2.2 (i + 1))) hk)
  iterate 6 ((refine X.f rfl ?_; first | refine z_iload rfl ?_ | refine z_aload rfl ?_ | refine z_push ?_ | refine z_iadd ?_ | refine z_scr (by with_reducible assumption) (by with_reducible assumption) ?_ | refine z_gotoF rfl ?_ | refine z_i2l ?_ | refine z_lshl ?_ | refine z_land ?_ | refine z_lor ?_ | refine z_ifeq (fun _ => ?_) (fun w => absurd (by with_reducible assumption) w) | refine z_ifeq (fun w => absurd w (by with_reducible assumption)) (fun _ => ?_)))
  refine X.f rfl (z_cv (hC F I G J ha hb ea eb hcl) rfl (by rfl) (by rfl) rfl rfl rfl rfl ?_)
  rintro _ _ ⟨rfl, F1, I1, G1, J1, ha1, hb1, ea1, eb1, rfl, o1, hcl1⟩
  iterate 6 ((refine X.f rfl ?_; first | refine z_iload rfl ?_ | refine z_aload rfl ?_ | refine z_push ?_ | refine z_iadd ?_ | refine z_scr (by with_reducible assumption) (by with_reducible assumption) ?_ | refine z_gotoF rfl ?_ | refine z_i2l ?_ | refine z_lshl ?_ | refine z_land ?_ | refine z_lor ?_ | refine z_ifeq (fun _ => ?_) (fun w => absurd (by with_reducible assumption) w) | refine z_ifeq (fun w => absurd w (by with_reducible assumption)) (fun _ => ?_)))
  refine X.f rfl (z_cv (hR F1 I1 G1 J1 ha1 hb1 ea1 eb1 (hrf.hi o1)) rfl (by rfl) (by rfl) rfl rfl rfl rfl ?_)
  rintro _ _ ⟨rfl, F2, I2, G2, J2, rfl, o2, o3, hrf2⟩
  refine X.f rfl (z_ieq (fun _ => ?_) (fun w => absurd rfl w))
  exact kont _ _ ⟨F2, I2, G2, J2, ha1, hb1, ea1, eb1, c, rfl, hcl1.lo o2, hrf2, hk', by rw [congrFun o3 0, congrFun (o1 999 (by omega)).1 0]; exact hc, by omega⟩
theorem lc_chance (hs : okI e i) (hI : LI t W M) (ht : t ≤ 512) (kont : ∀ W' M', LI (t + 1) W' M' → X e 60 K_L_law 884 (LB i) [] M' r) : X e 60 K_L_law 693 (LB i) [] M r := by
  obtain ⟨F, I, G, J, ha, hb, ea, eb, c, rfl, hcl, hrf, hk, hc, hct⟩ := hI
  obtain ⟨hpr, i0, i1, ⟨i10, i11⟩, ⟨i20, i21⟩, ⟨i30, i31⟩, ⟨i40, i41⟩, ⟨i50, i51⟩, i60, i61⟩ := hs
  obtain ⟨a, W', hC, hR, hk'⟩ := stp.ask hk (by omega) (b_chance (s := (e.2.2 (i + 1))) (o := (e.2.2 (i + 2))) (w := (e.2.2 (i + 3))) hk)
  iterate 16 ((refine X.f rfl ?_; first | refine z_iload rfl ?_ | refine z_aload rfl ?_ | refine z_push ?_ | refine z_iadd ?_ | refine z_scr (by with_reducible assumption) (by with_reducible assumption) ?_ | refine z_gotoF rfl ?_ | refine z_i2l ?_ | refine z_lshl ?_ | refine z_land ?_ | refine z_lor ?_ | refine z_ifeq (fun _ => ?_) (fun w => absurd (by with_reducible assumption) w) | refine z_ifeq (fun w => absurd w (by with_reducible assumption)) (fun _ => ?_)))
  refine X.f rfl (z_cv (hC F I G J ha hb ea eb hcl) rfl (by rfl) (by rfl) rfl rfl rfl rfl ?_)
  rintro _ _ ⟨rfl, F1, I1, G1, J1, ha1, hb1, ea1, eb1, rfl, o1, hcl1⟩
  iterate 16 ((refine X.f rfl ?_; first | refine z_iload rfl ?_ | refine z_aload rfl ?_ | refine z_push ?_ | refine z_iadd ?_ | refine z_scr (by with_reducible assumption) (by with_reducible assumption) ?_ | refine z_gotoF rfl ?_ | refine z_i2l ?_ | refine z_lshl ?_ | refine z_land ?_ | refine z_lor ?_ | refine z_ifeq (fun _ => ?_) (fun w => absurd (by with_reducible assumption) w) | refine z_ifeq (fun w => absurd w (by with_reducible assumption)) (fun _ => ?_)))
  refine X.f rfl (z_cv (hR F1 I1 G1 J1 ha1 hb1 ea1 eb1 (hrf.hi o1)) rfl (by rfl) (by rfl) rfl rfl rfl rfl ?_)
  rintro _ _ ⟨rfl, F2, I2, G2, J2, rfl, o2, o3, hrf2⟩
  refine X.f rfl (z_ieq (fun _ => ?_) (fun w => absurd rfl w))
  exact kont _ _ ⟨F2, I2, G2, J2, ha1, hb1, ea1, eb1, c, rfl, hcl1.lo o2, hrf2, hk', by rw [congrFun o3 0, congrFun (o1 999 (by omega)).1 0]; exact hc, by omega⟩
theorem lc_seasons (hs : okI e i) (hI : LI t W M) (ht : t ≤ 512) (kont : ∀ W' M', LI (t + 1) W' M' → X e 60 K_L_law 884 (LB i) [] M' r) : X e 60 K_L_law 795 (LB i) [] M r := by
  obtain ⟨F, I, G, J, ha, hb, ea, eb, c, rfl, hcl, hrf, hk, hc, hct⟩ := hI
  obtain ⟨hpr, i0, i1, ⟨i10, i11⟩, ⟨i20, i21⟩, ⟨i30, i31⟩, ⟨i40, i41⟩, ⟨i50, i51⟩, i60, i61⟩ := hs
  obtain ⟨a, W', hC, hR, hk'⟩ := stp.ask hk (by omega) (b_seasons (g := (e.2.2 (i + 1))) (o := (e.2.2 (i + 2))) (w := (e.2.2 (i + 3))) hk)
  iterate 16 ((refine X.f rfl ?_; first | refine z_iload rfl ?_ | refine z_aload rfl ?_ | refine z_push ?_ | refine z_iadd ?_ | refine z_scr (by with_reducible assumption) (by with_reducible assumption) ?_ | refine z_gotoF rfl ?_ | refine z_i2l ?_ | refine z_lshl ?_ | refine z_land ?_ | refine z_lor ?_ | refine z_ifeq (fun _ => ?_) (fun w => absurd (by with_reducible assumption) w) | refine z_ifeq (fun w => absurd w (by with_reducible assumption)) (fun _ => ?_)))
  refine X.f rfl (z_cv (hC F I G J ha hb ea eb hcl) rfl (by rfl) (by rfl) rfl rfl rfl rfl ?_)
  rintro _ _ ⟨rfl, F1, I1, G1, J1, ha1, hb1, ea1, eb1, rfl, o1, hcl1⟩
  iterate 16 ((refine X.f rfl ?_; first | refine z_iload rfl ?_ | refine z_aload rfl ?_ | refine z_push ?_ | refine z_iadd ?_ | refine z_scr (by with_reducible assumption) (by with_reducible assumption) ?_ | refine z_gotoF rfl ?_ | refine z_i2l ?_ | refine z_lshl ?_ | refine z_land ?_ | refine z_lor ?_ | refine z_ifeq (fun _ => ?_) (fun w => absurd (by with_reducible assumption) w) | refine z_ifeq (fun w => absurd w (by with_reducible assumption)) (fun _ => ?_)))
  refine X.f rfl (z_cv (hR F1 I1 G1 J1 ha1 hb1 ea1 eb1 (hrf.hi o1)) rfl (by rfl) (by rfl) rfl rfl rfl rfl ?_)
  rintro _ _ ⟨rfl, F2, I2, G2, J2, rfl, o2, o3, hrf2⟩
  refine X.f rfl (z_ieq (fun _ => ?_) (fun w => absurd rfl w))
  exact kont _ _ ⟨F2, I2, G2, J2, ha1, hb1, ea1, eb1, c, rfl, hcl1.lo o2, hrf2, hk', by rw [congrFun o3 0, congrFun (o1 999 (by omega)).1 0]; exact hc, by omega⟩
theorem lc_mark (hs : okI e i) (hI : LI t W M) (ht : t ≤ 512) (kont : ∀ W' M', LI (t + 1) W' M' → X e 60 K_L_law 884 (LB i) [] M' r) : X e 60 K_L_law 832 (LB i) [] M r := by
  obtain ⟨F, I, G, J, ha, hb, ea, eb, c, rfl, hcl, hrf, hk, hc, hct⟩ := hI
  obtain ⟨hpr, i0, i1, ⟨i10, i11⟩, ⟨i20, i21⟩, ⟨i30, i31⟩, ⟨i40, i41⟩, ⟨i50, i51⟩, i60, i61⟩ := hs
  by_cases z : (e.2.2 (i + 2)) = 0
  · obtain ⟨a, W', hC, hR, hk'⟩ := b_mark (mi := (e.2.2 (i + 1))) (bk := 0) hk (by omega) (Or.inl rfl)
    iterate 13 ((refine X.f rfl ?_; first | refine z_iload rfl ?_ | refine z_aload rfl ?_ | refine z_push ?_ | refine z_iadd ?_ | refine z_scr (by with_reducible assumption) (by with_reducible assumption) ?_ | refine z_gotoF rfl ?_ | refine z_i2l ?_ | refine z_lshl ?_ | refine z_land ?_ | refine z_lor ?_ | refine z_ifeq (fun _ => ?_) (fun w => absurd (by with_reducible assumption) w) | refine z_ifeq (fun w => absurd w (by with_reducible assumption)) (fun _ => ?_)))
    refine X.f rfl (z_cv (hC F I G J ha hb ea eb hcl) rfl (by rfl) (by rfl) rfl rfl rfl rfl ?_)
    rintro _ _ ⟨rfl, F1, I1, G1, J1, ha1, hb1, ea1, eb1, rfl, o1, hcl1⟩
    iterate 13 ((refine X.f rfl ?_; first | refine z_iload rfl ?_ | refine z_aload rfl ?_ | refine z_push ?_ | refine z_iadd ?_ | refine z_scr (by with_reducible assumption) (by with_reducible assumption) ?_ | refine z_gotoF rfl ?_ | refine z_i2l ?_ | refine z_lshl ?_ | refine z_land ?_ | refine z_lor ?_ | refine z_ifeq (fun _ => ?_) (fun w => absurd (by with_reducible assumption) w) | refine z_ifeq (fun w => absurd w (by with_reducible assumption)) (fun _ => ?_)))
    refine X.f rfl (z_cv (hR F1 I1 G1 J1 ha1 hb1 ea1 eb1 (hrf.hi o1)) rfl (by rfl) (by rfl) rfl rfl rfl rfl ?_)
    rintro _ _ ⟨rfl, F2, I2, G2, J2, rfl, o2, o3, hrf2⟩
    refine X.f rfl (z_ieq (fun _ => ?_) (fun w => absurd rfl w))
    exact kont _ _ ⟨F2, I2, G2, J2, ha1, hb1, ea1, eb1, c, rfl, hcl1.lo o2, hrf2, hk', by rw [congrFun o3 0, congrFun (o1 999 (by omega)).1 0]; exact hc, by omega⟩
  · obtain ⟨a, W', hC, hR, hk'⟩ := b_mark (mi := (e.2.2 (i + 1))) (bk := 1) hk (by omega) (Or.inr rfl)
    iterate 14 ((refine X.f rfl ?_; first | refine z_iload rfl ?_ | refine z_aload rfl ?_ | refine z_push ?_ | refine z_iadd ?_ | refine z_scr (by with_reducible assumption) (by with_reducible assumption) ?_ | refine z_gotoF rfl ?_ | refine z_i2l ?_ | refine z_lshl ?_ | refine z_land ?_ | refine z_lor ?_ | refine z_ifeq (fun _ => ?_) (fun w => absurd (by with_reducible assumption) w) | refine z_ifeq (fun w => absurd w (by with_reducible assumption)) (fun _ => ?_)))
    refine X.f rfl (z_cv (hC F I G J ha hb ea eb hcl) rfl (by rfl) (by rfl) rfl rfl rfl rfl ?_)
    rintro _ _ ⟨rfl, F1, I1, G1, J1, ha1, hb1, ea1, eb1, rfl, o1, hcl1⟩
    iterate 14 ((refine X.f rfl ?_; first | refine z_iload rfl ?_ | refine z_aload rfl ?_ | refine z_push ?_ | refine z_iadd ?_ | refine z_scr (by with_reducible assumption) (by with_reducible assumption) ?_ | refine z_gotoF rfl ?_ | refine z_i2l ?_ | refine z_lshl ?_ | refine z_land ?_ | refine z_lor ?_ | refine z_ifeq (fun _ => ?_) (fun w => absurd (by with_reducible assumption) w) | refine z_ifeq (fun w => absurd w (by with_reducible assumption)) (fun _ => ?_)))
    refine X.f rfl (z_cv (hR F1 I1 G1 J1 ha1 hb1 ea1 eb1 (hrf.hi o1)) rfl (by rfl) (by rfl) rfl rfl rfl rfl ?_)
    rintro _ _ ⟨rfl, F2, I2, G2, J2, rfl, o2, o3, hrf2⟩
    refine X.f rfl (z_ieq (fun _ => ?_) (fun w => absurd rfl w))
    exact kont _ _ ⟨F2, I2, G2, J2, ha1, hb1, ea1, eb1, c, rfl, hcl1.lo o2, hrf2, hk', by rw [congrFun o3 0, congrFun (o1 999 (by omega)).1 0]; exact hc, by omega⟩
theorem lc_count (hs : okI e i) (hI : LI t W M) (ht : t ≤ 512) (kont : ∀ W' M', LI (t + 1) W' M' → X e 60 K_L_law 884 (LB i) [] M' r) : X e 60 K_L_law 867 (LB i) [] M r := by
  obtain ⟨F, I, G, J, ha, hb, ea, eb, c, rfl, hcl, hrf, hk, hc, hct⟩ := hI
  obtain ⟨hpr, i0, i1, ⟨i10, i11⟩, ⟨i20, i21⟩, ⟨i30, i31⟩, ⟨i40, i41⟩, ⟨i50, i51⟩, i60, i61⟩ := hs
  obtain ⟨a, W', hC, hR, hk'⟩ := stp.ask hk (by omega) (b_count (w := (e.2.2 (i + 1))) hk)
  iterate 6 ((refine X.f rfl ?_; first | refine z_iload rfl ?_ | refine z_aload rfl ?_ | refine z_push ?_ | refine z_iadd ?_ | refine z_scr (by with_reducible assumption) (by with_reducible assumption) ?_ | refine z_gotoF rfl ?_ | refine z_i2l ?_ | refine z_lshl ?_ | refine z_land ?_ | refine z_lor ?_ | refine z_ifeq (fun _ => ?_) (fun w => absurd (by with_reducible assumption) w) | refine z_ifeq (fun w => absurd w (by with_reducible assumption)) (fun _ => ?_)))
  refine X.f rfl (z_cv (hC F I G J ha hb ea eb hcl) rfl (by rfl) (by rfl) rfl rfl rfl rfl ?_)
  rintro _ _ ⟨rfl, F1, I1, G1, J1, ha1, hb1, ea1, eb1, rfl, o1, hcl1⟩
  iterate 6 ((refine X.f rfl ?_; first | refine z_iload rfl ?_ | refine z_aload rfl ?_ | refine z_push ?_ | refine z_iadd ?_ | refine z_scr (by with_reducible assumption) (by with_reducible assumption) ?_ | refine z_gotoF rfl ?_ | refine z_i2l ?_ | refine z_lshl ?_ | refine z_land ?_ | refine z_lor ?_ | refine z_ifeq (fun _ => ?_) (fun w => absurd (by with_reducible assumption) w) | refine z_ifeq (fun w => absurd w (by with_reducible assumption)) (fun _ => ?_)))
  refine X.f rfl (z_cv (hR F1 I1 G1 J1 ha1 hb1 ea1 eb1 (hrf.hi o1)) rfl (by rfl) (by rfl) rfl rfl rfl rfl ?_)
  rintro _ _ ⟨rfl, F2, I2, G2, J2, rfl, o2, o3, hrf2⟩
  refine X.f rfl (z_ieq (fun _ => ?_) (fun w => absurd rfl w))
  exact kont _ _ ⟨F2, I2, G2, J2, ha1, hb1, ea1, eb1, c, rfl, hcl1.lo o2, hrf2, hk', by rw [congrFun o3 0, congrFun (o1 999 (by omega)).1 0]; exact hc, by omega⟩
end UJ
