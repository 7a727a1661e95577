/-! THE LAW: rests, the loop (written by genlaw.py) -/
section UK
set_option maxRecDepth 10000
variable {e : Bool × Int32 × (Int32 → Int32)} {d t : Nat} {K : List xA} {ix : Nat} {L : xL} {st : List Value} {r : Option Value → xM → Prop} {i : Int32} {W : XS} {M : xM} {F F' : Nat → Nat → Int32} {I I' : Nat → Int32 → Int32} {J J' : Nat → Int32 → Int64} {G : Nat → Nat → Int64} {ha hb ea eb : Nat}
theorem rfR.same (f2 : F' 226 2 = F 226 2) (f18 : F' 226 18 = F 226 18) (f25 : F' 226 25 = F 226 25) (j1 : J' 231 = J 231) (j5 : J' 235 = J 235) (h : rfR F I J W) : rfR F' I J' W := by
  unfold rfR at *
  rw [f2, f18, f25, j1, j5]
  exact h
theorem xvJ_ne {i : Int32} {x : Int64} {c b : Nat} (h : b ≠ c) : xv J c i x b = J b := by
  funext z
  unfold xv
  rw [if_neg (fun q => h q.1)]
theorem LI.up (h : LI t W M) (ht : t ≤ 512) : LI (t + 1) W M := by
  obtain ⟨F, I, G, J, ha, hb, ea, eb, c, rfl, hcl, hrf, hk, hc, hct⟩ := h
  exact ⟨F, I, G, J, ha, hb, ea, eb, c, rfl, hcl, hrf, hk.mono (by omega) (by omega), hc, by omega⟩
theorem LI.count {c : Nat} {x : Int32} (hcl : clR F I J ha hb ea eb W) (hrf : rfR F I J W) (hk : okX t W) (ht : t ≤ 512) (hc : F 999 0 = nI c) (hct : c ≤ t) (hJ : ∀ a, a ≠ 249 → J' a = J a) : LI (t + 1) W (xu (xu F 999 0 (F 999 0 + 1)) 226 0 x, I, G, J', P0 ha hb ea eb, Q0, S0) := by
  refine ⟨_, I, G, J', ha, hb, ea, eb, c + 1, rfl, hcl.lo (fun a h => ⟨?_, rfl, hJ a (by omega)⟩), hrf.same ?_ ?_ ?_ (hJ 231 (by decide)) (hJ 235 (by decide)), hk.mono (by omega) (by omega), ?_, by omega⟩
  · rw [xu_other (by omega), xu_other (by omega)]
  · rw [xu_ne (by omega), xu_ne (by omega)]
  · rw [xu_ne (by omega), xu_ne (by omega)]
  · rw [xu_ne (by omega), xu_ne (by omega)]
  · rw [xu_ne (by omega), xu_same, hc]
    exact (nI_succ _).symm
set_option maxHeartbeats 4000000 in
theorem lc_rests (hs : okI e i) (hI : LI t W M) (ht : t ≤ 512) (kont : ∀ W' M', LI (t + 1) W' M' → X e 60 K_L_law 884 (LB i) [] M' r) : X e 60 K_L_law 730 (LB i) [] M r := by
  obtain ⟨F, I, G, J, ha, hb, ea, eb, c, rfl, hcl, hrf, hk, hc, hct⟩ := hI
  obtain ⟨hpr, i0, i1, ⟨i10, i11⟩, ⟨i20, i21⟩, ⟨i30, i31⟩, ⟨i40, i41⟩, ⟨i50, i51⟩, i60, i61⟩ := hs
  have c0 : 0 ≤ F 999 0 := by rw [hc]; exact nI_pos' (by omega)
  have c9 : F 999 0 < 900 := by rw [hc]; exact (nI_ltI (b := 900) (by omega) (by omega)).mpr (by omega)
  cases hR : rsA (e.2.2 (i + 1)) (e.2.2 (i + 2)) (e.2.2 (i + 3)) (e.2.2 (i + 4)) with
  | none =>
    have kr := k_rests (e := e) (F := xu F 999 0 (F 999 0 + 1)) (I := I) (G := G) (J := J) (ha := ha) (hb := hb) (ea := ea) (eb := eb) (l := e.2.2 (i + 1)) (s := e.2.2 (i + 2)) (b0 := e.2.2 (i + 3)) (u := e.2.2 (i + 4))
    rw [hR] at kr
    iterate 22 ((refine X.f rfl ?_; first | refine z_iload rfl ?_ | refine z_aload rfl ?_ | refine z_push ?_ | refine z_iadd ?_ | refine z_scr (by with_reducible assumption) (by with_reducible assumption) ?_ | refine z_gotoF rfl ?_ | refine z_i2l ?_ | refine z_lshl ?_ | refine z_land ?_ | refine z_lor ?_ | refine z_ifeq (fun _ => ?_) (fun w => absurd (by with_reducible assumption) w) | refine z_ifeq (fun w => absurd w (by with_reducible assumption)) (fun _ => ?_)))
    refine X.f rfl (z_rests hpr c0 c9 rfl ?_)
    rw [hR]
    show X e 60 K_L_law 753 (LB i) [.int 1] (xu F 999 0 (F 999 0 + 1), I, G, J, P0 ha hb ea eb, Q0, S0) r
    refine X.f rfl (z_istore rfl ?_)
    iterate 21 ((refine X.f rfl ?_; first | refine z_iload rfl ?_ | refine z_aload rfl ?_ | refine z_push ?_ | refine z_iadd ?_ | refine z_scr (by with_reducible assumption) (by with_reducible assumption) ?_ | refine z_gotoF rfl ?_ | refine z_i2l ?_ | refine z_lshl ?_ | refine z_land ?_ | refine z_lor ?_ | refine z_ifeq (fun _ => ?_) (fun w => absurd (by with_reducible assumption) w) | refine z_ifeq (fun w => absurd w (by with_reducible assumption)) (fun _ => ?_)))
    refine X.f rfl (z_cv kr rfl (by rfl) (by rfl) rfl rfl rfl rfl ?_)
    rintro _ _ ⟨rfl, rfl⟩
    refine X.f rfl (z_istore rfl ?_)
    (refine X.f rfl ?_; first | refine z_iload rfl ?_ | refine z_aload rfl ?_ | refine z_push ?_ | refine z_iadd ?_ | refine z_scr (by with_reducible assumption) (by with_reducible assumption) ?_ | refine z_gotoF rfl ?_ | refine z_i2l ?_ | refine z_lshl ?_ | refine z_land ?_ | refine z_lor ?_ | refine z_ifeq (fun _ => ?_) (fun w => absurd (by with_reducible assumption) w) | refine z_ifeq (fun w => absurd w (by with_reducible assumption)) (fun _ => ?_))
    refine X.f rfl (z_cav k_thrown rfl (by rfl) (by rfl) rfl rfl rfl rfl ?_)
    (refine X.f rfl ?_; first | refine z_iload rfl ?_ | refine z_aload rfl ?_ | refine z_push ?_ | refine z_iadd ?_ | refine z_scr (by with_reducible assumption) (by with_reducible assumption) ?_ | refine z_gotoF rfl ?_ | refine z_i2l ?_ | refine z_lshl ?_ | refine z_land ?_ | refine z_lor ?_ | refine z_ifeq (fun _ => ?_) (fun w => absurd (by with_reducible assumption) w) | refine z_ifeq (fun w => absurd w (by with_reducible assumption)) (fun _ => ?_))
    refine X.f rfl (z_ieq (fun _ => ?_) (fun w => absurd xu_same w))
    (refine X.f rfl ?_; first | refine z_iload rfl ?_ | refine z_aload rfl ?_ | refine z_push ?_ | refine z_iadd ?_ | refine z_scr (by with_reducible assumption) (by with_reducible assumption) ?_ | refine z_gotoF rfl ?_ | refine z_i2l ?_ | refine z_lshl ?_ | refine z_land ?_ | refine z_lor ?_ | refine z_ifeq (fun _ => ?_) (fun w => absurd (by with_reducible assumption) w) | refine z_ifeq (fun w => absurd w (by with_reducible assumption)) (fun _ => ?_))
    refine X.f rfl (z_ifne (fun _ => ?_) (fun w => absurd (by decide) w))
    (refine X.f rfl ?_; first | refine z_iload rfl ?_ | refine z_aload rfl ?_ | refine z_push ?_ | refine z_iadd ?_ | refine z_scr (by with_reducible assumption) (by with_reducible assumption) ?_ | refine z_gotoF rfl ?_ | refine z_i2l ?_ | refine z_lshl ?_ | refine z_land ?_ | refine z_lor ?_ | refine z_ifeq (fun _ => ?_) (fun w => absurd (by with_reducible assumption) w) | refine z_ifeq (fun w => absurd w (by with_reducible assumption)) (fun _ => ?_))
    exact X.weak (L := LB i) (by repeat (first | exact trivial | refine ⟨rfl, ?_⟩)) (kont W _ (LI.count hcl hrf hk ht hc hct (fun a _ => rfl)))
  | some v =>
    have kr := k_rests (e := e) (F := xu F 999 0 (F 999 0 + 1)) (I := I) (G := G) (J := xv J 249 0 v.toInt64) (ha := ha) (hb := hb) (ea := ea) (eb := eb) (l := e.2.2 (i + 1)) (s := e.2.2 (i + 2)) (b0 := e.2.2 (i + 3)) (u := e.2.2 (i + 4))
    rw [hR] at kr
    iterate 22 ((refine X.f rfl ?_; first | refine z_iload rfl ?_ | refine z_aload rfl ?_ | refine z_push ?_ | refine z_iadd ?_ | refine z_scr (by with_reducible assumption) (by with_reducible assumption) ?_ | refine z_gotoF rfl ?_ | refine z_i2l ?_ | refine z_lshl ?_ | refine z_land ?_ | refine z_lor ?_ | refine z_ifeq (fun _ => ?_) (fun w => absurd (by with_reducible assumption) w) | refine z_ifeq (fun w => absurd w (by with_reducible assumption)) (fun _ => ?_)))
    refine X.f rfl (z_rests hpr c0 c9 rfl ?_)
    rw [hR]
    show X e 60 K_L_law 753 (LB i) [.int 0] (xu F 999 0 (F 999 0 + 1), I, G, xv J 249 0 v.toInt64, P0 ha hb ea eb, Q0, S0) r
    refine X.f rfl (z_istore rfl ?_)
    iterate 21 ((refine X.f rfl ?_; first | refine z_iload rfl ?_ | refine z_aload rfl ?_ | refine z_push ?_ | refine z_iadd ?_ | refine z_scr (by with_reducible assumption) (by with_reducible assumption) ?_ | refine z_gotoF rfl ?_ | refine z_i2l ?_ | refine z_lshl ?_ | refine z_land ?_ | refine z_lor ?_ | refine z_ifeq (fun _ => ?_) (fun w => absurd (by with_reducible assumption) w) | refine z_ifeq (fun w => absurd w (by with_reducible assumption)) (fun _ => ?_)))
    refine X.f rfl (z_cv kr rfl (by rfl) (by rfl) rfl rfl rfl rfl ?_)
    rintro _ _ ⟨rfl, rfl⟩
    refine X.f rfl (z_istore rfl ?_)
    (refine X.f rfl ?_; first | refine z_iload rfl ?_ | refine z_aload rfl ?_ | refine z_push ?_ | refine z_iadd ?_ | refine z_scr (by with_reducible assumption) (by with_reducible assumption) ?_ | refine z_gotoF rfl ?_ | refine z_i2l ?_ | refine z_lshl ?_ | refine z_land ?_ | refine z_lor ?_ | refine z_ifeq (fun _ => ?_) (fun w => absurd (by with_reducible assumption) w) | refine z_ifeq (fun w => absurd w (by with_reducible assumption)) (fun _ => ?_))
    refine X.f rfl (z_cav k_thrown rfl (by rfl) (by rfl) rfl rfl rfl rfl ?_)
    (refine X.f rfl ?_; first | refine z_iload rfl ?_ | refine z_aload rfl ?_ | refine z_push ?_ | refine z_iadd ?_ | refine z_scr (by with_reducible assumption) (by with_reducible assumption) ?_ | refine z_gotoF rfl ?_ | refine z_i2l ?_ | refine z_lshl ?_ | refine z_land ?_ | refine z_lor ?_ | refine z_ifeq (fun _ => ?_) (fun w => absurd (by with_reducible assumption) w) | refine z_ifeq (fun w => absurd w (by with_reducible assumption)) (fun _ => ?_))
    refine X.f rfl (z_ieq (fun _ => ?_) (fun w => absurd xu_same w))
    (refine X.f rfl ?_; first | refine z_iload rfl ?_ | refine z_aload rfl ?_ | refine z_push ?_ | refine z_iadd ?_ | refine z_scr (by with_reducible assumption) (by with_reducible assumption) ?_ | refine z_gotoF rfl ?_ | refine z_i2l ?_ | refine z_lshl ?_ | refine z_land ?_ | refine z_lor ?_ | refine z_ifeq (fun _ => ?_) (fun w => absurd (by with_reducible assumption) w) | refine z_ifeq (fun w => absurd w (by with_reducible assumption)) (fun _ => ?_))
    refine X.f rfl (z_ifne (fun w => absurd rfl w) (fun _ => ?_))
    (refine X.f rfl ?_; first | refine z_iload rfl ?_ | refine z_aload rfl ?_ | refine z_push ?_ | refine z_iadd ?_ | refine z_scr (by with_reducible assumption) (by with_reducible assumption) ?_ | refine z_gotoF rfl ?_ | refine z_i2l ?_ | refine z_lshl ?_ | refine z_land ?_ | refine z_lor ?_ | refine z_ifeq (fun _ => ?_) (fun w => absurd (by with_reducible assumption) w) | refine z_ifeq (fun w => absurd w (by with_reducible assumption)) (fun _ => ?_))
    (refine X.f rfl ?_; first | refine z_iload rfl ?_ | refine z_aload rfl ?_ | refine z_push ?_ | refine z_iadd ?_ | refine z_scr (by with_reducible assumption) (by with_reducible assumption) ?_ | refine z_gotoF rfl ?_ | refine z_i2l ?_ | refine z_lshl ?_ | refine z_land ?_ | refine z_lor ?_ | refine z_ifeq (fun _ => ?_) (fun w => absurd (by with_reducible assumption) w) | refine z_ifeq (fun w => absurd w (by with_reducible assumption)) (fun _ => ?_))
    refine X.f rfl (z_laload rfl (by decide) (by decide) (by decide) ?_)
    (refine X.f rfl ?_; first | refine z_iload rfl ?_ | refine z_aload rfl ?_ | refine z_push ?_ | refine z_iadd ?_ | refine z_scr (by with_reducible assumption) (by with_reducible assumption) ?_ | refine z_gotoF rfl ?_ | refine z_i2l ?_ | refine z_lshl ?_ | refine z_land ?_ | refine z_lor ?_ | refine z_ifeq (fun _ => ?_) (fun w => absurd (by with_reducible assumption) w) | refine z_ifeq (fun w => absurd w (by with_reducible assumption)) (fun _ => ?_))
    (refine X.f rfl ?_; first | refine z_iload rfl ?_ | refine z_aload rfl ?_ | refine z_push ?_ | refine z_iadd ?_ | refine z_scr (by with_reducible assumption) (by with_reducible assumption) ?_ | refine z_gotoF rfl ?_ | refine z_i2l ?_ | refine z_lshl ?_ | refine z_land ?_ | refine z_lor ?_ | refine z_ifeq (fun _ => ?_) (fun w => absurd (by with_reducible assumption) w) | refine z_ifeq (fun w => absurd w (by with_reducible assumption)) (fun _ => ?_))
    refine X.f rfl (z_lcmp ?_)
    have ej : xv J 249 0 v.toInt64 249 0 = v.toInt64 := if_pos ⟨rfl, rfl⟩
    have el : lg_cmp (xv J 249 0 v.toInt64 249 0) v.toInt64 = 0 := by
      rw [ej]
      simp [lg_cmp]
    refine X.f rfl (z_ifeq (fun _ => ?_) (fun w => absurd el w))
    (refine X.f rfl ?_; first | refine z_iload rfl ?_ | refine z_aload rfl ?_ | refine z_push ?_ | refine z_iadd ?_ | refine z_scr (by with_reducible assumption) (by with_reducible assumption) ?_ | refine z_gotoF rfl ?_ | refine z_i2l ?_ | refine z_lshl ?_ | refine z_land ?_ | refine z_lor ?_ | refine z_ifeq (fun _ => ?_) (fun w => absurd (by with_reducible assumption) w) | refine z_ifeq (fun w => absurd w (by with_reducible assumption)) (fun _ => ?_))
    exact X.weak (L := LB i) (by repeat (first | exact trivial | refine ⟨rfl, ?_⟩)) (kont W _ (LI.count hcl hrf hk ht hc hct (fun a h => xvJ_ne h)))
theorem X.at_ {a b : Nat} (h : a = b) (k : X e d K b L st M r) : X e d K a L st M r := h ▸ k
theorem law_case {k : Nat} (hk : k < 39) (hok : okI e i) (hI : LI t W M) (ht : t ≤ 512) (kont : ∀ W' M', LI (t + 1) W' M' → X e 60 K_L_law 884 (LB i) [] M' r) : X e 60 K_L_law (xswi 100 884 [25, 134, 141, 148, 175, 202, 229, 256, 273, 300, 307, 314, 331, 348, 375, 382, 389, 406, 423, 460, 497, 514, 521, 528, 535, 580, 587, 594, 621, 638, 645, 652, 669, 676, 693, 730, 795, 832, 867] (nI k)) (LB i) [] M r := by
    have : k = 0 ∨ k = 1 ∨ k = 2 ∨ k = 3 ∨ k = 4 ∨ k = 5 ∨ k = 6 ∨ k = 7 ∨ k = 8 ∨ k = 9 ∨ k = 10 ∨ k = 11 ∨ k = 12 ∨ k = 13 ∨ k = 14 ∨ k = 15 ∨ k = 16 ∨ k = 17 ∨ k = 18 ∨ k = 19 ∨ k = 20 ∨ k = 21 ∨ k = 22 ∨ k = 23 ∨ k = 24 ∨ k = 25 ∨ k = 26 ∨ k = 27 ∨ k = 28 ∨ k = 29 ∨ k = 30 ∨ k = 31 ∨ k = 32 ∨ k = 33 ∨ k = 34 ∨ k = 35 ∨ k = 36 ∨ k = 37 ∨ k = 38 := by omega
    rcases this with rfl | rfl | rfl | rfl | rfl | rfl | rfl | rfl | rfl | rfl | rfl | rfl | rfl | rfl | rfl | rfl | rfl | rfl | rfl | rfl | rfl | rfl | rfl | rfl | rfl | rfl | rfl | rfl | rfl | rfl | rfl | rfl | rfl | rfl | rfl | rfl | rfl | rfl | rfl
    · exact X.at_ (b := 25) (by decide +kernel) (lc_feed hok hI (by omega) kont)
    · exact X.at_ (b := 134) (by decide +kernel) (lc_hall hok hI (by omega) kont)
    · exact X.at_ (b := 141) (by decide +kernel) (lc_evening hok hI (by omega) kont)
    · exact X.at_ (b := 148) (by decide +kernel) (lc_seat hok hI (by omega) kont)
    · exact X.at_ (b := 175) (by decide +kernel) (lc_person hok hI (by omega) kont)
    · exact X.at_ (b := 202) (by decide +kernel) (lc_lay hok hI (by omega) kont)
    · exact X.at_ (b := 229) (by decide +kernel) (lc_sit hok hI (by omega) kont)
    · exact X.at_ (b := 256) (by decide +kernel) (lc_rise hok hI (by omega) kont)
    · exact X.at_ (b := 273) (by decide +kernel) (lc_grate hok hI (by omega) kont)
    · exact X.at_ (b := 300) (by decide +kernel) (lc_hour hok hI (by omega) kont)
    · exact X.at_ (b := 307) (by decide +kernel) (lc_undo hok hI (by omega) kont)
    · exact X.at_ (b := 314) (by decide +kernel) (lc_judged hok hI (by omega) kont)
    · exact X.at_ (b := 331) (by decide +kernel) (lc_left hok hI (by omega) kont)
    · exact X.at_ (b := 348) (by decide +kernel) (lc_later hok hI (by omega) kont)
    · exact X.at_ (b := 375) (by decide +kernel) (lc_first hok hI (by omega) kont)
    · exact X.at_ (b := 382) (by decide +kernel) (lc_empties hok hI (by omega) kont)
    · exact X.at_ (b := 389) (by decide +kernel) (lc_most hok hI (by omega) kont)
    · exact X.at_ (b := 406) (by decide +kernel) (lc_could hok hI (by omega) kont)
    · exact X.at_ (b := 423) (by decide +kernel) (lc_needs hok hI (by omega) kont)
    · exact X.at_ (b := 460) (by decide +kernel) (lc_keeps hok hI (by omega) kont)
    · exact X.at_ (b := 497) (by decide +kernel) (lc_placed hok hI (by omega) kont)
    · exact X.at_ (b := 514) (by decide +kernel) (lc_peace hok hI (by omega) kont)
    · exact X.at_ (b := 521) (by decide +kernel) (lc_war hok hI (by omega) kont)
    · exact X.at_ (b := 528) (by decide +kernel) (lc_safe hok hI (by omega) kont)
    · exact X.at_ (b := 535) (by decide +kernel) (lc_see hok hI (by omega) kont)
    · exact X.at_ (b := 580) (by decide +kernel) (lc_who hok hI (by omega) kont)
    · exact X.at_ (b := 587) (by decide +kernel) (lc_ask hok hI (by omega) kont)
    · exact X.at_ (b := 594) (by decide +kernel) (lc_far hok hI (by omega) kont)
    · exact X.at_ (b := 621) (by decide +kernel) (lc_blocks hok hI (by omega) kont)
    · exact X.at_ (b := 638) (by decide +kernel) (lc_rich hok hI (by omega) kont)
    · exact X.at_ (b := 645) (by decide +kernel) (lc_lone hok hI (by omega) kont)
    · exact X.at_ (b := 652) (by decide +kernel) (lc_row hok hI (by omega) kont)
    · exact X.at_ (b := 669) (by decide +kernel) (lc_stands hok hI (by omega) kont)
    · exact X.at_ (b := 676) (by decide +kernel) (lc_guards hok hI (by omega) kont)
    · exact X.at_ (b := 693) (by decide +kernel) (lc_chance hok hI (by omega) kont)
    · exact X.at_ (b := 730) (by decide +kernel) (lc_rests hok hI (by omega) kont)
    · exact X.at_ (b := 795) (by decide +kernel) (lc_seasons hok hI (by omega) kont)
    · exact X.at_ (b := 832) (by decide +kernel) (lc_mark hok hI (by omega) kont)
    · exact X.at_ (b := 867) (by decide +kernel) (lc_count hok hI (by omega) kont)
set_option maxHeartbeats 4000000 in
theorem law_loop {n : Nat} (hpr : e.1 = true) (hl : e.2.1 = nI n) (hn : n ≤ 3584) (hr : ∀ W M t, LI t W M → t ≤ 513 → r (some (.int 1)) M) : ∀ (m t : Nat) (W : XS) (M : xM), m + t = 513 → LI t W M → X e 60 K_L_law 13 (LB (nI (7 * t))) [] M r
  | m, t, W, M, hm, hI => by
    (refine X.f rfl ?_; first | refine z_iload rfl ?_ | refine z_aload rfl ?_ | refine z_push ?_ | refine z_iadd ?_ | refine z_scr (by with_reducible assumption) (by with_reducible assumption) ?_ | refine z_gotoF rfl ?_ | refine z_i2l ?_ | refine z_lshl ?_ | refine z_land ?_ | refine z_lor ?_ | refine z_ifeq (fun _ => ?_) (fun w => absurd (by with_reducible assumption) w) | refine z_ifeq (fun w => absurd w (by with_reducible assumption)) (fun _ => ?_))
    (refine X.f rfl ?_; first | refine z_iload rfl ?_ | refine z_aload rfl ?_ | refine z_push ?_ | refine z_iadd ?_ | refine z_scr (by with_reducible assumption) (by with_reducible assumption) ?_ | refine z_gotoF rfl ?_ | refine z_i2l ?_ | refine z_lshl ?_ | refine z_land ?_ | refine z_lor ?_ | refine z_ifeq (fun _ => ?_) (fun w => absurd (by with_reducible assumption) w) | refine z_ifeq (fun w => absurd w (by with_reducible assumption)) (fun _ => ?_))
    refine X.f rfl (z_scl ?_)
    (refine X.f rfl ?_; first | refine z_iload rfl ?_ | refine z_aload rfl ?_ | refine z_push ?_ | refine z_iadd ?_ | refine z_scr (by with_reducible assumption) (by with_reducible assumption) ?_ | refine z_gotoF rfl ?_ | refine z_i2l ?_ | refine z_lshl ?_ | refine z_land ?_ | refine z_lor ?_ | refine z_ifeq (fun _ => ?_) (fun w => absurd (by with_reducible assumption) w) | refine z_ifeq (fun w => absurd w (by with_reducible assumption)) (fun _ => ?_))
    refine X.f rfl (z_isub ?_)
    have n0 : 0 ≤ nI n := nI_pos' (by omega)
    have n1 : nI n ≤ 3584 := (nI_leI (b := 3584) (by omega) (by omega)).mpr hn
    have t0 : 0 ≤ nI (7 * t) := nI_pos' (by omega)
    have t1 : nI (7 * t) ≤ 3591 := (nI_leI (b := 3591) (by omega) (by omega)).mpr (by omega)
    have e7 : nI (7 * (t + 1)) = nI (7 * t) + 7 := by
      rw [show 7 * (t + 1) = 7 * t + 7 by omega, nI_addN]
      rfl
    refine X.f rfl (z_igt (fun _ => ?_) (fun c => ?_))
    · (refine X.f rfl ?_; first | refine z_iload rfl ?_ | refine z_aload rfl ?_ | refine z_push ?_ | refine z_iadd ?_ | refine z_scr (by with_reducible assumption) (by with_reducible assumption) ?_ | refine z_gotoF rfl ?_ | refine z_i2l ?_ | refine z_lshl ?_ | refine z_land ?_ | refine z_lor ?_ | refine z_ifeq (fun _ => ?_) (fun w => absurd (by with_reducible assumption) w) | refine z_ifeq (fun w => absurd w (by with_reducible assumption)) (fun _ => ?_))
      exact x_ret (v := some (.int 1)) rfl rfl (hr W M t hI (by omega))
    · rw [hl] at c
      have c7 : nI (7 * (t + 1)) ≤ nI n := by
        rw [e7]
        grind
      have ct : 7 * (t + 1) ≤ n := (nI_leI (by omega) (by omega)).mp c7
      have cl : nI (7 * t) + 7 ≤ e.2.1 := by rw [hl, ← e7]; exact c7
      have hl' : e.2.1 ≤ 3584 := by rw [hl]; exact n1
      have kont : ∀ W' M', LI (t + 1) W' M' → X e 60 K_L_law 884 (LB (nI (7 * t))) [] M' r := fun W' M' h' => by
        refine X.f rfl (z_inc83 rfl ?_)
        refine X.f rfl (z_goto ?_)
        match m, hm with
        | 0, hm => omega
        | m + 1, hm =>
          have := law_loop hpr hl hn hr m (t + 1) W' M' (by omega) h'
          rw [e7] at this
          exact this
      have hok : okI e (nI (7 * t)) := by
        generalize nI (7 * t) = i at *
        exact ⟨hpr, t0, by grind, ⟨by grind, by grind⟩, ⟨by grind, by grind⟩, ⟨by grind, by grind⟩, ⟨by grind, by grind⟩, ⟨by grind, by grind⟩, by grind, by grind⟩
      clear e7 c7 cl c
      obtain ⟨-, -, i1, -⟩ := id hok
      generalize nI (7 * t) = i at *
      (refine X.f rfl ?_; first | refine z_iload rfl ?_ | refine z_aload rfl ?_ | refine z_push ?_ | refine z_iadd ?_ | refine z_scr (by with_reducible assumption) (by with_reducible assumption) ?_ | refine z_gotoF rfl ?_ | refine z_i2l ?_ | refine z_lshl ?_ | refine z_land ?_ | refine z_lor ?_ | refine z_ifeq (fun _ => ?_) (fun w => absurd (by with_reducible assumption) w) | refine z_ifeq (fun w => absurd w (by with_reducible assumption)) (fun _ => ?_))
      (refine X.f rfl ?_; first | refine z_iload rfl ?_ | refine z_aload rfl ?_ | refine z_push ?_ | refine z_iadd ?_ | refine z_scr (by with_reducible assumption) (by with_reducible assumption) ?_ | refine z_gotoF rfl ?_ | refine z_i2l ?_ | refine z_lshl ?_ | refine z_land ?_ | refine z_lor ?_ | refine z_ifeq (fun _ => ?_) (fun w => absurd (by with_reducible assumption) w) | refine z_ifeq (fun w => absurd w (by with_reducible assumption)) (fun _ => ?_))
      refine X.f rfl (z_scr t0 i1 ?_)
      (refine X.f rfl ?_; first | refine z_iload rfl ?_ | refine z_aload rfl ?_ | refine z_push ?_ | refine z_iadd ?_ | refine z_scr (by with_reducible assumption) (by with_reducible assumption) ?_ | refine z_gotoF rfl ?_ | refine z_i2l ?_ | refine z_lshl ?_ | refine z_land ?_ | refine z_lor ?_ | refine z_ifeq (fun _ => ?_) (fun w => absurd (by with_reducible assumption) w) | refine z_ifeq (fun w => absurd w (by with_reducible assumption)) (fun _ => ?_))
      refine X.f rfl (z_iand ?_)
      refine X.f rfl (z_sw ?_)
      generalize e.2.2 i &&& 63 = w
      by_cases hw : w < 0 ∨ nI 39 ≤ w
      · exact X.at_ (b := 884) (xswi_out (by decide) hw) (kont W M (hI.up (by omega)))
      obtain ⟨k, hk, rfl⟩ := nI_ex (P := 39) (p := w) (by omega) (by grind) (by grind)
      exact law_case hk hok hI (by omega) kont
  termination_by m => m
end UK
