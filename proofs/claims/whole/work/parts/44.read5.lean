/-! READING: an event as a whole; beginning; the class's plain calls. -/
def rEv1 (sl : List Nat) (T : TT) (nm : Nat → Nat) (fl : Nat → Bool) (t : Nat) : RS := match (rNa sl T t).1 with
  | none => (none, (rNa sl T t).2.2)
  | some i => rFi sl (rNa sl T t).2.1 0 nm fl (i * 8 + 1) (rNa sl T t).2.2
def rEv2 (sl : List Nat) (T : TT) (m : Nat) (nm : Nat → Nat) (fl : Nat → Bool) (t : Nat) : RS := match (rCo sl T (fl m) (nm m) t).1 with
  | none => (none, (rCo sl T (fl m) (nm m) t).2.2)
  | some c => rFi sl (rCo sl T (fl m) (nm m) t).2.1 (m + 1) nm fl c (rCo sl T (fl m) (nm m) t).2.2
section R5
variable {d d1 : ax_D} {sl : List Nat} {t m n x : Nat} {T : TT} {nm : Nat → Nat} {fl : Nat → Bool} {b : Bool} {es : List Ev}
theorem sp_readEv1 (hg : gr_is d 1 0 nm fl false) (ht : tb_is d 1 T) (hs : bt_is d 517 sl) (h4 : d 514 4 = nI t) (hts : t ≤ sl.length) (hb : TB T) (h45 : T45 T) (he : ev_is d es) : ax_E 24 [.ref 514] d (ax_Pi fun y d1 => y = bB (rEv1 sl T nm fl t).1.isSome ∧ d1 514 4 = nI (rEv1 sl T nm fl t).2 ∧ (∀ q, (rEv1 sl T nm fl t).1 = some q → tb_is d1 1 q.1 ∧ gr_is d1 1 q.2.1 q.2.2.1 q.2.2.2.1 true ∧ ev_is d1 (eadd es q.2.2.2.2)) ∧ re d d1) := by
  show ax_W 24 0 [some (.ref 514), none] [] d _
  refine wx_aldn j24_0 rfl ?_
  refine wx_get (v := .ref _) j24_1 rfl (Nat.le_of_ble_eq_true rfl) rfl ?_
  refine wx_i0 j24_4 rfl  (Nat.le_of_ble_eq_true rfl) rfl (sp_hasBegun (s := 1) (by decide) hg) ?_
  rintro _ d9 ⟨rfl, h9⟩
  obtain rfl := h9.symm
  refine wx_if 17 j24_7 (by decide) (fun c7 => ?_) (fun c7 => ?_)
  · simp only [ax_cn, Classical.not_not] at c7
    refine wx_aldn j24_17 rfl ?_
    refine wx_i0 j24_18 rfl  (Nat.le_of_ble_eq_true rfl) rfl (sp_takeFirst ht hs h4 hts hb h45) ?_
    rintro _ d1 ⟨rfl, h41, ht1, hf1⟩
    have htt := rNa_t (sl := sl) (T := T) hts
    cases hr : (rNa sl T t).1 with
    | none =>
      have e : rEv1 sl T nm fl t = (none, (rNa sl T t).2.2) := by unfold rEv1; rw [hr]
      rw [e]
      have e0 : (rFs sl T t).1 = none := by unfold rFs; rw [hr]; rfl
      rw [e0]
      simp only [oi]
      refine wx_istn (L' := [_, some (.int _)]) j24_21 (Nat.le_of_ble_eq_true rfl) rfl ?_
      refine wx_ildn j24_22 rfl ?_
      refine wx_icst (v := (-1)) j24_23 (by decide) ?_
      refine wx_cmp 29 j24_24 (by decide) (fun c24 => ?_) (fun c24 => ?_)
      · simp only [ax_cn, Classical.not_not] at c24
        exact absurd trivial c24
      · simp only [ax_cn, Classical.not_not] at c24
        refine wx_icst (v := nI 0) j24_27 (by decide) ?_
        refine wx_ri j24_28 rfl rfl ?_
        exact ⟨rfl, h41, fun q e => (by cases e), re_rf hf1⟩
    | some i =>
      have e : rEv1 sl T nm fl t = rFi sl (rNa sl T t).2.1 0 nm fl (i * 8 + 1) (rNa sl T t).2.2 := by unfold rEv1; rw [hr]
      rw [e]
      have e0 : (rFs sl T t).1 = some (i * 8 + 1) := by unfold rFs; rw [hr]; rfl
      have ht1 : tb_is d1 1 (rNa sl T t).2.1 := ht1 (i * 8 + 1) e0
      have hi := rNa_i hr
      have hi20 := Nat.lt_of_lt_of_le hi (tb_l20 ht1 (j := 4) (k := 0) (by decide) (by decide))
      rw [e0]
      simp only [oi]
      refine wx_istn (L' := [_, some (.int _)]) j24_21 (Nat.le_of_ble_eq_true rfl) rfl ?_
      refine wx_ildn j24_22 rfl ?_
      refine wx_icst (v := (-1)) j24_23 (by decide) ?_
      refine wx_cmp 29 j24_24 (by decide) (fun c24 => ?_) (fun c24 => ?_)
      · simp only [ax_cn, Classical.not_not] at c24
        refine wx_ildn j24_29 rfl ?_
        refine wx_t1 j24_30 rfl rfl (Nat.le_of_ble_eq_true rfl) (sp_kindOf (c := i * 8 + 1) (by omega)) ?_
        rintro _ d9 ⟨rfl, h9⟩
        obtain rfl := h9.symm
        rw [show (i * 8 + 1) % 8 = 1 by omega]
        refine wx_tsw j24_33 (fun q => absurd q (by decide)) (fun _ => ⟨27, 60, by decide, by decide, ?_⟩)
        refine wx_aldn j24_60 rfl ?_
        refine wx_ildn j24_61 rfl ?_
        refine wx_t1 j24_62 rfl rfl (Nat.le_of_ble_eq_true rfl) (sp_nameOf (c := i * 8 + 1) (by omega)) ?_
        rintro _ d9 ⟨rfl, h9⟩
        obtain rfl := h9.symm
        rw [show (i * 8 + 1) / 8 = i by omega]
        refine wx_i1 j24_65 rfl rfl (Nat.le_of_ble_eq_true rfl) rfl (sp_fOpen (gr_rf hg hf1) hi (rNa_45 h45) ht1 (bt_rf hs hf1) h41 htt.2 (ev_rf he hf1)) ?_
        rintro _ d2 ⟨rfl, h42, h5, hf2⟩
        refine wx_ri j24_68 rfl (bB_nar _) ?_
        exact ⟨rfl, h42, h5, re_tr (re_rf hf1) hf2⟩
        -- 
      · simp only [ax_cn, Classical.not_not] at c24
        exact absurd (show oi (some (i * 8 + 1)) = -1 from c24) (fun q2 => by have := (oi_neg (o := some (i * 8 + 1)) (fun i2 e2 => by cases e2; exact (by omega))).mp q2; cases this)
    -- 
  · simp only [ax_cn, Classical.not_not] at c7
    exact absurd (show bB false = 0 from rfl) c7
theorem rFi_3 {c : Nat} (h : c % 8 = 3) : rFi sl T (m + 1) nm fl c t = rFi sl T (m + 1) nm fl 3 t := by
  unfold rFi
  rw [if_neg (show ¬ c % 8 = 1 by omega), if_neg (show ¬ c % 8 = 2 by omega), if_pos h, if_neg (show ¬ 3 % 8 = 1 by decide), if_neg (show ¬ 3 % 8 = 2 by decide), if_pos (show 3 % 8 = 3 by decide)]
theorem rFi_0 {c : Nat} (h1 : ¬ c % 8 = 1) (h2 : ¬ c % 8 = 2) (h3 : ¬ c % 8 = 3) : rFi sl T n nm fl c t = (some (T, n - 1, nm, fl, (4, 0, 0, 0)), t) := by
  unfold rFi
  rw [if_neg h1, if_neg h2, if_neg h3]
theorem sp_readEv2 (hg : gr_is d 1 (m + 1) nm fl true) (ht : tb_is d 1 T) (hs : bt_is d 517 sl) (h4 : d 514 4 = nI t) (hts : t ≤ sl.length) (hb : TB T) (h45 : T45 T) (he : ev_is d es) (hc : ∀ c, (rCo sl T (fl m) (nm m) t).1 = some c → c < 2 ^ 31 ∧ TB (rCo sl T (fl m) (nm m) t).2.1 ∧ T45 (rCo sl T (fl m) (nm m) t).2.1 ∧ (c % 8 = 1 ∨ c % 8 = 2 → c / 8 < ((rCo sl T (fl m) (nm m) t).2.1 4 0).length)) : ax_E 24 [.ref 514] d (ax_Pi fun y d1 => y = bB (rEv2 sl T m nm fl t).1.isSome ∧ d1 514 4 = nI (rEv2 sl T m nm fl t).2 ∧ (∀ q, (rEv2 sl T m nm fl t).1 = some q → tb_is d1 1 q.1 ∧ gr_is d1 1 q.2.1 q.2.2.1 q.2.2.2.1 true ∧ ev_is d1 (eadd es q.2.2.2.2)) ∧ re d d1) := by
  show ax_W 24 0 [some (.ref 514), none] [] d _
  refine wx_aldn j24_0 rfl ?_
  refine wx_get (v := .ref _) j24_1 rfl (Nat.le_of_ble_eq_true rfl) rfl ?_
  refine wx_i0 j24_4 rfl  (Nat.le_of_ble_eq_true rfl) rfl (sp_hasBegun (s := 1) (by decide) hg) ?_
  rintro _ d9 ⟨rfl, h9⟩
  obtain rfl := h9.symm
  refine wx_if 17 j24_7 (by decide) (fun c7 => ?_) (fun c7 => ?_)
  · simp only [ax_cn, Classical.not_not] at c7
    exact absurd c7 (by decide)
  · simp only [ax_cn, Classical.not_not] at c7
    refine wx_aldn j24_10 rfl ?_
    refine wx_i0 j24_11 rfl  (Nat.le_of_ble_eq_true rfl) rfl (sp_takeCode hg ht hs h4 hts hb h45) ?_
    rintro _ d1 ⟨rfl, h41, ht1, hf1⟩
    refine wx_goto 21 j24_14 (by decide) ?_
    have htt := rCo_t (sl := sl) (T := T) (f := fl m) (k := nm m) hts
    cases hr : (rCo sl T (fl m) (nm m) t).1 with
    | none =>
      have e : rEv2 sl T m nm fl t = (none, (rCo sl T (fl m) (nm m) t).2.2) := by unfold rEv2; rw [hr]
      rw [e]
      simp only [oi]
      refine wx_istn (L' := [_, some (.int _)]) j24_21 (Nat.le_of_ble_eq_true rfl) rfl ?_
      refine wx_ildn j24_22 rfl ?_
      refine wx_icst (v := (-1)) j24_23 (by decide) ?_
      refine wx_cmp 29 j24_24 (by decide) (fun c24 => ?_) (fun c24 => ?_)
      · simp only [ax_cn, Classical.not_not] at c24
        exact absurd trivial c24
      · simp only [ax_cn, Classical.not_not] at c24
        refine wx_icst (v := nI 0) j24_27 (by decide) ?_
        refine wx_ri j24_28 rfl rfl ?_
        exact ⟨rfl, h41, fun q e => (by cases e), re_rf hf1⟩
    | some c =>
      have e : rEv2 sl T m nm fl t = rFi sl (rCo sl T (fl m) (nm m) t).2.1 (m + 1) nm fl c (rCo sl T (fl m) (nm m) t).2.2 := by unfold rEv2; rw [hr]
      rw [e]
      obtain ⟨hc31, hbc, h45c, hcn⟩ := hc c hr
      have ht1 := ht1 c hr
      simp only [oi]
      refine wx_istn (L' := [_, some (.int _)]) j24_21 (Nat.le_of_ble_eq_true rfl) rfl ?_
      refine wx_ildn j24_22 rfl ?_
      refine wx_icst (v := (-1)) j24_23 (by decide) ?_
      refine wx_cmp 29 j24_24 (by decide) (fun c24 => ?_) (fun c24 => ?_)
      · simp only [ax_cn, Classical.not_not] at c24
        refine wx_ildn j24_29 rfl ?_
        refine wx_t1 j24_30 rfl rfl (Nat.le_of_ble_eq_true rfl) (sp_kindOf (c := c) hc31) ?_
        rintro _ d9 ⟨rfl, h9⟩
        obtain rfl := h9.symm
        by_cases k1 : c % 8 = 1
        · rw [k1]
          refine wx_tsw j24_33 (fun q => absurd q (by decide)) (fun _ => ⟨27, 60, by decide, by decide, ?_⟩)
          refine wx_aldn j24_60 rfl ?_
          refine wx_ildn j24_61 rfl ?_
          refine wx_t1 j24_62 rfl rfl (Nat.le_of_ble_eq_true rfl) (sp_nameOf (c := c) hc31) ?_
          rintro _ d9 ⟨rfl, h9⟩
          obtain rfl := h9.symm
          refine wx_i1 j24_65 rfl rfl (Nat.le_of_ble_eq_true rfl) rfl (sp_fOpen (gr_rf hg hf1) (hcn (Or.inl k1)) h45c ht1 (bt_rf hs hf1) h41 htt.2 (ev_rf he hf1)) ?_
          rintro _ d2 ⟨rfl, h42, h5, hf2⟩
          rw [show c / 8 * 8 + 1 = c by omega] at h42 h5 ⊢
          refine wx_ri j24_68 rfl (bB_nar _) ?_
          exact ⟨rfl, h42, h5, re_tr (re_rf hf1) hf2⟩
        · by_cases k2 : c % 8 = 2
          · rw [k2]
            refine wx_tsw j24_33 (fun q => absurd q (by decide)) (fun _ => ⟨36, 69, by decide, by decide, ?_⟩)
            refine wx_aldn j24_69 rfl ?_
            refine wx_ildn j24_70 rfl ?_
            refine wx_t1 j24_71 rfl rfl (Nat.le_of_ble_eq_true rfl) (sp_nameOf (c := c) hc31) ?_
            rintro _ d9 ⟨rfl, h9⟩
            obtain rfl := h9.symm
            refine wx_i1 j24_74 rfl rfl (Nat.le_of_ble_eq_true rfl) rfl (sp_fAttr (gr_rf hg hf1) hbc (hcn (Or.inr k2)) h45c ht1 (bt_rf hs hf1) h41 htt.2 (ev_rf he hf1)) ?_
            rintro _ d2 ⟨rfl, h42, h5, hf2⟩
            rw [show c / 8 * 8 + 2 = c by omega] at h42 h5 ⊢
            refine wx_ri j24_77 rfl (bB_nar _) ?_
            exact ⟨rfl, h42, h5, re_tr (re_rf hf1) hf2⟩
          · by_cases k3 : c % 8 = 3
            · rw [k3]
              refine wx_tsw j24_33 (fun q => absurd q (by decide)) (fun _ => ⟨45, 78, by decide, by decide, ?_⟩)
              refine wx_aldn j24_78 rfl ?_
              refine wx_i0 j24_79 rfl  (Nat.le_of_ble_eq_true rfl) rfl (sp_fText (gr_rf hg hf1) ht1 (bt_rf hs hf1) h41 htt.2 (ev_rf he hf1) hbc) ?_
              rintro _ d2 ⟨rfl, h42, h5, hf2⟩
              rw [← rFi_3 k3] at h42 h5 ⊢
              refine wx_ri j24_82 rfl (bB_nar _) ?_
              exact ⟨rfl, h42, h5, re_tr (re_rf hf1) hf2⟩
            · rw [rFi_0 k1 k2 k3]
              have hx : ((nI (c % 8)).toInt < 1 ∨ 3 < (nI (c % 8)).toInt) := by
                rw [nI_toInt (by omega)]
                omega
              refine wx_tsw j24_33 (fun _ => ⟨83, by decide, ?_⟩) (fun q => absurd hx q)
              refine wx_aldn j24_83 rfl ?_
              refine wx_get (v := .ref _) j24_84 rfl (Nat.le_of_ble_eq_true rfl) rfl ?_
              refine wx_v0 j24_87 rfl  (Nat.le_of_ble_eq_true rfl) rfl (sp_leave (s := 1) (by decide) (gr_rf hg hf1)) ?_
              rintro d2 ⟨hg2, hf2⟩
              refine wx_aldn j24_90 rfl ?_
              refine wx_get (v := .ref _) j24_91 rfl (Nat.le_of_ble_eq_true rfl) rfl ?_
              refine wx_icst (v := nI 4) j24_94 (by decide) ?_
              refine wx_icst (v := nI 0) j24_95 (by decide) ?_
              refine wx_icst (v := nI 0) j24_96 (by decide) ?_
              refine wx_icst (v := nI 0) j24_97 (by decide) ?_
              refine wx_v4 j24_98 rfl rfl rfl rfl rfl (Nat.le_of_ble_eq_true rfl) rfl (sp_evAdd (a1 := 4) (a2 := 0) (a3 := 0) (a4 := 0) (ev_gr (ev_rf he hf1) hf2)) ?_
              rintro d3 ⟨h3, hf3⟩
              refine wx_icst (v := nI 1) j24_101 (by decide) ?_
              refine wx_ri j24_102 rfl rfl ?_
              refine ⟨rfl, ?_, fun q e => ?_, re_tr (re_tr (re_rf hf1) (re_gr hf2)) (re_ev hf3)⟩
              · rw [hf3 514 (by decide) (by decide) (by decide) (by decide) (by decide), hf2 514 (by decide) (by decide) (by decide)]; exact h41
              · cases e
                exact ⟨tb_ev (tb_g1 ht1 hf2) (by decide) hf3, gr_ev hg2 (by decide) hf3, h3⟩
        -- 
      · simp only [ax_cn, Classical.not_not] at c24
        exact absurd (show oi (some c) = -1 from c24) (fun q2 => by have := (oi_neg (o := some c) (fun i2 e2 => by cases e2; exact hc31)).mp q2; cases this)
    -- 
theorem t00_rw {s j : Nat} (h : rw_is d (8 * s + j) (fun _ => [])) (hj : j ≠ 0) : rw_is d (8 * s + j) (fun k => (t00 j k).map nI) := rw_congr h (fun k _ => by unfold t00; rw [if_neg (fun q => hj q.1)]; rfl)
theorem rw_far {s j j' : Nat} {LL : Nat → List Int32} {d1 : ax_D} (h : rw_is d (8 * s + j) LL) (hf : rw_fr d d1 (8 * s + j')) (hj : j ≠ j') : rw_is d1 (8 * s + j) LL := rw_keep h hf (by omega)
theorem sp_tbegin {s : Nat} (hs : s < 2) : ax_E 48 [.ref (519 + s)] d (ax_Pv fun d1 => (∀ j, j < 6 → rw_is d1 (8 * s + j) (fun k => (t00 j k).map nI)) ∧ ∀ id, (id < 256 * s ∨ 256 * s + 192 ≤ id) → d1 id = d id) := by
  show ax_W 48 0 [some (.ref (519 + s))] [] d _
  refine wx_aldn j48_0 rfl ?_
  refine wx_get (v := .ref _) j48_1 (sh_tb hs) (Nat.le_of_ble_eq_true rfl) rfl ?_
  refine wx_v0 j48_4 rfl  (Nat.le_of_ble_eq_true rfl) (sh_ro (by omega)) (sp_forget (r := 8 * s + 0) (by omega)) ?_
  rintro da ⟨ha, fa⟩
  refine wx_aldn j48_7 rfl ?_
  refine wx_get (v := .ref _) j48_8 (sh_tb hs) (Nat.le_of_ble_eq_true rfl) rfl ?_
  refine wx_icst (v := nI 0) j48_11 (by decide) ?_
  refine wx_icst (v := nI 0) j48_12 (by decide) ?_
  refine wx_v2 j48_13 rfl rfl rfl (Nat.le_of_ble_eq_true rfl) (sh_ro (by omega)) (sp_addLast (r := 8 * s + 0) (k := 0) (by omega) (nr_pos _) ha) ?_
  rintro db ⟨hb, fb⟩
  refine wx_aldn j48_16 rfl ?_
  refine wx_get (v := .ref _) j48_17 (sh_tb hs) (Nat.le_of_ble_eq_true rfl) rfl ?_
  refine wx_v0 j48_20 rfl  (Nat.le_of_ble_eq_true rfl) (sh_ro (by omega)) (sp_forget (r := 8 * s + 1) (by omega)) ?_
  rintro dc ⟨hc, fc⟩
  refine wx_aldn j48_23 rfl ?_
  refine wx_get (v := .ref _) j48_24 (sh_tb hs) (Nat.le_of_ble_eq_true rfl) rfl ?_
  refine wx_v0 j48_27 rfl  (Nat.le_of_ble_eq_true rfl) (sh_ro (by omega)) (sp_forget (r := 8 * s + 2) (by omega)) ?_
  rintro de ⟨he, fe⟩
  refine wx_aldn j48_30 rfl ?_
  refine wx_get (v := .ref _) j48_31 (sh_tb hs) (Nat.le_of_ble_eq_true rfl) rfl ?_
  refine wx_v0 j48_34 rfl  (Nat.le_of_ble_eq_true rfl) (sh_ro (by omega)) (sp_forget (r := 8 * s + 3) (by omega)) ?_
  rintro dg ⟨hg, fg⟩
  refine wx_aldn j48_37 rfl ?_
  refine wx_get (v := .ref _) j48_38 (sh_tb hs) (Nat.le_of_ble_eq_true rfl) rfl ?_
  refine wx_v0 j48_41 rfl  (Nat.le_of_ble_eq_true rfl) (sh_ro (by omega)) (sp_forget (r := 8 * s + 4) (by omega)) ?_
  rintro di ⟨hi, fi⟩
  refine wx_aldn j48_44 rfl ?_
  refine wx_get (v := .ref _) j48_45 (sh_tb hs) (Nat.le_of_ble_eq_true rfl) rfl ?_
  refine wx_v0 j48_48 rfl  (Nat.le_of_ble_eq_true rfl) (sh_ro (by omega)) (sp_forget (r := 8 * s + 5) (by omega)) ?_
  rintro dk ⟨hk, fk⟩
  refine wx_rv j48_51 rfl ?_
  refine ⟨fun j hj => ?_, fun id hid => ?_⟩
  · rcases (show j = 0 ∨ j = 1 ∨ j = 2 ∨ j = 3 ∨ j = 4 ∨ j = 5 by omega) with rfl | rfl | rfl | rfl | rfl | rfl
    · have h0 := rw_far (rw_far (rw_far (rw_far (rw_far hb fc (by decide)) fe (by decide)) fg (by decide)) fi (by decide)) fk (by decide)
      refine rw_congr h0 (fun k hk => ?_)
      have hk0 : k = 0 := by rw [nr_8] at hk; exact Nat.lt_one_iff.mp hk
      subst hk0
      unfold t00 rw_up
      rw [if_pos rfl, if_pos ⟨rfl, rfl⟩, if_pos (by show 0 < _; exact Nat.lt_of_lt_of_le (by decide) (rm_pos _))]
      rfl
    · exact t00_rw (rw_far (rw_far (rw_far (rw_far hc fe (by decide)) fg (by decide)) fi (by decide)) fk (by decide)) (by decide)
    · exact t00_rw (rw_far (rw_far (rw_far he fg (by decide)) fi (by decide)) fk (by decide)) (by decide)
    · exact t00_rw (rw_far (rw_far hg fi (by decide)) fk (by decide)) (by decide)
    · exact t00_rw (rw_far hi fk (by decide)) (by decide)
    · exact t00_rw hk (by decide)
  · rw [fk id (by omega), fi id (by omega), fg id (by omega), fe id (by omega), fc id (by omega), fb id (by omega), fa id (by omega)]
/-- both: the tables of side s are those of a new document, no element is open -/
theorem begin_tb {s : Nat} {d2 : ax_D} (hs : s < 2) (h1 : (∀ j, j < 6 → rw_is d1 (8 * s + j) (fun k => (t00 j k).map nI)) ∧ ∀ id, (id < 256 * s ∨ 256 * s + 192 ≤ id) → d1 id = d id) (h2 : rw_is d2 (8 * s + 6) (fun _ => []) ∧ rw_is d2 (8 * s + 7) (fun _ => []) ∧ (∀ nm fl, gr_is d2 s 0 nm fl false) ∧ ∀ id, (id < 32 * (8 * s + 6) ∨ 32 * (8 * s + 8) ≤ id) → id ≠ 521 + s → d2 id = d1 id) : tb_is d2 s t00 := by
  obtain ⟨h6, h7, -, hf⟩ := h2
  intro j hj
  rcases (show j < 6 ∨ j = 6 ∨ j = 7 by omega) with h | rfl | rfl
  · intro k hk
    have h20 := nr_le (8 * s + j)
    rw [hf (32 * (8 * s + j) + 2) (by omega) (by omega), hf (32 * (8 * s + j) + 3 + k) (by omega) (by omega)]
    exact h1.1 j h k hk
  · exact t00_rw h6 (by decide)
  · exact t00_rw h7 (by decide)
theorem sp_wbegin : ax_E 56 [.ref 513] d (ax_Pv fun d1 => tb_is d1 0 t00 ∧ (∀ nm fl, gr_is d1 0 0 nm fl false) ∧ bt_is d1 515 [] ∧ we d d1) := by
  show ax_W 56 0 [some (.ref 513)] [] d _
  refine wx_aldn j56_0 rfl ?_
  refine wx_get (v := .ref _) j56_1 rfl (Nat.le_of_ble_eq_true rfl) rfl ?_
  refine wx_icst (v := nI 0) j56_4 (by decide) ?_
  refine wx_put j56_5 rfl (Nat.le_of_ble_eq_true rfl) rfl rfl rfl ?_
  refine wx_aldn j56_8 rfl ?_
  refine wx_get (v := .ref _) j56_9 rfl (Nat.le_of_ble_eq_true rfl) rfl ?_
  refine wx_v0 j56_12 rfl  (Nat.le_of_ble_eq_true rfl) rfl (sp_tbegin (s := 0) (by decide)) ?_
  rintro d1 h1
  refine wx_aldn j56_15 rfl ?_
  refine wx_get (v := .ref _) j56_16 rfl (Nat.le_of_ble_eq_true rfl) rfl ?_
  refine wx_v0 j56_19 rfl  (Nat.le_of_ble_eq_true rfl) rfl (sp_gbegin (s := 0) (by decide)) ?_
  rintro d2 h2
  refine wx_rv j56_22 rfl ?_
  have f1 := h1.2
  have f2 := h2.2.2.2
  refine ⟨begin_tb (by decide) h1 h2, h2.2.2.1, ⟨Nat.zero_le _, ?_, fun i hi => absurd hi (Nat.not_lt_zero i), fun e he => (by cases he)⟩, fun id a1 a2 a3 a4 a5 a6 => ?_⟩
  · rw [f2 515 (by decide) (by decide), f1 515 (by decide)]
    exact up_at _ _ _ _
  · rw [f2 id (by omega) a4, f1 id (by omega), ax_up_ne a2]
theorem sp_rbegin : ax_E 22 [.ref 514] d (ax_Pv fun d1 => d1 514 4 = nI 0 ∧ tb_is d1 1 t00 ∧ (∀ nm fl, gr_is d1 1 0 nm fl false) ∧ ev_is d1 [] ∧ re d d1) := by
  show ax_W 22 0 [some (.ref 514)] [] d _
  refine wx_aldn j22_0 rfl ?_
  refine wx_icst (v := nI 0) j22_1 (by decide) ?_
  refine wx_put j22_2 rfl (Nat.le_of_ble_eq_true rfl) rfl rfl rfl ?_
  refine wx_aldn j22_5 rfl ?_
  refine wx_get (v := .ref _) j22_6 rfl (Nat.le_of_ble_eq_true rfl) rfl ?_
  refine wx_v0 j22_9 rfl  (Nat.le_of_ble_eq_true rfl) rfl (sp_evForget) ?_
  rintro d0 ⟨h0, f0⟩
  refine wx_aldn j22_12 rfl ?_
  refine wx_get (v := .ref _) j22_13 rfl (Nat.le_of_ble_eq_true rfl) rfl ?_
  refine wx_v0 j22_16 rfl  (Nat.le_of_ble_eq_true rfl) rfl (sp_tbegin (s := 1) (by decide)) ?_
  rintro d1 h1
  refine wx_aldn j22_19 rfl ?_
  refine wx_get (v := .ref _) j22_20 rfl (Nat.le_of_ble_eq_true rfl) rfl ?_
  refine wx_v0 j22_23 rfl  (Nat.le_of_ble_eq_true rfl) rfl (sp_gbegin (s := 1) (by decide)) ?_
  rintro d2 h2
  refine wx_rv j22_26 rfl ?_
  have f1 := h1.2
  have f2 := h2.2.2.2
  have k : ∀ id, 523 ≤ id → d2 id = d0 id := fun id hid => by rw [f2 id (by omega) (by omega), f1 id (by omega)]
  refine ⟨?_, begin_tb (by decide) h1 h2, h2.2.2.1, ev_keep h0 (k _ (by decide)) (k _ (by decide)) (k _ (by decide)) (k _ (by decide)) (k _ (by decide)), fun id a1 a2 a3 a4 a5 a6 a7 a8 a9 a10 => ?_⟩
  · rw [f2 514 (by decide) (by decide), f1 514 (by decide), f0 514 (by decide)]
    exact up_at _ _ _ _
  · rw [f2 id (by omega) a3, f1 id (by omega), f0 id a6, ax_up_ne a2]
theorem sp_wWhole (hg : gr_is d 0 n nm fl b) : ax_E 57 [.ref 513] d (ax_Pi fun y d1 => y = bB (b && decide (n = 0)) ∧ d1 = d) := by
  show ax_W 57 0 [some (.ref 513)] [] d _
  refine wx_aldn j57_0 rfl ?_
  refine wx_get (v := .ref _) j57_1 rfl (Nat.le_of_ble_eq_true rfl) rfl ?_
  refine wx_i0 j57_4 rfl  (Nat.le_of_ble_eq_true rfl) rfl (sp_isWhole (s := 0) (by decide) hg) ?_
  rintro _ d9 ⟨rfl, h9⟩
  obtain rfl := h9.symm
  refine wx_ri j57_7 rfl (bB_nar _) ?_
  exact ⟨rfl, rfl⟩
theorem sp_rWhole (hg : gr_is d 1 n nm fl b) : ax_E 23 [.ref 514] d (ax_Pi fun y d1 => y = bB (b && decide (n = 0)) ∧ d1 = d) := by
  show ax_W 23 0 [some (.ref 514)] [] d _
  refine wx_aldn j23_0 rfl ?_
  refine wx_get (v := .ref _) j23_1 rfl (Nat.le_of_ble_eq_true rfl) rfl ?_
  refine wx_i0 j23_4 rfl  (Nat.le_of_ble_eq_true rfl) rfl (sp_isWhole (s := 1) (by decide) hg) ?_
  rintro _ d9 ⟨rfl, h9⟩
  obtain rfl := h9.symm
  refine wx_ri j23_7 rfl (bB_nar _) ?_
  exact ⟨rfl, rfl⟩
theorem sp_wTakes (hg : gr_is d 0 n nm fl b) : ax_E 58 [.ref 513] d (ax_Pi fun y d1 => y = bB (decide (0 < n) && !fl (n - 1)) ∧ d1 = d) := by
  show ax_W 58 0 [some (.ref 513)] [] d _
  refine wx_aldn j58_0 rfl ?_
  refine wx_get (v := .ref _) j58_1 rfl (Nat.le_of_ble_eq_true rfl) rfl ?_
  refine wx_i0 j58_4 rfl  (Nat.le_of_ble_eq_true rfl) rfl (sp_isInTag (s := 0) (by decide) hg) ?_
  rintro _ d9 ⟨rfl, h9⟩
  obtain rfl := h9.symm
  refine wx_ri j58_7 rfl (bB_nar _) ?_
  exact ⟨rfl, rfl⟩
theorem sp_wOpenE (hg : gr_is d 0 n nm fl b) : ax_E 59 [.ref 513] d (ax_Pi fun y d1 => y = nI n ∧ d1 = d) := by
  show ax_W 59 0 [some (.ref 513)] [] d _
  refine wx_aldn j59_0 rfl ?_
  refine wx_get (v := .ref _) j59_1 rfl (Nat.le_of_ble_eq_true rfl) rfl ?_
  refine wx_i0 j59_4 rfl  (Nat.le_of_ble_eq_true rfl) rfl (sp_openE (s := 0) (by decide) hg) ?_
  rintro _ d9 ⟨rfl, h9⟩
  obtain rfl := h9.symm
  refine wx_ri j59_7 rfl rfl ?_
  exact ⟨rfl, rfl⟩
theorem sp_clear : ax_E 73 [.ref 512] d (ax_Pv fun d1 => tb_is d1 0 t00 ∧ (∀ nm fl, gr_is d1 0 0 nm fl false) ∧ bt_is d1 515 [] ∧ we d d1) := by
  show ax_W 73 0 [some (.ref 512)] [] d _
  refine wx_aldn j73_0 rfl ?_
  refine wx_get (v := .ref _) j73_1 rfl (Nat.le_of_ble_eq_true rfl) rfl ?_
  refine wx_v0 j73_4 rfl  (Nat.le_of_ble_eq_true rfl) rfl (sp_wbegin) ?_
  rintro d1 h1
  refine wx_rv j73_7 rfl ?_
  exact h1
theorem sp_written {l : List Nat} (h : bt_is d 515 l) : ax_E 74 [.ref 512] d (ax_Pi fun y d1 => y = nI l.length ∧ d1 = d) := by
  show ax_W 74 0 [some (.ref 512)] [] d _
  refine wx_aldn j74_0 rfl ?_
  refine wx_get (v := .ref _) j74_1 rfl (Nat.le_of_ble_eq_true rfl) rfl ?_
  refine wx_get (v := .ref _) j74_4 rfl (Nat.le_of_ble_eq_true rfl) rfl ?_
  refine wx_get (v := .int _) j74_7 rfl (Nat.le_of_ble_eq_true rfl) rfl ?_
  refine wx_ri j74_10 rfl rfl ?_
  exact ⟨h.2.1, rfl⟩
theorem sp_taken : ax_E 76 [.ref 512] d (ax_Pi fun y d1 => y = d 514 4 ∧ d1 = d) := by
  show ax_W 76 0 [some (.ref 512)] [] d _
  refine wx_aldn j76_0 rfl ?_
  refine wx_get (v := .ref _) j76_1 rfl (Nat.le_of_ble_eq_true rfl) rfl ?_
  refine wx_get (v := .int _) j76_4 rfl (Nat.le_of_ble_eq_true rfl) rfl ?_
  refine wx_ri j76_7 rfl rfl ?_
  exact ⟨rfl, rfl⟩
theorem sp_keep {l : List Nat} (h : bt_is d 515 l) : ax_E 75 [.ref 512] d (ax_Pi fun y d1 => y = nI l.length ∧ bt_is d1 517 l ∧ bt_fr d d1 517) := by
  show ax_W 75 0 [some (.ref 512)] [] d _
  refine wx_aldn j75_0 rfl ?_
  refine wx_get (v := .ref _) j75_1 rfl (Nat.le_of_ble_eq_true rfl) rfl ?_
  refine wx_get (v := .ref _) j75_4 rfl (Nat.le_of_ble_eq_true rfl) rfl ?_
  refine wx_aldn j75_7 rfl ?_
  refine wx_get (v := .ref _) j75_8 rfl (Nat.le_of_ble_eq_true rfl) rfl ?_
  refine wx_get (v := .ref _) j75_11 rfl (Nat.le_of_ble_eq_true rfl) rfl ?_
  refine wx_v1 j75_14 rfl rfl (Nat.le_of_ble_eq_true rfl) rfl (sp_become h) ?_
  rintro d1 ⟨h1, hf1⟩
  refine wx_aldn j75_17 rfl ?_
  refine wx_get (v := .ref _) j75_18 rfl (Nat.le_of_ble_eq_true rfl) rfl ?_
  refine wx_get (v := .ref _) j75_21 rfl (Nat.le_of_ble_eq_true rfl) rfl ?_
  refine wx_get (v := .int _) j75_24 rfl (Nat.le_of_ble_eq_true rfl) rfl ?_
  refine wx_ri j75_27 rfl rfl ?_
  exact ⟨h1.2.1, h1, hf1⟩
end R5
