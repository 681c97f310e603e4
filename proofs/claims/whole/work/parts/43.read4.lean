/-! READING an event. -/
abbrev Ev : Type := Nat × Nat × Nat × Nat
def ev_is (d : ax_D) (es : List Ev) : Prop := es.length ≤ 200 ∧ d 527 1 = nI es.length ∧ ∀ i, i < es.length → d 529 i = nI (es.getD i (0, 0, 0, 0)).1 ∧ d 530 i = nI (es.getD i (0, 0, 0, 0)).2.1 ∧ d 531 i = nI (es.getD i (0, 0, 0, 0)).2.2.1 ∧ d 532 i = nI (es.getD i (0, 0, 0, 0)).2.2.2
def ev_fr (d d1 : ax_D) : Prop := ∀ id, id ≠ 527 → id ≠ 529 → id ≠ 530 → id ≠ 531 → id ≠ 532 → d1 id = d id
def eadd (es : List Ev) (e : Ev) : List Ev := if es.length < 200 then es ++ [e] else es
theorem ev_keep {d d1 : ax_D} {es : List Ev} (h : ev_is d es) (h0 : d1 527 = d 527) (h1 : d1 529 = d 529) (h2 : d1 530 = d 530) (h3 : d1 531 = d 531) (h5 : d1 532 = d 532) : ev_is d1 es := by
  unfold ev_is
  rw [h0, h1, h2, h3, h5]
  exact h
section R4
variable {d d1 : ax_D} {sl : List Nat} {t m n x : Nat} {T : TT} {nm : Nat → Nat} {fl : Nat → Bool} {b : Bool} {es : List Ev}
theorem tb_ev {s : Nat} (h : tb_is d s T) (hs : s < 2) (hf : ev_fr d d1) : tb_is d1 s T := tb_same h (fun id hi => hf id (by omega) (by omega) (by omega) (by omega) (by omega)) hs
theorem gr_ev {s : Nat} (h : gr_is d s n nm fl b) (hs : s < 2) (hf : ev_fr d d1) : gr_is d1 s n nm fl b := gr_keep h (hf _ (by omega) (by omega) (by omega) (by omega) (by omega)) (hf _ (by omega) (by omega) (by omega) (by omega) (by omega)) (hf _ (by omega) (by omega) (by omega) (by omega) (by omega))
theorem bt_ev {o : Nat} {l : List Nat} (h : bt_is d o l) (ho : o < 526) (hf : ev_fr d d1) : bt_is d1 o l := bt_keep h (hf _ (by omega) (by omega) (by omega) (by omega) (by omega)) (hf _ (by omega) (by omega) (by omega) (by omega) (by omega))
theorem sp_evForget : ax_E 4 [.ref 527] d (ax_Pv fun d1 => ev_is d1 [] ∧ ∀ id, id ≠ 527 → d1 id = d id) := by
  show ax_W 4 0 [some (.ref 527)] [] d _
  refine wx_aldn j4_0 rfl ?_
  refine wx_icst (v := nI 0) j4_1 (by decide) ?_
  refine wx_put j4_2 rfl (Nat.le_of_ble_eq_true rfl) rfl rfl rfl ?_
  refine wx_rv j4_5 rfl ?_
  exact ⟨⟨Nat.zero_le _, up_at _ _ _ _, fun i hi => absurd hi (Nat.not_lt_zero i)⟩, fun id h => ax_up_ne h⟩
theorem sp_evAdd {a1 a2 a3 a4 : Nat} (h : ev_is d es) : ax_E 5 [.ref 527, .int (nI a1), .int (nI a2), .int (nI a3), .int (nI a4)] d (ax_Pv fun d1 => ev_is d1 (eadd es (a1, a2, a3, a4)) ∧ ev_fr d d1) := by
  show ax_W 5 0 [some (.ref 527), some (.int (nI a1)), some (.int (nI a2)), some (.int (nI a3)), some (.int (nI a4))] [] d _
  refine wx_aldn j5_0 rfl ?_
  refine wx_get (v := .int _) j5_1 rfl (Nat.le_of_ble_eq_true rfl) rfl ?_
  rw [h.2.1]
  refine wx_spsh (v := nI 200) j5_4 (by decide) ?_
  refine wx_cmp 69 j5_7 (by decide) (fun c7 => ?_) (fun c7 => ?_)
  · simp only [ax_cn, Classical.not_not] at c7
    have hfull : ¬ es.length < 200 := Nat.not_lt.mpr ((nI_leI (by decide) (Nat.lt_of_le_of_lt h.1 (by decide))).mp c7)
    refine wx_rv j5_69 rfl ?_
    exact ⟨by unfold eadd; rw [if_neg hfull]; exact h, fun _ _ _ _ _ _ => rfl⟩
  · simp only [ax_cn, Classical.not_not] at c7
    have hroom : es.length < 200 := Nat.not_le.mp (fun q => c7 ((nI_leI (by decide) (Nat.lt_of_le_of_lt h.1 (by decide))).mpr q))
    refine wx_aldn j5_10 rfl ?_
    refine wx_get (v := .ref _) j5_11 rfl (Nat.le_of_ble_eq_true rfl) rfl ?_
    refine wx_icst (v := nI 0) j5_14 (by decide) ?_
    refine wx_aalx (0) j5_15 rfl rfl (by decide) (by decide) rfl ?_
    refine wx_aldn j5_16 rfl ?_
    refine wx_get (v := .int _) j5_17 rfl (Nat.le_of_ble_eq_true rfl) rfl ?_
    rw [h.2.1]
    refine wx_ildn j5_20 rfl ?_
    refine wx_iasx (es.length) j5_21 rfl rfl (hroom) (by decide) ?_
    refine wx_aldn j5_22 rfl ?_
    refine wx_get (v := .ref _) j5_23 rfl (Nat.le_of_ble_eq_true rfl) rfl ?_
    refine wx_icst (v := nI 1) j5_26 (by decide) ?_
    refine wx_aalx (1) j5_27 rfl rfl (by decide) (by decide) rfl ?_
    refine wx_aldn j5_28 rfl ?_
    refine wx_get (v := .int _) j5_29 rfl (Nat.le_of_ble_eq_true rfl) rfl ?_
    rw [up_ni (by decide), h.2.1]
    refine wx_ildn j5_32 rfl ?_
    refine wx_iasx (es.length) j5_33 rfl rfl (hroom) (by decide) ?_
    refine wx_aldn j5_34 rfl ?_
    refine wx_get (v := .ref _) j5_35 rfl (Nat.le_of_ble_eq_true rfl) rfl ?_
    refine wx_icst (v := nI 2) j5_38 (by decide) ?_
    refine wx_aalx (2) j5_39 rfl rfl (by decide) (by decide) rfl ?_
    refine wx_aldn j5_40 rfl ?_
    refine wx_get (v := .int _) j5_41 rfl (Nat.le_of_ble_eq_true rfl) rfl ?_
    rw [up_ni (by decide), up_ni (by decide), h.2.1]
    refine wx_ildn j5_44 rfl ?_
    refine wx_iasx (es.length) j5_45 rfl rfl (hroom) (by decide) ?_
    refine wx_aldn j5_46 rfl ?_
    refine wx_get (v := .ref _) j5_47 rfl (Nat.le_of_ble_eq_true rfl) rfl ?_
    refine wx_icst (v := nI 3) j5_50 (by decide) ?_
    refine wx_aalx (3) j5_51 rfl rfl (by decide) (by decide) rfl ?_
    refine wx_aldn j5_52 rfl ?_
    refine wx_get (v := .int _) j5_53 rfl (Nat.le_of_ble_eq_true rfl) rfl ?_
    rw [up_ni (by decide), up_ni (by decide), up_ni (by decide), h.2.1]
    refine wx_ild j5_56 rfl ?_
    refine wx_iasx (es.length) j5_58 rfl rfl (hroom) (by decide) ?_
    refine wx_aldn j5_59 rfl ?_
    refine wx_dupr j5_60 ?_
    refine wx_get (v := .int _) j5_61 rfl (Nat.le_of_ble_eq_true rfl) rfl ?_
    rw [up_ni (by decide), up_ni (by decide), up_ni (by decide), up_ni (by decide), h.2.1]
    refine wx_icst (v := nI 1) j5_64 (by decide) ?_
    refine wx_iadd j5_65 ?_
    rw [nI_add]
    refine wx_put j5_66 rfl (Nat.le_of_ble_eq_true rfl) rfl rfl rfl ?_
    refine wx_rv j5_69 rfl ?_
    refine ⟨?_, fun id b0 b1 b2 b3 b4 => by rw [ax_up_ne b0, ax_up_ne b4, ax_up_ne b3, ax_up_ne b2, ax_up_ne b1]⟩
    unfold eadd
    rw [if_pos hroom]
    refine ⟨by rw [List.length_append]; exact hroom, by rw [up_at, List.length_append]; rfl, fun i hi => ?_⟩
    rw [up_ni (show 529 ≠ 527 by decide), up_ni (show 530 ≠ 527 by decide), up_ni (show 531 ≠ 527 by decide), up_ni (show 532 ≠ 527 by decide), up_ni (show 529 ≠ 532 by decide), up_ni (show 530 ≠ 532 by decide), up_ni (show 531 ≠ 532 by decide), up_ni (show 529 ≠ 531 by decide), up_ni (show 530 ≠ 531 by decide), up_ni (show 529 ≠ 530 by decide)]
    by_cases hi2 : i = es.length
    · subst hi2
      rw [up_at, up_at, up_at, up_at, getD_app_1]
      exact ⟨rfl, rfl, rfl, rfl⟩
    · have hi3 : i < es.length := by rw [List.length_append] at hi; simp at hi; omega
      rw [up_nk hi2, up_nk hi2, up_nk hi2, up_nk hi2, up_ni (show 530 ≠ 529 by decide), up_ni (show 531 ≠ 530 by decide), up_ni (show 531 ≠ 529 by decide), up_ni (show 532 ≠ 531 by decide), up_ni (show 532 ≠ 530 by decide), up_ni (show 532 ≠ 529 by decide), getD_app_l hi3]
      exact h.2.2 i hi3
theorem sp_takeCode (hg : gr_is d 1 (m + 1) nm fl b) (ht : tb_is d 1 T) (hs : bt_is d 517 sl) (h4 : d 514 4 = nI t) (hts : t ≤ sl.length) (hb : TB T) (h45 : T45 T) : ax_E 29 [.ref 514] d (ax_Pi fun y d1 => y = oi (rCo sl T (fl m) (nm m) t).1 ∧ d1 514 4 = nI (rCo sl T (fl m) (nm m) t).2.2 ∧ (∀ q, (rCo sl T (fl m) (nm m) t).1 = some q → tb_is d1 1 (rCo sl T (fl m) (nm m) t).2.1) ∧ rf d d1) := by
  show ax_W 29 0 [some (.ref 514), none, none, none] [] d _
  refine wx_aldn j29_0 rfl ?_
  refine wx_aldn j29_1 rfl ?_
  refine wx_get (v := .ref _) j29_2 rfl (Nat.le_of_ble_eq_true rfl) rfl ?_
  refine wx_i0 j29_5 rfl  (Nat.le_of_ble_eq_true rfl) rfl (sp_choices (s := 1) (by decide) hg ht) ?_
  rintro _ d9 ⟨rfl, h9⟩
  obtain rfl := h9.symm
  have hn20 := (hg.2.2.2 m (Nat.lt_succ_self m)).2.1
  have h12 := tb_len ht (kj_lt (fl m)) (kj_nr (fl m) hn20)
  rw [kj_rm] at h12
  have hc14 : cho T (fl m) (nm m) ≤ 14 := by unfold cho; split <;> omega
  refine wx_i1 j29_8 rfl rfl (Nat.le_of_ble_eq_true rfl) rfl (sp_takePlace (m := cho T (fl m) (nm m)) hs h4 hts (by omega)) ?_
  rintro _ d1 ⟨rfl, h41, hf1⟩
  have htt := rP_t (sl := sl) (m := cho T (fl m) (nm m)) hts
  cases hr : (rP sl (cho T (fl m) (nm m)) t).1 with
  | none =>
    have e : rCo sl T (fl m) (nm m) t = (none, T, (rP sl (cho T (fl m) (nm m)) t).2) := by unfold rCo; rw [hr]
    rw [e]
    simp only [oi]
    refine wx_istn (L' := [_, some (.int _), _, _]) j29_11 (Nat.le_of_ble_eq_true rfl) rfl ?_
    refine wx_ildn j29_12 rfl ?_
    refine wx_icst (v := (-1)) j29_13 (by decide) ?_
    refine wx_cmp 28 j29_14 (by decide) (fun c14 => ?_) (fun c14 => ?_)
    · simp only [ax_cn, Classical.not_not] at c14
      refine wx_aldn j29_28 rfl ?_
      refine wx_get (v := .ref _) j29_29 rfl (Nat.le_of_ble_eq_true rfl) rfl ?_
      refine wx_ildn j29_32 rfl ?_
      refine wx_i1 j29_33 rfl rfl (Nat.le_of_ble_eq_true rfl) rfl (sp_codeAtN (s := 1) (by decide) (gr_tk hg hf1) (tb_tk ht hf1)) ?_
      rintro _ d9 ⟨rfl, h9⟩
      obtain rfl := h9.symm
      refine wx_ri j29_36 rfl rfl ?_
      exact ⟨rfl, h41, fun q e => (by cases e), rf_tk hf1⟩
    · simp only [ax_cn, Classical.not_not] at c14
      exact absurd trivial c14
  | some q =>
    have hq := rP_v hr
    simp only [oi]
    refine wx_istn (L' := [_, some (.int _), _, _]) j29_11 (Nat.le_of_ble_eq_true rfl) rfl ?_
    refine wx_ildn j29_12 rfl ?_
    refine wx_icst (v := (-1)) j29_13 (by decide) ?_
    refine wx_cmp 28 j29_14 (by decide) (fun c14 => ?_) (fun c14 => ?_)
    · simp only [ax_cn, Classical.not_not] at c14
      exact absurd (show oi (some q) = -1 from c14) (fun q2 => by have := (oi_neg (o := some q) (fun i2 e2 => by cases e2; exact (by omega))).mp q2; cases this)
    · simp only [ax_cn, Classical.not_not] at c14
      refine wx_ildn j29_17 rfl ?_
      refine wx_aldn j29_18 rfl ?_
      refine wx_get (v := .ref _) j29_19 rfl (Nat.le_of_ble_eq_true rfl) rfl ?_
      refine wx_i0 j29_22 rfl  (Nat.le_of_ble_eq_true rfl) rfl (sp_learned (s := 1) (by decide) (gr_tk hg hf1) (tb_tk ht hf1)) ?_
      rintro _ d9 ⟨rfl, h9⟩
      obtain rfl := h9.symm
      refine wx_cmp 37 j29_25 (by decide) (fun c25 => ?_) (fun c25 => ?_)
      · simp only [ax_cn, Classical.not_not] at c25
        have hge : ¬ q < (T (kj (fl m)) (nm m)).length := Nat.not_lt.mpr ((nI_leI (show (T (kd fl m) (nm m)).length < 2 ^ 31 from Nat.lt_of_le_of_lt h12 (by decide)) (by omega)).mp c25)
        refine wx_aldn j29_37 rfl ?_
        refine wx_get (v := .ref _) j29_38 rfl (Nat.le_of_ble_eq_true rfl) rfl ?_
        refine wx_i0 j29_41 rfl  (Nat.le_of_ble_eq_true rfl) rfl (sp_isInTag (s := 1) (by decide) (gr_tk hg hf1)) ?_
        rintro _ d9 ⟨rfl, h9⟩
        obtain rfl := h9.symm
        refine wx_if 64 j29_44 (by decide) (fun c44 => ?_) (fun c44 => ?_)
        · simp only [ax_cn, Classical.not_not] at c44
          have hf : fl m = false := by
            have := bB_1.mp c44
            simpa using this
          have e : rCo sl T (fl m) (nm m) t = rLc sl T (fl m) (nm m) (rP sl (cho T (fl m) (nm m)) t).2 := by unfold rCo; rw [hr]; simp only [if_neg hge, if_neg (show ¬ (fl m = true ∧ q = (T (kj (fl m)) (nm m)).length) from fun q2 => by rw [hf] at q2; cases q2.1)]
          rw [e]
          refine ax_W_mono (tc_kind (gr_tk hg hf1) (tb_tk ht hf1) (bt_tk hs hf1) h41 htt.2 hb h45) ?_
          rintro o d2 ⟨y, e1, e2, e3, e4, e5⟩
          exact ⟨y, e1, e2, e3, e4, rf_tr (rf_tk hf1) e5⟩
        · simp only [ax_cn, Classical.not_not] at c44
          have hf : fl m = true := by
            have := bB_0.mp c44
            simpa using this
          refine wx_ildn j29_47 rfl ?_
          refine wx_aldn j29_48 rfl ?_
          refine wx_get (v := .ref _) j29_49 rfl (Nat.le_of_ble_eq_true rfl) rfl ?_
          refine wx_i0 j29_52 rfl  (Nat.le_of_ble_eq_true rfl) rfl (sp_learned (s := 1) (by decide) (gr_tk hg hf1) (tb_tk ht hf1)) ?_
          rintro _ d9 ⟨rfl, h9⟩
          obtain rfl := h9.symm
          refine wx_cmp 64 j29_55 (by decide) (fun c55 => ?_) (fun c55 => ?_)
          · simp only [ax_cn, Classical.not_not] at c55
            have hne : ¬ q = (T (kj (fl m)) (nm m)).length := fun q2 => c55 (by rw [q2]; rfl)
            have e : rCo sl T (fl m) (nm m) t = rLc sl T (fl m) (nm m) (rP sl (cho T (fl m) (nm m)) t).2 := by unfold rCo; rw [hr]; simp only [if_neg hge, if_neg (show ¬ (fl m = true ∧ q = (T (kj (fl m)) (nm m)).length) from fun q2 => hne q2.2)]
            rw [e]
            refine ax_W_mono (tc_kind (gr_tk hg hf1) (tb_tk ht hf1) (bt_tk hs hf1) h41 htt.2 hb h45) ?_
            rintro o d2 ⟨y, e1, e2, e3, e4, e5⟩
            exact ⟨y, e1, e2, e3, e4, rf_tr (rf_tk hf1) e5⟩
          · simp only [ax_cn, Classical.not_not] at c55
            have heq : q = (T (kj (fl m)) (nm m)).length := (nI_eq (by omega) (show (T (kd fl m) (nm m)).length < 2 ^ 31 from Nat.lt_of_le_of_lt h12 (by decide))).mp c55
            have e : rCo sl T (fl m) (nm m) t = (some 4, T, (rP sl (cho T (fl m) (nm m)) t).2) := by unfold rCo; rw [hr]; simp only [if_neg hge, if_pos (show fl m = true ∧ q = (T (kj (fl m)) (nm m)).length from ⟨hf, heq⟩)]
            rw [e]
            refine wx_icst (v := nI 4) j29_58 (by decide) ?_
            refine wx_icst (v := nI 0) j29_59 (by decide) ?_
            refine wx_t2 j29_60 rfl rfl rfl (Nat.le_of_ble_eq_true rfl) (sp_codeOf) ?_
            rintro _ d9 ⟨rfl, h9⟩
            obtain rfl := h9.symm
            refine wx_ri j29_63 rfl rfl ?_
            exact ⟨rfl, h41, fun q e => tb_tk ht hf1, rf_tk hf1⟩
      · simp only [ax_cn, Classical.not_not] at c25
        have hlt : q < (T (kj (fl m)) (nm m)).length := Nat.not_le.mp (fun q2 => c25 ((nI_leI (show (T (kd fl m) (nm m)).length < 2 ^ 31 from Nat.lt_of_le_of_lt h12 (by decide)) (by omega)).mpr q2))
        have e : rCo sl T (fl m) (nm m) t = (some ((T (kj (fl m)) (nm m)).getD q 0), T, (rP sl (cho T (fl m) (nm m)) t).2) := by unfold rCo; rw [hr]; simp only [if_pos hlt]
        rw [e]
        refine wx_aldn j29_28 rfl ?_
        refine wx_get (v := .ref _) j29_29 rfl (Nat.le_of_ble_eq_true rfl) rfl ?_
        refine wx_ildn j29_32 rfl ?_
        refine wx_i1 j29_33 rfl rfl (Nat.le_of_ble_eq_true rfl) rfl (sp_codeAt (s := 1) (by decide) (gr_tk hg hf1) (tb_tk ht hf1) hlt) ?_
        rintro _ d9 ⟨rfl, h9⟩
        obtain rfl := h9.symm
        refine wx_ri j29_36 rfl rfl ?_
        exact ⟨rfl, h41, fun q e => tb_tk ht hf1, rf_tk hf1⟩
  -- 
def rFs (sl : List Nat) (T : TT) (t : Nat) : Option Nat × TT × Nat := ((rNa sl T t).1.map (fun i => i * 8 + 1), (rNa sl T t).2.1, (rNa sl T t).2.2)
theorem sp_takeFirst (ht : tb_is d 1 T) (hs : bt_is d 517 sl) (h4 : d 514 4 = nI t) (hts : t ≤ sl.length) (hb : TB T) (h45 : T45 T) : ax_E 28 [.ref 514] d (ax_Pi fun y d1 => y = oi (rFs sl T t).1 ∧ d1 514 4 = nI (rFs sl T t).2.2 ∧ (∀ q, (rFs sl T t).1 = some q → tb_is d1 1 (rFs sl T t).2.1) ∧ rf d d1) := by
  show ax_W 28 0 [some (.ref 514), none] [] d _
  refine wx_aldn j28_0 rfl ?_
  refine wx_i0 j28_1 rfl  (Nat.le_of_ble_eq_true rfl) rfl (sp_takeName ht hs h4 hts hb h45) ?_
  rintro _ d1 ⟨rfl, h41, ht1, hf1⟩
  cases hr : (rNa sl T t).1 with
  | none =>
    have e : rFs sl T t = (none, (rNa sl T t).2.1, (rNa sl T t).2.2) := by unfold rFs; rw [hr]; rfl
    rw [e]
    simp only [oi]
    refine wx_istn (L' := [_, some (.int _)]) j28_4 (Nat.le_of_ble_eq_true rfl) rfl ?_
    refine wx_ildn j28_5 rfl ?_
    refine wx_icst (v := (-1)) j28_6 (by decide) ?_
    refine wx_cmp 14 j28_7 (by decide) (fun c7 => ?_) (fun c7 => ?_)
    · simp only [ax_cn, Classical.not_not] at c7
      exact absurd trivial c7
    · simp only [ax_cn, Classical.not_not] at c7
      refine wx_icst (v := (-1)) j28_10 (by decide) ?_
      refine wx_goto 19 j28_11 (by decide) ?_
      refine wx_ri j28_19 rfl rfl ?_
      exact ⟨rfl, h41, fun q e => (by cases e), hf1⟩
  | some i =>
    have ht1 := ht1 i hr
    have hi := Nat.lt_of_lt_of_le (rNa_i hr) (tb_l20 ht1 (j := 4) (k := 0) (by decide) (by decide))
    have e : rFs sl T t = (some (i * 8 + 1), (rNa sl T t).2.1, (rNa sl T t).2.2) := by unfold rFs; rw [hr]; rfl
    rw [e]
    simp only [oi]
    refine wx_istn (L' := [_, some (.int _)]) j28_4 (Nat.le_of_ble_eq_true rfl) rfl ?_
    refine wx_ildn j28_5 rfl ?_
    refine wx_icst (v := (-1)) j28_6 (by decide) ?_
    refine wx_cmp 14 j28_7 (by decide) (fun c7 => ?_) (fun c7 => ?_)
    · simp only [ax_cn, Classical.not_not] at c7
      refine wx_icst (v := nI 1) j28_14 (by decide) ?_
      refine wx_ildn j28_15 rfl ?_
      refine wx_t2 j28_16 rfl rfl rfl (Nat.le_of_ble_eq_true rfl) (sp_codeOf) ?_
      rintro _ d9 ⟨rfl, h9⟩
      obtain rfl := h9.symm
      refine wx_ri j28_19 rfl rfl ?_
      exact ⟨rfl, h41, fun q e => ht1, hf1⟩
    · simp only [ax_cn, Classical.not_not] at c7
      exact absurd (show oi (some i) = -1 from c7) (fun q2 => by have := (oi_neg (o := some i) (fun i2 e2 => by cases e2; exact (by omega))).mp q2; cases this)
  -- 
/-- an event by its code: the tables, the open elements, the event behind it -/
abbrev RS : Type := Option (TT × Nat × (Nat → Nat) × (Nat → Bool) × Ev) × Nat
def rFi (sl : List Nat) (T : TT) (n : Nat) (nm : Nat → Nat) (fl : Nat → Bool) (c t : Nat) : RS :=
  if c % 8 = 1 then (if n = 8 then (none, t) else (some (T, n + 1, va_up nm n (c / 8), va_up (fll fl n) n false, (1, (T 4 0).getD (c / 8) 0, (T 5 0).getD (c / 8) 0, 0)), t))
  else if c % 8 = 2 then (match (rVa sl T (c / 8) t).1 with
    | none => (none, (rVa sl T (c / 8) t).2.2)
    | some v => (some ((rVa sl T (c / 8) t).2.1, n, nm, fl, (2, (T 4 0).getD (c / 8) 0, (T 5 0).getD (c / 8) 0, v)), (rVa sl T (c / 8) t).2.2))
  else if c % 8 = 3 then (match (rVa sl T (nm (n - 1)) t).1 with
    | none => (none, (rVa sl T (nm (n - 1)) t).2.2)
    | some v => (some ((rVa sl T (nm (n - 1)) t).2.1, n, nm, fll fl n, (3, 0, 0, v)), (rVa sl T (nm (n - 1)) t).2.2))
  else (some (T, n - 1, nm, fl, (4, 0, 0, 0)), t)
theorem rVa_4 {n j k : Nat} (h2 : j ≠ 2) (h3 : j ≠ 3) : (rVa sl T n t).2.1 j k = T j k := by
  unfold rVa
  split
  · rfl
  · rfl
  · rfl
  · split
    · rfl
    · simp only
      unfold tav
      split
      · rfl
      · rw [tst_ne (Or.inl h3), tst_ne (Or.inl h2)]
/-- what reading may change -/
def re (d d1 : ax_D) : Prop := ∀ id, (id < 256 ∨ 512 ≤ id) → id ≠ 514 → id ≠ 522 → id ≠ 524 → id ≠ 526 → id ≠ 527 → id ≠ 529 → id ≠ 530 → id ≠ 531 → id ≠ 532 → d1 id = d id
theorem re_rf {d1 : ax_D} (h : rf d d1) : re d d1 := fun id a b _ _ _ _ _ _ _ _ => h id a b
theorem re_gr {d1 : ax_D} (h : gr_fr d d1 1) : re d d1 := fun id _ _ a b c _ _ _ _ _ => h id a b c
theorem re_ev {d1 : ax_D} (h : ev_fr d d1) : re d d1 := fun id _ _ _ _ _ a b c e f => h id a b c e f
theorem re_tr {d1 d2 : ax_D} (h : re d d1) (h2 : re d1 d2) : re d d2 := fun id a b c e f g i j k o => (h2 id a b c e f g i j k o).trans (h id a b c e f g i j k o)
theorem tb_g1 {d1 : ax_D} (h : tb_is d 1 T) (hf : gr_fr d d1 1) : tb_is d1 1 T := tb_same h (fun id hi => hf id (by omega) (by omega) (by omega)) (by decide)
theorem ev_rf {d1 : ax_D} (h : ev_is d es) (hf : rf d d1) : ev_is d1 es := ev_keep h (hf _ (by decide) (by decide)) (hf _ (by decide) (by decide)) (hf _ (by decide) (by decide)) (hf _ (by decide) (by decide)) (hf _ (by decide) (by decide))
theorem ev_gr {d1 : ax_D} (h : ev_is d es) (hf : gr_fr d d1 1) : ev_is d1 es := ev_keep h (hf _ (by decide) (by decide) (by decide)) (hf _ (by decide) (by decide) (by decide)) (hf _ (by decide) (by decide) (by decide)) (hf _ (by decide) (by decide) (by decide)) (hf _ (by decide) (by decide) (by decide))
theorem sp_fOpen (hg : gr_is d 1 n nm fl b) (hx : x < (T 4 0).length) (hk : T45 T) (ht : tb_is d 1 T) (hs : bt_is d 517 sl) (h4 : d 514 4 = nI t) (hts : t ≤ sl.length) (he : ev_is d es) : ax_E 25 [.ref 514, .int (nI x)] d (ax_Pi fun y d1 => y = bB (rFi sl T n nm fl (x * 8 + 1) t).1.isSome ∧ d1 514 4 = nI (rFi sl T n nm fl (x * 8 + 1) t).2 ∧ (∀ q, (rFi sl T n nm fl (x * 8 + 1) t).1 = some q → tb_is d1 1 q.1 ∧ gr_is d1 1 q.2.1 q.2.2.1 q.2.2.2.1 true ∧ ev_is d1 (eadd es q.2.2.2.2)) ∧ re d d1) := by
  show ax_W 25 0 [some (.ref 514), some (.int (nI x))] [] d _
  refine wx_aldn j25_0 rfl ?_
  refine wx_get (v := .ref _) j25_1 rfl (Nat.le_of_ble_eq_true rfl) rfl ?_
  have e1 : (x * 8 + 1) % 8 = 1 := by omega
  have e2 : (x * 8 + 1) / 8 = x := by omega
  refine wx_i0 j25_4 rfl  (Nat.le_of_ble_eq_true rfl) rfl (sp_isDeepest (s := 1) (by decide) hg) ?_
  rintro _ d9 ⟨rfl, h9⟩
  obtain rfl := h9.symm
  refine wx_if 12 j25_7 (by decide) (fun c7 => ?_) (fun c7 => ?_)
  · simp only [ax_cn, Classical.not_not] at c7
    have h8 := of_decide_eq_false (bB_0.mp c7)
    have h8l : n < 8 := by have := hg.1; omega
    have e : rFi sl T n nm fl (x * 8 + 1) t = (some (T, n + 1, va_up nm n x, va_up (fll fl n) n false, (1, (T 4 0).getD x 0, (T 5 0).getD x 0, 0)), t) := by unfold rFi; rw [if_pos e1, if_neg h8, e2]
    rw [e]
    have hx20 := Nat.lt_of_lt_of_le hx (tb_l20 ht (j := 4) (k := 0) (by decide) (by decide))
    refine wx_aldn j25_12 rfl ?_
    refine wx_get (v := .ref _) j25_13 rfl (Nat.le_of_ble_eq_true rfl) rfl ?_
    refine wx_ildn j25_16 rfl ?_
    refine wx_v1 j25_17 rfl rfl (Nat.le_of_ble_eq_true rfl) rfl (sp_enter (s := 1) (by decide) hg h8l hx20) ?_
    rintro d1 ⟨hg1, hf1⟩
    have ht1 := tb_g1 ht hf1
    refine wx_aldn j25_20 rfl ?_
    refine wx_get (v := .ref _) j25_21 rfl (Nat.le_of_ble_eq_true rfl) rfl ?_
    refine wx_icst (v := nI 1) j25_24 (by decide) ?_
    refine wx_aldn j25_25 rfl ?_
    refine wx_get (v := .ref _) j25_26 rfl (Nat.le_of_ble_eq_true rfl) rfl ?_
    refine wx_ildn j25_29 rfl ?_
    refine wx_i1 j25_30 rfl rfl (Nat.le_of_ble_eq_true rfl) rfl (sp_spaceOf (s := 1) (by decide) ht1 hx) ?_
    rintro _ d9 ⟨rfl, h9⟩
    obtain rfl := h9.symm
    refine wx_aldn j25_33 rfl ?_
    refine wx_get (v := .ref _) j25_34 rfl (Nat.le_of_ble_eq_true rfl) rfl ?_
    refine wx_ildn j25_37 rfl ?_
    refine wx_i1 j25_38 rfl rfl (Nat.le_of_ble_eq_true rfl) rfl (sp_localOf (s := 1) (by decide) ht1 (by rw [← hk]; exact hx)) ?_
    rintro _ d9 ⟨rfl, h9⟩
    obtain rfl := h9.symm
    refine wx_icst (v := nI 0) j25_41 (by decide) ?_
    refine wx_v4 j25_42 rfl rfl rfl rfl rfl (Nat.le_of_ble_eq_true rfl) rfl (sp_evAdd (ev_gr he hf1)) ?_
    rintro d2 ⟨h2, hf2⟩
    refine wx_icst (v := nI 1) j25_45 (by decide) ?_
    refine wx_ri j25_46 rfl rfl ?_
    refine ⟨rfl, ?_, fun q e => ?_, re_tr (re_gr hf1) (re_ev hf2)⟩
    · rw [hf2 514 (by decide) (by decide) (by decide) (by decide) (by decide), hf1 514 (by decide) (by decide) (by decide)]; exact h4
    · cases e
      exact ⟨tb_ev ht1 (by decide) hf2, gr_ev hg1 (by decide) hf2, h2⟩
  · simp only [ax_cn, Classical.not_not] at c7
    have h8 := of_decide_eq_true (bB_1.mp c7)
    have e : rFi sl T n nm fl (x * 8 + 1) t = (none, t) := by unfold rFi; rw [if_pos e1, if_pos h8]
    rw [e]
    refine wx_icst (v := nI 0) j25_10 (by decide) ?_
    refine wx_ri j25_11 rfl rfl ?_
    exact ⟨rfl, h4, fun q e => (by cases e), re_rf (rf_rf d)⟩
theorem sp_fAttr (hg : gr_is d 1 n nm fl b) (hb : TB T) (hx : x < (T 4 0).length) (hk : T45 T) (ht : tb_is d 1 T) (hs : bt_is d 517 sl) (h4 : d 514 4 = nI t) (hts : t ≤ sl.length) (he : ev_is d es) : ax_E 26 [.ref 514, .int (nI x)] d (ax_Pi fun y d1 => y = bB (rFi sl T n nm fl (x * 8 + 2) t).1.isSome ∧ d1 514 4 = nI (rFi sl T n nm fl (x * 8 + 2) t).2 ∧ (∀ q, (rFi sl T n nm fl (x * 8 + 2) t).1 = some q → tb_is d1 1 q.1 ∧ gr_is d1 1 q.2.1 q.2.2.1 q.2.2.2.1 b ∧ ev_is d1 (eadd es q.2.2.2.2)) ∧ re d d1) := by
  show ax_W 26 0 [some (.ref 514), some (.int (nI x)), none] [] d _
  refine wx_aldn j26_0 rfl ?_
  refine wx_ildn j26_1 rfl ?_
  have e1 : ¬ (x * 8 + 2) % 8 = 1 := by omega
  have e1b : (x * 8 + 2) % 8 = 2 := by omega
  have e2 : (x * 8 + 2) / 8 = x := by omega
  have hx20 := Nat.lt_of_lt_of_le hx (tb_l20 ht (j := 4) (k := 0) (by decide) (by decide))
  refine wx_i1 j26_2 rfl rfl (Nat.le_of_ble_eq_true rfl) rfl (sp_takeValue hx20 ht hs h4 hts) ?_
  rintro _ d1 ⟨rfl, h41, ht1, hf1⟩
  cases hr : (rVa sl T x t).1 with
  | none =>
    have e : rFi sl T n nm fl (x * 8 + 2) t = (none, (rVa sl T x t).2.2) := by unfold rFi; rw [if_neg e1, if_pos e1b, e2, hr]
    rw [e]
    simp only [oi]
    refine wx_istn (L' := [_, _, some (.int _)]) j26_5 (Nat.le_of_ble_eq_true rfl) rfl ?_
    refine wx_ildn j26_6 rfl ?_
    refine wx_icst (v := (-1)) j26_7 (by decide) ?_
    refine wx_cmp 13 j26_8 (by decide) (fun c8 => ?_) (fun c8 => ?_)
    · simp only [ax_cn, Classical.not_not] at c8
      exact absurd trivial c8
    · simp only [ax_cn, Classical.not_not] at c8
      refine wx_icst (v := nI 0) j26_11 (by decide) ?_
      refine wx_ri j26_12 rfl rfl ?_
      exact ⟨rfl, h41, fun q e => (by cases e), re_rf hf1⟩
  | some v =>
    have ht1 := ht1 v hr
    have e : rFi sl T n nm fl (x * 8 + 2) t = (some ((rVa sl T x t).2.1, n, nm, fl, (2, (T 4 0).getD x 0, (T 5 0).getD x 0, v)), (rVa sl T x t).2.2) := by unfold rFi; rw [if_neg e1, if_pos e1b, e2, hr]
    rw [e]
    simp only [oi]
    have e40 : (rVa sl T x t).2.1 4 0 = T 4 0 := rVa_4 (by decide) (by decide)
    have e50 : (rVa sl T x t).2.1 5 0 = T 5 0 := rVa_4 (by decide) (by decide)
    refine wx_istn (L' := [_, _, some (.int _)]) j26_5 (Nat.le_of_ble_eq_true rfl) rfl ?_
    refine wx_ildn j26_6 rfl ?_
    refine wx_icst (v := (-1)) j26_7 (by decide) ?_
    refine wx_cmp 13 j26_8 (by decide) (fun c8 => ?_) (fun c8 => ?_)
    · simp only [ax_cn, Classical.not_not] at c8
      refine wx_aldn j26_13 rfl ?_
      refine wx_get (v := .ref _) j26_14 rfl (Nat.le_of_ble_eq_true rfl) rfl ?_
      refine wx_icst (v := nI 2) j26_17 (by decide) ?_
      refine wx_aldn j26_18 rfl ?_
      refine wx_get (v := .ref _) j26_19 rfl (Nat.le_of_ble_eq_true rfl) rfl ?_
      refine wx_ildn j26_22 rfl ?_
      refine wx_i1 j26_23 rfl rfl (Nat.le_of_ble_eq_true rfl) rfl (sp_spaceOf (s := 1) (by decide) ht1 (by rw [e40]; exact hx)) ?_
      rintro _ d9 ⟨rfl, h9⟩
      obtain rfl := h9.symm
      rw [e40]
      refine wx_aldn j26_26 rfl ?_
      refine wx_get (v := .ref _) j26_27 rfl (Nat.le_of_ble_eq_true rfl) rfl ?_
      refine wx_ildn j26_30 rfl ?_
      refine wx_i1 j26_31 rfl rfl (Nat.le_of_ble_eq_true rfl) rfl (sp_localOf (s := 1) (by decide) ht1 (by rw [e50, ← hk]; exact hx)) ?_
      rintro _ d9 ⟨rfl, h9⟩
      obtain rfl := h9.symm
      rw [e50]
      refine wx_ildn j26_34 rfl ?_
      refine wx_v4 j26_35 rfl rfl rfl rfl rfl (Nat.le_of_ble_eq_true rfl) rfl (sp_evAdd (ev_rf he hf1)) ?_
      rintro d2 ⟨h2, hf2⟩
      refine wx_icst (v := nI 1) j26_38 (by decide) ?_
      refine wx_ri j26_39 rfl rfl ?_
      refine ⟨rfl, ?_, fun q e => ?_, re_tr (re_rf hf1) (re_ev hf2)⟩
      · rw [hf2 514 (by decide) (by decide) (by decide) (by decide) (by decide)]; exact h41
      · cases e
        exact ⟨tb_ev ht1 (by decide) hf2, gr_ev (gr_rf hg hf1) (by decide) hf2, h2⟩
    · simp only [ax_cn, Classical.not_not] at c8
      exact absurd (show oi (some v) = -1 from c8) (fun q2 => by have := (oi_neg (o := some v) (fun i2 e2 => by cases e2; exact (tB_lt (rVa_v hb hr)))).mp q2; cases this)
  -- 
theorem sp_fText (hg : gr_is d 1 (m + 1) nm fl b) (ht : tb_is d 1 T) (hs : bt_is d 517 sl) (h4 : d 514 4 = nI t) (hts : t ≤ sl.length) (he : ev_is d es) (hb : TB T) : ax_E 27 [.ref 514] d (ax_Pi fun y d1 => y = bB (rFi sl T (m + 1) nm fl 3 t).1.isSome ∧ d1 514 4 = nI (rFi sl T (m + 1) nm fl 3 t).2 ∧ (∀ q, (rFi sl T (m + 1) nm fl 3 t).1 = some q → tb_is d1 1 q.1 ∧ gr_is d1 1 q.2.1 q.2.2.1 q.2.2.2.1 b ∧ ev_is d1 (eadd es q.2.2.2.2)) ∧ re d d1) := by
  show ax_W 27 0 [some (.ref 514), none] [] d _
  refine wx_aldn j27_0 rfl ?_
  refine wx_get (v := .ref _) j27_1 rfl (Nat.le_of_ble_eq_true rfl) rfl ?_
  have hn20 := (hg.2.2.2 m (Nat.lt_succ_self m)).2.1
  refine wx_v0 j27_4 rfl  (Nat.le_of_ble_eq_true rfl) rfl (sp_fill (s := 1) (by decide) hg) ?_
  rintro d0 ⟨hg0, hf0⟩
  refine wx_aldn j27_7 rfl ?_
  refine wx_aldn j27_8 rfl ?_
  refine wx_get (v := .ref _) j27_9 rfl (Nat.le_of_ble_eq_true rfl) rfl ?_
  refine wx_i0 j27_12 rfl  (Nat.le_of_ble_eq_true rfl) rfl (sp_name (s := 1) (by decide) hg0) ?_
  rintro _ d9 ⟨rfl, h9⟩
  obtain rfl := h9.symm
  refine wx_i1 j27_15 rfl rfl (Nat.le_of_ble_eq_true rfl) rfl (sp_takeValue hn20 (tb_g1 ht hf0) (bt_keep hs (hf0 517 (by decide) (by decide) (by decide)) (hf0 518 (by decide) (by decide) (by decide))) (by rw [hf0 514 (by decide) (by decide) (by decide)]; exact h4) hts) ?_
  rintro _ d1 ⟨rfl, h41, ht1, hf1⟩
  cases hr : (rVa sl T (nm m) t).1 with
  | none =>
    have e : rFi sl T (m + 1) nm fl 3 t = (none, (rVa sl T (nm m) t).2.2) := by unfold rFi; rw [if_neg (by decide), if_neg (by decide), if_pos (by decide), Nat.add_sub_cancel, hr]
    rw [e]
    simp only [oi]
    refine wx_istn (L' := [_, some (.int _)]) j27_18 (Nat.le_of_ble_eq_true rfl) rfl ?_
    refine wx_ildn j27_19 rfl ?_
    refine wx_icst (v := (-1)) j27_20 (by decide) ?_
    refine wx_cmp 26 j27_21 (by decide) (fun c21 => ?_) (fun c21 => ?_)
    · simp only [ax_cn, Classical.not_not] at c21
      exact absurd trivial c21
    · simp only [ax_cn, Classical.not_not] at c21
      refine wx_icst (v := nI 0) j27_24 (by decide) ?_
      refine wx_ri j27_25 rfl rfl ?_
      exact ⟨rfl, h41, fun q e => (by cases e), re_tr (re_gr hf0) (re_rf hf1)⟩
  | some v =>
    have ht1 := ht1 v hr
    have e : rFi sl T (m + 1) nm fl 3 t = (some ((rVa sl T (nm m) t).2.1, m + 1, nm, fll fl (m + 1), (3, 0, 0, v)), (rVa sl T (nm m) t).2.2) := by unfold rFi; rw [if_neg (by decide), if_neg (by decide), if_pos (by decide), Nat.add_sub_cancel, hr]
    rw [e]
    simp only [oi]
    refine wx_istn (L' := [_, some (.int _)]) j27_18 (Nat.le_of_ble_eq_true rfl) rfl ?_
    refine wx_ildn j27_19 rfl ?_
    refine wx_icst (v := (-1)) j27_20 (by decide) ?_
    refine wx_cmp 26 j27_21 (by decide) (fun c21 => ?_) (fun c21 => ?_)
    · simp only [ax_cn, Classical.not_not] at c21
      refine wx_aldn j27_26 rfl ?_
      refine wx_get (v := .ref _) j27_27 rfl (Nat.le_of_ble_eq_true rfl) rfl ?_
      refine wx_icst (v := nI 3) j27_30 (by decide) ?_
      refine wx_icst (v := nI 0) j27_31 (by decide) ?_
      refine wx_icst (v := nI 0) j27_32 (by decide) ?_
      refine wx_ildn j27_33 rfl ?_
      refine wx_v4 j27_34 rfl rfl rfl rfl rfl (Nat.le_of_ble_eq_true rfl) rfl (sp_evAdd (a1 := 3) (a2 := 0) (a3 := 0) (a4 := v) (ev_rf (ev_gr he hf0) hf1)) ?_
      rintro d2 ⟨h2, hf2⟩
      refine wx_icst (v := nI 1) j27_37 (by decide) ?_
      refine wx_ri j27_38 rfl rfl ?_
      refine ⟨rfl, ?_, fun q e => ?_, re_tr (re_tr (re_gr hf0) (re_rf hf1)) (re_ev hf2)⟩
      · rw [hf2 514 (by decide) (by decide) (by decide) (by decide) (by decide)]; exact h41
      · cases e
        exact ⟨tb_ev ht1 (by decide) hf2, gr_ev (gr_rf hg0 hf1) (by decide) hf2, h2⟩
    · simp only [ax_cn, Classical.not_not] at c21
      exact absurd (show oi (some v) = -1 from c21) (fun q2 => by have := (oi_neg (o := some v) (fun i2 e2 => by cases e2; exact (tB_lt (rVa_v hb hr)))).mp q2; cases this)
  -- 
end R4
