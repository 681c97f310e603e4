/-! THE REFERENCE: values, codes, elements, beginning. -/
def mg_is (d : ax_D) (c n : Nat) (nm : Nat → Nat) (fl : Nat → Bool) (b : Bool) : Prop := n ≤ 8 ∧ d 555 c = nI n ∧ d 558 c = bB (b && decide (n = 0)) ∧ ∀ i, i < n → d 556 (8 * c + i) = nI (nm i) ∧ nm i < 20 ∧ d 557 (8 * c + i) = bB (fl i)
theorem mg_up {d : ax_D} {c n id i : Nat} {x : Int32} {nm : Nat → Nat} {fl : Nat → Bool} {b : Bool} (h : mg_is d c n nm fl b) (h1 : id < 555) : mg_is (ax_up d id i x) c n nm fl b := by
  unfold mg_is
  rw [ax_up_ne (show 555 ≠ id by omega), ax_up_ne (show 556 ≠ id by omega), ax_up_ne (show 557 ≠ id by omega), ax_up_ne (show 558 ≠ id by omega)]
  exact h
theorem mg_id {d d1 : ax_D} {c n : Nat} {nm : Nat → Nat} {fl : Nat → Bool} {b : Bool} (h : mg_is d c n nm fl b) (h5 : d1 555 = d 555) (h6 : d1 556 = d 556) (h7 : d1 557 = d 557) (h8 : d1 558 = d 558) : mg_is d1 c n nm fl b := by
  unfold mg_is
  rw [h5, h6, h7, h8]
  exact h
theorem mg_oth {d d1 : ax_D} {c c' n : Nat} {nm : Nat → Nat} {fl : Nat → Bool} {b : Bool} (h : mg_is d c' n nm fl b) (hf : mo d d1 c) (hc : c' ≠ c) : mg_is d1 c' n nm fl b := by
  have k : ∀ id i, i / msz id = c' → d1 id i = d id i := fun id i e => hf id i (fun q => hc (e.symm.trans q.2.2))
  obtain ⟨h1, h2, h3, h4⟩ := h
  refine ⟨h1, by rw [k 555 c' (Nat.div_one c')]; exact h2, by rw [k 558 c' (Nat.div_one c')]; exact h3, fun i hi => ?_⟩
  rw [k 556 (8 * c' + i) (show (8 * c' + i) / 8 = c' by omega), k 557 (8 * c' + i) (show (8 * c' + i) / 8 = c' by omega)]
  exact h4 i hi
theorem mt_up {d : ax_D} {c id i : Nat} {x : Int32} {T : TT} (h : mt_is d c T) (h1 : id < 542 ∨ 554 < id) : mt_is (ax_up d id i x) c T := by
  unfold mt_is sg
  rw [ax_up_ne (show 542 ≠ id by omega), ax_up_ne (show 543 ≠ id by omega), ax_up_ne (show 544 ≠ id by omega), ax_up_ne (show 545 ≠ id by omega), ax_up_ne (show 546 ≠ id by omega), ax_up_ne (show 547 ≠ id by omega), ax_up_ne (show 548 ≠ id by omega), ax_up_ne (show 549 ≠ id by omega), ax_up_ne (show 550 ≠ id by omega), ax_up_ne (show 551 ≠ id by omega), ax_up_ne (show 552 ≠ id by omega), ax_up_ne (show 553 ≠ id by omega), ax_up_ne (show 554 ≠ id by omega)]
  exact h
section M3
variable {d d1 : ax_D} {c x n m : Nat} {T : TT} {nm : Nat → Nat} {fl : Nat → Bool} {b : Bool}
def tv2 (T : TT) (n v : Nat) : TT := tst T 2 n (if (T 2 n).length < 5 then T 2 n ++ [v] else T 2 n)
def tv3 (T : TT) (v : Nat) : TT := tst T 3 0 (if (T 3 0).length < 20 then T 3 0 ++ [v] else T 3 0)
theorem tav_e {v : Nat} (h : ¬ v = 0) : tav T n v = tv3 (tv2 T n v) v := by
  unfold tav tv3 tv2
  rw [if_neg h, tst_ne (T := T) (j := 2) (j' := 3) (Or.inl (by decide))]
theorem tst_id (T : TT) (j k : Nat) : tst T j k (T j k) = T := by
  funext a b
  unfold tst
  split
  · rename_i q; rw [q.1, q.2]
  · rfl
theorem mv_half {v : Nat} {x4 : Int32} (hc : c < 2) (h : mt_is d c T) (hl : LB T) (hv : 0 < v) (hvB : v < tB) : ax_W 95 52 [some (.ref 540), some (.int (nI c)), some (.int (nI n)), some (.int (nI v)), some (.int x4)] [] d (ax_Pv fun d1 => mt_is d1 c (tv3 T v) ∧ mq d d1 c) := by
  have l3 := lb3 hl
  refine wx_ildn j95_52 rfl ?_
  refine wx_if 94 j95_53 (by decide) (fun c53 => ?_) (fun c53 => ?_)
  · simp only [ax_cn, Classical.not_not] at c53
    exact absurd c53 (nI_nle hv (tB_lt hvB))
  · simp only [ax_cn, Classical.not_not] at c53
    refine wx_aldn j95_56 rfl ?_
    refine wx_get (v := .ref 551) j95_57 rfl (Nat.le_of_ble_eq_true rfl) rfl ?_
    refine wx_ildn j95_60 rfl ?_
    refine wx_ialx (c) j95_61 rfl rfl (hc) (by decide) ?_
    refine wx_bpsh (v := nI 20) j95_62 (by decide) ?_
    rw [h.2.2.2.2.1.1]
    refine wx_cmp 94 j95_64 (by decide) (fun c64 => ?_) (fun c64 => ?_)
    · simp only [ax_cn, Classical.not_not] at c64
      have hf : ¬ (T 3 0).length < 20 := Nat.not_lt.mpr ((nI_leI (by decide) (by omega)).mp c64)
      refine wx_rv j95_94 rfl ?_
      exact ⟨by unfold tv3; rw [if_neg hf, tst_id]; exact h, mq_rf d c⟩
    · simp only [ax_cn, Classical.not_not] at c64
      have hr : (T 3 0).length < 20 := Nat.not_le.mp (fun q => c64 ((nI_leI (by decide) (by omega)).mpr q))
      refine wx_aldn j95_67 rfl ?_
      refine wx_get (v := .ref 552) j95_68 rfl (Nat.le_of_ble_eq_true rfl) rfl ?_
      refine wx_bpsh (v := nI 20) j95_71 (by decide) ?_
      refine wx_ildn j95_73 rfl ?_
      refine wx_imul j95_74 ?_
      rw [pk_mul]
      refine wx_aldn j95_75 rfl ?_
      refine wx_get (v := .ref 551) j95_76 rfl (Nat.le_of_ble_eq_true rfl) rfl ?_
      refine wx_ildn j95_79 rfl ?_
      refine wx_ialx (c) j95_80 rfl rfl (hc) (by decide) ?_
      rw [h.2.2.2.2.1.1]
      refine wx_iadd j95_81 ?_
      rw [nI_add]
      refine wx_ildn j95_82 rfl ?_
      refine wx_iasx (20 * c + (T 3 0).length) j95_83 rfl rfl (by omega) (by decide) ?_
      refine wx_aldn j95_84 rfl ?_
      refine wx_get (v := .ref 551) j95_85 rfl (Nat.le_of_ble_eq_true rfl) rfl ?_
      refine wx_ildn j95_88 rfl ?_
      refine wx_dup2 j95_89 ?_
      refine wx_ialx (c) j95_90 rfl rfl (hc) (by decide) ?_
      rw [up_ni (by decide), h.2.2.2.2.1.1]
      refine wx_icst (v := nI 1) j95_91 (by decide) ?_
      refine wx_iadd j95_92 ?_
      rw [nI_add]
      refine wx_iasx (c) j95_93 rfl rfl (hc) (by decide) ?_
      refine wx_rv j95_94 rfl ?_
      unfold tv3
      rw [if_pos hr]
      obtain ⟨h0, h1, h4, h2, h3, h6⟩ := h
      refine ⟨mt_of ?_ (fun p hp => ?_) ?_ (fun k hk => ?_) ?_ (fun k hk j hj => ?_), ?_⟩
      · rw [tst_ne (Or.inl (by decide))]
        exact M0_n (M0_n h0 (by decide) (by decide)) (by decide) (by decide)
      · rw [tst_ne (Or.inl (by decide))]
        exact M1_n (M1_n (h1 p hp) (by decide) (by decide)) (by decide) (by decide)
      · rw [tst_ne (Or.inl (by decide)), tst_ne (Or.inl (by decide))]
        exact M4_n (M4_n h4 (by decide) (by decide) (by decide)) (by decide) (by decide) (by decide)
      · rw [tst_ne (Or.inl (by decide))] at hk ⊢
        exact M2_n (M2_n (h2 k hk) (by decide) (by decide)) (by decide) (by decide)
      · rw [tst_at]
        exact ⟨by rw [up_at, List.length_append]; rfl, sg_ni (sg_app h3.2) (by decide)⟩
      · rw [tst_ne (Or.inl (by decide))] at hk
        rw [tst_ne (Or.inl (by omega))]
        exact M6_n (M6_n (h6 k hk j hj) (by decide) (by decide)) (by decide) (by decide)
      · exact mq_tr (mq_up (by decide) (by decide) (show (20 * c + (T 3 0).length) / 20 = c by omega)) (mq_up (by decide) (by decide) (Nat.div_one c))
theorem lb_2 {v : Nat} (hl : LB T) (hn : n < 20) : LB (tv2 T n v) := by
  intro j hj k hk
  unfold tv2 tst
  split
  · rename_i q
    split
    · rw [q.1, List.length_append]; rename_i q5; exact q5
    · rw [q.1]; exact lb2 hl hn
  · exact hl j hj k hk
theorem sm_addValue {v : Nat} (hc : c < 2) (h : mt_is d c T) (hl : LB T) (hn : n < (T 4 0).length) (hvB : v < tB) : ax_E 95 [.ref 540, .int (nI c), .int (nI n), .int (nI v)] d (ax_Pv fun d1 => mt_is d1 c (tav T n v) ∧ mq d d1 c) := by
  show ax_W 95 0 [some (.ref 540), some (.int (nI c)), some (.int (nI n)), some (.int (nI v)), none] [] d _
  have hn20 : n < 20 := Nat.lt_of_lt_of_le hn (lb4 hl)
  have l2 := lb2 hl hn20
  refine wx_bpsh (v := nI 20) j95_0 (by decide) ?_
  refine wx_ildn j95_2 rfl ?_
  refine wx_imul j95_3 ?_
  rw [pk_mul]
  refine wx_ildn j95_4 rfl ?_
  refine wx_iadd j95_5 ?_
  rw [nI_add]
  refine wx_ist (L' := [_, _, _, _, some (.int _)]) j95_6 (Nat.le_of_ble_eq_true rfl) rfl ?_
  refine wx_ildn j95_8 rfl ?_
  refine wx_if 52 j95_9 (by decide) (fun c9 => ?_) (fun c9 => ?_)
  · simp only [ax_cn, Classical.not_not] at c9
    have hv0 : v = 0 := Nat.eq_zero_of_not_pos (fun q => nI_nle q (tB_lt hvB) c9)
    have e : tav T n v = T := by unfold tav; rw [if_pos hv0]
    rw [e]
    refine wx_ildn j95_52 rfl ?_
    refine wx_if 94 j95_53 (by decide) (fun c53 => ?_) (fun c53 => ?_)
    · simp only [ax_cn, Classical.not_not] at c53
      refine wx_rv j95_94 rfl ?_
      exact ⟨h, mq_rf d c⟩
    · simp only [ax_cn, Classical.not_not] at c53
      exact absurd (show nI v ≤ 0 by rw [hv0]; decide) c53
  · simp only [ax_cn, Classical.not_not] at c9
    have hv0 : ¬ v = 0 := fun q => c9 (by rw [q]; decide)
    rw [tav_e hv0]
    refine wx_aldn j95_12 rfl ?_
    refine wx_get (v := .ref 549) j95_13 rfl (Nat.le_of_ble_eq_true rfl) rfl ?_
    refine wx_ild j95_16 rfl ?_
    refine wx_ialx (20 * c + n) j95_18 rfl rfl (by omega) (by decide) ?_
    refine wx_icst (v := nI 5) j95_19 (by decide) ?_
    rw [(h.2.2.2.1 n hn).1]
    refine wx_cmp 52 j95_20 (by decide) (fun c20 => ?_) (fun c20 => ?_)
    · simp only [ax_cn, Classical.not_not] at c20
      have hf : ¬ (T 2 n).length < 5 := Nat.not_lt.mpr ((nI_leI (by decide) (by omega)).mp c20)
      have e2 : tv2 T n v = T := by unfold tv2; rw [if_neg hf, tst_id]
      rw [e2]
      exact mv_half hc h hl (Nat.pos_of_ne_zero hv0) hvB
    · simp only [ax_cn, Classical.not_not] at c20
      have hr : (T 2 n).length < 5 := Nat.not_le.mp (fun q => c20 ((nI_leI (by decide) (by omega)).mpr q))
      refine wx_aldn j95_23 rfl ?_
      refine wx_get (v := .ref 550) j95_24 rfl (Nat.le_of_ble_eq_true rfl) rfl ?_
      refine wx_icst (v := nI 5) j95_27 (by decide) ?_
      refine wx_ild j95_28 rfl ?_
      refine wx_imul j95_30 ?_
      rw [pk_mul]
      refine wx_aldn j95_31 rfl ?_
      refine wx_get (v := .ref 549) j95_32 rfl (Nat.le_of_ble_eq_true rfl) rfl ?_
      refine wx_ild j95_35 rfl ?_
      refine wx_ialx (20 * c + n) j95_37 rfl rfl (by omega) (by decide) ?_
      rw [(h.2.2.2.1 n hn).1]
      refine wx_iadd j95_38 ?_
      rw [nI_add]
      refine wx_ildn j95_39 rfl ?_
      refine wx_iasx (5 * (20 * c + n) + (T 2 n).length) j95_40 rfl rfl (by omega) (by decide) ?_
      refine wx_aldn j95_41 rfl ?_
      refine wx_get (v := .ref 549) j95_42 rfl (Nat.le_of_ble_eq_true rfl) rfl ?_
      refine wx_ild j95_45 rfl ?_
      refine wx_dup2 j95_47 ?_
      refine wx_ialx (20 * c + n) j95_48 rfl rfl (by omega) (by decide) ?_
      rw [up_ni (by decide), (h.2.2.2.1 n hn).1]
      refine wx_icst (v := nI 1) j95_49 (by decide) ?_
      refine wx_iadd j95_50 ?_
      rw [nI_add]
      refine wx_iasx (20 * c + n) j95_51 rfl rfl (by omega) (by decide) ?_
      have h9 : mt_is (ax_up (ax_up d 550 (5 * (20 * c + n) + (T 2 n).length) (nI v)) 549 (20 * c + n) (nI ((T 2 n).length + 1))) c (tv2 T n v) := by
        unfold tv2
        rw [if_pos hr]
        obtain ⟨h0, h1, h4, h2, h3, h6⟩ := h
        refine mt_of ?_ (fun p hp => ?_) ?_ (fun k hk => ?_) ?_ (fun k hk j hj => ?_)
        · rw [tst_ne (Or.inl (by decide))]
          exact M0_n (M0_n h0 (by decide) (by decide)) (by decide) (by decide)
        · rw [tst_ne (Or.inl (by decide))]
          exact M1_n (M1_n (h1 p hp) (by decide) (by decide)) (by decide) (by decide)
        · rw [tst_ne (Or.inl (by decide)), tst_ne (Or.inl (by decide))]
          exact M4_n (M4_n h4 (by decide) (by decide) (by decide)) (by decide) (by decide) (by decide)
        · rw [tst_ne (Or.inl (by decide))] at hk
          by_cases hk2 : k = n
          · subst hk2
            rw [tst_at]
            exact ⟨by rw [up_at, List.length_append]; rfl, sg_ni (sg_app (h2 k hk).2) (by decide)⟩
          · have lk := lb2 hl (show k < 20 from Nat.lt_of_lt_of_le hk (lb4 hl))
            rw [tst_ne (Or.inr hk2)]
            exact ⟨by rw [up_nk (by omega), up_ni (by decide)]; exact (h2 k hk).1, sg_ni (sg_nk (h2 k hk).2 (by omega)) (by decide)⟩
        · rw [tst_ne (Or.inl (by decide))]
          exact M3_n (M3_n h3 (by decide) (by decide)) (by decide) (by decide)
        · rw [tst_ne (Or.inl (by decide))] at hk
          rw [tst_ne (Or.inl (by omega))]
          exact M6_n (M6_n (h6 k hk j hj) (by decide) (by decide)) (by decide) (by decide)
      have m9 : mq d (ax_up (ax_up d 550 (5 * (20 * c + n) + (T 2 n).length) (nI v)) 549 (20 * c + n) (nI ((T 2 n).length + 1))) c := mq_tr (mq_up (by decide) (by decide) (show (5 * (20 * c + n) + (T 2 n).length) / 100 = c by omega)) (mq_up (by decide) (by decide) (show (20 * c + n) / 20 = c by omega))
      refine ax_W_mono (mv_half hc h9 (lb_2 hl hn20) (Nat.pos_of_ne_zero hv0) hvB) ?_
      rintro o d2 ⟨e1, e2, e3⟩
      exact ⟨e1, e2, mq_tr m9 e3⟩
theorem sm_rowOf (hc : c < 2) (hg : mg_is d c (m + 1) nm fl b) : ax_E 96 [.ref 540, .int (nI c)] d (ax_Pi fun y d1 => y = nI (40 * c + 2 * nm m + (if fl m then 1 else 0)) ∧ d1 = d) := by
  show ax_W 96 0 [some (.ref 540), some (.int (nI c)), none] [] d _
  have hm8 := hg.1
  obtain ⟨g1, g2, g3⟩ := hg.2.2.2 m (Nat.lt_succ_self m)
  refine wx_bpsh (v := nI 8) j96_0 (by decide) ?_
  refine wx_ildn j96_2 rfl ?_
  refine wx_imul j96_3 ?_
  rw [pk_mul]
  refine wx_aldn j96_4 rfl ?_
  refine wx_get (v := .ref 555) j96_5 rfl (Nat.le_of_ble_eq_true rfl) rfl ?_
  refine wx_ildn j96_8 rfl ?_
  refine wx_ialx (c) j96_9 rfl rfl (hc) (by decide) ?_
  rw [hg.2.1]
  refine wx_iadd j96_10 ?_
  rw [nI_add]
  refine wx_icst (v := nI 1) j96_11 (by decide) ?_
  refine wx_isub j96_12 ?_
  rw [show 8 * c + (m + 1) = 8 * c + m + 1 by omega, nI_s1]
  refine wx_istn (L' := [_, _, some (.int _)]) j96_13 (Nat.le_of_ble_eq_true rfl) rfl ?_
  refine wx_bpsh (v := nI 40) j96_14 (by decide) ?_
  refine wx_ildn j96_16 rfl ?_
  refine wx_imul j96_17 ?_
  rw [pk_mul]
  refine wx_icst (v := nI 2) j96_18 (by decide) ?_
  refine wx_aldn j96_19 rfl ?_
  refine wx_get (v := .ref 556) j96_20 rfl (Nat.le_of_ble_eq_true rfl) rfl ?_
  refine wx_ildn j96_23 rfl ?_
  refine wx_ialx (8 * c + m) j96_24 rfl rfl (by omega) (by decide) ?_
  rw [g1]
  refine wx_imul j96_25 ?_
  rw [pk_mul]
  refine wx_iadd j96_26 ?_
  rw [nI_add]
  refine wx_aldn j96_27 rfl ?_
  refine wx_get (v := .ref 557) j96_28 rfl (Nat.le_of_ble_eq_true rfl) rfl ?_
  refine wx_ildn j96_31 rfl ?_
  refine wx_balx (8 * c + m) j96_32 rfl rfl (by omega) (by decide) ?_
  rw [g3]
  refine wx_if 40 j96_33 (by decide) (fun c33 => ?_) (fun c33 => ?_)
  · simp only [ax_cn, Classical.not_not] at c33
    have hf := bB_0.mp c33
    refine wx_icst (v := nI 0) j96_40 (by decide) ?_
    refine wx_iadd j96_41 ?_
    rw [nI_add]
    refine wx_ri j96_42 rfl rfl ?_
    exact ⟨by rw [hf]; rfl, rfl⟩
  · simp only [ax_cn, Classical.not_not] at c33
    have hf := bB_1.mp c33
    refine wx_icst (v := nI 1) j96_36 (by decide) ?_
    refine wx_goto 41 j96_37 (by decide) ?_
    refine wx_iadd j96_41 ?_
    rw [nI_add]
    refine wx_ri j96_42 rfl rfl ?_
    exact ⟨by rw [hf]; rfl, rfl⟩
theorem sg_map_at {id o i : Nat} {l : List Nat} (h : sg d id o (l.map mc)) (hi : i < l.length) : d id (o + i) = nI (mc (l.getD i 0)) := by
  rw [h i (by rw [List.length_map]; exact hi), List.getD_eq_getElem?_getD, List.getElem?_map, List.getD_eq_getElem?_getD, List.getElem?_eq_getElem hi]
  rfl
theorem mc_tB {e : Nat} (h : e < 1000) : mc e < tB := by
  unfold mc
  have : tB = 14348907 := rfl
  (repeat' split) <;> omega
theorem getD_map {l : List Nat} {i : Nat} (hi : i < l.length) : (l.map mc).getD i 0 = mc (l.getD i 0) := by
  rw [List.getD_eq_getElem?_getD, List.getElem?_map, List.getD_eq_getElem?_getD, List.getElem?_eq_getElem hi]
  rfl
theorem mfc_loop {k j : Nat} (hc : c < 2) (h : mt_is d c T) (hl : LB T) (hk : k < (T 4 0).length) (hj : j < 2) (hb : ∀ e, e ∈ T (6 + j) k → e < 1000) (hx : x < tB) : ∀ n i, (T (6 + j) k).length - i < n → i ≤ (T (6 + j) k).length → (∀ z, z < i → ((T (6 + j) k).map mc).getD z 0 ≠ x) → ax_W 99 2 [some (.ref 540), some (.int (nI (40 * c + 2 * k + j))), some (.int (nI x)), some (.int (nI i))] [] d (ax_Pi fun y d1 => y = oi (fi ((T (6 + j) k).map mc) x) ∧ d1 = d) := by
  have l4 := lb4 hl
  have l6 := lb6 hl hj (show k < 20 by omega)
  have hr : 40 * c + 2 * k + j < 80 := by omega
  intro n
  induction n with
  | zero => intro i h0; omega
  | succ n ih =>
    intro i h0 hi hno
    refine wx_ildn j99_2 rfl ?_
    refine wx_aldn j99_3 rfl ?_
    refine wx_get (v := .ref 553) j99_4 rfl (Nat.le_of_ble_eq_true rfl) rfl ?_
    refine wx_ildn j99_7 rfl ?_
    refine wx_ialx (40 * c + 2 * k + j) j99_8 rfl rfl (hr) (by decide) ?_
    rw [(h.2.2.2.2.2 k hk j hj).1]
    refine wx_cmp 33 j99_9 (by decide) (fun c9 => ?_) (fun c9 => ?_)
    · simp only [ax_cn, Classical.not_not] at c9
      have hil : i = (T (6 + j) k).length := Nat.le_antisymm hi ((nI_leI (by omega) (by omega)).mp c9)
      refine wx_ildn j99_33 rfl ?_
      refine wx_aldn j99_34 rfl ?_
      refine wx_get (v := .ref 553) j99_35 rfl (Nat.le_of_ble_eq_true rfl) rfl ?_
      refine wx_ildn j99_38 rfl ?_
      refine wx_ialx (40 * c + 2 * k + j) j99_39 rfl rfl (hr) (by decide) ?_
      rw [(h.2.2.2.2.2 k hk j hj).1]
      refine wx_cmp 47 j99_40 (by decide) (fun c40 => ?_) (fun c40 => ?_)
      · simp only [ax_cn, Classical.not_not] at c40
        refine wx_icst (v := (-1)) j99_47 (by decide) ?_
        refine wx_ri j99_48 rfl rfl ?_
        exact ⟨by rw [fi_no (by rw [List.length_map, ← hil]; exact hno)]; rfl, rfl⟩
      · simp only [ax_cn, Classical.not_not] at c40
        refine wx_ildn j99_43 rfl ?_
        refine wx_goto 48 j99_44 (by decide) ?_
        refine wx_ri j99_48 rfl rfl ?_
        exact absurd (nI_le (Nat.le_of_eq hil.symm) (by omega)) c40
    · simp only [ax_cn, Classical.not_not] at c9
      have hil : i < (T (6 + j) k).length := Nat.not_le.mp (fun q => c9 ((nI_leI (by omega) (by omega)).mpr q))
      refine wx_aldn j99_12 rfl ?_
      refine wx_get (v := .ref 554) j99_13 rfl (Nat.le_of_ble_eq_true rfl) rfl ?_
      refine wx_bpsh (v := nI 12) j99_16 (by decide) ?_
      refine wx_ildn j99_18 rfl ?_
      refine wx_imul j99_19 ?_
      rw [pk_mul]
      refine wx_ildn j99_20 rfl ?_
      refine wx_iadd j99_21 ?_
      rw [nI_add]
      refine wx_ialx (12 * (40 * c + 2 * k + j) + i) j99_22 rfl rfl (by omega) (by decide) ?_
      refine wx_ildn j99_23 rfl ?_
      rw [sg_map_at (h.2.2.2.2.2 k hk j hj).2 hil]
      refine wx_cmp 33 j99_24 (by decide) (fun c24 => ?_) (fun c24 => ?_)
      · simp only [ax_cn, Classical.not_not] at c24
        have heq : ((T (6 + j) k).map mc).getD i 0 = x := by rw [getD_map hil]; exact (nI_eq (tB_lt (mc_tB (hb _ (getD_mem hil)))) (tB_lt hx)).mp c24
        refine wx_ildn j99_33 rfl ?_
        refine wx_aldn j99_34 rfl ?_
        refine wx_get (v := .ref 553) j99_35 rfl (Nat.le_of_ble_eq_true rfl) rfl ?_
        refine wx_ildn j99_38 rfl ?_
        refine wx_ialx (40 * c + 2 * k + j) j99_39 rfl rfl (hr) (by decide) ?_
        rw [(h.2.2.2.2.2 k hk j hj).1]
        refine wx_cmp 47 j99_40 (by decide) (fun c40 => ?_) (fun c40 => ?_)
        · simp only [ax_cn, Classical.not_not] at c40
          refine wx_icst (v := (-1)) j99_47 (by decide) ?_
          refine wx_ri j99_48 rfl rfl ?_
          exact absurd ((nI_leI (by omega) (by omega)).mp c40) (by omega)
        · simp only [ax_cn, Classical.not_not] at c40
          refine wx_ildn j99_43 rfl ?_
          refine wx_goto 48 j99_44 (by decide) ?_
          refine wx_ri j99_48 rfl rfl ?_
          exact ⟨by rw [fi_of (by rw [List.length_map]; exact hil) heq hno]; rfl, rfl⟩
      · simp only [ax_cn, Classical.not_not] at c24
        have hne : ((T (6 + j) k).map mc).getD i 0 ≠ x := fun q => c24 (by rw [getD_map hil] at q; rw [q])
        refine wx_iinc (v := nI (i + 1)) (L' := [_, _, _, some (.int _)]) j99_27 rfl (nI_1 i) rfl ?_
        refine wx_goto 2 j99_30 (by decide) ?_
        exact ih (i + 1) (by omega) (by omega) (lt_s hno hne)
theorem sm_findCode {k j : Nat} (hc : c < 2) (h : mt_is d c T) (hl : LB T) (hk : k < (T 4 0).length) (hj : j < 2) (hb : ∀ e, e ∈ T (6 + j) k → e < 1000) (hx : x < tB) : ax_E 99 [.ref 540, .int (nI (40 * c + 2 * k + j)), .int (nI x)] d (ax_Pi fun y d1 => y = oi (fi ((T (6 + j) k).map mc) x) ∧ d1 = d) := by
  show ax_W 99 0 [some (.ref 540), some (.int (nI (40 * c + 2 * k + j))), some (.int (nI x)), none] [] d _
  refine wx_icst (v := nI 0) j99_0 (by decide) ?_
  refine wx_istn (L' := [_, _, _, some (.int _)]) j99_1 (Nat.le_of_ble_eq_true rfl) rfl ?_
  exact mfc_loop hc h hl hk hj hb hx ((T (6 + j) k).length + 1) 0 (by omega) (Nat.zero_le _) (fun j hj => absurd hj (Nat.not_lt_zero j))
end M3
