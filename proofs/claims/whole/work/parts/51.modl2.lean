/-! THE REFERENCE: what changes its tables. -/
def M0 (d : ax_D) (c : Nat) (l : List Nat) : Prop := d 542 c = nI l.length ∧ sg d 543 (6 * c) l
def M1 (d : ax_D) (c p : Nat) (l : List Nat) : Prop := d 544 (6 * c + p) = nI l.length ∧ sg d 545 (10 * (6 * c + p)) l
def M4 (d : ax_D) (c : Nat) (l l5 : List Nat) : Prop := d 546 c = nI l.length ∧ sg d 547 (20 * c) l ∧ sg d 548 (20 * c) l5
def M2 (d : ax_D) (c k : Nat) (l : List Nat) : Prop := d 549 (20 * c + k) = nI l.length ∧ sg d 550 (5 * (20 * c + k)) l
def M3 (d : ax_D) (c : Nat) (l : List Nat) : Prop := d 551 c = nI l.length ∧ sg d 552 (20 * c) l
def M6 (d : ax_D) (c k j : Nat) (l : List Nat) : Prop := d 553 (40 * c + 2 * k + j) = nI l.length ∧ sg d 554 (12 * (40 * c + 2 * k + j)) (l.map mc)
theorem mt_of {d : ax_D} {c : Nat} {T : TT} (h0 : M0 d c (T 0 0)) (h1 : ∀ p, p < 6 → M1 d c p (T 1 p)) (h4 : M4 d c (T 4 0) (T 5 0)) (h2 : ∀ k, k < (T 4 0).length → M2 d c k (T 2 k)) (h3 : M3 d c (T 3 0)) (h6 : ∀ k, k < (T 4 0).length → ∀ j, j < 2 → M6 d c k j (T (6 + j) k)) : mt_is d c T := ⟨h0, h1, h4, h2, h3, h6⟩
section MU
variable {d : ax_D} {c p k j id i : Nat} {x : Int32} {l l5 : List Nat}
theorem M0_n (h : M0 d c l) (h1 : id ≠ 542) (h2 : id ≠ 543) : M0 (ax_up d id i x) c l := ⟨by rw [up_ni (Ne.symm h1)]; exact h.1, sg_ni h.2 (Ne.symm h2)⟩
theorem M1_n (h : M1 d c p l) (h1 : id ≠ 544) (h2 : id ≠ 545) : M1 (ax_up d id i x) c p l := ⟨by rw [up_ni (Ne.symm h1)]; exact h.1, sg_ni h.2 (Ne.symm h2)⟩
theorem M4_n (h : M4 d c l l5) (h1 : id ≠ 546) (h2 : id ≠ 547) (h3 : id ≠ 548) : M4 (ax_up d id i x) c l l5 := ⟨by rw [up_ni (Ne.symm h1)]; exact h.1, sg_ni h.2.1 (Ne.symm h2), sg_ni h.2.2 (Ne.symm h3)⟩
theorem M2_n (h : M2 d c k l) (h1 : id ≠ 549) (h2 : id ≠ 550) : M2 (ax_up d id i x) c k l := ⟨by rw [up_ni (Ne.symm h1)]; exact h.1, sg_ni h.2 (Ne.symm h2)⟩
theorem M3_n (h : M3 d c l) (h1 : id ≠ 551) (h2 : id ≠ 552) : M3 (ax_up d id i x) c l := ⟨by rw [up_ni (Ne.symm h1)]; exact h.1, sg_ni h.2 (Ne.symm h2)⟩
theorem M6_n (h : M6 d c k j l) (h1 : id ≠ 553) (h2 : id ≠ 554) : M6 (ax_up d id i x) c k j l := ⟨by rw [up_ni (Ne.symm h1)]; exact h.1, sg_ni h.2 (Ne.symm h2)⟩
end MU
section M2
variable {d d1 : ax_D} {c x : Nat} {T : TT}
theorem sm_addSpace {sp : Nat} (hc : c < 2) (h : mt_is d c T) (hl : LB T) (hr : (T 0 0).length < 6) (he : T 1 (T 0 0).length = []) : ax_E 93 [.ref 540, .int (nI c), .int (nI sp)] d (ax_Pv fun d1 => mt_is d1 c (tst T 0 0 (T 0 0 ++ [sp])) ∧ mq d d1 c) := by
  show ax_W 93 0 [some (.ref 540), some (.int (nI c)), some (.int (nI sp))] [] d _
  refine wx_aldn j93_0 rfl ?_
  refine wx_get (v := .ref 544) j93_1 rfl (Nat.le_of_ble_eq_true rfl) rfl ?_
  refine wx_bpsh (v := nI 6) j93_4 (by decide) ?_
  refine wx_ildn j93_6 rfl ?_
  refine wx_imul j93_7 ?_
  rw [pk_mul]
  refine wx_aldn j93_8 rfl ?_
  refine wx_get (v := .ref 542) j93_9 rfl (Nat.le_of_ble_eq_true rfl) rfl ?_
  refine wx_ildn j93_12 rfl ?_
  refine wx_ialx (c) j93_13 rfl rfl (hc) (by decide) ?_
  rw [h.1.1]
  refine wx_iadd j93_14 ?_
  rw [nI_add]
  refine wx_icst (v := nI 0) j93_15 (by decide) ?_
  refine wx_iasx (6 * c + (T 0 0).length) j93_16 rfl rfl (by omega) (by decide) ?_
  refine wx_aldn j93_17 rfl ?_
  refine wx_get (v := .ref 543) j93_18 rfl (Nat.le_of_ble_eq_true rfl) rfl ?_
  refine wx_bpsh (v := nI 6) j93_21 (by decide) ?_
  refine wx_ildn j93_23 rfl ?_
  refine wx_imul j93_24 ?_
  rw [pk_mul]
  refine wx_aldn j93_25 rfl ?_
  refine wx_get (v := .ref 542) j93_26 rfl (Nat.le_of_ble_eq_true rfl) rfl ?_
  refine wx_ildn j93_29 rfl ?_
  refine wx_ialx (c) j93_30 rfl rfl (hc) (by decide) ?_
  rw [up_ni (by decide), h.1.1]
  refine wx_iadd j93_31 ?_
  rw [nI_add]
  refine wx_ildn j93_32 rfl ?_
  refine wx_iasx (6 * c + (T 0 0).length) j93_33 rfl rfl (by omega) (by decide) ?_
  refine wx_aldn j93_34 rfl ?_
  refine wx_get (v := .ref 542) j93_35 rfl (Nat.le_of_ble_eq_true rfl) rfl ?_
  refine wx_ildn j93_38 rfl ?_
  refine wx_dup2 j93_39 ?_
  refine wx_ialx (c) j93_40 rfl rfl (hc) (by decide) ?_
  rw [up_ni (by decide), up_ni (by decide), h.1.1]
  refine wx_icst (v := nI 1) j93_41 (by decide) ?_
  refine wx_iadd j93_42 ?_
  rw [nI_add]
  refine wx_iasx (c) j93_43 rfl rfl (hc) (by decide) ?_
  refine wx_rv j93_44 rfl ?_
  obtain ⟨h0, h1, h4, h2, h3, h6⟩ := h
  refine ⟨mt_of ?_ (fun p hp => ?_) ?_ (fun k hk => ?_) ?_ (fun k hk j hj => ?_), ?_⟩
  · rw [tst_at]
    refine ⟨by rw [up_at, List.length_append]; rfl, sg_ni (sg_app (sg_ni h0.2 (by decide))) (by decide)⟩
  · rw [tst_ne (Or.inl (by decide))]
    refine M1_n (M1_n ?_ (by decide) (by decide)) (by decide) (by decide)
    by_cases hp2 : p = (T 0 0).length
    · subst hp2
      refine ⟨by rw [up_at, he]; rfl, by rw [he]; exact fun i hi => absurd hi (Nat.not_lt_zero i)⟩
    · exact ⟨by rw [up_nk (by omega)]; exact (h1 p hp).1, sg_ni (h1 p hp).2 (by decide)⟩
  · rw [tst_ne (Or.inl (by decide)), tst_ne (Or.inl (by decide))]
    exact M4_n (M4_n (M4_n h4 (by decide) (by decide) (by decide)) (by decide) (by decide) (by decide)) (by decide) (by decide) (by decide)
  · rw [tst_ne (Or.inl (by decide))] at hk ⊢
    exact M2_n (M2_n (M2_n (h2 k hk) (by decide) (by decide)) (by decide) (by decide)) (by decide) (by decide)
  · rw [tst_ne (Or.inl (by decide))]
    exact M3_n (M3_n (M3_n h3 (by decide) (by decide)) (by decide) (by decide)) (by decide) (by decide)
  · rw [tst_ne (Or.inl (by decide))] at hk
    rw [tst_ne (Or.inl (by omega))]
    exact M6_n (M6_n (M6_n (h6 k hk j hj) (by decide) (by decide)) (by decide) (by decide)) (by decide) (by decide)
  · exact mq_tr (mq_tr (mq_up (by decide) (by decide) (show (6 * c + (T 0 0).length) / 6 = c by omega)) (mq_up (by decide) (by decide) (show (6 * c + (T 0 0).length) / 6 = c by omega))) (mq_up (by decide) (by decide) (Nat.div_one c))
theorem sm_addLocal {q lo : Nat} (hc : c < 2) (h : mt_is d c T) (hl : LB T) (hq : q < 6) (hr : (T 1 q).length < 10) : ax_E 94 [.ref 540, .int (nI c), .int (nI q), .int (nI lo)] d (ax_Pv fun d1 => mt_is d1 c (tst T 1 q (T 1 q ++ [lo])) ∧ mq d d1 c) := by
  show ax_W 94 0 [some (.ref 540), some (.int (nI c)), some (.int (nI q)), some (.int (nI lo)), none] [] d _
  refine wx_bpsh (v := nI 6) j94_0 (by decide) ?_
  refine wx_ildn j94_2 rfl ?_
  refine wx_imul j94_3 ?_
  rw [pk_mul]
  refine wx_ildn j94_4 rfl ?_
  refine wx_iadd j94_5 ?_
  rw [nI_add]
  refine wx_ist (L' := [_, _, _, _, some (.int _)]) j94_6 (Nat.le_of_ble_eq_true rfl) rfl ?_
  refine wx_aldn j94_8 rfl ?_
  refine wx_get (v := .ref 545) j94_9 rfl (Nat.le_of_ble_eq_true rfl) rfl ?_
  refine wx_bpsh (v := nI 10) j94_12 (by decide) ?_
  refine wx_ild j94_14 rfl ?_
  refine wx_imul j94_16 ?_
  rw [pk_mul]
  refine wx_aldn j94_17 rfl ?_
  refine wx_get (v := .ref 544) j94_18 rfl (Nat.le_of_ble_eq_true rfl) rfl ?_
  refine wx_ild j94_21 rfl ?_
  refine wx_ialx (6 * c + q) j94_23 rfl rfl (by omega) (by decide) ?_
  rw [(h.2.1 q hq).1]
  refine wx_iadd j94_24 ?_
  rw [nI_add]
  refine wx_ildn j94_25 rfl ?_
  refine wx_iasx (10 * (6 * c + q) + (T 1 q).length) j94_26 rfl rfl (by omega) (by decide) ?_
  refine wx_aldn j94_27 rfl ?_
  refine wx_get (v := .ref 544) j94_28 rfl (Nat.le_of_ble_eq_true rfl) rfl ?_
  refine wx_ild j94_31 rfl ?_
  refine wx_dup2 j94_33 ?_
  refine wx_ialx (6 * c + q) j94_34 rfl rfl (by omega) (by decide) ?_
  rw [up_ni (by decide), (h.2.1 q hq).1]
  refine wx_icst (v := nI 1) j94_35 (by decide) ?_
  refine wx_iadd j94_36 ?_
  rw [nI_add]
  refine wx_iasx (6 * c + q) j94_37 rfl rfl (by omega) (by decide) ?_
  refine wx_rv j94_38 rfl ?_
  obtain ⟨h0, h1, h4, h2, h3, h6⟩ := h
  refine ⟨mt_of ?_ (fun p hp => ?_) ?_ (fun k hk => ?_) ?_ (fun k hk j hj => ?_), ?_⟩
  · rw [tst_ne (Or.inl (by decide))]
    exact M0_n (M0_n h0 (by decide) (by decide)) (by decide) (by decide)
  · by_cases hp2 : p = q
    · subst hp2
      rw [tst_at]
      exact ⟨by rw [up_at, List.length_append]; rfl, sg_ni (sg_app (h1 p hp).2) (by decide)⟩
    · have lp := lb1 hl hp
      rw [tst_ne (Or.inr hp2)]
      exact ⟨by rw [up_nk (by omega), up_ni (by decide)]; exact (h1 p hp).1, sg_ni (sg_nk (h1 p hp).2 (by omega)) (by decide)⟩
  · rw [tst_ne (Or.inl (by decide)), tst_ne (Or.inl (by decide))]
    exact M4_n (M4_n h4 (by decide) (by decide) (by decide)) (by decide) (by decide) (by decide)
  · rw [tst_ne (Or.inl (by decide))] at hk ⊢
    exact M2_n (M2_n (h2 k hk) (by decide) (by decide)) (by decide) (by decide)
  · rw [tst_ne (Or.inl (by decide))]
    exact M3_n (M3_n h3 (by decide) (by decide)) (by decide) (by decide)
  · rw [tst_ne (Or.inl (by decide))] at hk
    rw [tst_ne (Or.inl (by omega))]
    exact M6_n (M6_n (h6 k hk j hj) (by decide) (by decide)) (by decide) (by decide)
  · exact mq_tr (mq_up (by decide) (by decide) (show (10 * (6 * c + q) + (T 1 q).length) / 60 = c by omega)) (mq_up (by decide) (by decide) (show (6 * c + q) / 6 = c by omega))
theorem sm_newName {sp lo : Nat} (hc : c < 2) (h : mt_is d c T) (hl : LB T) (h45 : T45 T) (hr : (T 4 0).length < 20) (he : T 2 (T 4 0).length = [] ∧ T 6 (T 4 0).length = [] ∧ T 7 (T 4 0).length = []) : ax_E 92 [.ref 540, .int (nI c), .int (nI sp), .int (nI lo)] d (ax_Pi fun y d1 => y = nI (T 4 0).length ∧ mt_is d1 c (tnm T sp lo) ∧ mq d d1 c) := by
  show ax_W 92 0 [some (.ref 540), some (.int (nI c)), some (.int (nI sp)), some (.int (nI lo)), none] [] d _
  refine wx_aldn j92_0 rfl ?_
  refine wx_get (v := .ref 546) j92_1 rfl (Nat.le_of_ble_eq_true rfl) rfl ?_
  refine wx_ildn j92_4 rfl ?_
  refine wx_ialx (c) j92_5 rfl rfl (hc) (by decide) ?_
  rw [h.2.2.1.1]
  refine wx_ist (L' := [_, _, _, _, some (.int _)]) j92_6 (Nat.le_of_ble_eq_true rfl) rfl ?_
  refine wx_aldn j92_8 rfl ?_
  refine wx_get (v := .ref 546) j92_9 rfl (Nat.le_of_ble_eq_true rfl) rfl ?_
  refine wx_ildn j92_12 rfl ?_
  refine wx_dup2 j92_13 ?_
  refine wx_ialx (c) j92_14 rfl rfl (hc) (by decide) ?_
  rw [h.2.2.1.1]
  refine wx_icst (v := nI 1) j92_15 (by decide) ?_
  refine wx_iadd j92_16 ?_
  rw [nI_add]
  refine wx_iasx (c) j92_17 rfl rfl (hc) (by decide) ?_
  refine wx_aldn j92_18 rfl ?_
  refine wx_get (v := .ref 547) j92_19 rfl (Nat.le_of_ble_eq_true rfl) rfl ?_
  refine wx_bpsh (v := nI 20) j92_22 (by decide) ?_
  refine wx_ildn j92_24 rfl ?_
  refine wx_imul j92_25 ?_
  rw [pk_mul]
  refine wx_ild j92_26 rfl ?_
  refine wx_iadd j92_28 ?_
  rw [nI_add]
  refine wx_ildn j92_29 rfl ?_
  refine wx_iasx (20 * c + (T 4 0).length) j92_30 rfl rfl (by omega) (by decide) ?_
  refine wx_aldn j92_31 rfl ?_
  refine wx_get (v := .ref 548) j92_32 rfl (Nat.le_of_ble_eq_true rfl) rfl ?_
  refine wx_bpsh (v := nI 20) j92_35 (by decide) ?_
  refine wx_ildn j92_37 rfl ?_
  refine wx_imul j92_38 ?_
  rw [pk_mul]
  refine wx_ild j92_39 rfl ?_
  refine wx_iadd j92_41 ?_
  rw [nI_add]
  refine wx_ildn j92_42 rfl ?_
  refine wx_iasx (20 * c + (T 4 0).length) j92_43 rfl rfl (by omega) (by decide) ?_
  refine wx_aldn j92_44 rfl ?_
  refine wx_get (v := .ref 549) j92_45 rfl (Nat.le_of_ble_eq_true rfl) rfl ?_
  refine wx_bpsh (v := nI 20) j92_48 (by decide) ?_
  refine wx_ildn j92_50 rfl ?_
  refine wx_imul j92_51 ?_
  rw [pk_mul]
  refine wx_ild j92_52 rfl ?_
  refine wx_iadd j92_54 ?_
  rw [nI_add]
  refine wx_icst (v := nI 0) j92_55 (by decide) ?_
  refine wx_iasx (20 * c + (T 4 0).length) j92_56 rfl rfl (by omega) (by decide) ?_
  refine wx_aldn j92_57 rfl ?_
  refine wx_get (v := .ref 553) j92_58 rfl (Nat.le_of_ble_eq_true rfl) rfl ?_
  refine wx_bpsh (v := nI 40) j92_61 (by decide) ?_
  refine wx_ildn j92_63 rfl ?_
  refine wx_imul j92_64 ?_
  rw [pk_mul]
  refine wx_icst (v := nI 2) j92_65 (by decide) ?_
  refine wx_ild j92_66 rfl ?_
  refine wx_imul j92_68 ?_
  rw [pk_mul]
  refine wx_iadd j92_69 ?_
  rw [nI_add]
  refine wx_icst (v := nI 0) j92_70 (by decide) ?_
  refine wx_iasx (40 * c + 2 * (T 4 0).length) j92_71 rfl rfl (by omega) (by decide) ?_
  refine wx_aldn j92_72 rfl ?_
  refine wx_get (v := .ref 553) j92_73 rfl (Nat.le_of_ble_eq_true rfl) rfl ?_
  refine wx_bpsh (v := nI 40) j92_76 (by decide) ?_
  refine wx_ildn j92_78 rfl ?_
  refine wx_imul j92_79 ?_
  rw [pk_mul]
  refine wx_icst (v := nI 2) j92_80 (by decide) ?_
  refine wx_ild j92_81 rfl ?_
  refine wx_imul j92_83 ?_
  rw [pk_mul]
  refine wx_iadd j92_84 ?_
  rw [nI_add]
  refine wx_icst (v := nI 1) j92_85 (by decide) ?_
  refine wx_iadd j92_86 ?_
  rw [nI_add]
  refine wx_icst (v := nI 0) j92_87 (by decide) ?_
  refine wx_iasx (40 * c + 2 * (T 4 0).length + 1) j92_88 rfl rfl (by omega) (by decide) ?_
  refine wx_ild j92_89 rfl ?_
  refine wx_ri j92_91 rfl rfl ?_
  obtain ⟨h0, h1, h4, h2, h3, h6⟩ := h
  have e4 : tnm T sp lo 4 0 = T 4 0 ++ [sp] := by unfold tnm; rw [tst_ne (Or.inl (by decide)), tst_at]
  have e5 : tnm T sp lo 5 0 = T 5 0 ++ [lo] := by unfold tnm; rw [tst_at]
  have en : ∀ j k, j ≠ 4 → j ≠ 5 → tnm T sp lo j k = T j k := fun j k a b => by unfold tnm; rw [tst_ne (Or.inl b), tst_ne (Or.inl a)]
  refine ⟨rfl, mt_of ?_ (fun p hp => ?_) ?_ (fun k hk => ?_) ?_ (fun k hk j hj => ?_), ?_⟩
  · rw [en _ _ (by decide) (by decide)]
    exact M0_n (M0_n (M0_n (M0_n (M0_n (M0_n h0 (by decide) (by decide)) (by decide) (by decide)) (by decide) (by decide)) (by decide) (by decide)) (by decide) (by decide)) (by decide) (by decide)
  · rw [en _ _ (by decide) (by decide)]
    exact M1_n (M1_n (M1_n (M1_n (M1_n (M1_n (h1 p hp) (by decide) (by decide)) (by decide) (by decide)) (by decide) (by decide)) (by decide) (by decide)) (by decide) (by decide)) (by decide) (by decide)
  · rw [e4, e5]
    refine M4_n (M4_n (M4_n ⟨?_, ?_, ?_⟩ (by decide) (by decide) (by decide)) (by decide) (by decide) (by decide)) (by decide) (by decide) (by decide)
    · rw [up_ni (by decide), up_ni (by decide), up_at, List.length_append]; rfl
    · exact sg_ni (sg_app (sg_ni h4.2.1 (by decide))) (by decide)
    · have := sg_app (x := lo) (sg_ni (x := nI sp) (k := 20 * c + (T 4 0).length) (sg_ni (x := nI ((T 4 0).length + 1)) (k := c) h4.2.2 (show 548 ≠ 546 by decide)) (show 548 ≠ 547 by decide))
      rw [← show (T 4 0).length = (T 5 0).length from h45] at this
      exact this
  · rw [e4, List.length_append] at hk
    rw [en _ _ (by decide) (by decide)]
    refine M2_n (M2_n ?_ (by decide) (by decide)) (by decide) (by decide)
    by_cases hk2 : k = (T 4 0).length
    · subst hk2
      rw [he.1]
      exact ⟨by rw [up_at]; rfl, fun i hi => absurd hi (Nat.not_lt_zero i)⟩
    · have hk3 : k < (T 4 0).length := by simp at hk; omega
      exact ⟨by rw [up_nk (by omega), up_ni (by decide), up_ni (by decide), up_ni (by decide)]; exact (h2 k hk3).1, sg_ni (sg_ni (sg_ni (sg_ni (h2 k hk3).2 (by decide)) (by decide)) (by decide)) (by decide)⟩
  · rw [en _ _ (by decide) (by decide)]
    exact M3_n (M3_n (M3_n (M3_n (M3_n (M3_n h3 (by decide) (by decide)) (by decide) (by decide)) (by decide) (by decide)) (by decide) (by decide)) (by decide) (by decide)) (by decide) (by decide)
  · rw [e4, List.length_append] at hk
    rw [en _ _ (by omega) (by omega)]
    by_cases hk2 : k = (T 4 0).length
    · subst hk2
      rcases (show j = 0 ∨ j = 1 by omega) with rfl | rfl
      · rw [he.2.1]
        exact ⟨by rw [up_nk (by omega), up_ap, if_pos ⟨rfl, by omega⟩]; rfl, fun i hi => absurd hi (Nat.not_lt_zero i)⟩
      · rw [he.2.2]
        exact ⟨by rw [up_at]; rfl, fun i hi => absurd hi (Nat.not_lt_zero i)⟩
    · have hk3 : k < (T 4 0).length := by simp at hk; omega
      exact ⟨by rw [up_nk (by omega), up_nk (by omega), up_ni (by decide), up_ni (by decide), up_ni (by decide), up_ni (by decide)]; exact (h6 k hk3 j hj).1, sg_ni (sg_ni (sg_ni (sg_ni (sg_ni (sg_ni (h6 k hk3 j hj).2 (by decide)) (by decide)) (by decide)) (by decide)) (by decide)) (by decide)⟩
  · exact mq_tr (mq_tr (mq_tr (mq_tr (mq_tr (mq_up (by decide) (by decide) (Nat.div_one c)) (mq_up (by decide) (by decide) (show (20 * c + (T 4 0).length) / 20 = c by omega))) (mq_up (by decide) (by decide) (show (20 * c + (T 4 0).length) / 20 = c by omega))) (mq_up (by decide) (by decide) (show (20 * c + (T 4 0).length) / 20 = c by omega))) (mq_up (by decide) (by decide) (show (40 * c + 2 * (T 4 0).length) / 40 = c by omega))) (mq_up (by decide) (by decide) (show (40 * c + 2 * (T 4 0).length + 1) / 40 = c by omega))
end M2
