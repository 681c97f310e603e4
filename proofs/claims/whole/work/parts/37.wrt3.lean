/-! WRITING, codes and events. -/
def kj (f : Bool) : Nat := if f then 7 else 6
def cho (T : TT) (f : Bool) (k : Nat) : Nat := (T (kj f) k).length + (if f then 2 else 1)
def k4 (kind : Nat) : Nat := if kind = 1 then 2 else if kind = 2 then 1 else if kind = 3 then 3 else 0
def sKi (T : TT) (f : Bool) (k kind : Nat) : List Nat := pb (wd (cho T f k)) (cho T f k - 1) ++ (if f then pb 1 (if kind = 1 then 0 else 1) else pb 2 (k4 kind))
def sNw (T : TT) (f : Bool) (k kind sp lo : Nat) : List Nat × TT × Nat := (sKi T f k kind ++ (sNa T sp lo).1, tln (sNa T sp lo).2.1 (kj f) k ((sNa T sp lo).2.2 * 8 + kind), (sNa T sp lo).2.2)
def sNd (T : TT) (f : Bool) (k kind sp lo : Nat) : List Nat × TT × Nat := match fn T sp lo with
  | some i => (match fi (T (kj f) k) (i * 8 + kind) with
    | some p => (pb (wd (cho T f k)) p, T, i)
    | none => sNw T f k kind sp lo)
  | none => sNw T f k kind sp lo
def sNl (T : TT) (f : Bool) (k kind : Nat) : List Nat × TT := match fi (T (kj f) k) kind with
  | some p => (pb (wd (cho T f k)) p, T)
  | none => (sKi T f k kind, tln T (kj f) k kind)
def sCl (T : TT) (f : Bool) (k : Nat) : List Nat × TT := if f then (pb (wd (cho T f k)) (T 7 k).length, T) else sNl T f k 4
theorem kj_lt (f : Bool) : kj f < 8 := by cases f <;> decide
theorem kj_nr (f : Bool) {k : Nat} (h : k < 20) : k < ax_nr (kj f) := by cases f <;> exact h
theorem kj_rm (f : Bool) : ax_rm (kj f) = 12 := by cases f <;> rfl
theorem sKi_len (T : TT) (f : Bool) (k kind : Nat) : (sKi T f k kind).length ≤ 7 := by
  have h := wd_5 (cho T f k)
  unfold sKi
  rw [List.length_append, pb_len]
  split
  · rw [pb_len]; omega
  · rw [pb_len]; omega
theorem sNw_len (T : TT) (f : Bool) (k kind sp lo : Nat) : (sNw T f k kind sp lo).1.length ≤ 108 := by
  have h1 := sKi_len T f k kind
  have h2 := sNa_len T sp lo
  unfold sNw
  rw [List.length_append]
  omega
theorem sNd_len (T : TT) (f : Bool) (k kind sp lo : Nat) : (sNd T f k kind sp lo).1.length ≤ 108 := by
  have h1 := sNw_len T f k kind sp lo
  unfold sNd
  split
  · split
    · rename_i q _; have := pb_l5 (cho T f k) q; simp only; omega
    · exact h1
  · exact h1
theorem sNl_len (T : TT) (f : Bool) (k kind : Nat) : (sNl T f k kind).1.length ≤ 7 := by
  unfold sNl
  split
  · rename_i q _; have := pb_l5 (cho T f k) q; simp only; omega
  · exact sKi_len T f k kind
theorem tln_TB {T : TT} {j k c : Nat} (h : TB T) (hc : c < tB) : TB (tln T j k c) := by
  unfold tln
  split
  · exact h
  · refine TB_st h ?_
    split
    · intro e he
      rcases List.mem_cons.mp he with rfl | he
      · exact hc
      · exact h j k e he
    · exact h j k
theorem tln_45 {T : TT} {j k c : Nat} (h : T45 T) (hj : j ≠ 4) (hj5 : j ≠ 5) : T45 (tln T j k c) := by
  unfold tln
  split
  · exact h
  · exact T45_st h hj hj5
theorem kj_4 (f : Bool) : kj f ≠ 4 := by cases f <;> decide
theorem kj_5 (f : Bool) : kj f ≠ 5 := by cases f <;> decide
/-- the tables of the names are the same -/
theorem fn_congr {T T' : TT} {sp lo : Nat} (h4 : T' 4 0 = T 4 0) (h5 : T' 5 0 = T 5 0) : fn T' sp lo = fn T sp lo := by unfold fn; rw [h4, h5]
theorem sSp_4 (T : TT) (sp j k : Nat) (hj : j ≠ 0) : (sSp T sp).2.1 j k = T j k := by
  unfold sSp
  split
  · rfl
  · exact tst_ne (Or.inl hj)
theorem sLo_4 (T : TT) (p lo j k : Nat) (hj : j ≠ 1) : (sLo T p lo).2 j k = T j k := by
  unfold sLo
  split
  · rfl
  · exact tst_ne (Or.inl hj)
theorem sFo_e (T : TT) (p sp lo : Nat) : (sLo (sSp T sp).2.1 p lo).2 4 0 = T 4 0 ∧ (sLo (sSp T sp).2.1 p lo).2 5 0 = T 5 0 := ⟨by rw [sLo_4 _ _ _ _ _ (by decide), sSp_4 _ _ _ _ (by decide)], by rw [sLo_4 _ _ _ _ _ (by decide), sSp_4 _ _ _ _ (by decide)]⟩
/-- there is room for a name -/
def rm3 (T : TT) (sp lo : Nat) : Prop := (fi (T 0 0) sp = none → (T 0 0).length < 6) ∧ (fi ((sSp T sp).2.1 1 (sSp T sp).2.2) lo = none → ((sSp T sp).2.1 1 (sSp T sp).2.2).length < 10) ∧ (fn T sp lo = none → (T 4 0).length < 20)
theorem sNa_20 {T : TT} {sp lo : Nat} (h : (T 4 0).length ≤ 20) (hr : rm3 T sp lo) : (sNa T sp lo).2.2 < 20 := by
  have e := sFo_e T (sSp T sp).2.2 sp lo
  unfold sNa sFo
  rw [fn_congr e.1 e.2]
  simp only
  cases hf : fn T sp lo with
  | some i => have := (fn_spec hf).1; simp only; omega
  | none => simp only; rw [e.1]; exact hr.2.2 hf
section W3
variable {d : ax_D} {l : List Nat} {T : TT} {m n : Nat} {nm : Nat → Nat} {fl : Nat → Bool} {b : Bool} {sp lo : Nat}
theorem sp_tName (ht : tb_is d 0 T) (h : bt_is d 515 l) (hb : TB T) (h45 : T45 T) (hsp : sp < tB) (hlo : lo < tB) (hr : rm3 T sp lo) (hl : l.length + 120 ≤ 4000) : ax_E 66 [.ref 513, .int (nI sp), .int (nI lo)] d (ax_Pi fun y d1 => y = nI (sNa T sp lo).2.2 ∧ tb_is d1 0 (sNa T sp lo).2.1 ∧ bt_is d1 515 (l ++ (sNa T sp lo).1) ∧ wf d d1) := by
  show ax_W 66 0 [some (.ref 513), some (.int (nI sp)), some (.int (nI lo))] [] d _
  refine wx_aldn j66_0 rfl ?_
  refine wx_aldn j66_1 rfl ?_
  refine wx_ildn j66_2 rfl ?_
  refine wx_i1 j66_3 rfl rfl (Nat.le_of_ble_eq_true rfl) rfl (sp_tSpace ht h hb hsp hr.1 (by omega)) ?_
  rintro _ d1 ⟨rfl, ht1, h1, hf1⟩
  have hp6 : (sSp T sp).2.2 < 6 := by
    have h6 := tb_len ht (j := 0) (k := 0) (by decide) (by decide)
    unfold sSp
    cases hq : fi (T 0 0) sp with
    | some q => exact Nat.lt_of_lt_of_le (fi_lt hq) h6
    | none => exact hr.1 hq
  have hl1 := sSp_len T sp
  refine wx_ildn j66_6 rfl ?_
  refine wx_v2 j66_7 rfl rfl rfl (Nat.le_of_ble_eq_true rfl) rfl (sp_tLocal ht1 h1 (sSp_TB hb hsp) hlo hp6 hr.2.1 (by rw [List.length_append]; omega)) ?_
  rintro d2 ⟨ht2, h2, hf2⟩
  have e := sFo_e T (sSp T sp).2.2 sp lo
  refine wx_aldn j66_10 rfl ?_
  refine wx_get (v := .ref _) j66_11 rfl (Nat.le_of_ble_eq_true rfl) rfl ?_
  refine wx_ildn j66_14 rfl ?_
  refine wx_ildn j66_15 rfl ?_
  refine wx_i2 j66_16 rfl rfl rfl (Nat.le_of_ble_eq_true rfl) rfl (sp_foan (s := 0) (by decide) ht2 (sLo_TB (sSp_TB hb hsp) hlo) (sLo_45 (sSp_45 h45)) hsp hlo) ?_
  rintro y d3 ⟨h31, h32, hf3⟩
  refine wx_ri j66_19 rfl rfl ?_
  have h9 : bt_is d3 515 (l ++ (sNa T sp lo).1) := by
    have := bt_tb h2 hf3
    rw [List.append_assoc] at this
    exact this
  have hw : wf d d3 := wf_tr (wf_tr hf1 hf2) (wf_tb hf3)
  cases hf : fn T sp lo with
  | some i =>
    have hfe := (fn_congr (sp := sp) (lo := lo) e.1 e.2).trans hf
    obtain ⟨e1, e2⟩ := h31 i hfe
    have e3 : sNa T sp lo = ((sSp T sp).1 ++ (sLo (sSp T sp).2.1 (sSp T sp).2.2 lo).1, (sLo (sSp T sp).2.1 (sSp T sp).2.2 lo).2, i) := by unfold sNa sFo; rw [hfe]
    rw [e3] at h9 ⊢
    exact ⟨e1, by rw [e2]; exact ht2, h9, hw⟩
  | none =>
    have hfe := (fn_congr (sp := sp) (lo := lo) e.1 e.2).trans hf
    obtain ⟨e1, e2⟩ := (h32 hfe).1 (by rw [e.1]; exact hr.2.2 hf)
    have e3 : sNa T sp lo = ((sSp T sp).1 ++ (sLo (sSp T sp).2.1 (sSp T sp).2.2 lo).1, tnm (sLo (sSp T sp).2.1 (sSp T sp).2.2 lo).2 sp lo, ((sLo (sSp T sp).2.1 (sSp T sp).2.2 lo).2 4 0).length) := by unfold sNa sFo; rw [hfe]
    rw [e3] at h9 ⊢
    exact ⟨e1, e2, h9, hw⟩
theorem sp_tKind {k : Nat} (hg : gr_is d 0 (m + 1) nm fl b) (ht : tb_is d 0 T) (h : bt_is d 515 l) (hb : TB T) (hk : k = 1 ∨ k = 2 ∨ k = 3 ∨ k = 4) (hl : l.length + 10 ≤ 4000) : ax_E 65 [.ref 513, .int (nI k)] d (ax_Pv fun d1 => bt_is d1 515 (l ++ sKi T (fl m) (nm m) k) ∧ bt_fr d d1 515) := by
  show ax_W 65 0 [some (.ref 513), some (.int (nI k))] [] d _
  refine wx_aldn j65_0 rfl ?_
  refine wx_aldn j65_1 rfl ?_
  refine wx_get (v := .ref _) j65_2 rfl (Nat.le_of_ble_eq_true rfl) rfl ?_
  refine wx_i0 j65_5 rfl  (Nat.le_of_ble_eq_true rfl) rfl (sp_choices (s := 0) (by decide) hg ht) ?_
  rintro _ d9 ⟨rfl, h9⟩
  obtain rfl := h9.symm
  refine wx_icst (v := nI 1) j65_8 (by decide) ?_
  refine wx_isub j65_9 ?_
  rw [pk_sub (show 1 ≤ (T (kd fl m) (nm m)).length + (if fl m = true then 2 else 1) by split <;> omega)]
  refine wx_aldn j65_10 rfl ?_
  refine wx_get (v := .ref _) j65_11 rfl (Nat.le_of_ble_eq_true rfl) rfl ?_
  refine wx_i0 j65_14 rfl  (Nat.le_of_ble_eq_true rfl) rfl (sp_choices (s := 0) (by decide) hg ht) ?_
  rintro _ d9 ⟨rfl, h9⟩
  obtain rfl := h9.symm
  have hn20 := (hg.2.2.2 m (Nat.lt_succ_self m)).2.1
  have h12 := tb_len ht (kj_lt (fl m)) (kj_nr (fl m) hn20)
  rw [kj_rm] at h12
  have hc14 : cho T (fl m) (nm m) ≤ 14 := by unfold cho; split <;> omega
  refine wx_v2 j65_17 rfl rfl rfl (Nat.le_of_ble_eq_true rfl) rfl (sp_tPlace (q := cho T (fl m) (nm m) - 1) (m := cho T (fl m) (nm m)) h (by omega) (by omega) (by omega)) ?_
  rintro d1 ⟨h1, hf1⟩
  have hg1 := gr_wf hg (wf_bt hf1)
  have h5 := pb_l5 (cho T (fl m) (nm m)) (cho T (fl m) (nm m) - 1)
  have fin : ∀ {d2 : ax_D} {z : List Nat}, bt_is d2 515 (l ++ pb (wd (cho T (fl m) (nm m))) (cho T (fl m) (nm m) - 1) ++ z) → bt_fr d1 d2 515 → (if fl m = true then pb 1 (if k = 1 then 0 else 1) else pb 2 (k4 k)) = z → bt_is d2 515 (l ++ sKi T (fl m) (nm m) k) ∧ bt_fr d d2 515 := by
    intro d2 z a1 a2 a3
    unfold sKi
    rw [a3, ← List.append_assoc]
    exact ⟨a1, fun id b1 b2 => (a2 id b1 b2).trans (hf1 id b1 b2)⟩
  refine wx_aldn j65_20 rfl ?_
  refine wx_get (v := .ref _) j65_21 rfl (Nat.le_of_ble_eq_true rfl) rfl ?_
  refine wx_i0 j65_24 rfl  (Nat.le_of_ble_eq_true rfl) rfl (sp_isInTag (s := 0) (by decide) hg1) ?_
  rintro _ d9 ⟨rfl, h9⟩
  obtain rfl := h9.symm
  refine wx_if 46 j65_27 (by decide) (fun c27 => ?_) (fun c27 => ?_)
  · simp only [ax_cn, Classical.not_not] at c27
    have hf : fl m = false := by
      have := bB_1.mp c27
      simpa using this
    refine wx_ildn j65_46 rfl ?_
    rcases hk with rfl | rfl | rfl | rfl
    · refine wx_tsw j65_47 (fun q => absurd q (by decide)) (fun _ => ⟨34, 81, by decide, by decide, ?_⟩)
      refine wx_aldn j65_81 rfl ?_
      refine wx_icst (v := nI 2) j65_82 (by decide) ?_
      refine wx_icst (v := nI 4) j65_83 (by decide) ?_
      refine wx_v2 j65_84 rfl rfl rfl (Nat.le_of_ble_eq_true rfl) rfl (sp_tPlace (m := 4) h1 (by decide) (by decide) (by rw [List.length_append]; omega)) ?_
      rintro d2 ⟨h2, hf2⟩
      refine wx_goto 105 j65_87 (by decide) ?_
      refine wx_rv j65_105 rfl ?_
      exact fin h2 hf2 (by rw [if_neg (by rw [hf]; decide)]; rfl)
    · refine wx_tsw j65_47 (fun q => absurd q (by decide)) (fun _ => ⟨25, 72, by decide, by decide, ?_⟩)
      refine wx_aldn j65_72 rfl ?_
      refine wx_icst (v := nI 1) j65_73 (by decide) ?_
      refine wx_icst (v := nI 4) j65_74 (by decide) ?_
      refine wx_v2 j65_75 rfl rfl rfl (Nat.le_of_ble_eq_true rfl) rfl (sp_tPlace (m := 4) h1 (by decide) (by decide) (by rw [List.length_append]; omega)) ?_
      rintro d2 ⟨h2, hf2⟩
      refine wx_goto 105 j65_78 (by decide) ?_
      refine wx_rv j65_105 rfl ?_
      exact fin h2 hf2 (by rw [if_neg (by rw [hf]; decide)]; rfl)
    · refine wx_tsw j65_47 (fun q => absurd q (by decide)) (fun _ => ⟨43, 90, by decide, by decide, ?_⟩)
      refine wx_aldn j65_90 rfl ?_
      refine wx_icst (v := nI 3) j65_91 (by decide) ?_
      refine wx_icst (v := nI 4) j65_92 (by decide) ?_
      refine wx_v2 j65_93 rfl rfl rfl (Nat.le_of_ble_eq_true rfl) rfl (sp_tPlace (m := 4) h1 (by decide) (by decide) (by rw [List.length_append]; omega)) ?_
      rintro d2 ⟨h2, hf2⟩
      refine wx_goto 105 j65_96 (by decide) ?_
      refine wx_rv j65_105 rfl ?_
      exact fin h2 hf2 (by rw [if_neg (by rw [hf]; decide)]; rfl)
    · refine wx_tsw j65_47 (fun _ => ⟨99, by decide, ?_⟩) (fun q => absurd (by decide) q)
      refine wx_aldn j65_99 rfl ?_
      refine wx_icst (v := nI 0) j65_100 (by decide) ?_
      refine wx_icst (v := nI 4) j65_101 (by decide) ?_
      refine wx_v2 j65_102 rfl rfl rfl (Nat.le_of_ble_eq_true rfl) rfl (sp_tPlace (m := 4) h1 (by decide) (by decide) (by rw [List.length_append]; omega)) ?_
      rintro d2 ⟨h2, hf2⟩
      refine wx_rv j65_105 rfl ?_
      exact fin h2 hf2 (by rw [if_neg (by rw [hf]; decide)]; rfl)
  · simp only [ax_cn, Classical.not_not] at c27
    have hf : fl m = true := by
      have := bB_0.mp c27
      simpa using this
    refine wx_aldn j65_30 rfl ?_
    refine wx_ildn j65_31 rfl ?_
    refine wx_icst (v := nI 1) j65_32 (by decide) ?_
    refine wx_cmp 40 j65_33 (by decide) (fun c33 => ?_) (fun c33 => ?_)
    · simp only [ax_cn, Classical.not_not] at c33
      have e1 : ¬ k = 1 := fun q => c33 (by rw [q])
      refine wx_icst (v := nI 1) j65_40 (by decide) ?_
      refine wx_icst (v := nI 2) j65_41 (by decide) ?_
      refine wx_v2 j65_42 rfl rfl rfl (Nat.le_of_ble_eq_true rfl) rfl (sp_tPlace (m := 2) h1 (by decide) (by decide) (by rw [List.length_append]; omega)) ?_
      rintro d2 ⟨h2, hf2⟩
      refine wx_rv j65_45 rfl ?_
      exact fin h2 hf2 (by rw [if_pos hf, if_neg e1]; rfl)
    · simp only [ax_cn, Classical.not_not] at c33
      have e1 : k = 1 := by
        rcases hk with q | q | q | q
        · exact q
        all_goals (rw [q] at c33; exact absurd c33 (by decide))
      refine wx_icst (v := nI 0) j65_36 (by decide) ?_
      refine wx_goto 41 j65_37 (by decide) ?_
      refine wx_icst (v := nI 2) j65_41 (by decide) ?_
      refine wx_v2 j65_42 rfl rfl rfl (Nat.le_of_ble_eq_true rfl) rfl (sp_tPlace (m := 2) h1 (by decide) (by decide) (by rw [List.length_append]; omega)) ?_
      rintro d2 ⟨h2, hf2⟩
      refine wx_rv j65_45 rfl ?_
      exact fin h2 hf2 (by rw [if_pos hf, if_pos e1]; rfl)
theorem sp_tNameless {k : Nat} (hg : gr_is d 0 (m + 1) nm fl b) (ht : tb_is d 0 T) (h : bt_is d 515 l) (hb : TB T) (hk : k = 3 ∨ k = 4) (hl : l.length + 10 ≤ 4000) : ax_E 64 [.ref 513, .int (nI k)] d (ax_Pv fun d1 => tb_is d1 0 (sNl T (fl m) (nm m) k).2 ∧ bt_is d1 515 (l ++ (sNl T (fl m) (nm m) k).1) ∧ wf d d1) := by
  show ax_W 64 0 [some (.ref 513), some (.int (nI k)), none, none] [] d _
  refine wx_ildn j64_0 rfl ?_
  refine wx_icst (v := nI 0) j64_1 (by decide) ?_
  refine wx_t2 j64_2 rfl rfl rfl (Nat.le_of_ble_eq_true rfl) (sp_codeOf) ?_
  rintro _ d9 ⟨rfl, h9⟩
  obtain rfl := h9.symm
  rw [show 0 * 8 + k = k by omega]
  have hkB : k < tB := by rcases hk with q | q <;> rw [q] <;> decide
  have hn20 := (hg.2.2.2 m (Nat.lt_succ_self m)).2.1
  refine wx_istn (L' := [_, _, some (.int _), _]) j64_5 (Nat.le_of_ble_eq_true rfl) rfl ?_
  refine wx_aldn j64_6 rfl ?_
  refine wx_get (v := .ref _) j64_7 rfl (Nat.le_of_ble_eq_true rfl) rfl ?_
  refine wx_ildn j64_10 rfl ?_
  refine wx_i1 j64_11 rfl rfl (Nat.le_of_ble_eq_true rfl) rfl (sp_findCode (s := 0) (by decide) hg ht hb hkB) ?_
  rintro _ d9 ⟨rfl, h9⟩
  obtain rfl := h9.symm
  refine wx_istn (L' := [_, _, _, some (.int _)]) j64_14 (Nat.le_of_ble_eq_true rfl) rfl ?_
  refine wx_ildn j64_15 rfl ?_
  refine wx_icst (v := (-1)) j64_16 (by decide) ?_
  refine wx_cmp 33 j64_17 (by decide) (fun c17 => ?_) (fun c17 => ?_)
  · simp only [ax_cn, Classical.not_not] at c17
    have hno : fi (T (kj (fl m)) (nm m)) k = none := (oi_neg (fi_31 ht (kj_lt (fl m)) (kj_nr (fl m) hn20))).mp c17
    refine wx_aldn j64_33 rfl ?_
    refine wx_ildn j64_34 rfl ?_
    refine wx_v1 j64_35 rfl rfl (Nat.le_of_ble_eq_true rfl) rfl (sp_tKind hg ht h hb (by rcases hk with q | q <;> simp [q]) (by omega)) ?_
    rintro d1 ⟨h1, hf1⟩
    have hg1 := gr_wf hg (wf_bt hf1)
    have ht1 := tb_bt ht hf1
    refine wx_aldn j64_38 rfl ?_
    refine wx_get (v := .ref _) j64_39 rfl (Nat.le_of_ble_eq_true rfl) rfl ?_
    refine wx_ildn j64_42 rfl ?_
    refine wx_v1 j64_43 rfl rfl (Nat.le_of_ble_eq_true rfl) rfl (sp_learn (s := 0) (by decide) hg1 ht1 hb hkB) ?_
    rintro d2 ⟨h2, hf2⟩
    refine wx_rv j64_46 rfl ?_
    have e : sNl T (fl m) (nm m) k = (sKi T (fl m) (nm m) k, tln T (kj (fl m)) (nm m) k) := by unfold sNl; rw [hno]
    rw [e]
    exact ⟨h2, bt_tb h1 hf2, wf_tr (wf_bt hf1) (wf_tb hf2)⟩
  · simp only [ax_cn, Classical.not_not] at c17
    obtain ⟨q, hq⟩ := oi_some c17
    rw [hq]
    simp only [oi]
    have hq : fi (T (kj (fl m)) (nm m)) k = some q := hq
    have h12 := tb_len ht (kj_lt (fl m)) (kj_nr (fl m) hn20)
    rw [kj_rm] at h12
    have hq12 := fi_lt hq
    have hc14 : cho T (fl m) (nm m) ≤ 14 := by unfold cho; split <;> omega
    refine wx_aldn j64_20 rfl ?_
    refine wx_ildn j64_21 rfl ?_
    refine wx_aldn j64_22 rfl ?_
    refine wx_get (v := .ref _) j64_23 rfl (Nat.le_of_ble_eq_true rfl) rfl ?_
    refine wx_i0 j64_26 rfl  (Nat.le_of_ble_eq_true rfl) rfl (sp_choices (s := 0) (by decide) hg ht) ?_
    rintro _ d9 ⟨rfl, h9⟩
    obtain rfl := h9.symm
    refine wx_v2 j64_29 rfl rfl rfl (Nat.le_of_ble_eq_true rfl) rfl (sp_tPlace (m := cho T (fl m) (nm m)) h (by omega) (by omega) (by omega)) ?_
    rintro d1 ⟨h1, hf1⟩
    refine wx_rv j64_32 rfl ?_
    have e : sNl T (fl m) (nm m) k = (pb (wd (cho T (fl m) (nm m))) q, T) := by unfold sNl; rw [hq]
    rw [e]
    exact ⟨tb_bt ht hf1, h1, wf_bt hf1⟩
theorem sp_tClose (hg : gr_is d 0 (m + 1) nm fl b) (ht : tb_is d 0 T) (h : bt_is d 515 l) (hb : TB T) (hl : l.length + 10 ≤ 4000) : ax_E 62 [.ref 513] d (ax_Pv fun d1 => tb_is d1 0 (sCl T (fl m) (nm m)).2 ∧ bt_is d1 515 (l ++ (sCl T (fl m) (nm m)).1) ∧ wf d d1) := by
  show ax_W 62 0 [some (.ref 513)] [] d _
  refine wx_aldn j62_0 rfl ?_
  refine wx_get (v := .ref _) j62_1 rfl (Nat.le_of_ble_eq_true rfl) rfl ?_
  refine wx_i0 j62_4 rfl  (Nat.le_of_ble_eq_true rfl) rfl (sp_isInTag (s := 0) (by decide) hg) ?_
  rintro _ d9 ⟨rfl, h9⟩
  obtain rfl := h9.symm
  refine wx_if 18 j62_7 (by decide) (fun c7 => ?_) (fun c7 => ?_)
  · simp only [ax_cn, Classical.not_not] at c7
    have hf : fl m = true := by
      have := bB_0.mp c7
      simpa using this
    have hn20 := (hg.2.2.2 m (Nat.lt_succ_self m)).2.1
    have h12 := tb_len ht (j := 7) (by decide) hn20
    refine wx_aldn j62_18 rfl ?_
    refine wx_aldn j62_19 rfl ?_
    refine wx_get (v := .ref _) j62_20 rfl (Nat.le_of_ble_eq_true rfl) rfl ?_
    refine wx_i0 j62_23 rfl  (Nat.le_of_ble_eq_true rfl) rfl (sp_learned (s := 0) (by decide) hg ht) ?_
    rintro _ d9 ⟨rfl, h9⟩
    obtain rfl := h9.symm
    refine wx_aldn j62_26 rfl ?_
    refine wx_get (v := .ref _) j62_27 rfl (Nat.le_of_ble_eq_true rfl) rfl ?_
    refine wx_i0 j62_30 rfl  (Nat.le_of_ble_eq_true rfl) rfl (sp_choices (s := 0) (by decide) hg ht) ?_
    rintro _ d9 ⟨rfl, h9⟩
    obtain rfl := h9.symm
    have e : sCl T (fl m) (nm m) = (pb (wd (cho T (fl m) (nm m))) (T 7 (nm m)).length, T) := by unfold sCl; rw [if_pos hf]
    have h12b : (T 7 (nm m)).length ≤ 12 := h12
    have ek : kd fl m = 7 := by unfold kd; rw [if_pos hf]
    have hc14 : cho T (fl m) (nm m) ≤ 14 := by unfold cho kj; rw [if_pos hf, if_pos hf]; omega
    have hcc : (T (kd fl m) (nm m)).length + (if fl m = true then 2 else 1) = cho T (fl m) (nm m) := rfl
    rw [hcc, ek]
    refine wx_v2 j62_33 rfl rfl rfl (Nat.le_of_ble_eq_true rfl) rfl (sp_tPlace h (by omega) (by omega) (by omega)) ?_
    rintro d1 ⟨h1, hf1⟩
    refine wx_rv j62_36 rfl ?_
    rw [e]
    exact ⟨tb_bt ht hf1, h1, wf_bt hf1⟩
  · simp only [ax_cn, Classical.not_not] at c7
    have hf : fl m = false := by
      have := bB_1.mp c7
      simpa using this
    refine wx_aldn j62_10 rfl ?_
    refine wx_icst (v := nI 4) j62_11 (by decide) ?_
    refine wx_v1 j62_12 rfl rfl (Nat.le_of_ble_eq_true rfl) rfl (sp_tNameless (k := 4) hg ht h hb (Or.inr rfl) hl) ?_
    rintro d1 h1
    refine wx_goto 36 j62_15 (by decide) ?_
    refine wx_rv j62_36 rfl ?_
    have e : sCl T (fl m) (nm m) = sNl T (fl m) (nm m) 4 := by unfold sCl; rw [if_neg (by rw [hf]; decide)]
    rw [e]
    exact h1
theorem tnd_new {k : Nat} {x4 x5 : Int32} (hg : gr_is d 0 (m + 1) nm fl b) (ht : tb_is d 0 T) (h : bt_is d 515 l) (hb : TB T) (h45 : T45 T) (hsp : sp < tB) (hlo : lo < tB) (hr : rm3 T sp lo) (hk : k = 1 ∨ k = 2) (hl : l.length + 130 ≤ 4000) : ax_W 63 58 [some (.ref 513), some (.int (nI k)), some (.int (nI sp)), some (.int (nI lo)), some (.int x4), some (.int x5), none] [] d (ax_Pi fun y d1 => y = nI (sNw T (fl m) (nm m) k sp lo).2.2 ∧ tb_is d1 0 (sNw T (fl m) (nm m) k sp lo).2.1 ∧ bt_is d1 515 (l ++ (sNw T (fl m) (nm m) k sp lo).1) ∧ wf d d1) := by
  refine wx_aldn j63_58 rfl ?_
  refine wx_ildn j63_59 rfl ?_
  refine wx_v1 j63_60 rfl rfl (Nat.le_of_ble_eq_true rfl) rfl (sp_tKind hg ht h hb (by rcases hk with q | q <;> simp [q]) (by omega)) ?_
  rintro d1 ⟨h1, hf1⟩
  have hg1 := gr_wf hg (wf_bt hf1)
  have ht1 := tb_bt ht hf1
  have hk7 := sKi_len T (fl m) (nm m) k
  refine wx_aldn j63_63 rfl ?_
  refine wx_ildn j63_64 rfl ?_
  refine wx_ildn j63_65 rfl ?_
  refine wx_i2 j63_66 rfl rfl rfl (Nat.le_of_ble_eq_true rfl) rfl (sp_tName ht1 h1 hb h45 hsp hlo hr (by rw [List.length_append]; omega)) ?_
  rintro _ d2 ⟨rfl, ht2, h2, hf2⟩
  have hg2 := gr_wf hg1 hf2
  have hi20 := sNa_20 (tb_l20 ht (j := 4) (k := 0) (by decide) (by decide)) hr
  refine wx_ist (L' := [_, _, _, _, _, _, some (.int _)]) j63_69 (Nat.le_of_ble_eq_true rfl) rfl ?_
  refine wx_aldn j63_71 rfl ?_
  refine wx_get (v := .ref _) j63_72 rfl (Nat.le_of_ble_eq_true rfl) rfl ?_
  refine wx_ildn j63_75 rfl ?_
  refine wx_ild j63_76 rfl ?_
  refine wx_t2 j63_78 rfl rfl rfl (Nat.le_of_ble_eq_true rfl) (sp_codeOf) ?_
  rintro _ d9 ⟨rfl, h9⟩
  obtain rfl := h9.symm
  refine wx_v1 j63_81 rfl rfl (Nat.le_of_ble_eq_true rfl) rfl (sp_learn (s := 0) (by decide) hg2 ht2 (sNa_TB hb hsp hlo) (Nat.lt_trans (show (sNa T sp lo).2.2 * 8 + k < 1000 by omega) (by decide))) ?_
  rintro d3 ⟨h3, hf3⟩
  refine wx_ild j63_84 rfl ?_
  refine wx_ri j63_86 rfl rfl ?_
  have h4 := bt_tb h2 hf3
  rw [List.append_assoc] at h4
  exact ⟨rfl, h3, h4, wf_tr (wf_tr (wf_bt hf1) hf2) (wf_tb hf3)⟩
theorem sp_tNamed {k : Nat} (hg : gr_is d 0 (m + 1) nm fl b) (ht : tb_is d 0 T) (h : bt_is d 515 l) (hb : TB T) (h45 : T45 T) (hsp : sp < tB) (hlo : lo < tB) (hr : rm3 T sp lo) (hk : k = 1 ∨ k = 2) (hl : l.length + 130 ≤ 4000) : ax_E 63 [.ref 513, .int (nI k), .int (nI sp), .int (nI lo)] d (ax_Pi fun y d1 => y = nI (sNd T (fl m) (nm m) k sp lo).2.2 ∧ tb_is d1 0 (sNd T (fl m) (nm m) k sp lo).2.1 ∧ bt_is d1 515 (l ++ (sNd T (fl m) (nm m) k sp lo).1) ∧ wf d d1) := by
  show ax_W 63 0 [some (.ref 513), some (.int (nI k)), some (.int (nI sp)), some (.int (nI lo)), none, none, none] [] d _
  refine wx_aldn j63_0 rfl ?_
  refine wx_get (v := .ref _) j63_1 rfl (Nat.le_of_ble_eq_true rfl) rfl ?_
  refine wx_ildn j63_4 rfl ?_
  refine wx_ildn j63_5 rfl ?_
  refine wx_i2 j63_6 rfl rfl rfl (Nat.le_of_ble_eq_true rfl) rfl (sp_findName (s := 0) (by decide) ht hb h45 hsp hlo) ?_
  rintro _ d9 ⟨rfl, h9⟩
  obtain rfl := h9.symm
  refine wx_ist (L' := [_, _, _, _, some (.int _), _, _]) j63_9 (Nat.le_of_ble_eq_true rfl) rfl ?_
  refine wx_ild j63_11 rfl ?_
  refine wx_icst (v := (-1)) j63_13 (by decide) ?_
  refine wx_cmp 21 j63_14 (by decide) (fun c14 => ?_) (fun c14 => ?_)
  · simp only [ax_cn, Classical.not_not] at c14
    obtain ⟨i, hi⟩ := oi_some c14
    rw [hi]
    simp only [oi]
    have hi20 := Nat.lt_of_lt_of_le (fn_spec hi).1 (tb_l20 ht (j := 4) (k := 0) (by decide) (by decide))
    have hn20 := (hg.2.2.2 m (Nat.lt_succ_self m)).2.1
    refine wx_aldn j63_21 rfl ?_
    refine wx_get (v := .ref _) j63_22 rfl (Nat.le_of_ble_eq_true rfl) rfl ?_
    refine wx_ildn j63_25 rfl ?_
    refine wx_ild j63_26 rfl ?_
    refine wx_t2 j63_28 rfl rfl rfl (Nat.le_of_ble_eq_true rfl) (sp_codeOf) ?_
    rintro _ d9 ⟨rfl, h9⟩
    obtain rfl := h9.symm
    refine wx_i1 j63_31 rfl rfl (Nat.le_of_ble_eq_true rfl) rfl (sp_findCode (s := 0) (by decide) hg ht hb (Nat.lt_trans (show i * 8 + k < 1000 by omega) (by decide))) ?_
    rintro _ d9 ⟨rfl, h9⟩
    obtain rfl := h9.symm
    cases hfi : fi (T (kj (fl m)) (nm m)) (i * 8 + k) with
    | some q =>
      rw [show fi (T (kd fl m) (nm m)) (i * 8 + k) = some q from hfi]
      simp only [oi]
      have h12 := tb_len ht (kj_lt (fl m)) (kj_nr (fl m) hn20)
      rw [kj_rm] at h12
      have hq12 := fi_lt hfi
      have hc14 : cho T (fl m) (nm m) ≤ 14 := by unfold cho; split <;> omega
      refine wx_ist (L' := [_, _, _, _, _, some (.int _), _]) j63_34 (Nat.le_of_ble_eq_true rfl) rfl ?_
      refine wx_ild j63_36 rfl ?_
      refine wx_icst (v := (-1)) j63_38 (by decide) ?_
      refine wx_cmp 58 j63_39 (by decide) (fun c39 => ?_) (fun c39 => ?_)
      · simp only [ax_cn, Classical.not_not] at c39
        exact absurd (show oi (some q) = -1 from c39) (fun q2 => by have := (oi_neg (o := some q) (fun i2 e2 => by cases e2; omega)).mp q2; cases this)
      · simp only [ax_cn, Classical.not_not] at c39
        refine wx_aldn j63_42 rfl ?_
        refine wx_ild j63_43 rfl ?_
        refine wx_aldn j63_45 rfl ?_
        refine wx_get (v := .ref _) j63_46 rfl (Nat.le_of_ble_eq_true rfl) rfl ?_
        refine wx_i0 j63_49 rfl  (Nat.le_of_ble_eq_true rfl) rfl (sp_choices (s := 0) (by decide) hg ht) ?_
        rintro _ d9 ⟨rfl, h9⟩
        obtain rfl := h9.symm
        refine wx_v2 j63_52 rfl rfl rfl (Nat.le_of_ble_eq_true rfl) rfl (sp_tPlace (m := cho T (fl m) (nm m)) h (by omega) (by omega) (by omega)) ?_
        rintro d1 ⟨h1, hf1⟩
        refine wx_ild j63_55 rfl ?_
        refine wx_ri j63_57 rfl rfl ?_
        have e : sNd T (fl m) (nm m) k sp lo = (pb (wd (cho T (fl m) (nm m))) q, T, i) := by unfold sNd; rw [hi]; simp only [hfi]
        rw [e]
        exact ⟨rfl, tb_bt ht hf1, h1, wf_bt hf1⟩
    | none =>
      rw [show fi (T (kd fl m) (nm m)) (i * 8 + k) = none from hfi]
      simp only [oi]
      have e : sNd T (fl m) (nm m) k sp lo = sNw T (fl m) (nm m) k sp lo := by unfold sNd; rw [hi]; simp only [hfi]
      rw [e]
      refine wx_ist (L' := [_, _, _, _, _, some (.int _), _]) j63_34 (Nat.le_of_ble_eq_true rfl) rfl ?_
      refine wx_ild j63_36 rfl ?_
      refine wx_icst (v := (-1)) j63_38 (by decide) ?_
      refine wx_cmp 58 j63_39 (by decide) (fun c39 => ?_) (fun c39 => ?_)
      · simp only [ax_cn, Classical.not_not] at c39
        exact tnd_new hg ht h hb h45 hsp hlo hr hk hl
      · simp only [ax_cn, Classical.not_not] at c39
        exact absurd trivial c39
  · simp only [ax_cn, Classical.not_not] at c14
    have hno : fn T sp lo = none := (oi_neg (fn_31 ht)).mp c14
    have e : sNd T (fl m) (nm m) k sp lo = sNw T (fl m) (nm m) k sp lo := by unfold sNd; rw [hno]
    rw [e]
    refine wx_icst (v := (-1)) j63_17 (by decide) ?_
    refine wx_goto 34 j63_18 (by decide) ?_
    refine wx_ist (L' := [_, _, _, _, _, some (.int _), _]) j63_34 (Nat.le_of_ble_eq_true rfl) rfl ?_
    refine wx_ild j63_36 rfl ?_
    refine wx_icst (v := (-1)) j63_38 (by decide) ?_
    refine wx_cmp 58 j63_39 (by decide) (fun c39 => ?_) (fun c39 => ?_)
    · simp only [ax_cn, Classical.not_not] at c39
      exact tnd_new hg ht h hb h45 hsp hlo hr hk hl
    · simp only [ax_cn, Classical.not_not] at c39
      exact absurd trivial c39
end W3
