/-! THE REFERENCE writes an attribute, a text, a close. -/
section M9
variable {d : ax_D} {l : List Nat} {T : TT} {m n : Nat} {nm : Nat → Nat} {fl : Nat → Bool} {b : Bool} {sp lo v : Nat}
theorem mg_0 {i : Nat} (hg : mg_is d 0 n nm fl b) (hi : i < n) : d 556 i = nI (nm i) ∧ nm i < 20 ∧ d 557 i = bB (fl i) := by
  have := hg.2.2.2 i hi
  rw [Nat.mul_zero, Nat.zero_add] at this
  exact this
/-- a name that is told is known then -/
theorem sNd_BI {f : Bool} {k kind : Nat} (hB : BI T) (hi : NI T) (hsp : sp < tB) (hlo : lo < tB) (hr : rm3 T sp lo) (hk : k < (T 4 0).length) (hkd : kind = 1 ∨ (kind = 2 ∧ f = false)) : BI (sNd T f k kind sp lo).2.1 ∧ NI (sNd T f k kind sp lo).2.1 ∧ (sNd T f k kind sp lo).2.2 < ((sNd T f k kind sp lo).2.1 4 0).length ∧ (T 4 0).length ≤ ((sNd T f k kind sp lo).2.1 4 0).length := by
  have new : BI (sNw T f k kind sp lo).2.1 ∧ NI (sNw T f k kind sp lo).2.1 ∧ (sNw T f k kind sp lo).2.2 < ((sNw T f k kind sp lo).2.1 4 0).length ∧ (T 4 0).length ≤ ((sNw T f k kind sp lo).2.1 4 0).length := by
    have hB1 := BI_sNa hB hsp hlo hr
    have hN1 := NI_sNa hi hsp hlo
    have h20 := sNa_20 (lb4 hB.2.2.2.1) hr
    have h4 := sNa_len4 (T := T) (sp := sp) (lo := lo)
    have hi2 := sNa_i (T := T) (sp := sp) (lo := lo)
    have hB2 : BI (sNw T f k kind sp lo).2.1 := by
      refine BI_ln hB1 ?_ (Or.inl ⟨?_, ?_⟩) ?_ (Nat.lt_of_lt_of_le hk h4)
      · have : tB = 14348907 := rfl
        omega
      · omega
      · rw [show ((sNa T sp lo).2.2 * 8 + kind) / 8 = (sNa T sp lo).2.2 by omega]; exact hi2
      · intro hf
        rcases hkd with rfl | ⟨-, q⟩
        · exact Or.inl (by omega)
        · rw [hf] at q; cases q
    have e4 : (sNw T f k kind sp lo).2.1 4 = (sNa T sp lo).2.1 4 := tln_row (kj_4 f).symm
    refine ⟨hB2, NI_67 hN1 hB2.1 (tln_row (by cases f <;> decide)) (tln_row (by cases f <;> decide)) e4 (tln_row (kj_5 f).symm) hB2.2.2.1, ?_, ?_⟩
    · rw [e4]; exact hi2
    · rw [e4]; exact h4
  unfold sNd
  cases hq : fn T sp lo with
  | none => exact new
  | some i =>
    cases hp : fi (T (kj f) k) (i * 8 + kind) with
    | none => simp only [hp]; exact new
    | some w => simp only [hp]; exact ⟨hB, hi, (fn_spec hq).1, Nat.le_refl _⟩
theorem sm_we2i0 (hg : mg_is d 0 0 nm fl b) : ax_E 113 [.ref 540, .int (nI sp), .int (nI lo), .int (nI v)] d (ax_Pi fun y d1 => y = nI 2 ∧ d1 = d) := by
  show ax_W 113 0 [some (.ref 540), some (.int (nI sp)), some (.int (nI lo)), some (.int (nI v)), none, none, none] [] d _
  refine wx_aldn j113_0 rfl ?_
  refine wx_get (v := .ref 555) j113_1 rfl (Nat.le_of_ble_eq_true rfl) rfl ?_
  refine wx_icst (v := nI 0) j113_4 (by decide) ?_
  refine wx_ialx (0) j113_5 rfl rfl (by decide) (by decide) ?_
  rw [hg.2.1]
  refine wx_if 25 j113_6 (by decide) (fun c6 => ?_) (fun c6 => ?_)
  · simp only [ax_cn, Classical.not_not] at c6
    refine wx_icst (v := nI 2) j113_25 (by decide) ?_
    refine wx_ri j113_26 rfl rfl ?_
    exact ⟨rfl, rfl⟩
  · simp only [ax_cn, Classical.not_not] at c6
    exact absurd rfl c6
theorem sm_we2i (hg : mg_is d 0 (m + 1) nm fl b) (hfm : fl m = true) : ax_E 113 [.ref 540, .int (nI sp), .int (nI lo), .int (nI v)] d (ax_Pi fun y d1 => y = nI 2 ∧ d1 = d) := by
  show ax_W 113 0 [some (.ref 540), some (.int (nI sp)), some (.int (nI lo)), some (.int (nI v)), none, none, none] [] d _
  have hm8 := hg.1
  refine wx_aldn j113_0 rfl ?_
  refine wx_get (v := .ref 555) j113_1 rfl (Nat.le_of_ble_eq_true rfl) rfl ?_
  refine wx_icst (v := nI 0) j113_4 (by decide) ?_
  refine wx_ialx (0) j113_5 rfl rfl (by decide) (by decide) ?_
  rw [hg.2.1]
  refine wx_if 25 j113_6 (by decide) (fun c6 => ?_) (fun c6 => ?_)
  · simp only [ax_cn, Classical.not_not] at c6
    exact absurd c6 (nI_ne0 (by omega) (by omega))
  · simp only [ax_cn, Classical.not_not] at c6
    refine wx_aldn j113_9 rfl ?_
    refine wx_get (v := .ref 557) j113_10 rfl (Nat.le_of_ble_eq_true rfl) rfl ?_
    refine wx_aldn j113_13 rfl ?_
    refine wx_get (v := .ref 555) j113_14 rfl (Nat.le_of_ble_eq_true rfl) rfl ?_
    refine wx_icst (v := nI 0) j113_17 (by decide) ?_
    refine wx_ialx (0) j113_18 rfl rfl (by decide) (by decide) ?_
    refine wx_icst (v := nI 1) j113_19 (by decide) ?_
    rw [hg.2.1]
    refine wx_isub j113_20 ?_
    rw [nI_s1]
    refine wx_balx (m) j113_21 rfl rfl (by omega) (by decide) ?_
    rw [(mg_0 hg (Nat.lt_succ_self m)).2.2, hfm]
    refine wx_if 27 j113_22 (by decide) (fun c22 => ?_) (fun c22 => ?_)
    · simp only [ax_cn, Classical.not_not] at c22
      exact absurd c22 (by decide)
    · simp only [ax_cn, Classical.not_not] at c22
      refine wx_icst (v := nI 2) j113_25 (by decide) ?_
      refine wx_ri j113_26 rfl rfl ?_
      exact ⟨rfl, rfl⟩
theorem mwa_val {nme : Nat} {T : TT} {l1 : List Nat} {x1 x2 x5 x6 : Int32} {d0 : ax_D} (h : mt_is d 0 T) (hg : mg_is d 0 (m + 1) nm fl b) (hm : mb_is d (l ++ l1)) (hB : BI T) (hn : nme < (T 4 0).length) (hv : v < tB) (hl : (l ++ l1).length + 60 ≤ 4000) (hf0 : mwe d0 d) : ax_W 113 134 [some (.ref 540), some (.int x1), some (.int x2), some (.int (nI v)), some (.int (nI nme)), some (.int x5), some (.int x6)] [] d (ax_Pi fun y d1 => y = nI 0 ∧ mt_is d1 0 ((sVa T nme v).2) ∧ mg_is d1 0 (m + 1) nm fl b ∧ mb_is d1 (l ++ (l1 ++ (sVa T nme v).1)) ∧ mwe d0 d1) := by
  refine wx_aldn j113_134 rfl ?_
  refine wx_ild j113_135 rfl ?_
  refine wx_ildn j113_137 rfl ?_
  refine wx_v2 j113_138 rfl rfl rfl (Nat.le_of_ble_eq_true rfl) rfl (sm_putValue h hm hB.2.2.2.1 hB.1 hn hv hl) ?_
  rintro d1 ⟨t1, b1, f1⟩
  rw [List.append_assoc] at b1
  refine wx_icst (v := nI 0) j113_141 (by decide) ?_
  refine wx_ri j113_142 rfl rfl ?_
  exact ⟨rfl, t1, mg_wf hg f1, b1, mwe_tr hf0 (mwe_wf f1)⟩
theorem mwa_go {x5 : Int32} (h : mt_is d 0 T) (hg : mg_is d 0 (m + 1) nm fl b) (hm : mb_is d l) (hB : BI T) (hi : NI T) (hsp : sp < tB) (hlo : lo < tB) (hv : v < tB) (hfm : fl m = false) (hnm : nm m < (T 4 0).length) (hr : rm3 T sp lo) (hl : l.length + 200 ≤ 4000) : ax_W 113 86 [some (.ref 540), some (.int (nI sp)), some (.int (nI lo)), some (.int (nI v)), some (.int (oi (fn T sp lo))), some (.int x5), none] [] d (ax_Pi fun y d1 => y = nI 0 ∧ mt_is d1 0 ((sVa (sNd T (fl m) (nm m) 2 sp lo).2.1 (sNd T (fl m) (nm m) 2 sp lo).2.2 v).2) ∧ mg_is d1 0 (m + 1) nm fl b ∧ mb_is d1 (l ++ ((sNd T (fl m) (nm m) 2 sp lo).1 ++ (sVa (sNd T (fl m) (nm m) 2 sp lo).2.1 (sNd T (fl m) (nm m) 2 sp lo).2.2 v).1)) ∧ mwe d d1) := by
  have hL := hB.2.2.2.1
  have l4 := lb4 hL
  have hki := sKi_len T (fl m) (nm m) 2
  have hle := sNd_len T (fl m) (nm m) 2 sp lo
  have hnal := sNa_len T sp lo
  obtain ⟨j, hj⟩ : ∃ j : Nat, (if fl m then 1 else 0) = j := ⟨_, rfl⟩
  obtain ⟨hkj, hj2⟩ := kj_j hj
  obtain ⟨hBd, hNd, hid, h4d⟩ := sNd_BI (kind := 2) hB hi hsp hlo hr hnm (Or.inr ⟨rfl, hfm⟩)
  have ecb : cb T (fl m) (nm m) 2 none = sKi T (fl m) (nm m) 2 := by unfold cb; rw [if_neg (fun q => absurd q.2 (by decide))]
  have hB1 := BI_sNa hB hsp hlo hr
  have h20 := sNa_20 (lb4 hL) hr
  have hk1 := Nat.lt_of_lt_of_le hnm (sNa_len4 (T := T) (sp := sp) (lo := lo))
  cases hq : fn T sp lo with
  | some q =>
    have hq1 := (fn_spec hq).1
    simp only [oi]
    refine wx_aldn j113_86 rfl ?_
    refine wx_icst (v := nI 0) j113_87 (by decide) ?_
    refine wx_i1 j113_88 rfl rfl (Nat.le_of_ble_eq_true rfl) rfl (sm_rowOf (c := 0) (by decide) hg) ?_
    rintro _ d9 ⟨rfl, h9⟩
    obtain rfl := h9.symm
    rw [hj]
    refine wx_ist (L' := [_, _, _, _, _, _, some (.int _)]) j113_91 (Nat.le_of_ble_eq_true rfl) rfl ?_
    refine wx_aldn j113_93 rfl ?_
    refine wx_ild j113_94 rfl ?_
    refine wx_if 103 j113_96 (by decide) (fun c96 => ?_) (fun c96 => ?_)
    · simp only [ax_cn, Classical.not_not] at c96
      refine wx_ild j113_103 rfl ?_
      refine wx_t1 j113_105 rfl rfl (Nat.le_of_ble_eq_true rfl) (sm_attributing) ?_
      rintro _ d9 ⟨rfl, h9⟩
      obtain rfl := h9.symm
      rw [← mc_2]
      refine wx_icst (v := nI 1) j113_108 (by decide) ?_
      refine wx_i2 j113_109 rfl rfl rfl (Nat.le_of_ble_eq_true rfl) rfl (sm_putCode (kind := 2) (mc_lt (by omega)) hg h hL hnm (row_1000 hB) hm (Or.inr (Or.inl rfl)) (fun q => by rw [hfm] at q; cases q) (by omega)) ?_
      rintro _ d1 ⟨rfl, b1, f1⟩
      rw [fi_mcT hB.2.2.2.2 vc1_2] at b1 ⊢
      cases hp : fi (T (kj (fl m)) (nm m)) (q * 8 + 2) with
      | some p0 =>
        have e : sNd T (fl m) (nm m) 2 sp lo = (pb (wd (cho T (fl m) (nm m))) p0, T, q) := by unfold sNd; rw [hq]; simp only [hp]
        rw [e] at hle ⊢
        rw [hp] at b1
        refine wx_if 134 j113_112 (by decide) (fun c112 => ?_) (fun c112 => ?_)
        · simp only [ax_cn, Classical.not_not] at c112
          exact mwa_val (mt_bf h f1) (mg_bf hg f1) b1 hB hq1 hv (by rw [List.length_append]; simp only [cb] at hle ⊢; omega) (mwe_wf (mwf_bf f1))
        · simp only [ax_cn, Classical.not_not] at c112
          exact absurd c112 (show ¬ nI 1 = 0 by decide)
      | none =>
        have e : sNd T (fl m) (nm m) 2 sp lo = sNw T (fl m) (nm m) 2 sp lo := by unfold sNd; rw [hq]; simp only [hp]
        rw [e] at hBd hid hle ⊢
        rw [hp, ecb] at b1
        refine wx_if 134 j113_112 (by decide) (fun c112 => ?_) (fun c112 => ?_)
        · simp only [ax_cn, Classical.not_not] at c112
          exact absurd rfl c112
        · simp only [ax_cn, Classical.not_not] at c112
          refine wx_aldn j113_115 rfl ?_
          refine wx_ildn j113_116 rfl ?_
          refine wx_ildn j113_117 rfl ?_
          refine wx_i2 j113_118 rfl rfl rfl (Nat.le_of_ble_eq_true rfl) rfl (sm_putName (mt_bf h f1) b1 hL hi hsp hlo hr (by rw [List.length_append]; omega)) ?_
          rintro _ d2 ⟨rfl, t2, b2, f2⟩
          rw [List.append_assoc] at b2
          refine wx_ist (L' := [_, _, _, _, some (.int _), _, _]) j113_121 (Nat.le_of_ble_eq_true rfl) rfl ?_
          refine wx_aldn j113_123 rfl ?_
          refine wx_ild j113_124 rfl ?_
          refine wx_ild j113_126 rfl ?_
          refine wx_t1 j113_128 rfl rfl (Nat.le_of_ble_eq_true rfl) (sm_attributing) ?_
          rintro _ d9 ⟨rfl, h9⟩
          obtain rfl := h9.symm
          rw [← mc_2]
          refine wx_v2 j113_131 rfl rfl rfl (Nat.le_of_ble_eq_true rfl) rfl (sm_learn (c := 0) (j := j) (by decide) t2 hB1.2.2.2.1 hk1 hj2 (by rw [← hkj]; exact row_1000 hB1) (mc_lt (by omega)) (by rw [← hkj]; exact fi_mcT hB1.2.2.2.2 vc1_2)) ?_
          rintro d3 ⟨t3, f3⟩
          rw [← hkj] at t3
          exact mwa_val t3 (mg_mq (mg_wf (mg_bf hg f1) f2) f3) (mb_mq b2 f3) hBd hid hv (by rw [List.length_append]; omega) (mwe_wf (mwf_tr (mwf_tr (mwf_bf f1) f2) (mwf_mq f3)))
      
    · simp only [ax_cn, Classical.not_not] at c96
      exact absurd (nI_pos' (by omega)) c96
  | none =>
    simp only [oi]
    refine wx_aldn j113_86 rfl ?_
    refine wx_icst (v := nI 0) j113_87 (by decide) ?_
    refine wx_i1 j113_88 rfl rfl (Nat.le_of_ble_eq_true rfl) rfl (sm_rowOf (c := 0) (by decide) hg) ?_
    rintro _ d9 ⟨rfl, h9⟩
    obtain rfl := h9.symm
    rw [hj]
    refine wx_ist (L' := [_, _, _, _, _, _, some (.int _)]) j113_91 (Nat.le_of_ble_eq_true rfl) rfl ?_
    refine wx_aldn j113_93 rfl ?_
    refine wx_ild j113_94 rfl ?_
    refine wx_if 103 j113_96 (by decide) (fun c96 => ?_) (fun c96 => ?_)
    · simp only [ax_cn, Classical.not_not] at c96
      exact absurd c96 (by decide)
    · simp only [ax_cn, Classical.not_not] at c96
      refine wx_icst (v := (-1)) j113_99 (by decide) ?_
      refine wx_goto 108 j113_100 (by decide) ?_
      refine wx_icst (v := nI 1) j113_108 (by decide) ?_
      refine wx_i2 j113_109 rfl rfl rfl (Nat.le_of_ble_eq_true rfl) rfl (sm_putCodeN (kind := 2) hg h hL hnm (row_1000 hB) hm (Or.inr (Or.inl rfl)) (fun q => by rw [hfm] at q; cases q) (by omega)) ?_
      rintro _ d1 ⟨rfl, b1, f1⟩
      rw [ecb] at b1
      have e : sNd T (fl m) (nm m) 2 sp lo = sNw T (fl m) (nm m) 2 sp lo := by unfold sNd; rw [hq]
      rw [e] at hBd hid hle ⊢
      refine wx_if 134 j113_112 (by decide) (fun c112 => ?_) (fun c112 => ?_)
      · simp only [ax_cn, Classical.not_not] at c112
        exact absurd rfl c112
      · simp only [ax_cn, Classical.not_not] at c112
        refine wx_aldn j113_115 rfl ?_
        refine wx_ildn j113_116 rfl ?_
        refine wx_ildn j113_117 rfl ?_
        refine wx_i2 j113_118 rfl rfl rfl (Nat.le_of_ble_eq_true rfl) rfl (sm_putName (mt_bf h f1) b1 hL hi hsp hlo hr (by rw [List.length_append]; omega)) ?_
        rintro _ d2 ⟨rfl, t2, b2, f2⟩
        rw [List.append_assoc] at b2
        refine wx_ist (L' := [_, _, _, _, some (.int _), _, _]) j113_121 (Nat.le_of_ble_eq_true rfl) rfl ?_
        refine wx_aldn j113_123 rfl ?_
        refine wx_ild j113_124 rfl ?_
        refine wx_ild j113_126 rfl ?_
        refine wx_t1 j113_128 rfl rfl (Nat.le_of_ble_eq_true rfl) (sm_attributing) ?_
        rintro _ d9 ⟨rfl, h9⟩
        obtain rfl := h9.symm
        rw [← mc_2]
        refine wx_v2 j113_131 rfl rfl rfl (Nat.le_of_ble_eq_true rfl) rfl (sm_learn (c := 0) (j := j) (by decide) t2 hB1.2.2.2.1 hk1 hj2 (by rw [← hkj]; exact row_1000 hB1) (mc_lt (by omega)) (by rw [← hkj]; exact fi_mcT hB1.2.2.2.2 vc1_2)) ?_
        rintro d3 ⟨t3, f3⟩
        rw [← hkj] at t3
        exact mwa_val t3 (mg_mq (mg_wf (mg_bf hg f1) f2) f3) (mb_mq b2 f3) hBd hid hv (by rw [List.length_append]; omega) (mwe_wf (mwf_tr (mwf_tr (mwf_bf f1) f2) (mwf_mq f3)))
theorem sm_we2 (h : mt_is d 0 T) (hg : mg_is d 0 (m + 1) nm fl b) (hm : mb_is d l) (hB : BI T) (hi : NI T) (hsp : sp < tB) (hlo : lo < tB) (hv : v < tB) (hfm : fl m = false) (hnm : nm m < (T 4 0).length) : ax_E 113 [.ref 540, .int (nI sp), .int (nI lo), .int (nI v)] d (ax_Pi fun y d1 => (hrf T (m + 1) l 2 sp lo = false → y = nI 3 ∧ d1 = d) ∧ (hrf T (m + 1) l 2 sp lo = true → y = nI 0 ∧ mt_is d1 0 ((sVa (sNd T (fl m) (nm m) 2 sp lo).2.1 (sNd T (fl m) (nm m) 2 sp lo).2.2 v).2) ∧ mg_is d1 0 (m + 1) (nm) (fl) b ∧ mb_is d1 (l ++ ((sNd T (fl m) (nm m) 2 sp lo).1 ++ (sVa (sNd T (fl m) (nm m) 2 sp lo).2.1 (sNd T (fl m) (nm m) 2 sp lo).2.2 v).1)) ∧ mwe d d1)) := by
  show ax_W 113 0 [some (.ref 540), some (.int (nI sp)), some (.int (nI lo)), some (.int (nI v)), none, none, none] [] d _
  have hL := hB.2.2.2.1
  have l40 := hm.1
  have l4 := lb4 hL
  have hm8 := hg.1
  refine wx_aldn j113_0 rfl ?_
  refine wx_get (v := .ref 555) j113_1 rfl (Nat.le_of_ble_eq_true rfl) rfl ?_
  refine wx_icst (v := nI 0) j113_4 (by decide) ?_
  refine wx_ialx (0) j113_5 rfl rfl (by decide) (by decide) ?_
  rw [hg.2.1]
  refine wx_if 25 j113_6 (by decide) (fun c6 => ?_) (fun c6 => ?_)
  · simp only [ax_cn, Classical.not_not] at c6
    exact absurd c6 (nI_ne0 (by omega) (by omega))
  · simp only [ax_cn, Classical.not_not] at c6
    refine wx_aldn j113_9 rfl ?_
    refine wx_get (v := .ref 557) j113_10 rfl (Nat.le_of_ble_eq_true rfl) rfl ?_
    refine wx_aldn j113_13 rfl ?_
    refine wx_get (v := .ref 555) j113_14 rfl (Nat.le_of_ble_eq_true rfl) rfl ?_
    refine wx_icst (v := nI 0) j113_17 (by decide) ?_
    refine wx_ialx (0) j113_18 rfl rfl (by decide) (by decide) ?_
    refine wx_icst (v := nI 1) j113_19 (by decide) ?_
    rw [hg.2.1]
    refine wx_isub j113_20 ?_
    rw [nI_s1]
    refine wx_balx (m) j113_21 rfl rfl (by omega) (by decide) ?_
    have e557 : d 557 m = nI 0 := by rw [(mg_0 hg (Nat.lt_succ_self m)).2.2, hfm]; rfl
    rw [e557]
    refine wx_if 27 j113_22 (by decide) (fun c22 => ?_) (fun c22 => ?_)
    · simp only [ax_cn, Classical.not_not] at c22
      refine wx_aldn j113_27 rfl ?_
      refine wx_icst (v := nI 0) j113_28 (by decide) ?_
      refine wx_ildn j113_29 rfl ?_
      refine wx_ildn j113_30 rfl ?_
      refine wx_i3 j113_31 rfl rfl rfl rfl (Nat.le_of_ble_eq_true rfl) rfl (sm_findName (c := 0) (by decide) h hL hB.1 hB.2.1 hsp hlo) ?_
      rintro _ d9 ⟨rfl, h9⟩
      obtain rfl := h9.symm
      refine wx_ist (L' := [_, _, _, _, some (.int _), _, _]) j113_34 (Nat.le_of_ble_eq_true rfl) rfl ?_
      refine wx_ild j113_36 rfl ?_
      refine wx_if 57 j113_38 (by decide) (fun c38 => ?_) (fun c38 => ?_)
      · simp only [ax_cn, Classical.not_not] at c38
        refine wx_icst (v := nI 0) j113_57 (by decide) ?_
        refine wx_ist (L' := [_, _, _, _, _, some (.int _), _]) j113_58 (Nat.le_of_ble_eq_true rfl) rfl ?_
        refine wx_aldn j113_60 rfl ?_
        refine wx_get (v := .int _) j113_61 rfl (Nat.le_of_ble_eq_true rfl) rfl ?_
        refine wx_spsh (v := nI 3800) j113_64 (by decide) ?_
        rw [hm.2.1]
        refine wx_cmp 84 j113_67 (by decide) (fun c67 => ?_) (fun c67 => ?_)
        · simp only [ax_cn, Classical.not_not] at c67
          have hf := hrf_n (T := T) (n := m + 1) (k := 2) (sp := sp) (lo := lo) (l := l) (fun q => absurd ((nI_ltI (by decide) (by omega)).mp c67) (Nat.not_lt.mpr q.1))
          refine wx_icst (v := nI 3) j113_84 (by decide) ?_
          refine wx_ri j113_85 rfl rfl ?_
          exact ⟨fun _ => ⟨rfl, rfl⟩, fun q => absurd (hf.symm.trans q) (by decide)⟩
        · simp only [ax_cn, Classical.not_not] at c67
          have h38 : l.length ≤ 3800 := Nat.not_lt.mp (fun q => c67 ((nI_ltI (by decide) (by omega)).mpr q))
          refine wx_ild j113_70 rfl ?_
          refine wx_if 86 j113_72 (by decide) (fun c72 => ?_) (fun c72 => ?_)
          · simp only [ax_cn, Classical.not_not] at c72
            exact absurd rfl c72
          · simp only [ax_cn, Classical.not_not] at c72
            refine wx_aldn j113_75 rfl ?_
            refine wx_ildn j113_76 rfl ?_
            refine wx_ildn j113_77 rfl ?_
            refine wx_i2 j113_78 rfl rfl rfl (Nat.le_of_ble_eq_true rfl) rfl (sm_lacks h hL hB.1 hB.2.1 hsp hlo) ?_
            rintro _ d9 ⟨rfl, h9⟩
            obtain rfl := h9.symm
            rw [lk_rfn hi hL]
            refine wx_if 86 j113_81 (by decide) (fun c81 => ?_) (fun c81 => ?_)
            · simp only [ax_cn, Classical.not_not] at c81
              have hrf1 : rfn T sp lo = true := by
                have := bB_0.mp c81
                cases hq : rfn T sp lo with
                | true => rfl
                | false => rw [hq] at this; cases this
              have hok := hrf_mk (T := T) (n := m + 1) (k := 2) (sp := sp) (lo := lo) (l := l) h38 (fun q => absurd q (by decide)) (fun _ => hrf1)
              have hr := rm3_of hi hrf1
              refine ax_W_mono (mwa_go h hg hm hB hi hsp hlo hv hfm hnm hr (by omega)) ?_
              rintro o d1 ⟨y, e1, e2⟩
              exact ⟨y, e1, fun q => absurd (hok.symm.trans q) (by decide), fun _ => e2⟩
            · simp only [ax_cn, Classical.not_not] at c81
              have hrf0 : ¬ rfn T sp lo = true := by
                intro q
                have := bB_1.mp c81
                rw [q] at this
                cases this
              have hf := hrf_n (T := T) (n := m + 1) (k := 2) (sp := sp) (lo := lo) (l := l) (fun q => hrf0 (q.2.2 (Or.inr rfl)))
              refine wx_icst (v := nI 3) j113_84 (by decide) ?_
              refine wx_ri j113_85 rfl rfl ?_
              exact ⟨fun _ => ⟨rfl, rfl⟩, fun q => absurd (hf.symm.trans q) (by decide)⟩
      · simp only [ax_cn, Classical.not_not] at c38
        refine wx_aldn j113_41 rfl ?_
        refine wx_ild j113_42 rfl ?_
        obtain ⟨q, hq⟩ := oi_geL c38
        have hq1 := (fn_spec hq).1
        have hoi := oi_s _ q hq
        rw [hoi]
        refine wx_t1 j113_44 rfl rfl (Nat.le_of_ble_eq_true rfl) (sm_attributing) ?_
        rintro _ d9 ⟨rfl, h9⟩
        obtain rfl := h9.symm
        rw [← mc_2]
        refine wx_i1 j113_47 rfl rfl (Nat.le_of_ble_eq_true rfl) rfl (sm_isLearned (mc_lt (by omega)) hg h hL hnm (row_1000 hB)) ?_
        rintro _ d9 ⟨rfl, h9⟩
        obtain rfl := h9.symm
        refine wx_if 57 j113_50 (by decide) (fun c50 => ?_) (fun c50 => ?_)
        · simp only [ax_cn, Classical.not_not] at c50
          refine wx_icst (v := nI 0) j113_57 (by decide) ?_
          refine wx_ist (L' := [_, _, _, _, _, some (.int _), _]) j113_58 (Nat.le_of_ble_eq_true rfl) rfl ?_
          refine wx_aldn j113_60 rfl ?_
          refine wx_get (v := .int _) j113_61 rfl (Nat.le_of_ble_eq_true rfl) rfl ?_
          refine wx_spsh (v := nI 3800) j113_64 (by decide) ?_
          rw [hm.2.1]
          refine wx_cmp 84 j113_67 (by decide) (fun c67 => ?_) (fun c67 => ?_)
          · simp only [ax_cn, Classical.not_not] at c67
            have hf := hrf_n (T := T) (n := m + 1) (k := 2) (sp := sp) (lo := lo) (l := l) (fun q => absurd ((nI_ltI (by decide) (by omega)).mp c67) (Nat.not_lt.mpr q.1))
            refine wx_icst (v := nI 3) j113_84 (by decide) ?_
            refine wx_ri j113_85 rfl rfl ?_
            exact ⟨fun _ => ⟨rfl, rfl⟩, fun q => absurd (hf.symm.trans q) (by decide)⟩
          · simp only [ax_cn, Classical.not_not] at c67
            have h38 : l.length ≤ 3800 := Nat.not_lt.mp (fun q => c67 ((nI_ltI (by decide) (by omega)).mpr q))
            refine wx_ild j113_70 rfl ?_
            refine wx_if 86 j113_72 (by decide) (fun c72 => ?_) (fun c72 => ?_)
            · simp only [ax_cn, Classical.not_not] at c72
              exact absurd rfl c72
            · simp only [ax_cn, Classical.not_not] at c72
              refine wx_aldn j113_75 rfl ?_
              refine wx_ildn j113_76 rfl ?_
              refine wx_ildn j113_77 rfl ?_
              refine wx_i2 j113_78 rfl rfl rfl (Nat.le_of_ble_eq_true rfl) rfl (sm_lacks h hL hB.1 hB.2.1 hsp hlo) ?_
              rintro _ d9 ⟨rfl, h9⟩
              obtain rfl := h9.symm
              rw [lk_rfn hi hL]
              refine wx_if 86 j113_81 (by decide) (fun c81 => ?_) (fun c81 => ?_)
              · simp only [ax_cn, Classical.not_not] at c81
                have hrf1 : rfn T sp lo = true := by
                  have := bB_0.mp c81
                  cases hq : rfn T sp lo with
                  | true => rfl
                  | false => rw [hq] at this; cases this
                rw [← hoi]
                have hok := hrf_mk (T := T) (n := m + 1) (k := 2) (sp := sp) (lo := lo) (l := l) h38 (fun q => absurd q (by decide)) (fun _ => hrf1)
                have hr := rm3_of hi hrf1
                refine ax_W_mono (mwa_go h hg hm hB hi hsp hlo hv hfm hnm hr (by omega)) ?_
                rintro o d1 ⟨y, e1, e2⟩
                exact ⟨y, e1, fun q => absurd (hok.symm.trans q) (by decide), fun _ => e2⟩
              · simp only [ax_cn, Classical.not_not] at c81
                have hrf0 : ¬ rfn T sp lo = true := by
                  intro q
                  have := bB_1.mp c81
                  rw [q] at this
                  cases this
                have hf := hrf_n (T := T) (n := m + 1) (k := 2) (sp := sp) (lo := lo) (l := l) (fun q => hrf0 (q.2.2 (Or.inr rfl)))
                refine wx_icst (v := nI 3) j113_84 (by decide) ?_
                refine wx_ri j113_85 rfl rfl ?_
                exact ⟨fun _ => ⟨rfl, rfl⟩, fun q => absurd (hf.symm.trans q) (by decide)⟩
        · simp only [ax_cn, Classical.not_not] at c50
          have hrf1 := rfn_s hq
          refine wx_icst (v := nI 1) j113_53 (by decide) ?_
          refine wx_goto 58 j113_54 (by decide) ?_
          refine wx_ist (L' := [_, _, _, _, _, some (.int _), _]) j113_58 (Nat.le_of_ble_eq_true rfl) rfl ?_
          refine wx_aldn j113_60 rfl ?_
          refine wx_get (v := .int _) j113_61 rfl (Nat.le_of_ble_eq_true rfl) rfl ?_
          refine wx_spsh (v := nI 3800) j113_64 (by decide) ?_
          rw [hm.2.1]
          refine wx_cmp 84 j113_67 (by decide) (fun c67 => ?_) (fun c67 => ?_)
          · simp only [ax_cn, Classical.not_not] at c67
            have hf := hrf_n (T := T) (n := m + 1) (k := 2) (sp := sp) (lo := lo) (l := l) (fun q => absurd ((nI_ltI (by decide) (by omega)).mp c67) (Nat.not_lt.mpr q.1))
            refine wx_icst (v := nI 3) j113_84 (by decide) ?_
            refine wx_ri j113_85 rfl rfl ?_
            exact ⟨fun _ => ⟨rfl, rfl⟩, fun q => absurd (hf.symm.trans q) (by decide)⟩
          · simp only [ax_cn, Classical.not_not] at c67
            have h38 : l.length ≤ 3800 := Nat.not_lt.mp (fun q => c67 ((nI_ltI (by decide) (by omega)).mpr q))
            refine wx_ild j113_70 rfl ?_
            refine wx_if 86 j113_72 (by decide) (fun c72 => ?_) (fun c72 => ?_)
            · simp only [ax_cn, Classical.not_not] at c72
              rw [← hoi]
              have hok := hrf_mk (T := T) (n := m + 1) (k := 2) (sp := sp) (lo := lo) (l := l) h38 (fun q => absurd q (by decide)) (fun _ => hrf1)
              have hr := rm3_of hi hrf1
              refine ax_W_mono (mwa_go h hg hm hB hi hsp hlo hv hfm hnm hr (by omega)) ?_
              rintro o d1 ⟨y, e1, e2⟩
              exact ⟨y, e1, fun q => absurd (hok.symm.trans q) (by decide), fun _ => e2⟩
            · simp only [ax_cn, Classical.not_not] at c72
              refine wx_aldn j113_75 rfl ?_
              refine wx_ildn j113_76 rfl ?_
              refine wx_ildn j113_77 rfl ?_
              refine wx_i2 j113_78 rfl rfl rfl (Nat.le_of_ble_eq_true rfl) rfl (sm_lacks h hL hB.1 hB.2.1 hsp hlo) ?_
              rintro _ d9 ⟨rfl, h9⟩
              obtain rfl := h9.symm
              rw [lk_rfn hi hL]
              refine wx_if 86 j113_81 (by decide) (fun c81 => ?_) (fun c81 => ?_)
              · simp only [ax_cn, Classical.not_not] at c81
                have hrf1 : rfn T sp lo = true := by
                  have := bB_0.mp c81
                  cases hq : rfn T sp lo with
                  | true => rfl
                  | false => rw [hq] at this; cases this
                rw [← hoi]
                have hok := hrf_mk (T := T) (n := m + 1) (k := 2) (sp := sp) (lo := lo) (l := l) h38 (fun q => absurd q (by decide)) (fun _ => hrf1)
                have hr := rm3_of hi hrf1
                refine ax_W_mono (mwa_go h hg hm hB hi hsp hlo hv hfm hnm hr (by omega)) ?_
                rintro o d1 ⟨y, e1, e2⟩
                exact ⟨y, e1, fun q => absurd (hok.symm.trans q) (by decide), fun _ => e2⟩
              · simp only [ax_cn, Classical.not_not] at c81
                have hrf0 : ¬ rfn T sp lo = true := by
                  intro q
                  have := bB_1.mp c81
                  rw [q] at this
                  cases this
                have hf := hrf_n (T := T) (n := m + 1) (k := 2) (sp := sp) (lo := lo) (l := l) (fun q => hrf0 (q.2.2 (Or.inr rfl)))
                refine wx_icst (v := nI 3) j113_84 (by decide) ?_
                refine wx_ri j113_85 rfl rfl ?_
                exact ⟨fun _ => ⟨rfl, rfl⟩, fun q => absurd (hf.symm.trans q) (by decide)⟩
    · simp only [ax_cn, Classical.not_not] at c22
      exact absurd rfl c22
theorem sm_we3i (hg : mg_is d 0 0 nm fl b) : ax_E 114 [.ref 540, .int (nI v)] d (ax_Pi fun y d1 => y = nI 2 ∧ d1 = d) := by
  show ax_W 114 0 [some (.ref 540), some (.int (nI v)), none, none] [] d _
  refine wx_aldn j114_0 rfl ?_
  refine wx_get (v := .ref 555) j114_1 rfl (Nat.le_of_ble_eq_true rfl) rfl ?_
  refine wx_icst (v := nI 0) j114_4 (by decide) ?_
  refine wx_ialx (0) j114_5 rfl rfl (by decide) (by decide) ?_
  rw [hg.2.1]
  refine wx_if 11 j114_6 (by decide) (fun c6 => ?_) (fun c6 => ?_)
  · simp only [ax_cn, Classical.not_not] at c6
    exact absurd rfl c6
  · simp only [ax_cn, Classical.not_not] at c6
    refine wx_icst (v := nI 2) j114_9 (by decide) ?_
    refine wx_ri j114_10 rfl rfl ?_
    exact ⟨rfl, rfl⟩
theorem sNl_BI {f : Bool} {k kind : Nat} (hB : BI T) (hi : NI T) (hk : k < (T 4 0).length) (hkd : kind = 3 ∨ (kind = 4 ∧ f = false)) : BI (sNl T f k kind).2 ∧ NI (sNl T f k kind).2 ∧ (sNl T f k kind).2 4 = T 4 := by
  unfold sNl
  cases hq : fi (T (kj f) k) kind with
  | some p => exact ⟨hB, hi, rfl⟩
  | none =>
    have hB2 : BI (tln T (kj f) k kind) := BI_ln hB (by have : tB = 14348907 := rfl; omega) (Or.inr (by omega)) (fun hf => by
      rcases hkd with rfl | ⟨-, q⟩
      · exact Or.inr rfl
      · rw [hf] at q; cases q) hk
    exact ⟨hB2, NI_67 hi hB2.1 (tln_row (by cases f <;> decide)) (tln_row (by cases f <;> decide)) (tln_row (kj_4 f).symm) (tln_row (kj_5 f).symm) hB2.2.2.1, tln_row (kj_4 f).symm⟩
theorem mwt_val {T : TT} {l1 : List Nat} {x2 : Int32} {d0 : ax_D} (h : mt_is d 0 T) (hg : mg_is d 0 (m + 1) nm fl b) (hm : mb_is d (l ++ l1)) (hB : BI T) (hn : nm m < (T 4 0).length) (hv : v < tB) (hl : (l ++ l1).length + 60 ≤ 4000) (hf0 : mwe d0 d) : ax_W 114 44 [some (.ref 540), some (.int (nI v)), some (.int x2), none] [] d (ax_Pi fun y d1 => y = nI 0 ∧ mt_is d1 0 ((sVa T (nm m) v).2) ∧ mg_is d1 0 (m + 1) nm (va_up fl m true) b ∧ mb_is d1 (l ++ (l1 ++ (sVa T (nm m) v).1)) ∧ mwe d0 d1) := by
  have hm8 := hg.1
  refine wx_aldn j114_44 rfl ?_
  refine wx_get (v := .ref 555) j114_45 rfl (Nat.le_of_ble_eq_true rfl) rfl ?_
  refine wx_icst (v := nI 0) j114_48 (by decide) ?_
  refine wx_ialx (0) j114_49 rfl rfl (by decide) (by decide) ?_
  refine wx_icst (v := nI 1) j114_50 (by decide) ?_
  rw [hg.2.1]
  refine wx_isub j114_51 ?_
  rw [nI_s1]
  refine wx_istn (L' := [_, _, _, some (.int _)]) j114_52 (Nat.le_of_ble_eq_true rfl) rfl ?_
  refine wx_aldn j114_53 rfl ?_
  refine wx_aldn j114_54 rfl ?_
  refine wx_get (v := .ref 556) j114_55 rfl (Nat.le_of_ble_eq_true rfl) rfl ?_
  refine wx_ildn j114_58 rfl ?_
  refine wx_ialx (m) j114_59 rfl rfl (by omega) (by decide) ?_
  rw [(mg_0 hg (Nat.lt_succ_self m)).1]
  refine wx_ildn j114_60 rfl ?_
  refine wx_v2 j114_61 rfl rfl rfl (Nat.le_of_ble_eq_true rfl) rfl (sm_putValue h hm hB.2.2.2.1 hB.1 hn hv hl) ?_
  rintro d1 ⟨t1, b1, f1⟩
  rw [List.append_assoc] at b1
  have g1 := mg_wf hg f1
  refine wx_aldn j114_64 rfl ?_
  refine wx_get (v := .ref 557) j114_65 rfl (Nat.le_of_ble_eq_true rfl) rfl ?_
  refine wx_ildn j114_68 rfl ?_
  refine wx_icst (v := nI 1) j114_69 (by decide) ?_
  refine wx_basx (m) j114_70 rfl rfl (by omega) (by decide) ?_
  refine wx_icst (v := nI 0) j114_71 (by decide) ?_
  refine wx_ri j114_72 rfl rfl ?_
  have m9 : mo d1 (ax_up d1 557 m (nI 1 &&& 1)) 0 := mo_up (by decide) (by decide) (show m / 8 = 0 by omega)
  refine ⟨rfl, mt_up t1 (by decide), ⟨g1.1, by rw [up_ni (by decide)]; exact g1.2.1, by rw [up_ni (by decide)]; exact g1.2.2.1, fun i hi2 => ?_⟩, mb_mo b1 m9, mwe_tr hf0 (mwe_tr (mwe_wf f1) (mwe_mo m9))⟩
  have q := mg_0 g1 hi2
  rw [Nat.mul_zero, Nat.zero_add, up_ni (by decide), up_ap]
  refine ⟨q.1, q.2.1, ?_⟩
  unfold va_up
  by_cases him : i = m
  · rw [if_pos ⟨rfl, him⟩, if_pos him]; rfl
  · rw [if_neg (fun z => him z.2), if_neg him]; exact q.2.2
theorem sm_we3 (h : mt_is d 0 T) (hg : mg_is d 0 (m + 1) nm fl b) (hm : mb_is d l) (hB : BI T) (hi : NI T) (hv : v < tB) (hnm : nm m < (T 4 0).length) : ax_E 114 [.ref 540, .int (nI v)] d (ax_Pi fun y d1 => (hrf T (m + 1) l 3 sp lo = false → y = nI 3 ∧ d1 = d) ∧ (hrf T (m + 1) l 3 sp lo = true → y = nI 0 ∧ mt_is d1 0 ((sVa (sNl T (fl m) (nm m) 3).2 (nm m) v).2) ∧ mg_is d1 0 (m + 1) (nm) (va_up fl m true) b ∧ mb_is d1 (l ++ ((sNl T (fl m) (nm m) 3).1 ++ (sVa (sNl T (fl m) (nm m) 3).2 (nm m) v).1)) ∧ mwe d d1)) := by
  show ax_W 114 0 [some (.ref 540), some (.int (nI v)), none, none] [] d _
  have hL := hB.2.2.2.1
  have l40 := hm.1
  have l4 := lb4 hL
  have hm8 := hg.1
  have hle := sNl_len T (fl m) (nm m) 3
  obtain ⟨j, hj⟩ : ∃ j : Nat, (if fl m then 1 else 0) = j := ⟨_, rfl⟩
  obtain ⟨hkj, hj2⟩ := kj_j hj
  obtain ⟨hBd, -, hN4⟩ := sNl_BI (f := fl m) (kind := 3) hB hi hnm (Or.inl rfl)
  have ecb : cb T (fl m) (nm m) 3 none = sKi T (fl m) (nm m) 3 := by unfold cb; rw [if_neg (fun q => absurd q.2 (by decide))]
  refine wx_aldn j114_0 rfl ?_
  refine wx_get (v := .ref 555) j114_1 rfl (Nat.le_of_ble_eq_true rfl) rfl ?_
  refine wx_icst (v := nI 0) j114_4 (by decide) ?_
  refine wx_ialx (0) j114_5 rfl rfl (by decide) (by decide) ?_
  rw [hg.2.1]
  refine wx_if 11 j114_6 (by decide) (fun c6 => ?_) (fun c6 => ?_)
  · simp only [ax_cn, Classical.not_not] at c6
    refine wx_aldn j114_11 rfl ?_
    refine wx_get (v := .int _) j114_12 rfl (Nat.le_of_ble_eq_true rfl) rfl ?_
    refine wx_spsh (v := nI 3800) j114_15 (by decide) ?_
    rw [hm.2.1]
    refine wx_cmp 23 j114_18 (by decide) (fun c18 => ?_) (fun c18 => ?_)
    · simp only [ax_cn, Classical.not_not] at c18
      have h38 : l.length ≤ 3800 := (nI_leI (by omega) (by decide)).mp c18
      have hok := hrf_mk (T := T) (n := m + 1) (k := 3) (sp := sp) (lo := lo) (l := l) h38 (fun q => absurd q (by decide)) (fun q => absurd q (by decide))
      refine wx_aldn j114_23 rfl ?_
      refine wx_icst (v := nI 0) j114_24 (by decide) ?_
      refine wx_i1 j114_25 rfl rfl (Nat.le_of_ble_eq_true rfl) rfl (sm_rowOf (c := 0) (by decide) hg) ?_
      rintro _ d9 ⟨rfl, h9⟩
      obtain rfl := h9.symm
      rw [hj]
      refine wx_istn (L' := [_, _, some (.int _), _]) j114_28 (Nat.le_of_ble_eq_true rfl) rfl ?_
      refine wx_aldn j114_29 rfl ?_
      refine wx_icst (v := nI 1) j114_30 (by decide) ?_
      refine wx_icst (v := nI 3) j114_31 (by decide) ?_
      refine wx_i2 j114_32 rfl rfl rfl (Nat.le_of_ble_eq_true rfl) rfl (sm_putCode (kind := 3) (c := 3) (by decide) hg h hL hnm (row_1000 hB) hm (Or.inr (Or.inr (Or.inl rfl))) (fun _ => by decide) (by omega)) ?_
      rintro _ d1 ⟨rfl, b1, f1⟩
      rw [fi_mcT hB.2.2.2.2 (Or.inr (Or.inr (Or.inl rfl)))] at b1 ⊢
      cases hp : fi (T (kj (fl m)) (nm m)) 3 with
      | some p0 =>
        have e : sNl T (fl m) (nm m) 3 = (pb (wd (cho T (fl m) (nm m))) p0, T) := by unfold sNl; rw [hp]
        rw [e] at hle ⊢
        rw [hp] at b1
        refine wx_if 44 j114_35 (by decide) (fun c35 => ?_) (fun c35 => ?_)
        · simp only [ax_cn, Classical.not_not] at c35
          refine ax_W_mono (mwt_val (mt_bf h f1) (mg_bf hg f1) b1 hB hnm hv (by rw [List.length_append]; simp only [cb] at hle ⊢; omega) (mwe_wf (mwf_bf f1))) ?_
          rintro o d1 ⟨y, e1, e2⟩
          exact ⟨y, e1, fun q => absurd (hok.symm.trans q) (by decide), fun _ => e2⟩
        · simp only [ax_cn, Classical.not_not] at c35
          exact absurd c35 (show ¬ nI 1 = 0 by decide)
      | none =>
        have e : sNl T (fl m) (nm m) 3 = (sKi T (fl m) (nm m) 3, tln T (kj (fl m)) (nm m) 3) := by unfold sNl; rw [hp]
        rw [e] at hBd hN4 hle ⊢
        rw [hp, ecb] at b1
        refine wx_if 44 j114_35 (by decide) (fun c35 => ?_) (fun c35 => ?_)
        · simp only [ax_cn, Classical.not_not] at c35
          exact absurd rfl c35
        · simp only [ax_cn, Classical.not_not] at c35
          refine wx_aldn j114_38 rfl ?_
          refine wx_ildn j114_39 rfl ?_
          refine wx_icst (v := nI 1) j114_40 (by decide) ?_
          refine wx_v2 j114_41 rfl rfl rfl (Nat.le_of_ble_eq_true rfl) rfl (sm_learn (c := 0) (j := j) (code := 3) (by decide) (mt_bf h f1) hL hnm hj2 (by rw [← hkj]; exact row_1000 hB) (by decide) (by rw [← hkj]; exact fi_mcT hB.2.2.2.2 (Or.inr (Or.inr (Or.inl rfl))))) ?_
          rintro d2 ⟨t2, f2⟩
          rw [← hkj] at t2
          refine ax_W_mono (mwt_val t2 (mg_mq (mg_bf hg f1) f2) (mb_mq b1 f2) hBd (by rw [show tln T (kj (fl m)) (nm m) 3 4 = T 4 from hN4]; exact hnm) hv (by rw [List.length_append]; simp only at hle; omega) (mwe_wf (mwf_tr (mwf_bf f1) (mwf_mq f2)))) ?_
          rintro o d1 ⟨y, e1, e2⟩
          exact ⟨y, e1, fun q => absurd (hok.symm.trans q) (by decide), fun _ => e2⟩
      
    · simp only [ax_cn, Classical.not_not] at c18
      have hf := hrf_n (T := T) (n := m + 1) (k := 3) (sp := sp) (lo := lo) (l := l) (fun q => c18 ((nI_leI (by omega) (by decide)).mpr q.1))
      refine wx_icst (v := nI 3) j114_21 (by decide) ?_
      refine wx_ri j114_22 rfl rfl ?_
      exact ⟨fun _ => ⟨rfl, rfl⟩, fun q => absurd (hf.symm.trans q) (by decide)⟩
  · simp only [ax_cn, Classical.not_not] at c6
    exact absurd c6 (nI_ne0 (by omega) (by omega))
theorem sm_we4i (hg : mg_is d 0 0 nm fl b) : ax_E 115 [.ref 540] d (ax_Pi fun y d1 => y = nI 2 ∧ d1 = d) := by
  show ax_W 115 0 [some (.ref 540), none] [] d _
  refine wx_aldn j115_0 rfl ?_
  refine wx_get (v := .ref 555) j115_1 rfl (Nat.le_of_ble_eq_true rfl) rfl ?_
  refine wx_icst (v := nI 0) j115_4 (by decide) ?_
  refine wx_ialx (0) j115_5 rfl rfl (by decide) (by decide) ?_
  rw [hg.2.1]
  refine wx_if 11 j115_6 (by decide) (fun c6 => ?_) (fun c6 => ?_)
  · simp only [ax_cn, Classical.not_not] at c6
    exact absurd rfl c6
  · simp only [ax_cn, Classical.not_not] at c6
    refine wx_icst (v := nI 2) j115_9 (by decide) ?_
    refine wx_ri j115_10 rfl rfl ?_
    exact ⟨rfl, rfl⟩
theorem sm_we4 (h : mt_is d 0 T) (hg : mg_is d 0 (m + 1) nm fl true) (hm : mb_is d l) (hB : BI T) (hi : NI T) (hnm : nm m < (T 4 0).length) : ax_E 115 [.ref 540] d (ax_Pi fun y d1 => (hrf T (m + 1) l 4 sp lo = false → y = nI 3 ∧ d1 = d) ∧ (hrf T (m + 1) l 4 sp lo = true → y = nI 0 ∧ mt_is d1 0 ((sCl T (fl m) (nm m)).2) ∧ mg_is d1 0 (m) (nm) (fl) true ∧ mb_is d1 (l ++ (sCl T (fl m) (nm m)).1) ∧ mwe d d1)) := by
  show ax_W 115 0 [some (.ref 540), none] [] d _
  have hL := hB.2.2.2.1
  have l40 := hm.1
  have l4 := lb4 hL
  have hm8 := hg.1
  obtain ⟨j, hj⟩ : ∃ j : Nat, (if fl m then 1 else 0) = j := ⟨_, rfl⟩
  obtain ⟨hkj, hj2⟩ := kj_j hj
  refine wx_aldn j115_0 rfl ?_
  refine wx_get (v := .ref 555) j115_1 rfl (Nat.le_of_ble_eq_true rfl) rfl ?_
  refine wx_icst (v := nI 0) j115_4 (by decide) ?_
  refine wx_ialx (0) j115_5 rfl rfl (by decide) (by decide) ?_
  rw [hg.2.1]
  refine wx_if 11 j115_6 (by decide) (fun c6 => ?_) (fun c6 => ?_)
  · simp only [ax_cn, Classical.not_not] at c6
    refine wx_aldn j115_11 rfl ?_
    refine wx_get (v := .int _) j115_12 rfl (Nat.le_of_ble_eq_true rfl) rfl ?_
    refine wx_spsh (v := nI 3800) j115_15 (by decide) ?_
    rw [hm.2.1]
    refine wx_cmp 23 j115_18 (by decide) (fun c18 => ?_) (fun c18 => ?_)
    · simp only [ax_cn, Classical.not_not] at c18
      have h38 : l.length ≤ 3800 := (nI_leI (by omega) (by decide)).mp c18
      have hok := hrf_mk (T := T) (n := m + 1) (k := 4) (sp := sp) (lo := lo) (l := l) h38 (fun q => absurd q (by decide)) (fun q => absurd q (by decide))
      refine wx_aldn j115_23 rfl ?_
      refine wx_icst (v := nI 0) j115_24 (by decide) ?_
      refine wx_i1 j115_25 rfl rfl (Nat.le_of_ble_eq_true rfl) rfl (sm_rowOf (c := 0) (by decide) hg) ?_
      rintro _ d9 ⟨rfl, h9⟩
      obtain rfl := h9.symm
      rw [hj]
      refine wx_istn (L' := [_, some (.int _)]) j115_28 (Nat.le_of_ble_eq_true rfl) rfl ?_
      refine wx_aldn j115_29 rfl ?_
      refine wx_icst (v := nI 0) j115_30 (by decide) ?_
      refine wx_icst (v := nI 0) j115_31 (by decide) ?_
      refine wx_i2 j115_32 rfl rfl rfl (Nat.le_of_ble_eq_true rfl) rfl (sm_putCode (kind := 4) (c := 4) (by decide) hg h hL hnm (row_1000 hB) hm (Or.inr (Or.inr (Or.inr rfl))) (fun _ => by decide) (by omega)) ?_
      rintro _ d1 ⟨rfl, b1, f1⟩
      rw [fi_mcT hB.2.2.2.2 (Or.inr (Or.inr (Or.inr rfl)))] at b1 ⊢
      cases hfm : fl m with
      | true =>
        obtain rfl : j = 1 := by rw [hfm] at hj; exact hj.symm
        have e : sCl T true (nm m) = (pb (wd (cho T true (nm m))) (T 7 (nm m)).length, T) := by unfold sCl; rw [if_pos rfl]
        have en : fi (T (kj true) (nm m)) 4 = none := by rw [← fi_mcT hB.2.2.2.2 (Or.inr (Or.inr (Or.inr rfl)))]; exact fi_c0 hB.2.2.2.2
        rw [hfm, en] at b1
        have ecl : cb T true (nm m) 4 none = pb (wd (cho T true (nm m))) (T 7 (nm m)).length := by unfold cb; rw [if_pos ⟨rfl, rfl⟩]
        rw [ecl] at b1
        rw [e, en]
        refine wx_if 50 j115_35 (by decide) (fun c35 => ?_) (fun c35 => ?_)
        · simp only [ax_cn, Classical.not_not] at c35
          exact absurd rfl c35
        · simp only [ax_cn, Classical.not_not] at c35
          refine wx_ildn j115_38 rfl ?_
          refine wx_icst (v := nI 2) j115_39 (by decide) ?_
          refine wx_irem j115_40 (by decide) ?_
          rw [pk_rem (by omega) (by decide) (by decide), show (40 * 0 + 2 * nm m + 1) % 2 = 1 by omega]
          refine wx_if 50 j115_41 (by decide) (fun c41 => ?_) (fun c41 => ?_)
          · simp only [ax_cn, Classical.not_not] at c41
            refine wx_aldn j115_50 rfl ?_
            refine wx_icst (v := nI 0) j115_51 (by decide) ?_
            refine wx_v1 j115_52 rfl rfl (Nat.le_of_ble_eq_true rfl) rfl (sm_leave (c := 0) (by decide) (mg_bf hg f1)) ?_
            rintro d3 ⟨g3, f3, e3⟩
            refine wx_icst (v := nI 0) j115_55 (by decide) ?_
            refine wx_ri j115_56 rfl rfl ?_
            exact ⟨fun q => absurd (hok.symm.trans q) (by decide), fun _ => ⟨rfl, mt_555 (mt_bf h f1) e3, g3, mb_mo b1 f3, mwe_tr (mwe_wf (mwf_bf f1)) (mwe_mo f3)⟩⟩
          · simp only [ax_cn, Classical.not_not] at c41
            exact absurd c41 (by decide)
      | false =>
        obtain rfl : j = 0 := by rw [hfm] at hj; exact hj.symm
        have e : sCl T false (nm m) = sNl T false (nm m) 4 := by unfold sCl; rw [if_neg (by decide)]
        rw [hfm] at b1
        rw [e]
        cases hp : fi (T (kj false) (nm m)) 4 with
        | some p0 =>
          have e : sNl T false (nm m) 4 = (pb (wd (cho T false (nm m))) p0, T) := by unfold sNl; rw [hp]
          rw [e]
          rw [hp] at b1
          refine wx_if 50 j115_35 (by decide) (fun c35 => ?_) (fun c35 => ?_)
          · simp only [ax_cn, Classical.not_not] at c35
            refine wx_aldn j115_50 rfl ?_
            refine wx_icst (v := nI 0) j115_51 (by decide) ?_
            refine wx_v1 j115_52 rfl rfl (Nat.le_of_ble_eq_true rfl) rfl (sm_leave (c := 0) (by decide) (mg_bf hg f1)) ?_
            rintro d3 ⟨g3, f3, e3⟩
            refine wx_icst (v := nI 0) j115_55 (by decide) ?_
            refine wx_ri j115_56 rfl rfl ?_
            exact ⟨fun q => absurd (hok.symm.trans q) (by decide), fun _ => ⟨rfl, mt_555 (mt_bf h f1) e3, g3, mb_mo b1 f3, mwe_tr (mwe_wf (mwf_bf f1)) (mwe_mo f3)⟩⟩
          · simp only [ax_cn, Classical.not_not] at c35
            exact absurd c35 (show ¬ nI 1 = 0 by decide)
        | none =>
          have e : sNl T false (nm m) 4 = (sKi T false (nm m) 4, tln T (kj false) (nm m) 4) := by unfold sNl; rw [hp]
          rw [e]
          rw [hp] at b1
          have ecl : cb T false (nm m) 4 none = sKi T false (nm m) 4 := by unfold cb; rw [if_neg (fun q => absurd q.1 (by decide))]
          rw [ecl] at b1
          refine wx_if 50 j115_35 (by decide) (fun c35 => ?_) (fun c35 => ?_)
          · simp only [ax_cn, Classical.not_not] at c35
            exact absurd rfl c35
          · simp only [ax_cn, Classical.not_not] at c35
            refine wx_ildn j115_38 rfl ?_
            refine wx_icst (v := nI 2) j115_39 (by decide) ?_
            refine wx_irem j115_40 (by decide) ?_
            rw [pk_rem (by omega) (by decide) (by decide), show (40 * 0 + 2 * nm m + 0) % 2 = 0 by omega]
            refine wx_if 50 j115_41 (by decide) (fun c41 => ?_) (fun c41 => ?_)
            · simp only [ax_cn, Classical.not_not] at c41
              exact absurd rfl c41
            · simp only [ax_cn, Classical.not_not] at c41
              refine wx_aldn j115_44 rfl ?_
              refine wx_ildn j115_45 rfl ?_
              refine wx_icst (v := nI 0) j115_46 (by decide) ?_
              refine wx_v2 j115_47 rfl rfl rfl (Nat.le_of_ble_eq_true rfl) rfl (sm_learn (c := 0) (j := 0) (code := 4) (by decide) (mt_bf h f1) hL hnm (by decide) (row_1000 (f := false) hB) (by decide) (fi_mcT (f := false) hB.2.2.2.2 (Or.inr (Or.inr (Or.inr rfl))))) ?_
              rintro d2 ⟨t2, f2⟩
              refine wx_aldn j115_50 rfl ?_
              refine wx_icst (v := nI 0) j115_51 (by decide) ?_
              refine wx_v1 j115_52 rfl rfl (Nat.le_of_ble_eq_true rfl) rfl (sm_leave (c := 0) (by decide) (mg_mq (mg_bf hg f1) f2)) ?_
              rintro d3 ⟨g3, f3, e3⟩
              refine wx_icst (v := nI 0) j115_55 (by decide) ?_
              refine wx_ri j115_56 rfl rfl ?_
              exact ⟨fun q => absurd (hok.symm.trans q) (by decide), fun _ => ⟨rfl, mt_555 t2 e3, g3, mb_mo (mb_mq b1 f2) f3, mwe_tr (mwe_wf (mwf_tr (mwf_bf f1) (mwf_mq f2))) (mwe_mo f3)⟩⟩
      
    · simp only [ax_cn, Classical.not_not] at c18
      have hf := hrf_n (T := T) (n := m + 1) (k := 4) (sp := sp) (lo := lo) (l := l) (fun q => c18 ((nI_leI (by omega) (by decide)).mpr q.1))
      refine wx_icst (v := nI 3) j115_21 (by decide) ?_
      refine wx_ri j115_22 rfl rfl ?_
      exact ⟨fun _ => ⟨rfl, rfl⟩, fun q => absurd (hf.symm.trans q) (by decide)⟩
  · simp only [ax_cn, Classical.not_not] at c6
    exact absurd c6 (nI_ne0 (by omega) (by omega))
end M9
