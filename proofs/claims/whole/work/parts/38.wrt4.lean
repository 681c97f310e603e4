/-! WRITING an event; beginning; the class's plain calls. -/
/-- the names of a writer's tables: each has its space and its local part in the tables, by the space's first place, and there are no others -/
def NI (T : TT) : Prop := TB T ∧ T45 T ∧ (∀ k, (T 0 0).length ≤ k → T 1 k = []) ∧ (∀ i, i < (T 4 0).length → ∃ p, fi (T 0 0) ((T 4 0).getD i 0) = some p ∧ (T 5 0).getD i 0 ∈ T 1 p) ∧ (∀ sp p lo, fi (T 0 0) sp = some p → lo ∈ T 1 p → fn T sp lo ≠ none) ∧ (∀ k, (T 4 0).length ≤ k → T 2 k = [] ∧ T 6 k = [] ∧ T 7 k = [])
theorem rm3_of {T : TT} {sp lo : Nat} (h : NI T) (hr : rfn T sp lo = true) : rm3 T sp lo := by
  obtain ⟨hb, h45, h1, hc, hd, he⟩ := h
  cases hf : fn T sp lo with
  | some i =>
    obtain ⟨f1, f2, f3⟩ := fn_spec hf
    obtain ⟨p, hp, hm⟩ := hc i f1
    rw [f2] at hp
    rw [f3] at hm
    refine ⟨fun q => (by rw [hp] at q; cases q), fun q => ?_, fun q => (by rw [hf] at q; cases q)⟩
    have e : sSp T sp = (pb (wd ((T 0 0).length + 1)) (p + 1), T, p) := by unfold sSp; rw [hp]
    rw [e] at q
    exact absurd hm (fi_none.mp q)
  | none =>
    obtain ⟨r1, r2, r3⟩ := rfn_room hr hf
    refine ⟨r2, fun _ => ?_, fun _ => r1⟩
    unfold sSp
    cases hq : fi (T 0 0) sp with
    | some p => exact r3 p hq
    | none =>
      show (tst T 0 0 (T 0 0 ++ [sp]) 1 (T 0 0).length).length < 10
      rw [tst_ne (Or.inl (by decide)), h1 _ (Nat.le_refl _)]
      decide
/-- what the writer's calls may change -/
def we (d d1 : ax_D) : Prop := ∀ id, 256 ≤ id → id ≠ 515 → id ≠ 516 → id ≠ 521 → id ≠ 523 → id ≠ 525 → d1 id = d id
theorem we_wf {d d1 : ax_D} (h : wf d d1) : we d d1 := fun id a b c _ _ _ => h id a b c
theorem we_gr {d d1 : ax_D} (h : gr_fr d d1 0) : we d d1 := fun id _ _ _ a b c => h id a b c
theorem we_rf (d : ax_D) : we d d := fun _ _ _ _ _ _ _ => rfl
theorem we_tr {d d1 d2 : ax_D} (h : we d d1) (h2 : we d1 d2) : we d d2 := fun id a b c e f g => (h2 id a b c e f g).trans (h id a b c e f g)
def hrf (T : TT) (n : Nat) (l : List Nat) (k sp lo : Nat) : Bool := decide (l.length ≤ 3800) && (!(decide (k = 1) && decide (n = 8)) && (!(decide (k = 1 ∨ k = 2)) || rfn T sp lo))
section W4
variable {d : ax_D} {l : List Nat} {T : TT} {m n : Nat} {nm : Nat → Nat} {fl : Nat → Bool} {b : Bool} {sp lo v : Nat}
theorem tb_gr {d1 : ax_D} (h : tb_is d 0 T) (hf : gr_fr d d1 0) : tb_is d1 0 T := tb_same h (fun id hi => hf id (by omega) (by omega) (by omega)) (by decide)
theorem bt_gr {d1 : ax_D} (h : bt_is d 515 l) (hf : gr_fr d d1 0) : bt_is d1 515 l := bt_keep h (hf 515 (by decide) (by decide) (by decide)) (hf 516 (by decide) (by decide) (by decide))
theorem sp_hrf {k : Nat} (ht : tb_is d 0 T) (hg : gr_is d 0 n nm fl b) (h : bt_is d 515 l) (hb : TB T) (h45 : T45 T) (hsp : sp < tB) (hlo : lo < tB) (hk : k < 2 ^ 31) : ax_E 61 [.ref 513, .int (nI k), .int (nI sp), .int (nI lo)] d (ax_Pi fun y d1 => y = bB (hrf T n l k sp lo) ∧ d1 = d) := by
  show ax_W 61 0 [some (.ref 513), some (.int (nI k)), some (.int (nI sp)), some (.int (nI lo))] [] d _
  refine wx_aldn j61_0 rfl ?_
  refine wx_get (v := .ref _) j61_1 rfl (Nat.le_of_ble_eq_true rfl) rfl ?_
  refine wx_get (v := .int _) j61_4 rfl (Nat.le_of_ble_eq_true rfl) rfl ?_
  rw [h.2.1]
  refine wx_spsh (v := nI 3800) j61_7 (by decide) ?_
  refine wx_cmp 28 j61_10 (by decide) (fun c10 => ?_) (fun c10 => ?_)
  · simp only [ax_cn, Classical.not_not] at c10
    have e1 : ¬ l.length ≤ 3800 := fun q => absurd c10 (nI_nlt q (Nat.lt_of_le_of_lt (Nat.le_refl _) (by decide)))
    refine wx_icst (v := nI 0) j61_28 (by decide) ?_
    refine wx_ri j61_29 rfl rfl ?_
    exact ⟨by unfold hrf; rw [decide_eq_false e1]; rfl, rfl⟩
  · simp only [ax_cn, Classical.not_not] at c10
    have e1 : l.length ≤ 3800 := Nat.not_lt.mp (fun q => c10 (nI_lt q (Nat.lt_of_le_of_lt h.1 (by decide))))
    refine wx_ildn j61_13 rfl ?_
    refine wx_icst (v := nI 1) j61_14 (by decide) ?_
    refine wx_cmp 30 j61_15 (by decide) (fun c15 => ?_) (fun c15 => ?_)
    · simp only [ax_cn, Classical.not_not] at c15
      have e2 : ¬ k = 1 := fun q => c15 (by rw [q])
      refine wx_ildn j61_30 rfl ?_
      refine wx_t1 j61_31 rfl rfl (Nat.le_of_ble_eq_true rfl) (sp_isNamed hk) ?_
      rintro _ d9 ⟨rfl, h9⟩
      obtain rfl := h9.symm
      refine wx_if 49 j61_34 (by decide) (fun c34 => ?_) (fun c34 => ?_)
      · simp only [ax_cn, Classical.not_not] at c34
        have e4 := of_decide_eq_false (bB_0.mp c34)
        refine wx_icst (v := nI 1) j61_49 (by decide) ?_
        refine wx_goto 54 j61_50 (by decide) ?_
        refine wx_ri j61_54 rfl rfl ?_
        exact ⟨by unfold hrf; rw [decide_eq_true e1, decide_eq_false e2, decide_eq_false e4]; rfl, rfl⟩
      · simp only [ax_cn, Classical.not_not] at c34
        have e4 := of_decide_eq_true (bB_1.mp c34)
        refine wx_aldn j61_37 rfl ?_
        refine wx_get (v := .ref _) j61_38 rfl (Nat.le_of_ble_eq_true rfl) rfl ?_
        refine wx_ildn j61_41 rfl ?_
        refine wx_ildn j61_42 rfl ?_
        refine wx_i2 j61_43 rfl rfl rfl (Nat.le_of_ble_eq_true rfl) rfl (sp_rfn (s := 0) (by decide) ht hb h45 hsp hlo) ?_
        rintro _ d9 ⟨rfl, h9⟩
        obtain rfl := h9.symm
        refine wx_if 53 j61_46 (by decide) (fun c46 => ?_) (fun c46 => ?_)
        · simp only [ax_cn, Classical.not_not] at c46
          have e5 := bB_0.mp c46
          refine wx_icst (v := nI 0) j61_53 (by decide) ?_
          refine wx_ri j61_54 rfl rfl ?_
          exact ⟨by unfold hrf; rw [decide_eq_true e1, decide_eq_false e2, decide_eq_true e4, e5]; rfl, rfl⟩
        · simp only [ax_cn, Classical.not_not] at c46
          have e5 := bB_1.mp c46
          refine wx_icst (v := nI 1) j61_49 (by decide) ?_
          refine wx_goto 54 j61_50 (by decide) ?_
          refine wx_ri j61_54 rfl rfl ?_
          exact ⟨by unfold hrf; rw [decide_eq_true e1, decide_eq_false e2, decide_eq_true e4, e5]; rfl, rfl⟩
    · simp only [ax_cn, Classical.not_not] at c15
      have e2 : k = 1 := (nI_eq hk (by decide)).mp c15
      refine wx_aldn j61_18 rfl ?_
      refine wx_get (v := .ref _) j61_19 rfl (Nat.le_of_ble_eq_true rfl) rfl ?_
      refine wx_i0 j61_22 rfl  (Nat.le_of_ble_eq_true rfl) rfl (sp_isDeepest (s := 0) (by decide) hg) ?_
      rintro _ d9 ⟨rfl, h9⟩
      obtain rfl := h9.symm
      refine wx_if 30 j61_25 (by decide) (fun c25 => ?_) (fun c25 => ?_)
      · simp only [ax_cn, Classical.not_not] at c25
        have e3 := of_decide_eq_false (bB_0.mp c25)
        refine wx_ildn j61_30 rfl ?_
        refine wx_t1 j61_31 rfl rfl (Nat.le_of_ble_eq_true rfl) (sp_isNamed hk) ?_
        rintro _ d9 ⟨rfl, h9⟩
        obtain rfl := h9.symm
        refine wx_if 49 j61_34 (by decide) (fun c34 => ?_) (fun c34 => ?_)
        · simp only [ax_cn, Classical.not_not] at c34
          have e4 := of_decide_eq_false (bB_0.mp c34)
          refine wx_icst (v := nI 1) j61_49 (by decide) ?_
          refine wx_goto 54 j61_50 (by decide) ?_
          refine wx_ri j61_54 rfl rfl ?_
          exact absurd (Or.inl e2) e4
        · simp only [ax_cn, Classical.not_not] at c34
          have e4 := of_decide_eq_true (bB_1.mp c34)
          refine wx_aldn j61_37 rfl ?_
          refine wx_get (v := .ref _) j61_38 rfl (Nat.le_of_ble_eq_true rfl) rfl ?_
          refine wx_ildn j61_41 rfl ?_
          refine wx_ildn j61_42 rfl ?_
          refine wx_i2 j61_43 rfl rfl rfl (Nat.le_of_ble_eq_true rfl) rfl (sp_rfn (s := 0) (by decide) ht hb h45 hsp hlo) ?_
          rintro _ d9 ⟨rfl, h9⟩
          obtain rfl := h9.symm
          refine wx_if 53 j61_46 (by decide) (fun c46 => ?_) (fun c46 => ?_)
          · simp only [ax_cn, Classical.not_not] at c46
            have e5 := bB_0.mp c46
            refine wx_icst (v := nI 0) j61_53 (by decide) ?_
            refine wx_ri j61_54 rfl rfl ?_
            exact ⟨by unfold hrf; rw [decide_eq_true e1, decide_eq_false e3, decide_eq_true e4, e5, Bool.and_false]; rfl, rfl⟩
          · simp only [ax_cn, Classical.not_not] at c46
            have e5 := bB_1.mp c46
            refine wx_icst (v := nI 1) j61_49 (by decide) ?_
            refine wx_goto 54 j61_50 (by decide) ?_
            refine wx_ri j61_54 rfl rfl ?_
            exact ⟨by unfold hrf; rw [decide_eq_true e1, decide_eq_false e3, decide_eq_true e4, e5, Bool.and_false]; rfl, rfl⟩
      · simp only [ax_cn, Classical.not_not] at c25
        have e3 := of_decide_eq_true (bB_1.mp c25)
        refine wx_icst (v := nI 0) j61_28 (by decide) ?_
        refine wx_ri j61_29 rfl rfl ?_
        exact ⟨by unfold hrf; rw [decide_eq_true e1, decide_eq_true e2, decide_eq_true e3]; rfl, rfl⟩
theorem hrf_of {k : Nat} (h : hrf T n l k sp lo = true) : l.length ≤ 3800 ∧ (k = 1 → ¬ n = 8) ∧ (k = 1 ∨ k = 2 → rfn T sp lo = true) := by
  unfold hrf at h
  simp only [Bool.and_eq_true, decide_eq_true_eq, Bool.not_eq_true', Bool.and_eq_false_iff, decide_eq_false_iff_not, Bool.or_eq_true] at h
  refine ⟨h.1, fun q1 q2 => ?_, fun q => ?_⟩
  · rcases h.2.1 with a | a
    · exact a q1
    · exact a q2
  · rcases h.2.2 with a | a
    · exact absurd q a
    · exact a
theorem sNd_20 {f : Bool} {k kind : Nat} (h : (T 4 0).length ≤ 20) (hr : rm3 T sp lo) : (sNd T f k kind sp lo).2.2 < 20 := by
  have h1 := sNa_20 h hr
  unfold sNd
  cases hf : fn T sp lo with
  | some i =>
    have := (fn_spec hf).1
    simp only
    cases fi (T (kj f) k) (i * 8 + kind) with
    | some p => simp only; omega
    | none => exact h1
  | none => exact h1
theorem sNw_TB {f : Bool} {k kind : Nat} (h : TB T) (h4 : (T 4 0).length ≤ 20) (hr : rm3 T sp lo) (hs : sp < tB) (hl : lo < tB) (hk : kind < 8) : TB (sNw T f k kind sp lo).2.1 := by
  have h1 := sNa_20 h4 hr
  exact tln_TB (sNa_TB h hs hl) (Nat.lt_trans (show (sNa T sp lo).2.2 * 8 + kind < 1000 by omega) (by decide))
theorem sNd_TB {f : Bool} {k kind : Nat} (h : TB T) (h4 : (T 4 0).length ≤ 20) (hr : rm3 T sp lo) (hs : sp < tB) (hl : lo < tB) (hk : kind < 8) : TB (sNd T f k kind sp lo).2.1 := by
  have h1 := sNw_TB (f := f) (k := k) h h4 hr hs hl hk
  unfold sNd
  cases hf : fn T sp lo with
  | some i =>
    simp only
    cases fi (T (kj f) k) (i * 8 + kind) with
    | some p => exact h
    | none => exact h1
  | none => exact h1
theorem sNl_TB {f : Bool} {k kind : Nat} (h : TB T) (hk : kind < 8) : TB (sNl T f k kind).2 := by
  unfold sNl
  split
  · exact h
  · exact tln_TB h (Nat.lt_trans hk (by decide))
theorem sp_we1a {fl : Nat → Bool} {nm : Nat → Nat} (hbf : b = false) (ht : tb_is d 0 T) (hg : gr_is d 0 (0) nm fl b) (h : bt_is d 515 l) (hi : NI T) (hsp : sp < tB) (hlo : lo < tB) (hv : v < tB) : ax_E 60 [.ref 513, .int (nI 1), .int (nI sp), .int (nI lo), .int (nI v)] d (ax_Pi fun y d1 => (hrf T (0) l 1 sp lo = false → y = nI 0 ∧ d1 = d) ∧ (hrf T (0) l 1 sp lo = true → y = nI 1 ∧ tb_is d1 0 ((sNa T sp lo).2.1) ∧ gr_is d1 0 1 (va_up nm 0 (sNa T sp lo).2.2) (va_up fl 0 false) true ∧ bt_is d1 515 (l ++ (sNa T sp lo).1) ∧ we d d1)) := by
  show ax_W 60 0 [some (.ref 513), some (.int (nI 1)), some (.int (nI sp)), some (.int (nI lo)), some (.int (nI v))] [] d _
  refine wx_aldn j60_0 rfl ?_
  refine wx_ildn j60_1 rfl ?_
  refine wx_ildn j60_2 rfl ?_
  refine wx_ildn j60_3 rfl ?_
  refine wx_i3 j60_4 rfl rfl rfl rfl (Nat.le_of_ble_eq_true rfl) rfl (sp_hrf ht hg h hi.1 hi.2.1 hsp hlo (by decide)) ?_
  rintro _ d9 ⟨rfl, h9⟩
  obtain rfl := h9.symm
  refine wx_if 12 j60_7 (by decide) (fun c7 => ?_) (fun c7 => ?_)
  · simp only [ax_cn, Classical.not_not] at c7
    have hr := bB_1.mp c7
    obtain ⟨hl, hn8, hrn⟩ := hrf_of hr
    refine wx_ildn j60_12 rfl ?_
    refine wx_tsw j60_13 (fun q => absurd q (by decide)) (fun _ => ⟨27, 40, by decide, by decide, ?_⟩)
    refine wx_aldn j60_40 rfl ?_
    refine wx_get (v := .ref _) j60_41 rfl (Nat.le_of_ble_eq_true rfl) rfl ?_
    refine wx_aldn j60_44 rfl ?_
    refine wx_get (v := .ref _) j60_45 rfl (Nat.le_of_ble_eq_true rfl) rfl ?_
    refine wx_i0 j60_48 rfl  (Nat.le_of_ble_eq_true rfl) rfl (sp_hasBegun (s := 0) (by decide) hg) ?_
    rintro _ d9 ⟨rfl, h9⟩
    obtain rfl := h9.symm
    refine wx_if 64 j60_51 (by decide) (fun c51 => ?_) (fun c51 => ?_)
    · simp only [ax_cn, Classical.not_not] at c51
      refine wx_aldn j60_64 rfl ?_
      refine wx_ildn j60_65 rfl ?_
      refine wx_ildn j60_66 rfl ?_
      refine wx_i2 j60_67 rfl rfl rfl (Nat.le_of_ble_eq_true rfl) rfl (sp_tName ht h hi.1 hi.2.1 hsp hlo (rm3_of hi (hrn (Or.inl rfl))) (by omega)) ?_
      rintro _ d1 ⟨rfl, ht1, h1, hf1⟩
      have hg1 := gr_wf hg hf1
      have h20 := sNa_20 (tb_l20 ht (j := 4) (k := 0) (by decide) (by decide)) (rm3_of hi (hrn (Or.inl rfl)))
      refine wx_v1 j60_70 rfl rfl (Nat.le_of_ble_eq_true rfl) rfl (sp_enter (s := 0) (by decide) hg1 (by decide) h20) ?_
      rintro d2 ⟨hg2, hf2⟩
      refine wx_goto 131 j60_73 (by decide) ?_
      refine wx_icst (v := nI 1) j60_131 (by decide) ?_
      refine wx_ri j60_132 rfl rfl ?_
      rw [hr]
      refine ⟨fun q => (by cases q), fun _ => ⟨rfl, tb_gr ht1 hf2, hg2, bt_gr h1 hf2, we_tr (we_wf hf1) (we_gr hf2)⟩⟩
    · simp only [ax_cn, Classical.not_not] at c51
      exact absurd (show bB b = 0 by rw [hbf]; rfl) c51
  · simp only [ax_cn, Classical.not_not] at c7
    have hr := bB_0.mp c7
    refine wx_icst (v := nI 0) j60_10 (by decide) ?_
    refine wx_ri j60_11 rfl rfl ?_
    rw [hr]
    exact ⟨fun _ => ⟨rfl, rfl⟩, fun q => by cases q⟩
theorem sp_we1b (hbf : b = true) (ht : tb_is d 0 T) (hg : gr_is d 0 (m + 1) nm fl b) (h : bt_is d 515 l) (hi : NI T) (hsp : sp < tB) (hlo : lo < tB) (hv : v < tB) : ax_E 60 [.ref 513, .int (nI 1), .int (nI sp), .int (nI lo), .int (nI v)] d (ax_Pi fun y d1 => (hrf T (m + 1) l 1 sp lo = false → y = nI 0 ∧ d1 = d) ∧ (hrf T (m + 1) l 1 sp lo = true → y = nI 1 ∧ tb_is d1 0 ((sNd T (fl m) (nm m) 1 sp lo).2.1) ∧ gr_is d1 0 (m + 1 + 1) (va_up nm (m + 1) (sNd T (fl m) (nm m) 1 sp lo).2.2) (va_up (va_up fl m true) (m + 1) false) true ∧ bt_is d1 515 (l ++ (sNd T (fl m) (nm m) 1 sp lo).1) ∧ we d d1)) := by
  show ax_W 60 0 [some (.ref 513), some (.int (nI 1)), some (.int (nI sp)), some (.int (nI lo)), some (.int (nI v))] [] d _
  refine wx_aldn j60_0 rfl ?_
  refine wx_ildn j60_1 rfl ?_
  refine wx_ildn j60_2 rfl ?_
  refine wx_ildn j60_3 rfl ?_
  refine wx_i3 j60_4 rfl rfl rfl rfl (Nat.le_of_ble_eq_true rfl) rfl (sp_hrf ht hg h hi.1 hi.2.1 hsp hlo (by decide)) ?_
  rintro _ d9 ⟨rfl, h9⟩
  obtain rfl := h9.symm
  refine wx_if 12 j60_7 (by decide) (fun c7 => ?_) (fun c7 => ?_)
  · simp only [ax_cn, Classical.not_not] at c7
    have hr := bB_1.mp c7
    obtain ⟨hl, hn8, hrn⟩ := hrf_of hr
    refine wx_ildn j60_12 rfl ?_
    refine wx_tsw j60_13 (fun q => absurd q (by decide)) (fun _ => ⟨27, 40, by decide, by decide, ?_⟩)
    refine wx_aldn j60_40 rfl ?_
    refine wx_get (v := .ref _) j60_41 rfl (Nat.le_of_ble_eq_true rfl) rfl ?_
    refine wx_aldn j60_44 rfl ?_
    refine wx_get (v := .ref _) j60_45 rfl (Nat.le_of_ble_eq_true rfl) rfl ?_
    refine wx_i0 j60_48 rfl  (Nat.le_of_ble_eq_true rfl) rfl (sp_hasBegun (s := 0) (by decide) hg) ?_
    rintro _ d9 ⟨rfl, h9⟩
    obtain rfl := h9.symm
    refine wx_if 64 j60_51 (by decide) (fun c51 => ?_) (fun c51 => ?_)
    · simp only [ax_cn, Classical.not_not] at c51
      exact absurd c51 (by rw [hbf]; decide)
    · simp only [ax_cn, Classical.not_not] at c51
      refine wx_aldn j60_54 rfl ?_
      refine wx_icst (v := nI 1) j60_55 (by decide) ?_
      refine wx_ildn j60_56 rfl ?_
      refine wx_ildn j60_57 rfl ?_
      refine wx_i3 j60_58 rfl rfl rfl rfl (Nat.le_of_ble_eq_true rfl) rfl (sp_tNamed (k := 1) hg ht h hi.1 hi.2.1 hsp hlo (rm3_of hi (hrn (Or.inl rfl))) (Or.inl rfl) (by omega)) ?_
      rintro _ d1 ⟨rfl, ht1, h1, hf1⟩
      have hg1 := gr_wf hg hf1
      have h20 := sNd_20 (f := fl m) (k := nm m) (kind := 1) (tb_l20 ht (j := 4) (k := 0) (by decide) (by decide)) (rm3_of hi (hrn (Or.inl rfl)))
      refine wx_goto 70 j60_61 (by decide) ?_
      refine wx_v1 j60_70 rfl rfl (Nat.le_of_ble_eq_true rfl) rfl (sp_enter (s := 0) (by decide) hg1 (by have := hg.1; have := hn8 rfl; omega) h20) ?_
      rintro d2 ⟨hg2, hf2⟩
      refine wx_goto 131 j60_73 (by decide) ?_
      refine wx_icst (v := nI 1) j60_131 (by decide) ?_
      refine wx_ri j60_132 rfl rfl ?_
      rw [hr]
      refine ⟨fun q => (by cases q), fun _ => ⟨rfl, tb_gr ht1 hf2, hg2, bt_gr h1 hf2, we_tr (we_wf hf1) (we_gr hf2)⟩⟩
  · simp only [ax_cn, Classical.not_not] at c7
    have hr := bB_0.mp c7
    refine wx_icst (v := nI 0) j60_10 (by decide) ?_
    refine wx_ri j60_11 rfl rfl ?_
    rw [hr]
    exact ⟨fun _ => ⟨rfl, rfl⟩, fun q => by cases q⟩
theorem sp_we2 (ht : tb_is d 0 T) (hg : gr_is d 0 (m + 1) nm fl b) (h : bt_is d 515 l) (hi : NI T) (hsp : sp < tB) (hlo : lo < tB) (hv : v < tB) : ax_E 60 [.ref 513, .int (nI 2), .int (nI sp), .int (nI lo), .int (nI v)] d (ax_Pi fun y d1 => (hrf T (m + 1) l 2 sp lo = false → y = nI 0 ∧ d1 = d) ∧ (hrf T (m + 1) l 2 sp lo = true → y = nI 1 ∧ tb_is d1 0 ((sVa (sNd T (fl m) (nm m) 2 sp lo).2.1 (sNd T (fl m) (nm m) 2 sp lo).2.2 v).2) ∧ gr_is d1 0 (m + 1) nm fl b ∧ bt_is d1 515 (l ++ ((sNd T (fl m) (nm m) 2 sp lo).1 ++ (sVa (sNd T (fl m) (nm m) 2 sp lo).2.1 (sNd T (fl m) (nm m) 2 sp lo).2.2 v).1)) ∧ we d d1)) := by
  show ax_W 60 0 [some (.ref 513), some (.int (nI 2)), some (.int (nI sp)), some (.int (nI lo)), some (.int (nI v))] [] d _
  refine wx_aldn j60_0 rfl ?_
  refine wx_ildn j60_1 rfl ?_
  refine wx_ildn j60_2 rfl ?_
  refine wx_ildn j60_3 rfl ?_
  refine wx_i3 j60_4 rfl rfl rfl rfl (Nat.le_of_ble_eq_true rfl) rfl (sp_hrf ht hg h hi.1 hi.2.1 hsp hlo (by decide)) ?_
  rintro _ d9 ⟨rfl, h9⟩
  obtain rfl := h9.symm
  refine wx_if 12 j60_7 (by decide) (fun c7 => ?_) (fun c7 => ?_)
  · simp only [ax_cn, Classical.not_not] at c7
    have hr := bB_1.mp c7
    obtain ⟨hl, hn8, hrn⟩ := hrf_of hr
    refine wx_ildn j60_12 rfl ?_
    refine wx_tsw j60_13 (fun q => absurd q (by decide)) (fun _ => ⟨63, 76, by decide, by decide, ?_⟩)
    refine wx_aldn j60_76 rfl ?_
    refine wx_aldn j60_77 rfl ?_
    refine wx_icst (v := nI 2) j60_78 (by decide) ?_
    refine wx_ildn j60_79 rfl ?_
    refine wx_ildn j60_80 rfl ?_
    refine wx_i3 j60_81 rfl rfl rfl rfl (Nat.le_of_ble_eq_true rfl) rfl (sp_tNamed (k := 2) hg ht h hi.1 hi.2.1 hsp hlo (rm3_of hi (hrn (Or.inr rfl))) (Or.inr rfl) (by omega)) ?_
    rintro _ d1 ⟨rfl, ht1, h1, hf1⟩
    have hg1 := gr_wf hg hf1
    have h420 := tb_l20 ht (j := 4) (k := 0) (by decide) (by decide)
    have h20 := sNd_20 (f := fl m) (k := nm m) (kind := 2) h420 (rm3_of hi (hrn (Or.inr rfl)))
    have hl1 := sNd_len T (fl m) (nm m) 2 sp lo
    refine wx_ild j60_84 rfl ?_
    refine wx_v2 j60_86 rfl rfl rfl (Nat.le_of_ble_eq_true rfl) rfl (sp_tValue ht1 h1 (sNd_TB hi.1 h420 (rm3_of hi (hrn (Or.inr rfl))) hsp hlo (by decide)) h20 hv (by rw [List.length_append]; omega)) ?_
    rintro d2 ⟨ht2, h2, hf2⟩
    rw [List.append_assoc] at h2
    refine wx_goto 131 j60_89 (by decide) ?_
    refine wx_icst (v := nI 1) j60_131 (by decide) ?_
    refine wx_ri j60_132 rfl rfl ?_
    rw [hr]
    refine ⟨fun q => (by cases q), fun _ => ⟨rfl, ht2, gr_wf hg1 hf2, h2, we_tr (we_wf hf1) (we_wf hf2)⟩⟩
  · simp only [ax_cn, Classical.not_not] at c7
    have hr := bB_0.mp c7
    refine wx_icst (v := nI 0) j60_10 (by decide) ?_
    refine wx_ri j60_11 rfl rfl ?_
    rw [hr]
    exact ⟨fun _ => ⟨rfl, rfl⟩, fun q => by cases q⟩
theorem sp_we3 (ht : tb_is d 0 T) (hg : gr_is d 0 (m + 1) nm fl b) (h : bt_is d 515 l) (hi : NI T) (hsp : sp < tB) (hlo : lo < tB) (hv : v < tB) : ax_E 60 [.ref 513, .int (nI 3), .int (nI sp), .int (nI lo), .int (nI v)] d (ax_Pi fun y d1 => (hrf T (m + 1) l 3 sp lo = false → y = nI 0 ∧ d1 = d) ∧ (hrf T (m + 1) l 3 sp lo = true → y = nI 1 ∧ tb_is d1 0 ((sVa (sNl T (fl m) (nm m) 3).2 (nm m) v).2) ∧ gr_is d1 0 (m + 1) nm (va_up fl m true) b ∧ bt_is d1 515 (l ++ ((sNl T (fl m) (nm m) 3).1 ++ (sVa (sNl T (fl m) (nm m) 3).2 (nm m) v).1)) ∧ we d d1)) := by
  show ax_W 60 0 [some (.ref 513), some (.int (nI 3)), some (.int (nI sp)), some (.int (nI lo)), some (.int (nI v))] [] d _
  refine wx_aldn j60_0 rfl ?_
  refine wx_ildn j60_1 rfl ?_
  refine wx_ildn j60_2 rfl ?_
  refine wx_ildn j60_3 rfl ?_
  refine wx_i3 j60_4 rfl rfl rfl rfl (Nat.le_of_ble_eq_true rfl) rfl (sp_hrf ht hg h hi.1 hi.2.1 hsp hlo (by decide)) ?_
  rintro _ d9 ⟨rfl, h9⟩
  obtain rfl := h9.symm
  refine wx_if 12 j60_7 (by decide) (fun c7 => ?_) (fun c7 => ?_)
  · simp only [ax_cn, Classical.not_not] at c7
    have hr := bB_1.mp c7
    obtain ⟨hl, hn8, hrn⟩ := hrf_of hr
    refine wx_ildn j60_12 rfl ?_
    refine wx_tsw j60_13 (fun q => absurd q (by decide)) (fun _ => ⟨79, 92, by decide, by decide, ?_⟩)
    refine wx_aldn j60_92 rfl ?_
    refine wx_icst (v := nI 3) j60_93 (by decide) ?_
    refine wx_v1 j60_94 rfl rfl (Nat.le_of_ble_eq_true rfl) rfl (sp_tNameless (k := 3) hg ht h hi.1 (Or.inl rfl) (by omega)) ?_
    rintro d1 ⟨ht1, h1, hf1⟩
    have hg1 := gr_wf hg hf1
    have hl1 := sNl_len T (fl m) (nm m) 3
    refine wx_aldn j60_97 rfl ?_
    refine wx_get (v := .ref _) j60_98 rfl (Nat.le_of_ble_eq_true rfl) rfl ?_
    refine wx_v0 j60_101 rfl  (Nat.le_of_ble_eq_true rfl) rfl (sp_fill (s := 0) (by decide) hg1) ?_
    rintro d2 ⟨hg2, hf2⟩
    refine wx_aldn j60_104 rfl ?_
    refine wx_aldn j60_105 rfl ?_
    refine wx_get (v := .ref _) j60_106 rfl (Nat.le_of_ble_eq_true rfl) rfl ?_
    refine wx_i0 j60_109 rfl  (Nat.le_of_ble_eq_true rfl) rfl (sp_name (s := 0) (by decide) hg2) ?_
    rintro _ d9 ⟨rfl, h9⟩
    obtain rfl := h9.symm
    refine wx_ild j60_112 rfl ?_
    refine wx_v2 j60_114 rfl rfl rfl (Nat.le_of_ble_eq_true rfl) rfl (sp_tValue (tb_gr ht1 hf2) (bt_gr h1 hf2) (sNl_TB hi.1 (by decide)) (hg.2.2.2 m (Nat.lt_succ_self m)).2.1 hv (by rw [List.length_append]; omega)) ?_
    rintro d3 ⟨ht3, h3, hf3⟩
    rw [List.append_assoc] at h3
    refine wx_goto 131 j60_117 (by decide) ?_
    refine wx_icst (v := nI 1) j60_131 (by decide) ?_
    refine wx_ri j60_132 rfl rfl ?_
    rw [hr]
    refine ⟨fun q => (by cases q), fun _ => ⟨rfl, ht3, gr_wf hg2 hf3, h3, we_tr (we_tr (we_wf hf1) (we_gr hf2)) (we_wf hf3)⟩⟩
  · simp only [ax_cn, Classical.not_not] at c7
    have hr := bB_0.mp c7
    refine wx_icst (v := nI 0) j60_10 (by decide) ?_
    refine wx_ri j60_11 rfl rfl ?_
    rw [hr]
    exact ⟨fun _ => ⟨rfl, rfl⟩, fun q => by cases q⟩
theorem sp_we4 (ht : tb_is d 0 T) (hg : gr_is d 0 (m + 1) nm fl b) (h : bt_is d 515 l) (hi : NI T) (hsp : sp < tB) (hlo : lo < tB) (hv : v < tB) : ax_E 60 [.ref 513, .int (nI 4), .int (nI sp), .int (nI lo), .int (nI v)] d (ax_Pi fun y d1 => (hrf T (m + 1) l 4 sp lo = false → y = nI 0 ∧ d1 = d) ∧ (hrf T (m + 1) l 4 sp lo = true → y = nI 1 ∧ tb_is d1 0 ((sCl T (fl m) (nm m)).2) ∧ gr_is d1 0 m nm fl b ∧ bt_is d1 515 (l ++ (sCl T (fl m) (nm m)).1) ∧ we d d1)) := by
  show ax_W 60 0 [some (.ref 513), some (.int (nI 4)), some (.int (nI sp)), some (.int (nI lo)), some (.int (nI v))] [] d _
  refine wx_aldn j60_0 rfl ?_
  refine wx_ildn j60_1 rfl ?_
  refine wx_ildn j60_2 rfl ?_
  refine wx_ildn j60_3 rfl ?_
  refine wx_i3 j60_4 rfl rfl rfl rfl (Nat.le_of_ble_eq_true rfl) rfl (sp_hrf ht hg h hi.1 hi.2.1 hsp hlo (by decide)) ?_
  rintro _ d9 ⟨rfl, h9⟩
  obtain rfl := h9.symm
  refine wx_if 12 j60_7 (by decide) (fun c7 => ?_) (fun c7 => ?_)
  · simp only [ax_cn, Classical.not_not] at c7
    have hr := bB_1.mp c7
    obtain ⟨hl, hn8, hrn⟩ := hrf_of hr
    refine wx_ildn j60_12 rfl ?_
    refine wx_tsw j60_13 (fun _ => ⟨120, by decide, ?_⟩) (fun q => absurd (by decide) q)
    refine wx_aldn j60_120 rfl ?_
    refine wx_v0 j60_121 rfl  (Nat.le_of_ble_eq_true rfl) rfl (sp_tClose hg ht h hi.1 (by omega)) ?_
    rintro d1 ⟨ht1, h1, hf1⟩
    have hg1 := gr_wf hg hf1
    refine wx_aldn j60_124 rfl ?_
    refine wx_get (v := .ref _) j60_125 rfl (Nat.le_of_ble_eq_true rfl) rfl ?_
    refine wx_v0 j60_128 rfl  (Nat.le_of_ble_eq_true rfl) rfl (sp_leave (s := 0) (by decide) hg1) ?_
    rintro d2 ⟨hg2, hf2⟩
    refine wx_icst (v := nI 1) j60_131 (by decide) ?_
    refine wx_ri j60_132 rfl rfl ?_
    rw [hr]
    refine ⟨fun q => (by cases q), fun _ => ⟨rfl, tb_gr ht1 hf2, hg2, bt_gr h1 hf2, we_tr (we_wf hf1) (we_gr hf2)⟩⟩
  · simp only [ax_cn, Classical.not_not] at c7
    have hr := bB_0.mp c7
    refine wx_icst (v := nI 0) j60_10 (by decide) ?_
    refine wx_ri j60_11 rfl rfl ?_
    rw [hr]
    exact ⟨fun _ => ⟨rfl, rfl⟩, fun q => by cases q⟩
end W4
