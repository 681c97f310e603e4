/-! GRAMMARS: the class's open elements and learned codes of side s: n elements are open, nm i their names, fl i whether one has text or an element already, b whether the document has begun. -/
def gr_is (d : ax_D) (s n : Nat) (nm : Nat → Nat) (fl : Nat → Bool) (b : Bool) : Prop := n ≤ 8 ∧ d (521 + s) 4 = nI n ∧ d (521 + s) 5 = bB b ∧ ∀ i, i < n → d (523 + s) i = nI (nm i) ∧ nm i < 20 ∧ d (525 + s) i = bB (fl i)
def gr_fr (d d1 : ax_D) (s : Nat) : Prop := ∀ id, id ≠ 521 + s → id ≠ 523 + s → id ≠ 525 + s → d1 id = d id
theorem gr_fr_rf (d : ax_D) (s : Nat) : gr_fr d d s := fun _ _ _ _ => rfl
theorem gr_keep {d d1 : ax_D} {s n : Nat} {nm : Nat → Nat} {fl : Nat → Bool} {b : Bool} (h : gr_is d s n nm fl b) (h1 : d1 (521 + s) = d (521 + s)) (h2 : d1 (523 + s) = d (523 + s)) (h3 : d1 (525 + s) = d (525 + s)) : gr_is d1 s n nm fl b := by
  unfold gr_is
  rw [h1, h2, h3]
  exact h
theorem sh_gr {s : Nat} (h : s < 2) : ax_sh (521 + s) = some (6, 6, ax_of [.inl (32 * (8 * s + 6)), .inl (32 * (8 * s + 7)), .inl (523 + s), .inl (525 + s), .inr none, .inr none]) := by
  match s, h with
  | 0, _ => rfl
  | 1, _ => rfl
theorem sh_gn {s : Nat} (h : s < 2) : ax_sh (523 + s) = some (0, 8, ax_dt) := by
  match s, h with
  | 0, _ => rfl
  | 1, _ => rfl
theorem sh_gf {s : Nat} (h : s < 2) : ax_sh (525 + s) = some (1, 8, ax_dt) := by
  match s, h with
  | 0, _ => rfl
  | 1, _ => rfl
/-- the innermost element is filled -/
def fll (fl : Nat → Bool) (n : Nat) : Nat → Bool := if n = 0 then fl else va_up fl (n - 1) true
/-- the innermost element's row of codes: its kind -/
def kd (fl : Nat → Bool) (m : Nat) : Nat := if fl m then 7 else 6
theorem kd_lt (fl : Nat → Bool) (m : Nat) : kd fl m < 8 := by unfold kd; split <;> decide
theorem nI_s1 (m : Nat) : nI (m + 1) - nI 1 = nI m := nI_pred m
/-- a code comes in front of the row's others, if it is not there yet and there are fewer than 12 -/
def tln (T : TT) (j k c : Nat) : TT := match fi (T j k) c with
  | some _ => T
  | none => tst T j k (if (T j k).length < 12 then c :: T j k else T j k)
section GR
variable {d : ax_D} {s n m x : Nat} {T : TT} {nm : Nat → Nat} {fl : Nat → Bool} {b : Bool}
theorem sp_openE (hs : s < 2) (h : gr_is d s n nm fl b) : ax_E 8 [.ref (521 + s)] d (ax_Pi fun y d1 => y = nI n ∧ d1 = d) := by
  show ax_W 8 0 [some (.ref (521 + s))] [] d _
  refine wx_aldn j8_0 rfl ?_
  refine wx_get (v := .int _) j8_1 (sh_gr hs) (Nat.le_of_ble_eq_true rfl) rfl ?_
  rw [h.2.1]
  refine wx_ri j8_4 rfl rfl ?_
  exact ⟨rfl, rfl⟩
theorem sp_hasBegun (hs : s < 2) (h : gr_is d s n nm fl b) : ax_E 9 [.ref (521 + s)] d (ax_Pi fun y d1 => y = bB b ∧ d1 = d) := by
  show ax_W 9 0 [some (.ref (521 + s))] [] d _
  refine wx_aldn j9_0 rfl ?_
  refine wx_get (v := .int _) j9_1 (sh_gr hs) (Nat.le_of_ble_eq_true rfl) rfl ?_
  rw [h.2.2.1]
  refine wx_ri j9_4 rfl (bB_nar b) ?_
  exact ⟨rfl, rfl⟩
theorem sp_isWhole (hs : s < 2) (h : gr_is d s n nm fl b) : ax_E 10 [.ref (521 + s)] d (ax_Pi fun y d1 => y = bB (b && decide (n = 0)) ∧ d1 = d) := by
  show ax_W 10 0 [some (.ref (521 + s))] [] d _
  refine wx_aldn j10_0 rfl ?_
  refine wx_get (v := .int _) j10_1 (sh_gr hs) (Nat.le_of_ble_eq_true rfl) rfl ?_
  rw [h.2.2.1]
  refine wx_if 18 j10_4 (by decide) (fun c4 => ?_) (fun c4 => ?_)
  · simp only [ax_cn, Classical.not_not] at c4
    have hb := bB_0.mp c4
    refine wx_icst (v := nI 0) j10_18 (by decide) ?_
    refine wx_ri j10_19 rfl rfl ?_
    exact ⟨by rw [hb]; rfl, rfl⟩
  · simp only [ax_cn, Classical.not_not] at c4
    have hb := bB_1.mp c4
    refine wx_aldn j10_7 rfl ?_
    refine wx_get (v := .int _) j10_8 (sh_gr hs) (Nat.le_of_ble_eq_true rfl) rfl ?_
    rw [h.2.1]
    refine wx_if 18 j10_11 (by decide) (fun c11 => ?_) (fun c11 => ?_)
    · simp only [ax_cn, Classical.not_not] at c11
      have hn : ¬ n = 0 := fun q => c11 (by rw [q]; rfl)
      refine wx_icst (v := nI 0) j10_18 (by decide) ?_
      refine wx_ri j10_19 rfl rfl ?_
      exact ⟨by rw [hb, decide_eq_false hn]; rfl, rfl⟩
    · simp only [ax_cn, Classical.not_not] at c11
      have hn : n = 0 := (nI_eq (Nat.lt_of_le_of_lt h.1 (by decide)) (by decide)).mp (c11.trans nI_0.symm)
      refine wx_icst (v := nI 1) j10_14 (by decide) ?_
      refine wx_goto 19 j10_15 (by decide) ?_
      refine wx_ri j10_19 rfl rfl ?_
      exact ⟨by rw [hb, decide_eq_true hn]; rfl, rfl⟩
theorem sp_isDeepest (hs : s < 2) (h : gr_is d s n nm fl b) : ax_E 11 [.ref (521 + s)] d (ax_Pi fun y d1 => y = bB (decide (n = 8)) ∧ d1 = d) := by
  show ax_W 11 0 [some (.ref (521 + s))] [] d _
  refine wx_aldn j11_0 rfl ?_
  refine wx_get (v := .int _) j11_1 (sh_gr hs) (Nat.le_of_ble_eq_true rfl) rfl ?_
  rw [h.2.1]
  refine wx_bpsh (v := nI 8) j11_4 (by decide) ?_
  refine wx_cmp 13 j11_6 (by decide) (fun c6 => ?_) (fun c6 => ?_)
  · simp only [ax_cn, Classical.not_not] at c6
    have hn : ¬ n = 8 := fun q => by rw [q] at c6; exact absurd c6 (by decide)
    refine wx_icst (v := nI 0) j11_13 (by decide) ?_
    refine wx_ri j11_14 rfl rfl ?_
    exact ⟨by rw [decide_eq_false hn]; rfl, rfl⟩
  · simp only [ax_cn, Classical.not_not] at c6
    have hn : n = 8 := Nat.le_antisymm h.1 (Nat.not_lt.mp (fun q => c6 (nI_lt q (by decide))))
    refine wx_icst (v := nI 1) j11_9 (by decide) ?_
    refine wx_goto 14 j11_10 (by decide) ?_
    refine wx_ri j11_14 rfl rfl ?_
    exact ⟨by rw [decide_eq_true hn]; rfl, rfl⟩
theorem sp_name (hs : s < 2) (h : gr_is d s (m + 1) nm fl b) : ax_E 12 [.ref (521 + s)] d (ax_Pi fun y d1 => y = nI (nm m) ∧ d1 = d) := by
  show ax_W 12 0 [some (.ref (521 + s))] [] d _
  refine wx_aldn j12_0 rfl ?_
  refine wx_get (v := .int _) j12_1 (sh_gr hs) (Nat.le_of_ble_eq_true rfl) rfl ?_
  rw [h.2.1]
  refine wx_if 33 j12_4 (by decide) (fun c4 => ?_) (fun c4 => ?_)
  · simp only [ax_cn, Classical.not_not] at c4
    exact absurd c4 (nI_nle (Nat.succ_pos m) (Nat.lt_of_le_of_lt h.1 (by decide)))
  · simp only [ax_cn, Classical.not_not] at c4
    refine wx_aldn j12_7 rfl ?_
    refine wx_get (v := .int _) j12_8 (sh_gr hs) (Nat.le_of_ble_eq_true rfl) rfl ?_
    rw [h.2.1]
    refine wx_aldn j12_11 rfl ?_
    refine wx_get (v := .ref _) j12_12 (sh_gr hs) (Nat.le_of_ble_eq_true rfl) rfl ?_
    refine wx_alen j12_15 (sh_gn hs) (Nat.le_of_ble_eq_true rfl) ?_
    refine wx_cmp 33 j12_16 (by decide) (fun c16 => ?_) (fun c16 => ?_)
    · simp only [ax_cn, Classical.not_not] at c16
      exact absurd c16 (nI_nlt h.1 (by decide))
    · simp only [ax_cn, Classical.not_not] at c16
      refine wx_aldn j12_19 rfl ?_
      refine wx_get (v := .ref _) j12_20 (sh_gr hs) (Nat.le_of_ble_eq_true rfl) rfl ?_
      refine wx_aldn j12_23 rfl ?_
      refine wx_get (v := .int _) j12_24 (sh_gr hs) (Nat.le_of_ble_eq_true rfl) rfl ?_
      rw [h.2.1]
      refine wx_icst (v := nI 1) j12_27 (by decide) ?_
      refine wx_isub j12_28 ?_
      rw [nI_s1]
      refine wx_ialx (m) j12_29 (sh_gn hs) rfl (h.1) (by decide) ?_
      refine wx_goto 34 j12_30 (by decide) ?_
      refine wx_ri j12_34 rfl rfl ?_
      exact ⟨(h.2.2.2 m (Nat.lt_succ_self m)).1, rfl⟩
theorem sp_isInTag (hs : s < 2) (h : gr_is d s n nm fl b) : ax_E 13 [.ref (521 + s)] d (ax_Pi fun y d1 => y = bB (decide (0 < n) && !fl (n - 1)) ∧ d1 = d) := by
  show ax_W 13 0 [some (.ref (521 + s))] [] d _
  refine wx_aldn j13_0 rfl ?_
  refine wx_get (v := .int _) j13_1 (sh_gr hs) (Nat.le_of_ble_eq_true rfl) rfl ?_
  rw [h.2.1]
  refine wx_if 37 j13_4 (by decide) (fun c4 => ?_) (fun c4 => ?_)
  · simp only [ax_cn, Classical.not_not] at c4
    have hn : ¬ 0 < n := fun q => nI_nle q (Nat.lt_of_le_of_lt h.1 (by decide)) c4
    refine wx_icst (v := nI 0) j13_37 (by decide) ?_
    refine wx_ri j13_38 rfl rfl ?_
    exact ⟨by rw [decide_eq_false hn]; rfl, rfl⟩
  · simp only [ax_cn, Classical.not_not] at c4
    obtain ⟨m, rfl⟩ : ∃ m, n = m + 1 := ⟨n - 1, by
      rcases Nat.eq_zero_or_pos n with q | q
      · rw [q] at c4; exact absurd (show nI 0 ≤ 0 by decide) c4
      · omega⟩
    refine wx_aldn j13_7 rfl ?_
    refine wx_get (v := .int _) j13_8 (sh_gr hs) (Nat.le_of_ble_eq_true rfl) rfl ?_
    rw [h.2.1]
    refine wx_aldn j13_11 rfl ?_
    refine wx_get (v := .ref _) j13_12 (sh_gr hs) (Nat.le_of_ble_eq_true rfl) rfl ?_
    refine wx_alen j13_15 (sh_gf hs) (Nat.le_of_ble_eq_true rfl) ?_
    refine wx_cmp 37 j13_16 (by decide) (fun c16 => ?_) (fun c16 => ?_)
    · simp only [ax_cn, Classical.not_not] at c16
      exact absurd c16 (nI_nlt h.1 (by decide))
    · simp only [ax_cn, Classical.not_not] at c16
      refine wx_aldn j13_19 rfl ?_
      refine wx_get (v := .ref _) j13_20 (sh_gr hs) (Nat.le_of_ble_eq_true rfl) rfl ?_
      refine wx_aldn j13_23 rfl ?_
      refine wx_get (v := .int _) j13_24 (sh_gr hs) (Nat.le_of_ble_eq_true rfl) rfl ?_
      rw [h.2.1]
      refine wx_icst (v := nI 1) j13_27 (by decide) ?_
      refine wx_isub j13_28 ?_
      rw [nI_s1]
      refine wx_balx (m) j13_29 (sh_gf hs) rfl (h.1) (by decide) ?_
      rw [(h.2.2.2 m (Nat.lt_succ_self m)).2.2]
      refine wx_if 37 j13_30 (by decide) (fun c30 => ?_) (fun c30 => ?_)
      · simp only [ax_cn, Classical.not_not] at c30
        have hf := bB_1.mp c30
        refine wx_icst (v := nI 0) j13_37 (by decide) ?_
        refine wx_ri j13_38 rfl rfl ?_
        exact ⟨by rw [Nat.add_sub_cancel, hf, decide_eq_true (Nat.succ_pos m)]; rfl, rfl⟩
      · simp only [ax_cn, Classical.not_not] at c30
        have hf := bB_0.mp c30
        refine wx_icst (v := nI 1) j13_33 (by decide) ?_
        refine wx_goto 38 j13_34 (by decide) ?_
        refine wx_ri j13_38 rfl rfl ?_
        exact ⟨by rw [Nat.add_sub_cancel, hf, decide_eq_true (Nat.succ_pos m)]; rfl, rfl⟩
theorem sp_fill (hs : s < 2) (h : gr_is d s n nm fl b) : ax_E 14 [.ref (521 + s)] d (ax_Pv fun d1 => gr_is d1 s n nm (fll fl n) b ∧ gr_fr d d1 s) := by
  show ax_W 14 0 [some (.ref (521 + s))] [] d _
  refine wx_aldn j14_0 rfl ?_
  refine wx_get (v := .int _) j14_1 (sh_gr hs) (Nat.le_of_ble_eq_true rfl) rfl ?_
  rw [h.2.1]
  refine wx_if 31 j14_4 (by decide) (fun c4 => ?_) (fun c4 => ?_)
  · simp only [ax_cn, Classical.not_not] at c4
    have hn : n = 0 := Nat.eq_zero_of_not_pos (fun q => nI_nle q (Nat.lt_of_le_of_lt h.1 (by decide)) c4)
    refine wx_rv j14_31 rfl ?_
    exact ⟨by unfold fll; rw [if_pos hn]; exact h, gr_fr_rf d s⟩
  · simp only [ax_cn, Classical.not_not] at c4
    obtain ⟨m, rfl⟩ : ∃ m, n = m + 1 := ⟨n - 1, by
      rcases Nat.eq_zero_or_pos n with q | q
      · rw [q] at c4; exact absurd (show nI 0 ≤ 0 by decide) c4
      · omega⟩
    refine wx_aldn j14_7 rfl ?_
    refine wx_get (v := .int _) j14_8 (sh_gr hs) (Nat.le_of_ble_eq_true rfl) rfl ?_
    rw [h.2.1]
    refine wx_aldn j14_11 rfl ?_
    refine wx_get (v := .ref _) j14_12 (sh_gr hs) (Nat.le_of_ble_eq_true rfl) rfl ?_
    refine wx_alen j14_15 (sh_gf hs) (Nat.le_of_ble_eq_true rfl) ?_
    refine wx_cmp 31 j14_16 (by decide) (fun c16 => ?_) (fun c16 => ?_)
    · simp only [ax_cn, Classical.not_not] at c16
      exact absurd c16 (nI_nlt h.1 (by decide))
    · simp only [ax_cn, Classical.not_not] at c16
      refine wx_aldn j14_19 rfl ?_
      refine wx_get (v := .ref _) j14_20 (sh_gr hs) (Nat.le_of_ble_eq_true rfl) rfl ?_
      refine wx_aldn j14_23 rfl ?_
      refine wx_get (v := .int _) j14_24 (sh_gr hs) (Nat.le_of_ble_eq_true rfl) rfl ?_
      rw [h.2.1]
      refine wx_icst (v := nI 1) j14_27 (by decide) ?_
      refine wx_isub j14_28 ?_
      rw [nI_s1]
      refine wx_icst (v := nI 1) j14_29 (by decide) ?_
      refine wx_basx (m) j14_30 (sh_gf hs) rfl (h.1) (by decide) ?_
      refine wx_rv j14_31 rfl ?_
      refine ⟨⟨h.1, ?_, ?_, fun i hi => ?_⟩, fun id h1 h2 h3 => ax_up_ne h3⟩
      · rw [up_ni (by omega)]; exact h.2.1
      · rw [up_ni (by omega)]; exact h.2.2.1
      · obtain ⟨a1, a2, a3⟩ := h.2.2.2 i hi
        rw [up_ni (by omega)]
        refine ⟨a1, a2, ?_⟩
        rw [up_ap]
        unfold fll
        rw [if_neg (Nat.succ_ne_zero m), Nat.add_sub_cancel]
        unfold va_up
        by_cases hi2 : i = m
        · rw [if_pos ⟨rfl, hi2⟩, if_pos hi2]; rfl
        · rw [if_neg (fun q => hi2 q.2), if_neg hi2]; exact a3
theorem sp_enter (hs : s < 2) (h : gr_is d s n nm fl b) (hn : n < 8) (hx : x < 20) : ax_E 15 [.ref (521 + s), .int (nI x)] d (ax_Pv fun d1 => gr_is d1 s (n + 1) (va_up nm n x) (va_up (fll fl n) n false) true ∧ gr_fr d d1 s) := by
  show ax_W 15 0 [some (.ref (521 + s)), some (.int (nI x))] [] d _
  refine wx_aldn j15_0 rfl ?_
  refine wx_v0 j15_1 rfl  (Nat.le_of_ble_eq_true rfl) (sh_gr hs) (sp_fill hs h) ?_
  rintro d1 ⟨h1, hf1⟩
  have e1 : ax_up d1 (521 + s) 5 (nI 1) (521 + s) 4 = nI n := by rw [up_nk (by decide)]; exact h1.2.1
  refine wx_aldn j15_4 rfl ?_
  refine wx_icst (v := nI 1) j15_5 (by decide) ?_
  refine wx_put j15_6 (sh_gr hs) (Nat.le_of_ble_eq_true rfl) rfl rfl rfl ?_
  refine wx_aldn j15_9 rfl ?_
  refine wx_get (v := .int _) j15_10 (sh_gr hs) (Nat.le_of_ble_eq_true rfl) rfl ?_
  rw [e1]
  refine wx_aldn j15_13 rfl ?_
  refine wx_get (v := .ref _) j15_14 (sh_gr hs) (Nat.le_of_ble_eq_true rfl) rfl ?_
  refine wx_alen j15_17 (sh_gn hs) (Nat.le_of_ble_eq_true rfl) ?_
  refine wx_cmp 63 j15_18 (by decide) (fun c18 => ?_) (fun c18 => ?_)
  · simp only [ax_cn, Classical.not_not] at c18
    exact absurd c18 (nI_ge hn (by decide))
  · simp only [ax_cn, Classical.not_not] at c18
    refine wx_aldn j15_21 rfl ?_
    refine wx_get (v := .int _) j15_22 (sh_gr hs) (Nat.le_of_ble_eq_true rfl) rfl ?_
    rw [e1]
    refine wx_aldn j15_25 rfl ?_
    refine wx_get (v := .ref _) j15_26 (sh_gr hs) (Nat.le_of_ble_eq_true rfl) rfl ?_
    refine wx_alen j15_29 (sh_gf hs) (Nat.le_of_ble_eq_true rfl) ?_
    refine wx_cmp 63 j15_30 (by decide) (fun c30 => ?_) (fun c30 => ?_)
    · simp only [ax_cn, Classical.not_not] at c30
      exact absurd c30 (nI_ge hn (by decide))
    · simp only [ax_cn, Classical.not_not] at c30
      refine wx_aldn j15_33 rfl ?_
      refine wx_get (v := .ref _) j15_34 (sh_gr hs) (Nat.le_of_ble_eq_true rfl) rfl ?_
      refine wx_aldn j15_37 rfl ?_
      refine wx_get (v := .int _) j15_38 (sh_gr hs) (Nat.le_of_ble_eq_true rfl) rfl ?_
      rw [e1]
      refine wx_ildn j15_41 rfl ?_
      refine wx_iasx (n) j15_42 (sh_gn hs) rfl (hn) (by decide) ?_
      refine wx_aldn j15_43 rfl ?_
      refine wx_get (v := .ref _) j15_44 (sh_gr hs) (Nat.le_of_ble_eq_true rfl) rfl ?_
      refine wx_aldn j15_47 rfl ?_
      refine wx_get (v := .int _) j15_48 (sh_gr hs) (Nat.le_of_ble_eq_true rfl) rfl ?_
      rw [up_ni (by omega), e1]
      refine wx_icst (v := nI 0) j15_51 (by decide) ?_
      refine wx_basx (n) j15_52 (sh_gf hs) rfl (hn) (by decide) ?_
      refine wx_aldn j15_53 rfl ?_
      refine wx_dupr j15_54 ?_
      refine wx_get (v := .int _) j15_55 (sh_gr hs) (Nat.le_of_ble_eq_true rfl) rfl ?_
      rw [up_ni (by omega), up_ni (by omega), e1]
      refine wx_icst (v := nI 1) j15_58 (by decide) ?_
      refine wx_iadd j15_59 ?_
      rw [nI_add]
      refine wx_put j15_60 (sh_gr hs) (Nat.le_of_ble_eq_true rfl) rfl rfl rfl ?_
      refine wx_rv j15_63 rfl ?_
      refine ⟨⟨hn, by rw [up_at], ?_, fun i hi => ?_⟩, fun id a1 a2 a3 => by rw [ax_up_ne a1, ax_up_ne a3, ax_up_ne a2, ax_up_ne a1]; exact hf1 id a1 a2 a3⟩
      · rw [up_nk (by decide), up_ni (by omega), up_ni (by omega), up_at]; rfl
      · by_cases hi2 : i = n
        · subst hi2
          refine ⟨?_, ?_, ?_⟩
          · rw [up_ni (by omega), up_ni (by omega), up_at]; unfold va_up; rw [if_pos rfl]
          · unfold va_up; rw [if_pos rfl]; exact hx
          · rw [up_ni (by omega), up_at]; unfold va_up; rw [if_pos rfl]; rfl
        · have a := h1.2.2.2 i (by omega)
          unfold va_up
          rw [if_neg hi2, if_neg hi2]
          exact ⟨by rw [up_ni (by omega), up_ni (by omega), up_nk hi2, up_ni (by omega)]; exact a.1, a.2.1, by rw [up_ni (by omega), up_nk hi2, up_ni (by omega), up_ni (by omega)]; exact a.2.2⟩
theorem sp_leave (hs : s < 2) (h : gr_is d s (m + 1) nm fl b) : ax_E 16 [.ref (521 + s)] d (ax_Pv fun d1 => gr_is d1 s m nm fl b ∧ gr_fr d d1 s) := by
  show ax_W 16 0 [some (.ref (521 + s))] [] d _
  refine wx_aldn j16_0 rfl ?_
  refine wx_get (v := .int _) j16_1 (sh_gr hs) (Nat.le_of_ble_eq_true rfl) rfl ?_
  rw [h.2.1]
  refine wx_if 17 j16_4 (by decide) (fun c4 => ?_) (fun c4 => ?_)
  · simp only [ax_cn, Classical.not_not] at c4
    exact absurd c4 (nI_nle (Nat.succ_pos m) (Nat.lt_of_le_of_lt h.1 (by decide)))
  · simp only [ax_cn, Classical.not_not] at c4
    refine wx_aldn j16_7 rfl ?_
    refine wx_dupr j16_8 ?_
    refine wx_get (v := .int _) j16_9 (sh_gr hs) (Nat.le_of_ble_eq_true rfl) rfl ?_
    rw [h.2.1]
    refine wx_icst (v := nI 1) j16_12 (by decide) ?_
    refine wx_isub j16_13 ?_
    rw [nI_s1]
    refine wx_put j16_14 (sh_gr hs) (Nat.le_of_ble_eq_true rfl) rfl rfl rfl ?_
    refine wx_rv j16_17 rfl ?_
    refine ⟨⟨by have := h.1; omega, by rw [up_at], by rw [up_nk (by decide)]; exact h.2.2.1, fun i hi => ?_⟩, fun id a1 a2 a3 => ax_up_ne a1⟩
    rw [up_ni (by omega), up_ni (by omega)]
    exact h.2.2.2 i (by omega)
theorem sp_learned (hs : s < 2) (h : gr_is d s (m + 1) nm fl b) (ht : tb_is d s T) : ax_E 17 [.ref (521 + s)] d (ax_Pi fun y d1 => y = nI (T (kd fl m) (nm m)).length ∧ d1 = d) := by
  show ax_W 17 0 [some (.ref (521 + s))] [] d _
  refine wx_aldn j17_0 rfl ?_
  refine wx_i0 j17_1 rfl  (Nat.le_of_ble_eq_true rfl) (sh_gr hs) (sp_isInTag hs h) ?_
  rintro _ d9 ⟨rfl, h9⟩
  obtain rfl := h9.symm
  refine wx_if 21 j17_4 (by decide) (fun c4 => ?_) (fun c4 => ?_)
  · simp only [ax_cn, Classical.not_not] at c4
    have hf : fl m = true := by
      have := bB_0.mp c4
      simpa using this
    have hkd : kd fl m = 7 := by unfold kd; rw [if_pos hf]
    refine wx_aldn j17_21 rfl ?_
    refine wx_get (v := .ref _) j17_22 (sh_gr hs) (Nat.le_of_ble_eq_true rfl) rfl ?_
    refine wx_aldn j17_25 rfl ?_
    refine wx_i0 j17_26 rfl  (Nat.le_of_ble_eq_true rfl) (sh_gr hs) (sp_name hs h) ?_
    rintro _ d9 ⟨rfl, h9⟩
    obtain rfl := h9.symm
    refine wx_i1 j17_29 rfl rfl (Nat.le_of_ble_eq_true rfl) (sh_ro (by omega)) (tp_cnt hs (j := 7) (by decide) (h.2.2.2 m (Nat.lt_succ_self m)).2.1 ht) ?_
    rintro _ d9 ⟨rfl, h9⟩
    obtain rfl := h9.symm
    refine wx_ri j17_32 rfl rfl ?_
    exact ⟨by rw [hkd], rfl⟩
  · simp only [ax_cn, Classical.not_not] at c4
    have hf : fl m = false := by
      have := bB_1.mp c4
      simpa using this
    have hkd : kd fl m = 6 := by unfold kd; rw [hf]; rfl
    refine wx_aldn j17_7 rfl ?_
    refine wx_get (v := .ref _) j17_8 (sh_gr hs) (Nat.le_of_ble_eq_true rfl) rfl ?_
    refine wx_aldn j17_11 rfl ?_
    refine wx_i0 j17_12 rfl  (Nat.le_of_ble_eq_true rfl) (sh_gr hs) (sp_name hs h) ?_
    rintro _ d9 ⟨rfl, h9⟩
    obtain rfl := h9.symm
    refine wx_i1 j17_15 rfl rfl (Nat.le_of_ble_eq_true rfl) (sh_ro (by omega)) (tp_cnt hs (j := 6) (by decide) (h.2.2.2 m (Nat.lt_succ_self m)).2.1 ht) ?_
    rintro _ d9 ⟨rfl, h9⟩
    obtain rfl := h9.symm
    refine wx_goto 32 j17_18 (by decide) ?_
    refine wx_ri j17_32 rfl rfl ?_
    exact ⟨by rw [hkd], rfl⟩
theorem sp_choices (hs : s < 2) (h : gr_is d s (m + 1) nm fl b) (ht : tb_is d s T) : ax_E 18 [.ref (521 + s)] d (ax_Pi fun y d1 => y = nI ((T (kd fl m) (nm m)).length + (if fl m then 2 else 1)) ∧ d1 = d) := by
  show ax_W 18 0 [some (.ref (521 + s))] [] d _
  refine wx_aldn j18_0 rfl ?_
  refine wx_i0 j18_1 rfl  (Nat.le_of_ble_eq_true rfl) (sh_gr hs) (sp_isInTag hs h) ?_
  rintro _ d9 ⟨rfl, h9⟩
  obtain rfl := h9.symm
  refine wx_if 16 j18_4 (by decide) (fun c4 => ?_) (fun c4 => ?_)
  · simp only [ax_cn, Classical.not_not] at c4
    have hf : fl m = true := by
      have := bB_0.mp c4
      simpa using this
    have hkd : kd fl m = 7 := by unfold kd; rw [if_pos hf]
    refine wx_aldn j18_16 rfl ?_
    refine wx_i0 j18_17 rfl  (Nat.le_of_ble_eq_true rfl) (sh_gr hs) (sp_learned hs h ht) ?_
    rintro _ d9 ⟨rfl, h9⟩
    obtain rfl := h9.symm
    refine wx_icst (v := nI 2) j18_20 (by decide) ?_
    refine wx_iadd j18_21 ?_
    rw [nI_add]
    refine wx_ri j18_22 rfl rfl ?_
    exact ⟨by rw [if_pos hf], rfl⟩
  · simp only [ax_cn, Classical.not_not] at c4
    have hf : fl m = false := by
      have := bB_1.mp c4
      simpa using this
    have hkd : kd fl m = 6 := by unfold kd; rw [hf]; rfl
    refine wx_aldn j18_7 rfl ?_
    refine wx_i0 j18_8 rfl  (Nat.le_of_ble_eq_true rfl) (sh_gr hs) (sp_learned hs h ht) ?_
    rintro _ d9 ⟨rfl, h9⟩
    obtain rfl := h9.symm
    refine wx_icst (v := nI 1) j18_11 (by decide) ?_
    refine wx_iadd j18_12 ?_
    rw [nI_add]
    refine wx_goto 22 j18_13 (by decide) ?_
    refine wx_ri j18_22 rfl rfl ?_
    exact ⟨by rw [hf]; rfl, rfl⟩
theorem sp_codeAt (hs : s < 2) (h : gr_is d s (m + 1) nm fl b) (ht : tb_is d s T) (hx : x < (T (kd fl m) (nm m)).length) : ax_E 19 [.ref (521 + s), .int (nI x)] d (ax_Pi fun y d1 => y = nI ((T (kd fl m) (nm m)).getD x 0) ∧ d1 = d) := by
  show ax_W 19 0 [some (.ref (521 + s)), some (.int (nI x))] [] d _
  refine wx_aldn j19_0 rfl ?_
  refine wx_i0 j19_1 rfl  (Nat.le_of_ble_eq_true rfl) (sh_gr hs) (sp_isInTag hs h) ?_
  rintro _ d9 ⟨rfl, h9⟩
  obtain rfl := h9.symm
  refine wx_if 22 j19_4 (by decide) (fun c4 => ?_) (fun c4 => ?_)
  · simp only [ax_cn, Classical.not_not] at c4
    have hf : fl m = true := by
      have := bB_0.mp c4
      simpa using this
    have hkd : kd fl m = 7 := by unfold kd; rw [if_pos hf]
    refine wx_aldn j19_22 rfl ?_
    refine wx_get (v := .ref _) j19_23 (sh_gr hs) (Nat.le_of_ble_eq_true rfl) rfl ?_
    refine wx_aldn j19_26 rfl ?_
    refine wx_i0 j19_27 rfl  (Nat.le_of_ble_eq_true rfl) (sh_gr hs) (sp_name hs h) ?_
    rintro _ d9 ⟨rfl, h9⟩
    obtain rfl := h9.symm
    refine wx_ildn j19_30 rfl ?_
    refine wx_i2 j19_31 rfl rfl rfl (Nat.le_of_ble_eq_true rfl) (sh_ro (by omega)) (tp_get hs (j := 7) (by decide) (h.2.2.2 m (Nat.lt_succ_self m)).2.1 ht (by rw [hkd] at hx; exact hx)) ?_
    rintro _ d9 ⟨rfl, h9⟩
    obtain rfl := h9.symm
    refine wx_ri j19_34 rfl rfl ?_
    exact ⟨by rw [hkd], rfl⟩
  · simp only [ax_cn, Classical.not_not] at c4
    have hf : fl m = false := by
      have := bB_1.mp c4
      simpa using this
    have hkd : kd fl m = 6 := by unfold kd; rw [hf]; rfl
    refine wx_aldn j19_7 rfl ?_
    refine wx_get (v := .ref _) j19_8 (sh_gr hs) (Nat.le_of_ble_eq_true rfl) rfl ?_
    refine wx_aldn j19_11 rfl ?_
    refine wx_i0 j19_12 rfl  (Nat.le_of_ble_eq_true rfl) (sh_gr hs) (sp_name hs h) ?_
    rintro _ d9 ⟨rfl, h9⟩
    obtain rfl := h9.symm
    refine wx_ildn j19_15 rfl ?_
    refine wx_i2 j19_16 rfl rfl rfl (Nat.le_of_ble_eq_true rfl) (sh_ro (by omega)) (tp_get hs (j := 6) (by decide) (h.2.2.2 m (Nat.lt_succ_self m)).2.1 ht (by rw [hkd] at hx; exact hx)) ?_
    rintro _ d9 ⟨rfl, h9⟩
    obtain rfl := h9.symm
    refine wx_goto 34 j19_19 (by decide) ?_
    refine wx_ri j19_34 rfl rfl ?_
    exact ⟨by rw [hkd], rfl⟩
theorem sp_codeAtN (hs : s < 2) (h : gr_is d s (m + 1) nm fl b) (ht : tb_is d s T) : ax_E 19 [.ref (521 + s), .int (-1)] d (ax_Pi fun y d1 => y = -1 ∧ d1 = d) := by
  show ax_W 19 0 [some (.ref (521 + s)), some (.int (-1))] [] d _
  refine wx_aldn j19_0 rfl ?_
  refine wx_i0 j19_1 rfl  (Nat.le_of_ble_eq_true rfl) (sh_gr hs) (sp_isInTag hs h) ?_
  rintro _ d9 ⟨rfl, h9⟩
  obtain rfl := h9.symm
  refine wx_if 22 j19_4 (by decide) (fun c4 => ?_) (fun c4 => ?_)
  · simp only [ax_cn, Classical.not_not] at c4
    have hf : fl m = true := by
      have := bB_0.mp c4
      simpa using this
    have hkd : kd fl m = 7 := by unfold kd; rw [if_pos hf]
    refine wx_aldn j19_22 rfl ?_
    refine wx_get (v := .ref _) j19_23 (sh_gr hs) (Nat.le_of_ble_eq_true rfl) rfl ?_
    refine wx_aldn j19_26 rfl ?_
    refine wx_i0 j19_27 rfl  (Nat.le_of_ble_eq_true rfl) (sh_gr hs) (sp_name hs h) ?_
    rintro _ d9 ⟨rfl, h9⟩
    obtain rfl := h9.symm
    refine wx_ildn j19_30 rfl ?_
    refine wx_i2 j19_31 rfl rfl rfl (Nat.le_of_ble_eq_true rfl) (sh_ro (by omega)) (tp_getN hs (j := 7) (by decide) (h.2.2.2 m (Nat.lt_succ_self m)).2.1 ht) ?_
    rintro _ d9 ⟨rfl, h9⟩
    obtain rfl := h9.symm
    refine wx_ri j19_34 rfl rfl ?_
    exact ⟨rfl, rfl⟩
  · simp only [ax_cn, Classical.not_not] at c4
    have hf : fl m = false := by
      have := bB_1.mp c4
      simpa using this
    have hkd : kd fl m = 6 := by unfold kd; rw [hf]; rfl
    refine wx_aldn j19_7 rfl ?_
    refine wx_get (v := .ref _) j19_8 (sh_gr hs) (Nat.le_of_ble_eq_true rfl) rfl ?_
    refine wx_aldn j19_11 rfl ?_
    refine wx_i0 j19_12 rfl  (Nat.le_of_ble_eq_true rfl) (sh_gr hs) (sp_name hs h) ?_
    rintro _ d9 ⟨rfl, h9⟩
    obtain rfl := h9.symm
    refine wx_ildn j19_15 rfl ?_
    refine wx_i2 j19_16 rfl rfl rfl (Nat.le_of_ble_eq_true rfl) (sh_ro (by omega)) (tp_getN hs (j := 6) (by decide) (h.2.2.2 m (Nat.lt_succ_self m)).2.1 ht) ?_
    rintro _ d9 ⟨rfl, h9⟩
    obtain rfl := h9.symm
    refine wx_goto 34 j19_19 (by decide) ?_
    refine wx_ri j19_34 rfl rfl ?_
    exact ⟨rfl, rfl⟩
theorem sp_findCode (hs : s < 2) (h : gr_is d s (m + 1) nm fl b) (ht : tb_is d s T) (hb : TB T) (hx : x < tB) : ax_E 20 [.ref (521 + s), .int (nI x)] d (ax_Pi fun y d1 => y = oi (fi (T (kd fl m) (nm m)) x) ∧ d1 = d) := by
  show ax_W 20 0 [some (.ref (521 + s)), some (.int (nI x))] [] d _
  refine wx_aldn j20_0 rfl ?_
  refine wx_i0 j20_1 rfl  (Nat.le_of_ble_eq_true rfl) (sh_gr hs) (sp_isInTag hs h) ?_
  rintro _ d9 ⟨rfl, h9⟩
  obtain rfl := h9.symm
  refine wx_if 22 j20_4 (by decide) (fun c4 => ?_) (fun c4 => ?_)
  · simp only [ax_cn, Classical.not_not] at c4
    have hf : fl m = true := by
      have := bB_0.mp c4
      simpa using this
    have hkd : kd fl m = 7 := by unfold kd; rw [if_pos hf]
    refine wx_aldn j20_22 rfl ?_
    refine wx_get (v := .ref _) j20_23 (sh_gr hs) (Nat.le_of_ble_eq_true rfl) rfl ?_
    refine wx_aldn j20_26 rfl ?_
    refine wx_i0 j20_27 rfl  (Nat.le_of_ble_eq_true rfl) (sh_gr hs) (sp_name hs h) ?_
    rintro _ d9 ⟨rfl, h9⟩
    obtain rfl := h9.symm
    refine wx_ildn j20_30 rfl ?_
    refine wx_i2 j20_31 rfl rfl rfl (Nat.le_of_ble_eq_true rfl) (sh_ro (by omega)) (tp_find hs (j := 7) (by decide) (h.2.2.2 m (Nat.lt_succ_self m)).2.1 ht hb hx) ?_
    rintro _ d9 ⟨rfl, h9⟩
    obtain rfl := h9.symm
    refine wx_ri j20_34 rfl rfl ?_
    exact ⟨by rw [hkd], rfl⟩
  · simp only [ax_cn, Classical.not_not] at c4
    have hf : fl m = false := by
      have := bB_1.mp c4
      simpa using this
    have hkd : kd fl m = 6 := by unfold kd; rw [hf]; rfl
    refine wx_aldn j20_7 rfl ?_
    refine wx_get (v := .ref _) j20_8 (sh_gr hs) (Nat.le_of_ble_eq_true rfl) rfl ?_
    refine wx_aldn j20_11 rfl ?_
    refine wx_i0 j20_12 rfl  (Nat.le_of_ble_eq_true rfl) (sh_gr hs) (sp_name hs h) ?_
    rintro _ d9 ⟨rfl, h9⟩
    obtain rfl := h9.symm
    refine wx_ildn j20_15 rfl ?_
    refine wx_i2 j20_16 rfl rfl rfl (Nat.le_of_ble_eq_true rfl) (sh_ro (by omega)) (tp_find hs (j := 6) (by decide) (h.2.2.2 m (Nat.lt_succ_self m)).2.1 ht hb hx) ?_
    rintro _ d9 ⟨rfl, h9⟩
    obtain rfl := h9.symm
    refine wx_goto 34 j20_19 (by decide) ?_
    refine wx_ri j20_34 rfl rfl ?_
    exact ⟨by rw [hkd], rfl⟩
theorem fi_31 {j k c : Nat} (h : tb_is d s T) (hj : j < 8) (hk : k < ax_nr j) : ∀ i, fi (T j k) c = some i → i < 2 ^ 31 := fun i hi => by
  have h1 := fi_lt hi
  have h2 := tb_l20 h hj hk
  omega
theorem sp_learn (hs : s < 2) (h : gr_is d s (m + 1) nm fl b) (ht : tb_is d s T) (hb : TB T) (hx : x < tB) : ax_E 21 [.ref (521 + s), .int (nI x)] d (ax_Pv fun d1 => tb_is d1 s (tln T (kd fl m) (nm m) x) ∧ tb_fr d d1 s) := by
  show ax_W 21 0 [some (.ref (521 + s)), some (.int (nI x))] [] d _
  refine wx_aldn j21_0 rfl ?_
  refine wx_ildn j21_1 rfl ?_
  refine wx_i1 j21_2 rfl rfl (Nat.le_of_ble_eq_true rfl) (sh_gr hs) (sp_findCode hs h ht hb hx) ?_
  rintro _ d9 ⟨rfl, h9⟩
  obtain rfl := h9.symm
  refine wx_icst (v := (-1)) j21_5 (by decide) ?_
  have hkn : nm m < ax_nr (kd fl m) := by
    have := (h.2.2.2 m (Nat.lt_succ_self m)).2.1
    unfold kd
    split <;> exact this
  refine wx_cmp 10 j21_6 (by decide) (fun c6 => ?_) (fun c6 => ?_)
  · simp only [ax_cn, Classical.not_not] at c6
    have hno : fi (T (kd fl m) (nm m)) x = none := (oi_neg (fi_31 ht (kd_lt fl m) hkn)).mp c6
    refine wx_aldn j21_10 rfl ?_
    refine wx_i0 j21_11 rfl  (Nat.le_of_ble_eq_true rfl) (sh_gr hs) (sp_isInTag hs h) ?_
    rintro _ d9 ⟨rfl, h9⟩
    obtain rfl := h9.symm
    refine wx_if 32 j21_14 (by decide) (fun c14 => ?_) (fun c14 => ?_)
    · simp only [ax_cn, Classical.not_not] at c14
      have hf : fl m = true := by
        have := bB_0.mp c14
        simpa using this
      have hkd : kd fl m = 7 := by unfold kd; rw [if_pos hf]
      refine wx_aldn j21_32 rfl ?_
      refine wx_get (v := .ref _) j21_33 (sh_gr hs) (Nat.le_of_ble_eq_true rfl) rfl ?_
      refine wx_aldn j21_36 rfl ?_
      refine wx_i0 j21_37 rfl  (Nat.le_of_ble_eq_true rfl) (sh_gr hs) (sp_name hs h) ?_
      rintro _ d9 ⟨rfl, h9⟩
      obtain rfl := h9.symm
      refine wx_ildn j21_40 rfl ?_
      refine wx_v2 j21_41 rfl rfl rfl (Nat.le_of_ble_eq_true rfl) (sh_ro (by omega)) (tp_first hs (j := 7) (by decide) (h.2.2.2 m (Nat.lt_succ_self m)).2.1 ht) ?_
      rintro d1 ⟨h1, hf1⟩
      refine wx_rv j21_44 rfl ?_
      exact ⟨by unfold tln; rw [hno, hkd]; exact h1, rw_tb hf1 (by decide)⟩
    · simp only [ax_cn, Classical.not_not] at c14
      have hf : fl m = false := by
        have := bB_1.mp c14
        simpa using this
      have hkd : kd fl m = 6 := by unfold kd; rw [hf]; rfl
      refine wx_aldn j21_17 rfl ?_
      refine wx_get (v := .ref _) j21_18 (sh_gr hs) (Nat.le_of_ble_eq_true rfl) rfl ?_
      refine wx_aldn j21_21 rfl ?_
      refine wx_i0 j21_22 rfl  (Nat.le_of_ble_eq_true rfl) (sh_gr hs) (sp_name hs h) ?_
      rintro _ d9 ⟨rfl, h9⟩
      obtain rfl := h9.symm
      refine wx_ildn j21_25 rfl ?_
      refine wx_v2 j21_26 rfl rfl rfl (Nat.le_of_ble_eq_true rfl) (sh_ro (by omega)) (tp_first hs (j := 6) (by decide) (h.2.2.2 m (Nat.lt_succ_self m)).2.1 ht) ?_
      rintro d1 ⟨h1, hf1⟩
      refine wx_goto 44 j21_29 (by decide) ?_
      refine wx_rv j21_44 rfl ?_
      exact ⟨by unfold tln; rw [hno, hkd]; exact h1, rw_tb hf1 (by decide)⟩
  · simp only [ax_cn, Classical.not_not] at c6
    obtain ⟨q, hq⟩ : ∃ q, fi (T (kd fl m) (nm m)) x = some q := by
      cases hfi : fi (T (kd fl m) (nm m)) x with
      | none => exact absurd ((oi_neg (fi_31 ht (kd_lt fl m) hkn)).mpr hfi) c6
      | some q => exact ⟨q, rfl⟩
    refine wx_rv j21_9 rfl ?_
    exact ⟨by unfold tln; rw [hq]; exact ht, tb_fr_rf d s⟩
/-- what begin leaves: the two rows of codes are empty, no element is open -/
theorem sp_gbegin (hs : s < 2) : ax_E 7 [.ref (521 + s)] d (ax_Pv fun d1 => rw_is d1 (8 * s + 6) (fun _ => []) ∧ rw_is d1 (8 * s + 7) (fun _ => []) ∧ (∀ nm fl, gr_is d1 s 0 nm fl false) ∧ ∀ id, (id < 32 * (8 * s + 6) ∨ 32 * (8 * s + 8) ≤ id) → id ≠ 521 + s → d1 id = d id) := by
  show ax_W 7 0 [some (.ref (521 + s))] [] d _
  refine wx_aldn j7_0 rfl ?_
  refine wx_get (v := .ref _) j7_1 (sh_gr hs) (Nat.le_of_ble_eq_true rfl) rfl ?_
  refine wx_v0 j7_4 rfl  (Nat.le_of_ble_eq_true rfl) (sh_ro (by omega)) (sp_forget (by omega)) ?_
  rintro d1 ⟨h1, hf1⟩
  refine wx_aldn j7_7 rfl ?_
  refine wx_get (v := .ref _) j7_8 (sh_gr hs) (Nat.le_of_ble_eq_true rfl) rfl ?_
  refine wx_v0 j7_11 rfl  (Nat.le_of_ble_eq_true rfl) (sh_ro (by omega)) (sp_forget (by omega)) ?_
  rintro d2 ⟨h2, hf2⟩
  refine wx_aldn j7_14 rfl ?_
  refine wx_icst (v := nI 0) j7_15 (by decide) ?_
  refine wx_put j7_16 (sh_gr hs) (Nat.le_of_ble_eq_true rfl) rfl rfl rfl ?_
  refine wx_aldn j7_19 rfl ?_
  refine wx_icst (v := nI 0) j7_20 (by decide) ?_
  refine wx_put j7_21 (sh_gr hs) (Nat.le_of_ble_eq_true rfl) rfl rfl rfl ?_
  refine wx_rv j7_24 rfl ?_
  have k1 : ∀ id, id < 512 → ax_up (ax_up d2 (521 + s) 4 (nI 0)) (521 + s) 5 (nI 0) id = d2 id := fun id hid => by rw [ax_up_ne (by omega), ax_up_ne (by omega)]
  refine ⟨?_, ?_, fun nm fl => ⟨by decide, by rw [up_nk (by decide), up_at], by rw [up_at]; rfl, fun i hi => absurd hi (Nat.not_lt_zero i)⟩, fun id a1 a2 => ?_⟩
  · have h3 := rw_keep h1 hf2 (by omega)
    intro k hk
    have := nr_le (8 * s + 6)
    rw [k1 _ (by omega), k1 _ (by omega)]
    exact h3 k hk
  · intro k hk
    have := nr_le (8 * s + 7)
    rw [k1 _ (by omega), k1 _ (by omega)]
    exact h2 k hk
  · rw [ax_up_ne a2, ax_up_ne a2, hf2 id (by omega), hf1 id (by omega)]
end GR
