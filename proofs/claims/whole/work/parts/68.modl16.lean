/-! THE REFERENCE's calls: writing, the stream. Field 0: thrown; 29: begun; 19: the bits written; 21: the stream's. -/
def MX (d : ax_D) (S : WS) : Prop := (d 540 29 = nI 1 ∧ MW d S) ∨ (d 540 29 = nI 0 ∧ S = wS0 ∧ mb_is d [])
def mwx (d d1 : ax_D) : Prop := ∀ id i, ¬ (542 ≤ id ∧ id ≤ 558 ∧ i / msz id = 0) → id ≠ 559 → ¬ (id = 540 ∧ (i = 0 ∨ i = 19 ∨ i = 29)) → d1 id i = d id i
theorem mwx_tr {d d1 d2 : ax_D} (h : mwx d d1) (h2 : mwx d1 d2) : mwx d d2 := fun id i a b c => (h2 id i a b c).trans (h id i a b c)
theorem mwx_e {d d1 : ax_D} (h : mwe d d1) : mwx d d1 := fun id i a b c => h id i a b (fun q => c ⟨q.1, by omega⟩)
theorem mwx_mo {d d1 : ax_D} (h : mo d d1 0) : mwx d d1 := fun id i a _ _ => h id i a
theorem mwx_up {d : ax_D} {i : Nat} {x : Int32} (h : i = 0 ∨ i = 19 ∨ i = 29) : mwx d (ax_up d 540 i x) := by
  intro id j _ _ hn
  rw [up_ap, if_neg]
  rintro ⟨rfl, rfl⟩
  exact hn ⟨rfl, h⟩
theorem mb_up {d : ax_D} {i : Nat} {x : Int32} {l : List Nat} (h : mb_is d l) (hi : i ≠ 19) : mb_is (ax_up d 540 i x) l := by
  unfold mb_is
  rw [up_nk (Ne.symm hi), ax_up_ne (show 559 ≠ 540 by decide)]
  exact h
theorem MW_up {d : ax_D} {i : Nat} {x : Int32} {S : WS} (h : MW d S) (hi : i ≠ 19) : MW (ax_up d 540 i x) S := ⟨mt_up h.1 (Or.inl (by decide)), mg_up h.2.1 (by decide), mb_up h.2.2 hi⟩
theorem ms_up {d : ax_D} {i : Nat} {x : Int32} {sl : List Nat} (h : ms_is d sl) (hi : i ≠ 21) : ms_is (ax_up d 540 i x) sl := by
  unfold ms_is
  rw [up_nk (Ne.symm hi), ax_up_ne (show 561 ≠ 540 by decide)]
  exact h
theorem mb_0 {d : ax_D} : mb_is (ax_up d 540 19 (nI 0)) [] := ⟨by decide, up_at _ _ _ _, fun i hi => absurd hi (Nat.not_lt_zero i), fun e he => (by cases he)⟩
def oN (ok : Bool) (r : Nat × WS) (S : WS) : Nat × WS := if ok = true then r else (1, S)
def xP (d : ax_D) (r : Nat × WS) (d1 : ax_D) : Prop := d1 540 0 = nI r.1 ∧ d1 540 29 = nI 1 ∧ MW d1 r.2 ∧ mwx d d1
section MH
variable {d : ax_D} {S : WS} {x y z : Int32} {sl l : List Nat}
theorem sm_ready (h : MX d S) : ax_E 116 [.ref 540] d (ax_Pv fun d1 => xP d (0, S) d1) := by
  show ax_W 116 0 [some (.ref 540)] [] d _
  refine wx_aldn j116_0 rfl ?_
  refine wx_icst (v := nI 0) j116_1 (by decide) ?_
  refine wx_put j116_2 rfl (Nat.le_of_ble_eq_true rfl) rfl rfl rfl ?_
  refine wx_aldn j116_5 rfl ?_
  refine wx_get (v := .int _) j116_6 rfl (Nat.le_of_ble_eq_true rfl) rfl ?_
  rw [up_nk (by decide)]
  refine wx_if 22 j116_9 (by decide) (fun c9 => ?_) (fun c9 => ?_)
  · simp only [ax_cn, Classical.not_not] at c9
    have hb : d 540 29 = nI 1 ∧ MW d S := by
      rcases h with h | h
      · exact h
      · exact absurd h.1 c9
    refine wx_rv j116_22 rfl ?_
    exact ⟨up_at _ _ _ _, by rw [up_nk (by decide)]; exact hb.1, MW_up hb.2 (by decide), mwx_up (Or.inl rfl)⟩
  · simp only [ax_cn, Classical.not_not] at c9
    have hb : S = wS0 ∧ mb_is d [] := by
      rcases h with h | h
      · exact absurd (h.1.symm.trans c9) (by decide)
      · exact h.2
    refine wx_aldn j116_12 rfl ?_
    refine wx_icst (v := nI 0) j116_13 (by decide) ?_
    refine wx_v1 j116_14 rfl rfl (Nat.le_of_ble_eq_true rfl) rfl (sm_begin (c := 0) (by decide)) ?_
    rintro d2 ⟨t2, g2, f2⟩
    refine wx_aldn j116_17 rfl ?_
    refine wx_icst (v := nI 1) j116_18 (by decide) ?_
    refine wx_put j116_19 rfl (Nat.le_of_ble_eq_true rfl) rfl rfl rfl ?_
    refine wx_rv j116_22 rfl ?_
    obtain ⟨rfl, hm⟩ := hb
    exact ⟨by rw [up_nk (by decide), mo_id f2 (by decide), up_at], up_at _ _ _ _, MW_up ⟨t2, g2 _ _, mb_mo (mb_up hm (by decide)) f2⟩ (by decide), mwx_tr (mwx_tr (mwx_up (Or.inl rfl)) (mwx_mo f2)) (mwx_up (Or.inr (Or.inr rfl)))⟩
theorem clampT {t : Nat} (h : t < tB) : (nI t).toNatClampNeg = t := nI_clamp (tB_lt h)
theorem xP_w {d d1 d2 : ax_D} {S : WS} {r : Nat × WS} {y : Int32} (h1 : xP d (0, S) d1) (h2 : mP d1 S r y d2) : xP d r (ax_up d2 540 0 y) := by
  obtain ⟨a1, a2, a3, a4⟩ := h1
  obtain ⟨rfl, b2, b3⟩ := h2
  refine ⟨up_at _ _ _ _, ?_, MW_up b2 (by decide), mwx_tr (mwx_tr a4 (mwx_e b3)) (mwx_up (Or.inl rfl))⟩
  rw [up_nk (by decide), b3 540 29 (by decide) (by decide) (by decide)]
  exact a2
theorem xP_1 {d d1 : ax_D} {S : WS} (h1 : xP d (0, S) d1) : xP d (1, S) (ax_up d1 540 0 (nI 1)) := ⟨up_at _ _ _ _, by rw [up_nk (by decide)]; exact h1.2.1, MW_up h1.2.2.1 (by decide), mwx_tr h1.2.2.2 (mwx_up (Or.inl rfl))⟩
theorem oN_1 {r : Nat × WS} {ok : Bool} (h : ok = false) : oN ok r S = (1, S) := by unfold oN; rw [if_neg (by rw [h]; decide)]
theorem oN_0 {r : Nat × WS} {ok : Bool} (h : ok = true) : oN ok r S = r := by unfold oN; rw [if_pos h]
/-- is a name; is a text -/
def okN (x y : Int32) : Bool := tx x && (tx y && decide (y ≠ 0))
theorem okN_of (h : okN x y = true) : ∃ sp lo, sp < tB ∧ lo < tB ∧ x = nI sp ∧ y = nI lo := by
  unfold okN at h
  rw [Bool.and_eq_true, Bool.and_eq_true] at h
  obtain ⟨a, ha, rfl, -⟩ := tx_of h.1
  obtain ⟨b, hb, rfl, -⟩ := tx_of h.2.1
  exact ⟨a, b, ha, hb, rfl, rfl⟩
theorem sm_open (h : MX d S) (hI : WI S) : ax_E 117 [.ref 540, .int x, .int y] d (ax_Pv fun d1 => xP d (oN (okN x y) (oW S 1 x.toNatClampNeg y.toNatClampNeg 0) S) d1) := by
  show ax_W 117 0 [some (.ref 540), some (.int x), some (.int y)] [] d _
  refine wx_aldn j117_0 rfl ?_
  refine wx_v0 j117_1 rfl  (Nat.le_of_ble_eq_true rfl) rfl (sm_ready h) ?_
  rintro d1 h1
  refine wx_aldn j117_4 rfl ?_
  refine wx_ildn j117_5 rfl ?_
  refine wx_ildn j117_6 rfl ?_
  refine wx_t2 j117_7 rfl rfl rfl (Nat.le_of_ble_eq_true rfl) (sm_isName) ?_
  rintro _ d9 ⟨rfl, h9⟩
  obtain rfl := h9.symm
  refine wx_if 22 j117_10 (by decide) (fun c10 => ?_) (fun c10 => ?_)
  · simp only [ax_cn, Classical.not_not] at c10
    have hk : okN x y = false := bB_0.mp c10
    rw [oN_1 hk]
    refine wx_icst (v := nI 1) j117_22 (by decide) ?_
    refine wx_put j117_23 rfl (Nat.le_of_ble_eq_true rfl) rfl rfl rfl ?_
    refine wx_rv j117_26 rfl ?_
    exact xP_1 h1
  · simp only [ax_cn, Classical.not_not] at c10
    have hk : okN x y = true := bB_1.mp c10
    rw [oN_0 hk]
    obtain ⟨sp, lo, hsp, hlo, rfl, rfl⟩ := okN_of hk
    rw [clampT hsp, clampT hlo]
    refine wx_aldn j117_13 rfl ?_
    refine wx_ildn j117_14 rfl ?_
    refine wx_ildn j117_15 rfl ?_
    refine wx_i2 j117_16 rfl rfl rfl (Nat.le_of_ble_eq_true rfl) rfl (sm_wOpen h1.2.2.1 hI hsp hlo) ?_
    rintro y2 d2 h2
    refine wx_goto 23 j117_19 (by decide) ?_
    refine wx_put j117_23 rfl (Nat.le_of_ble_eq_true rfl) rfl rfl rfl ?_
    refine wx_rv j117_26 rfl ?_
    exact xP_w h1 h2
theorem sm_attribute (h : MX d S) (hI : WI S) : ax_E 118 [.ref 540, .int x, .int y, .int z] d (ax_Pv fun d1 => xP d (oN (okN x y && tx z) (oW S 2 x.toNatClampNeg y.toNatClampNeg z.toNatClampNeg) S) d1) := by
  show ax_W 118 0 [some (.ref 540), some (.int x), some (.int y), some (.int z)] [] d _
  refine wx_aldn j118_0 rfl ?_
  refine wx_v0 j118_1 rfl  (Nat.le_of_ble_eq_true rfl) rfl (sm_ready h) ?_
  rintro d1 h1
  refine wx_aldn j118_4 rfl ?_
  refine wx_ildn j118_5 rfl ?_
  refine wx_ildn j118_6 rfl ?_
  refine wx_t2 j118_7 rfl rfl rfl (Nat.le_of_ble_eq_true rfl) (sm_isName) ?_
  rintro _ d9 ⟨rfl, h9⟩
  obtain rfl := h9.symm
  refine wx_if 30 j118_10 (by decide) (fun c10 => ?_) (fun c10 => ?_)
  · simp only [ax_cn, Classical.not_not] at c10
    have hk : okN x y = false := bB_0.mp c10
    rw [oN_1 (by rw [hk]; rfl)]
    refine wx_icst (v := nI 1) j118_30 (by decide) ?_
    refine wx_put j118_31 rfl (Nat.le_of_ble_eq_true rfl) rfl rfl rfl ?_
    refine wx_rv j118_34 rfl ?_
    exact xP_1 h1
  · simp only [ax_cn, Classical.not_not] at c10
    have hk : okN x y = true := bB_1.mp c10
    refine wx_ildn j118_13 rfl ?_
    refine wx_t1 j118_14 rfl rfl (Nat.le_of_ble_eq_true rfl) (sm_isText) ?_
    rintro _ d9 ⟨rfl, h9⟩
    obtain rfl := h9.symm
    refine wx_if 30 j118_17 (by decide) (fun c17 => ?_) (fun c17 => ?_)
    · simp only [ax_cn, Classical.not_not] at c17
      have hz : tx z = false := bB_0.mp c17
      rw [oN_1 (by rw [hz, Bool.and_false])]
      refine wx_icst (v := nI 1) j118_30 (by decide) ?_
      refine wx_put j118_31 rfl (Nat.le_of_ble_eq_true rfl) rfl rfl rfl ?_
      refine wx_rv j118_34 rfl ?_
      exact xP_1 h1
    · simp only [ax_cn, Classical.not_not] at c17
      have hz : tx z = true := bB_1.mp c17
      rw [oN_0 (by rw [hz, hk]; rfl)]
      obtain ⟨sp, lo, hsp, hlo, rfl, rfl⟩ := okN_of hk
      obtain ⟨v, hv, rfl, -⟩ := tx_of hz
      rw [clampT hsp, clampT hlo, clampT hv]
      refine wx_aldn j118_20 rfl ?_
      refine wx_ildn j118_21 rfl ?_
      refine wx_ildn j118_22 rfl ?_
      refine wx_ildn j118_23 rfl ?_
      refine wx_i3 j118_24 rfl rfl rfl rfl (Nat.le_of_ble_eq_true rfl) rfl (sm_wAttr h1.2.2.1 hI hsp hlo hv) ?_
      rintro y2 d2 h2
      refine wx_goto 31 j118_27 (by decide) ?_
      refine wx_put j118_31 rfl (Nat.le_of_ble_eq_true rfl) rfl rfl rfl ?_
      refine wx_rv j118_34 rfl ?_
      exact xP_w h1 h2
theorem sm_text (h : MX d S) (hI : WI S) : ax_E 119 [.ref 540, .int z] d (ax_Pv fun d1 => xP d (oN (tx z) (oW S 3 0 0 z.toNatClampNeg) S) d1) := by
  show ax_W 119 0 [some (.ref 540), some (.int z)] [] d _
  refine wx_aldn j119_0 rfl ?_
  refine wx_v0 j119_1 rfl  (Nat.le_of_ble_eq_true rfl) rfl (sm_ready h) ?_
  rintro d1 h1
  refine wx_aldn j119_4 rfl ?_
  refine wx_ildn j119_5 rfl ?_
  refine wx_t1 j119_6 rfl rfl (Nat.le_of_ble_eq_true rfl) (sm_isText) ?_
  rintro _ d9 ⟨rfl, h9⟩
  obtain rfl := h9.symm
  refine wx_if 20 j119_9 (by decide) (fun c9 => ?_) (fun c9 => ?_)
  · simp only [ax_cn, Classical.not_not] at c9
    have hz : tx z = false := bB_0.mp c9
    rw [oN_1 hz]
    refine wx_icst (v := nI 1) j119_20 (by decide) ?_
    refine wx_put j119_21 rfl (Nat.le_of_ble_eq_true rfl) rfl rfl rfl ?_
    refine wx_rv j119_24 rfl ?_
    exact xP_1 h1
  · simp only [ax_cn, Classical.not_not] at c9
    have hz : tx z = true := bB_1.mp c9
    rw [oN_0 hz]
    obtain ⟨v, hv, rfl, -⟩ := tx_of hz
    rw [clampT hv]
    refine wx_aldn j119_12 rfl ?_
    refine wx_ildn j119_13 rfl ?_
    refine wx_i1 j119_14 rfl rfl (Nat.le_of_ble_eq_true rfl) rfl (sm_wText h1.2.2.1 hI hv) ?_
    rintro y2 d2 h2
    refine wx_goto 21 j119_17 (by decide) ?_
    refine wx_put j119_21 rfl (Nat.le_of_ble_eq_true rfl) rfl rfl rfl ?_
    refine wx_rv j119_24 rfl ?_
    exact xP_w h1 h2
/-- how a close ends: 0, or why not -/
def oC (S : WS) : Nat × WS := ((if (oW S 4 0 0 0).1 = 0 then 0 else (oW S 4 0 0 0).1 - 1), (oW S 4 0 0 0).2)
theorem oW_le {k sp lo v : Nat} : (oW S k sp lo v).1 = 0 ∨ (oW S k sp lo v).1 = 2 ∨ (oW S k sp lo v).1 = 3 := by
  cases hL : wL S k with
  | false => rw [oW_2 hL]; exact Or.inr (Or.inl rfl)
  | true =>
    cases hQ : wQ S k sp lo with
    | false => rw [oW_3 hL hQ]; exact Or.inr (Or.inr rfl)
    | true => rw [oW_0 hL hQ]; exact Or.inl rfl
theorem sm_close (h : MX d S) (hI : WI S) : ax_E 120 [.ref 540] d (ax_Pi fun y d1 => ((oC S).1 = 0 → y = nI (oC S).2.2.1) ∧ xP d (oC S) d1) := by
  show ax_W 120 0 [some (.ref 540), none] [] d _
  have hle := oW_le (S := S) (k := 4) (sp := 0) (lo := 0) (v := 0)
  refine wx_aldn j120_0 rfl ?_
  refine wx_v0 j120_1 rfl  (Nat.le_of_ble_eq_true rfl) rfl (sm_ready h) ?_
  rintro d1 h1
  refine wx_aldn j120_4 rfl ?_
  refine wx_i0 j120_5 rfl  (Nat.le_of_ble_eq_true rfl) rfl (sm_wClose h1.2.2.1 hI) ?_
  rintro y2 d2 h2
  obtain ⟨rfl, m2, f2⟩ := h2
  refine wx_istn (L' := [_, some (.int _)]) j120_8 (Nat.le_of_ble_eq_true rfl) rfl ?_
  refine wx_aldn j120_9 rfl ?_
  refine wx_ildn j120_10 rfl ?_
  refine wx_if 18 j120_11 (by decide) (fun c11 => ?_) (fun c11 => ?_)
  · simp only [ax_cn, Classical.not_not] at c11
    have h0 : ¬ (oW S 4 0 0 0).1 = 0 := fun q => c11 (by rw [q]; rfl)
    have e : oC S = ((oW S 4 0 0 0).1 - 1, (oW S 4 0 0 0).2) := by unfold oC; rw [if_neg h0]
    rw [e]
    have eb : d2 540 29 = nI 1 := (f2 540 29 (by decide) (by decide) (by decide)).trans h1.2.1
    refine wx_ildn j120_18 rfl ?_
    refine wx_icst (v := nI 1) j120_19 (by decide) ?_
    refine wx_isub j120_20 ?_
    rw [pk_sub (a := (oW S 4 0 0 0).1) (b := 1) (by omega)]
    refine wx_put j120_21 rfl (Nat.le_of_ble_eq_true rfl) rfl rfl rfl ?_
    refine wx_aldn j120_24 rfl ?_
    refine wx_get (v := .int _) j120_25 rfl (Nat.le_of_ble_eq_true rfl) rfl ?_
    rw [up_at]
    refine wx_if 35 j120_28 (by decide) (fun c28 => ?_) (fun c28 => ?_)
    · simp only [ax_cn, Classical.not_not] at c28
      have h28 := c28
      refine wx_aldn j120_35 rfl ?_
      refine wx_get (v := .ref 555) j120_36 rfl (Nat.le_of_ble_eq_true rfl) rfl ?_
      refine wx_icst (v := nI 0) j120_39 (by decide) ?_
      refine wx_ialx (0) j120_40 rfl rfl (by decide) (by decide) ?_
      rw [up_ni (by decide), m2.2.1.2.1]
      refine wx_ri j120_41 rfl rfl ?_
      exact absurd h28 (nI_nle (by omega) (by omega))
    · simp only [ax_cn, Classical.not_not] at c28
      have h28 := c28
      refine wx_icst (v := nI 0) j120_31 (by decide) ?_
      refine wx_goto 41 j120_32 (by decide) ?_
      refine wx_ri j120_41 rfl rfl ?_
      exact ⟨fun q => absurd q (by simp only; omega), up_at _ _ _ _, by rw [up_nk (by decide)]; exact eb, MW_up m2 (by decide), mwx_tr (mwx_tr h1.2.2.2 (mwx_e f2)) (mwx_up (Or.inl rfl))⟩
  · simp only [ax_cn, Classical.not_not] at c11
    have h0 : (oW S 4 0 0 0).1 = 0 := (nI_eq (by omega) (by decide)).mp (c11.trans nI_0.symm)
    have e : oC S = (0, (oW S 4 0 0 0).2) := by unfold oC; rw [if_pos h0]
    rw [e]
    have eb : d2 540 29 = nI 1 := (f2 540 29 (by decide) (by decide) (by decide)).trans h1.2.1
    refine wx_icst (v := nI 0) j120_14 (by decide) ?_
    refine wx_goto 21 j120_15 (by decide) ?_
    refine wx_put j120_21 rfl (Nat.le_of_ble_eq_true rfl) rfl rfl rfl ?_
    refine wx_aldn j120_24 rfl ?_
    refine wx_get (v := .int _) j120_25 rfl (Nat.le_of_ble_eq_true rfl) rfl ?_
    rw [up_at]
    refine wx_if 35 j120_28 (by decide) (fun c28 => ?_) (fun c28 => ?_)
    · simp only [ax_cn, Classical.not_not] at c28
      have h28 := c28
      refine wx_aldn j120_35 rfl ?_
      refine wx_get (v := .ref 555) j120_36 rfl (Nat.le_of_ble_eq_true rfl) rfl ?_
      refine wx_icst (v := nI 0) j120_39 (by decide) ?_
      refine wx_ialx (0) j120_40 rfl rfl (by decide) (by decide) ?_
      rw [up_ni (by decide), m2.2.1.2.1]
      refine wx_ri j120_41 rfl rfl ?_
      exact ⟨fun _ => rfl, up_at _ _ _ _, by rw [up_nk (by decide)]; exact eb, MW_up m2 (by decide), mwx_tr (mwx_tr h1.2.2.2 (mwx_e f2)) (mwx_up (Or.inl rfl))⟩
    · simp only [ax_cn, Classical.not_not] at c28
      have h28 := c28
      refine wx_icst (v := nI 0) j120_31 (by decide) ?_
      refine wx_goto 41 j120_32 (by decide) ?_
      refine wx_ri j120_41 rfl rfl ?_
      exact absurd (show nI 0 ≤ 0 by decide) h28
theorem sm_clear (h : MX d S) : ax_E 121 [.ref 540] d (ax_Pv fun d1 => d1 540 29 = nI 1 ∧ MW d1 wS0 ∧ mwx d d1) := by
  show ax_W 121 0 [some (.ref 540)] [] d _
  refine wx_aldn j121_0 rfl ?_
  refine wx_v0 j121_1 rfl  (Nat.le_of_ble_eq_true rfl) rfl (sm_ready h) ?_
  rintro d1 h1
  refine wx_aldn j121_4 rfl ?_
  refine wx_icst (v := nI 0) j121_5 (by decide) ?_
  refine wx_v1 j121_6 rfl rfl (Nat.le_of_ble_eq_true rfl) rfl (sm_begin (c := 0) (by decide)) ?_
  rintro d2 ⟨t2, g2, f2⟩
  refine wx_aldn j121_9 rfl ?_
  refine wx_icst (v := nI 0) j121_10 (by decide) ?_
  refine wx_put j121_11 rfl (Nat.le_of_ble_eq_true rfl) rfl rfl rfl ?_
  refine wx_rv j121_14 rfl ?_
  exact ⟨by rw [up_nk (by decide), mo_id f2 (by decide)]; exact h1.2.1, ⟨mt_up t2 (Or.inl (by decide)), mg_up (g2 _ _) (by decide), mb_0⟩, mwx_tr (mwx_tr h1.2.2.2 (mwx_mo f2)) (mwx_up (Or.inr (Or.inl rfl)))⟩
theorem MX_mb (h : MX d S) : mb_is d S.2.2.2.2.2 := by
  rcases h with h | ⟨-, rfl, h⟩
  · exact h.2.2.2
  · exact h
/-- nothing but 'thrown' has changed, or the stream besides -/
def mss (d d1 : ax_D) : Prop := ∀ id i, id ≠ 561 → ¬ (id = 540 ∧ (i = 0 ∨ i = 21)) → d1 id i = d id i
theorem mss_rf (d : ax_D) : mss d d := fun _ _ _ _ => rfl
theorem mss_tr {d d1 d2 : ax_D} (h : mss d d1) (h2 : mss d1 d2) : mss d d2 := fun id i a b => (h2 id i a b).trans (h id i a b)
theorem mss_up {d : ax_D} {i : Nat} {x : Int32} (h : i = 0 ∨ i = 21) : mss d (ax_up d 540 i x) := by
  intro id j _ hn
  rw [up_ap, if_neg]
  rintro ⟨rfl, rfl⟩
  exact hn ⟨rfl, h⟩
theorem mss_561 {d : ax_D} {i : Nat} {x : Int32} : mss d (ax_up d 561 i x) := by
  intro id j h _
  rw [up_ni h]
theorem sm_thrown : ax_E 85 [.ref 540] d (ax_Pi fun y d1 => y = d 540 0 ∧ d1 = d) := by
  show ax_W 85 0 [some (.ref 540)] [] d _
  refine wx_aldn j85_0 rfl ?_
  refine wx_get (v := .int _) j85_1 rfl (Nat.le_of_ble_eq_true rfl) rfl ?_
  refine wx_ri j85_4 rfl rfl ?_
  exact ⟨rfl, rfl⟩
theorem sm_written (h : mb_is d l) : ax_E 122 [.ref 540] d (ax_Pi fun y d1 => y = nI l.length ∧ d1 = ax_up d 540 0 (nI 0)) := by
  show ax_W 122 0 [some (.ref 540)] [] d _
  refine wx_aldn j122_0 rfl ?_
  refine wx_icst (v := nI 0) j122_1 (by decide) ?_
  refine wx_put j122_2 rfl (Nat.le_of_ble_eq_true rfl) rfl rfl rfl ?_
  refine wx_aldn j122_5 rfl ?_
  refine wx_get (v := .int _) j122_6 rfl (Nat.le_of_ble_eq_true rfl) rfl ?_
  refine wx_ri j122_9 rfl rfl ?_
  exact ⟨by rw [up_nk (by decide)]; exact h.2.1, rfl⟩
theorem sm_taken {t : Nat} (h : d 540 22 = nI t) : ax_E 139 [.ref 540] d (ax_Pi fun y d1 => y = nI t ∧ d1 = ax_up d 540 0 (nI 0)) := by
  show ax_W 139 0 [some (.ref 540)] [] d _
  refine wx_aldn j139_0 rfl ?_
  refine wx_icst (v := nI 0) j139_1 (by decide) ?_
  refine wx_put j139_2 rfl (Nat.le_of_ble_eq_true rfl) rfl rfl rfl ?_
  refine wx_aldn j139_5 rfl ?_
  refine wx_get (v := .int _) j139_6 rfl (Nat.le_of_ble_eq_true rfl) rfl ?_
  refine wx_ri j139_9 rfl rfl ?_
  exact ⟨by rw [up_nk (by decide)]; exact h, rfl⟩
theorem mk_loop (h : mb_is d l) : ∀ n i (d1 : ax_D), l.length - i < n → i ≤ l.length → (∀ j, j < i → d1 561 j = nI (l.getD j 0)) → mss d d1 → d1 540 0 = nI 0 → ax_W 123 7 [some (.ref 540), some (.int (nI i))] [] d1 (ax_Pi fun y d2 => y = nI l.length ∧ ms_is d2 l ∧ d2 540 0 = nI 0 ∧ mss d d2) := by
  have l40 := h.1
  intro n
  induction n with
  | zero => intro i d1 h0; omega
  | succ n ih =>
    intro i d1 h0 hi hj hf h00
    have e19 : d1 540 19 = nI l.length := (hf 540 19 (by decide) (by decide)).trans h.2.1
    refine wx_ildn j123_7 rfl ?_
    refine wx_aldn j123_8 rfl ?_
    refine wx_get (v := .int _) j123_9 rfl (Nat.le_of_ble_eq_true rfl) rfl ?_
    rw [e19]
    refine wx_cmp 33 j123_12 (by decide) (fun c12 => ?_) (fun c12 => ?_)
    · simp only [ax_cn, Classical.not_not] at c12
      have hil : i = l.length := Nat.le_antisymm hi ((nI_leI (by omega) (by omega)).mp c12)
      refine wx_aldn j123_33 rfl ?_
      refine wx_aldn j123_34 rfl ?_
      refine wx_get (v := .int _) j123_35 rfl (Nat.le_of_ble_eq_true rfl) rfl ?_
      rw [e19]
      refine wx_put j123_38 rfl (Nat.le_of_ble_eq_true rfl) rfl rfl rfl ?_
      refine wx_aldn j123_41 rfl ?_
      refine wx_get (v := .int _) j123_42 rfl (Nat.le_of_ble_eq_true rfl) rfl ?_
      refine wx_ri j123_45 rfl rfl ?_
      exact ⟨by rw [up_at], ⟨l40, up_at _ _ _ _, fun j hj2 => (by rw [up_ni (by decide)]; exact hj j (by omega)), h.2.2.2⟩, by rw [up_nk (by decide)]; exact h00, mss_tr hf (mss_up (Or.inr rfl))⟩
    · simp only [ax_cn, Classical.not_not] at c12
      have hil : i < l.length := Nat.not_le.mp (fun q => c12 ((nI_leI (by omega) (by omega)).mpr q))
      refine wx_aldn j123_15 rfl ?_
      refine wx_get (v := .ref 561) j123_16 rfl (Nat.le_of_ble_eq_true rfl) rfl ?_
      refine wx_ildn j123_19 rfl ?_
      refine wx_aldn j123_20 rfl ?_
      refine wx_get (v := .ref 559) j123_21 rfl (Nat.le_of_ble_eq_true rfl) rfl ?_
      refine wx_ildn j123_24 rfl ?_
      refine wx_balx (i) j123_25 rfl rfl (by omega) (by decide) ?_
      rw [hf 559 i (by decide) (fun q => absurd q.1 (by decide)), h.2.2.1 i hil]
      refine wx_basx (i) j123_26 rfl rfl (by omega) (by decide) ?_
      refine wx_iinc (v := nI (i + 1)) (L' := [_, some (.int _)]) j123_27 rfl (nI_1 i) rfl ?_
      refine wx_goto 7 j123_30 (by decide) ?_
      refine ih (i + 1) _ (by omega) hil (fun j hj2 => ?_) (mss_tr hf mss_561) (by rw [up_ni (by decide)]; exact h00)
      rw [up_ap]
      by_cases hji : j = i
      · have h2 := h.2.2.2 _ (getD_mem hil)
        rw [if_pos ⟨rfl, hji⟩, hji]
        rcases (show l.getD i 0 = 0 ∨ l.getD i 0 = 1 by omega) with q | q <;> rw [q] <;> decide
      · rw [if_neg (fun q => hji q.2)]; exact hj j (by omega)
theorem sm_keep (h : mb_is d l) : ax_E 123 [.ref 540] d (ax_Pi fun y d2 => y = nI l.length ∧ ms_is d2 l ∧ d2 540 0 = nI 0 ∧ mss d d2) := by
  show ax_W 123 0 [some (.ref 540), none] [] d _
  refine wx_aldn j123_0 rfl ?_
  refine wx_icst (v := nI 0) j123_1 (by decide) ?_
  refine wx_put j123_2 rfl (Nat.le_of_ble_eq_true rfl) rfl rfl rfl ?_
  refine wx_icst (v := nI 0) j123_5 (by decide) ?_
  refine wx_istn (L' := [_, some (.int _)]) j123_6 (Nat.le_of_ble_eq_true rfl) rfl ?_
  exact mk_loop h (l.length + 1) 0 _ (by omega) (Nat.zero_le _) (fun j hj => absurd hj (Nat.not_lt_zero j)) (mss_up (Or.inl rfl)) (up_at _ _ _ _)
theorem sm_push {b : Nat} (h : ms_is d sl) (hb : b < 2) : ax_E 124 [.ref 540, .int (nI b)] d (ax_Pi fun y d1 => (4000 ≤ sl.length → d1 540 0 = nI 1 ∧ ms_is d1 sl) ∧ (sl.length < 4000 → d1 540 0 = nI 0 ∧ y = nI (sl.length + 1) ∧ ms_is d1 (sl ++ [b])) ∧ mss d d1) := by
  show ax_W 124 0 [some (.ref 540), some (.int (nI b))] [] d _
  have l40 := h.1
  refine wx_aldn j124_0 rfl ?_
  refine wx_aldn j124_1 rfl ?_
  refine wx_get (v := .int _) j124_2 rfl (Nat.le_of_ble_eq_true rfl) rfl ?_
  refine wx_spsh (v := nI 4000) j124_5 (by decide) ?_
  rw [h.2.1]
  refine wx_cmp 15 j124_8 (by decide) (fun c8 => ?_) (fun c8 => ?_)
  · simp only [ax_cn, Classical.not_not] at c8
    have hlt : sl.length < 4000 := (nI_ltI (by omega) (by decide)).mp c8
    refine wx_icst (v := nI 0) j124_15 (by decide) ?_
    refine wx_put j124_16 rfl (Nat.le_of_ble_eq_true rfl) rfl rfl rfl ?_
    refine wx_aldn j124_19 rfl ?_
    refine wx_get (v := .int _) j124_20 rfl (Nat.le_of_ble_eq_true rfl) rfl ?_
    rw [up_at]
    refine wx_if 28 j124_23 (by decide) (fun c23 => ?_) (fun c23 => ?_)
    · simp only [ax_cn, Classical.not_not] at c23
      have h23 := c23
      refine wx_aldn j124_28 rfl ?_
      refine wx_get (v := .ref 561) j124_29 rfl (Nat.le_of_ble_eq_true rfl) rfl ?_
      refine wx_aldn j124_32 rfl ?_
      refine wx_get (v := .int _) j124_33 rfl (Nat.le_of_ble_eq_true rfl) rfl ?_
      refine wx_ildn j124_36 rfl ?_
      rw [up_nk (by decide), h.2.1]
      refine wx_basx (sl.length) j124_37 rfl rfl (by omega) (by decide) ?_
      refine wx_aldn j124_38 rfl ?_
      refine wx_dupr j124_39 ?_
      refine wx_get (v := .int _) j124_40 rfl (Nat.le_of_ble_eq_true rfl) rfl ?_
      rw [up_ni (by decide), up_nk (by decide), h.2.1]
      refine wx_icst (v := nI 1) j124_43 (by decide) ?_
      refine wx_iadd j124_44 ?_
      rw [nI_add]
      refine wx_put j124_45 rfl (Nat.le_of_ble_eq_true rfl) rfl rfl rfl ?_
      refine wx_aldn j124_48 rfl ?_
      refine wx_get (v := .int _) j124_49 rfl (Nat.le_of_ble_eq_true rfl) rfl ?_
      refine wx_ri j124_52 rfl rfl ?_
      refine ⟨fun q => absurd q (by omega), fun _ => ⟨by rw [up_nk (by decide), up_ni (by decide), up_at], by rw [up_at], ?_, by rw [up_at, List.length_append]; rfl, fun i hi => ?_, fun e he => ?_⟩, mss_tr (mss_tr (mss_up (Or.inl rfl)) mss_561) (mss_up (Or.inr rfl))⟩
      · rw [List.length_append]; exact hlt
      · rw [up_ni (by decide), up_ap]
        by_cases hi2 : i = sl.length
        · subst hi2
          rw [if_pos ⟨rfl, rfl⟩, getD_app_1]
          rcases (show b = 0 ∨ b = 1 by omega) with q | q <;> rw [q] <;> decide
        · have hi3 : i < sl.length := by rw [List.length_append] at hi; simp at hi; omega
          rw [if_neg (fun q => hi2 q.2), getD_app_l hi3, up_ni (by decide)]
          exact h.2.2.1 i hi3
      · rcases List.mem_append.mp he with he | he
        · exact h.2.2.2 e he
        · rw [List.mem_singleton.mp he]; exact hb
    · simp only [ax_cn, Classical.not_not] at c23
      have h23 := c23
      refine wx_icst (v := nI 0) j124_26 (by decide) ?_
      refine wx_ri j124_27 rfl rfl ?_
      exact absurd (show nI 0 ≤ 0 by decide) h23
  · simp only [ax_cn, Classical.not_not] at c8
    have hge : 4000 ≤ sl.length := Nat.not_lt.mp (fun q => c8 ((nI_ltI (by omega) (by decide)).mpr q))
    refine wx_icst (v := nI 1) j124_11 (by decide) ?_
    refine wx_goto 16 j124_12 (by decide) ?_
    refine wx_put j124_16 rfl (Nat.le_of_ble_eq_true rfl) rfl rfl rfl ?_
    refine wx_aldn j124_19 rfl ?_
    refine wx_get (v := .int _) j124_20 rfl (Nat.le_of_ble_eq_true rfl) rfl ?_
    rw [up_at]
    refine wx_if 28 j124_23 (by decide) (fun c23 => ?_) (fun c23 => ?_)
    · simp only [ax_cn, Classical.not_not] at c23
      have h23 := c23
      exact absurd h23 (by decide)
    · simp only [ax_cn, Classical.not_not] at c23
      have h23 := c23
      refine wx_icst (v := nI 0) j124_26 (by decide) ?_
      refine wx_ri j124_27 rfl rfl ?_
      exact ⟨fun _ => ⟨up_at _ _ _ _, ms_up h (by decide)⟩, fun q => absurd q (by omega), mss_up (Or.inl rfl)⟩
theorem sm_bit (h : ms_is d sl) : ax_E 125 [.ref 540, .int x] d (ax_Pi fun y d1 => (∀ j, j < sl.length → x = nI j → d1 540 0 = nI 0 ∧ y = nI (sl.getD j 0)) ∧ (x < 0 ∨ nI sl.length ≤ x → d1 540 0 = nI 1) ∧ ms_is d1 sl ∧ mss d d1) := by
  show ax_W 125 0 [some (.ref 540), some (.int x)] [] d _
  have l40 := h.1
  refine wx_aldn j125_0 rfl ?_
  refine wx_ildn j125_1 rfl ?_
  refine wx_if 13 j125_2 (by decide) (fun c2 => ?_) (fun c2 => ?_)
  · simp only [ax_cn, Classical.not_not] at c2
    have h2 := c2
    refine wx_icst (v := nI 1) j125_13 (by decide) ?_
    refine wx_goto 18 j125_14 (by decide) ?_
    refine wx_put j125_18 rfl (Nat.le_of_ble_eq_true rfl) rfl rfl rfl ?_
    refine wx_aldn j125_21 rfl ?_
    refine wx_get (v := .int _) j125_22 rfl (Nat.le_of_ble_eq_true rfl) rfl ?_
    rw [up_at]
    refine wx_if 41 j125_25 (by decide) (fun c25 => ?_) (fun c25 => ?_)
    · simp only [ax_cn, Classical.not_not] at c25
      have h25 := c25
      refine wx_icst (v := nI 0) j125_41 (by decide) ?_
      refine wx_ri j125_42 rfl rfl ?_
      exact ⟨fun j hj e => absurd c2 (by rw [e]; exact nI_pos (by omega)), fun _ => up_at _ _ _ _, ms_up h (by decide), mss_up (Or.inl rfl)⟩
    · simp only [ax_cn, Classical.not_not] at c25
      have h25 := c25
      exact absurd h25 (by decide)
  · simp only [ax_cn, Classical.not_not] at c2
    have h2 := c2
    refine wx_ildn j125_5 rfl ?_
    refine wx_aldn j125_6 rfl ?_
    refine wx_get (v := .int _) j125_7 rfl (Nat.le_of_ble_eq_true rfl) rfl ?_
    rw [h.2.1]
    refine wx_cmp 17 j125_10 (by decide) (fun c10 => ?_) (fun c10 => ?_)
    · simp only [ax_cn, Classical.not_not] at c10
      have h10 := c10
      refine wx_icst (v := nI 0) j125_17 (by decide) ?_
      refine wx_put j125_18 rfl (Nat.le_of_ble_eq_true rfl) rfl rfl rfl ?_
      refine wx_aldn j125_21 rfl ?_
      refine wx_get (v := .int _) j125_22 rfl (Nat.le_of_ble_eq_true rfl) rfl ?_
      rw [up_at]
      refine wx_if 41 j125_25 (by decide) (fun c25 => ?_) (fun c25 => ?_)
      · simp only [ax_cn, Classical.not_not] at c25
        have h25 := c25
        refine wx_icst (v := nI 0) j125_41 (by decide) ?_
        refine wx_ri j125_42 rfl rfl ?_
        exact absurd rfl h25
      · simp only [ax_cn, Classical.not_not] at c25
        have h25 := c25
        obtain ⟨j, hj, rfl⟩ : ∃ j, j < sl.length ∧ x = nI j := by
          rcases pk_ix x (show sl.length < 2 ^ 31 by omega) with q | q | q
          · exact absurd q h2
          · exact absurd h10 (Int32.not_lt.mpr q)
          · exact q
        refine wx_aldn j125_28 rfl ?_
        refine wx_get (v := .ref 561) j125_29 rfl (Nat.le_of_ble_eq_true rfl) rfl ?_
        refine wx_ildn j125_32 rfl ?_
        refine wx_balx (j) j125_33 rfl rfl (by omega) (by decide) ?_
        rw [up_ni (by decide), h.2.2.1 j hj]
        refine wx_if 41 j125_34 (by decide) (fun c34 => ?_) (fun c34 => ?_)
        · simp only [ax_cn, Classical.not_not] at c34
          have hb : sl.getD j 0 = 0 := (nI_eq (by have := h.2.2.2 _ (getD_mem hj); omega) (by decide)).mp (c34.trans nI_0.symm)
          refine wx_icst (v := nI 0) j125_41 (by decide) ?_
          refine wx_ri j125_42 rfl rfl ?_
          exact ⟨fun j2 hj2 e2 => ⟨up_at _ _ _ _, by rw [← (nI_eq (by omega) (by omega)).mp e2, hb]⟩, fun q => absurd q (by rintro (q | q); exact absurd q (nI_pos (by omega)); exact absurd ((nI_leI (by omega) (by omega)).mp q) (by omega)), ms_up h (by decide), mss_up (Or.inl rfl)⟩
        · simp only [ax_cn, Classical.not_not] at c34
          have hb : sl.getD j 0 = 1 := by
            have q2 := h.2.2.2 _ (getD_mem hj)
            have : ¬ sl.getD j 0 = 0 := fun q => c34 (by rw [q]; rfl)
            omega
          refine wx_icst (v := nI 1) j125_37 (by decide) ?_
          refine wx_goto 42 j125_38 (by decide) ?_
          refine wx_ri j125_42 rfl rfl ?_
          exact ⟨fun j2 hj2 e2 => ⟨up_at _ _ _ _, by rw [← (nI_eq (by omega) (by omega)).mp e2, hb]⟩, fun q => absurd q (by rintro (q | q); exact absurd q (nI_pos (by omega)); exact absurd ((nI_leI (by omega) (by omega)).mp q) (by omega)), ms_up h (by decide), mss_up (Or.inl rfl)⟩
    · simp only [ax_cn, Classical.not_not] at c10
      have h10 := c10
      refine wx_icst (v := nI 1) j125_13 (by decide) ?_
      refine wx_goto 18 j125_14 (by decide) ?_
      refine wx_put j125_18 rfl (Nat.le_of_ble_eq_true rfl) rfl rfl rfl ?_
      refine wx_aldn j125_21 rfl ?_
      refine wx_get (v := .int _) j125_22 rfl (Nat.le_of_ble_eq_true rfl) rfl ?_
      rw [up_at]
      refine wx_if 41 j125_25 (by decide) (fun c25 => ?_) (fun c25 => ?_)
      · simp only [ax_cn, Classical.not_not] at c25
        have h25 := c25
        refine wx_icst (v := nI 0) j125_41 (by decide) ?_
        refine wx_ri j125_42 rfl rfl ?_
        exact ⟨fun j hj e => absurd ((nI_ltI (by omega) (by omega)).mpr hj) (by rw [← e]; exact h10), fun _ => up_at _ _ _ _, ms_up h (by decide), mss_up (Or.inl rfl)⟩
      · simp only [ax_cn, Classical.not_not] at c25
        have h25 := c25
        exact absurd h25 (by decide)
theorem set_len {j : Nat} {a : Nat} : (sl.set j a).length = sl.length := List.length_set
theorem sm_flip (h : ms_is d sl) : ax_E 126 [.ref 540, .int x] d (ax_Pv fun d1 => (∀ j, j < sl.length → x = nI j → d1 540 0 = nI 0 ∧ ms_is d1 (sl.set j (1 - sl.getD j 0))) ∧ (x < 0 ∨ nI sl.length ≤ x → d1 540 0 = nI 1 ∧ ms_is d1 sl) ∧ mss d d1) := by
  show ax_W 126 0 [some (.ref 540), some (.int x)] [] d _
  have l40 := h.1
  refine wx_aldn j126_0 rfl ?_
  refine wx_ildn j126_1 rfl ?_
  refine wx_if 13 j126_2 (by decide) (fun c2 => ?_) (fun c2 => ?_)
  · simp only [ax_cn, Classical.not_not] at c2
    have h2 := c2
    refine wx_icst (v := nI 1) j126_13 (by decide) ?_
    refine wx_goto 18 j126_14 (by decide) ?_
    refine wx_put j126_18 rfl (Nat.le_of_ble_eq_true rfl) rfl rfl rfl ?_
    refine wx_aldn j126_21 rfl ?_
    refine wx_get (v := .int _) j126_22 rfl (Nat.le_of_ble_eq_true rfl) rfl ?_
    rw [up_at]
    refine wx_if 48 j126_25 (by decide) (fun c25 => ?_) (fun c25 => ?_)
    · simp only [ax_cn, Classical.not_not] at c25
      have h25 := c25
      refine wx_rv j126_48 rfl ?_
      exact ⟨fun j hj e => absurd c2 (by rw [e]; exact nI_pos (by omega)), fun _ => ⟨up_at _ _ _ _, ms_up h (by decide)⟩, mss_up (Or.inl rfl)⟩
    · simp only [ax_cn, Classical.not_not] at c25
      have h25 := c25
      exact absurd h25 (by decide)
  · simp only [ax_cn, Classical.not_not] at c2
    have h2 := c2
    refine wx_ildn j126_5 rfl ?_
    refine wx_aldn j126_6 rfl ?_
    refine wx_get (v := .int _) j126_7 rfl (Nat.le_of_ble_eq_true rfl) rfl ?_
    rw [h.2.1]
    refine wx_cmp 17 j126_10 (by decide) (fun c10 => ?_) (fun c10 => ?_)
    · simp only [ax_cn, Classical.not_not] at c10
      have h10 := c10
      refine wx_icst (v := nI 0) j126_17 (by decide) ?_
      refine wx_put j126_18 rfl (Nat.le_of_ble_eq_true rfl) rfl rfl rfl ?_
      refine wx_aldn j126_21 rfl ?_
      refine wx_get (v := .int _) j126_22 rfl (Nat.le_of_ble_eq_true rfl) rfl ?_
      rw [up_at]
      refine wx_if 48 j126_25 (by decide) (fun c25 => ?_) (fun c25 => ?_)
      · simp only [ax_cn, Classical.not_not] at c25
        have h25 := c25
        refine wx_rv j126_48 rfl ?_
        exact absurd rfl h25
      · simp only [ax_cn, Classical.not_not] at c25
        have h25 := c25
        obtain ⟨j, hj, rfl⟩ : ∃ j, j < sl.length ∧ x = nI j := by
          rcases pk_ix x (show sl.length < 2 ^ 31 by omega) with q | q | q
          · exact absurd q h2
          · exact absurd h10 (Int32.not_lt.mpr q)
          · exact q
        refine wx_aldn j126_28 rfl ?_
        refine wx_get (v := .ref 561) j126_29 rfl (Nat.le_of_ble_eq_true rfl) rfl ?_
        refine wx_ildn j126_32 rfl ?_
        refine wx_aldn j126_33 rfl ?_
        refine wx_get (v := .ref 561) j126_34 rfl (Nat.le_of_ble_eq_true rfl) rfl ?_
        refine wx_ildn j126_37 rfl ?_
        refine wx_balx (j) j126_38 rfl rfl (by omega) (by decide) ?_
        rw [up_ni (by decide), h.2.2.1 j hj]
        refine wx_if 46 j126_39 (by decide) (fun c39 => ?_) (fun c39 => ?_)
        · simp only [ax_cn, Classical.not_not] at c39
          have hb : sl.getD j 0 = 1 := by
            have q2 := h.2.2.2 _ (getD_mem hj)
            have : ¬ sl.getD j 0 = 0 := fun q => c39 (by rw [q]; rfl)
            omega
          refine wx_icst (v := nI 0) j126_46 (by decide) ?_
          refine wx_basx (j) j126_47 rfl rfl (by omega) (by decide) ?_
          refine wx_rv j126_48 rfl ?_
          refine ⟨fun j2 hj2 e2 => ⟨by rw [up_ni (by decide), up_at], ?_⟩, fun q => absurd q (by rintro (q | q); exact absurd q (nI_pos (by omega)); exact absurd ((nI_leI (by omega) (by omega)).mp q) (by omega)), mss_tr (mss_up (Or.inl rfl)) mss_561⟩
          obtain rfl := (nI_eq (by omega) (by omega)).mp e2
          refine ⟨by rw [set_len]; exact l40, by rw [up_ni (by decide), up_nk (by decide), set_len]; exact h.2.1, fun i hi => ?_, fun e he => ?_⟩
          · rw [set_len] at hi
            rw [up_ap, List.getD_eq_getElem?_getD, List.getElem?_set]
            by_cases hji : j = i
            · rw [if_pos ⟨rfl, hji.symm⟩, if_pos hji, if_pos hj, hb]; decide
            · rw [if_neg (fun q => hji q.2.symm), if_neg hji, up_ni (by decide), h.2.2.1 i hi, List.getD_eq_getElem?_getD]
          · rcases List.mem_or_eq_of_mem_set he with he | he
            · exact h.2.2.2 e he
            · omega
        · simp only [ax_cn, Classical.not_not] at c39
          have hb : sl.getD j 0 = 0 := (nI_eq (by have := h.2.2.2 _ (getD_mem hj); omega) (by decide)).mp (c39.trans nI_0.symm)
          refine wx_icst (v := nI 1) j126_42 (by decide) ?_
          refine wx_goto 47 j126_43 (by decide) ?_
          refine wx_basx (j) j126_47 rfl rfl (by omega) (by decide) ?_
          refine wx_rv j126_48 rfl ?_
          refine ⟨fun j2 hj2 e2 => ⟨by rw [up_ni (by decide), up_at], ?_⟩, fun q => absurd q (by rintro (q | q); exact absurd q (nI_pos (by omega)); exact absurd ((nI_leI (by omega) (by omega)).mp q) (by omega)), mss_tr (mss_up (Or.inl rfl)) mss_561⟩
          obtain rfl := (nI_eq (by omega) (by omega)).mp e2
          refine ⟨by rw [set_len]; exact l40, by rw [up_ni (by decide), up_nk (by decide), set_len]; exact h.2.1, fun i hi => ?_, fun e he => ?_⟩
          · rw [set_len] at hi
            rw [up_ap, List.getD_eq_getElem?_getD, List.getElem?_set]
            by_cases hji : j = i
            · rw [if_pos ⟨rfl, hji.symm⟩, if_pos hji, if_pos hj, hb]; decide
            · rw [if_neg (fun q => hji q.2.symm), if_neg hji, up_ni (by decide), h.2.2.1 i hi, List.getD_eq_getElem?_getD]
          · rcases List.mem_or_eq_of_mem_set he with he | he
            · exact h.2.2.2 e he
            · omega
    · simp only [ax_cn, Classical.not_not] at c10
      have h10 := c10
      refine wx_icst (v := nI 1) j126_13 (by decide) ?_
      refine wx_goto 18 j126_14 (by decide) ?_
      refine wx_put j126_18 rfl (Nat.le_of_ble_eq_true rfl) rfl rfl rfl ?_
      refine wx_aldn j126_21 rfl ?_
      refine wx_get (v := .int _) j126_22 rfl (Nat.le_of_ble_eq_true rfl) rfl ?_
      rw [up_at]
      refine wx_if 48 j126_25 (by decide) (fun c25 => ?_) (fun c25 => ?_)
      · simp only [ax_cn, Classical.not_not] at c25
        have h25 := c25
        refine wx_rv j126_48 rfl ?_
        exact ⟨fun j hj e => absurd ((nI_ltI (by omega) (by omega)).mpr hj) (by rw [← e]; exact h10), fun _ => ⟨up_at _ _ _ _, ms_up h (by decide)⟩, mss_up (Or.inl rfl)⟩
      · simp only [ax_cn, Classical.not_not] at c25
        have h25 := c25
        exact absurd h25 (by decide)
theorem sm_cut (h : ms_is d sl) : ax_E 127 [.ref 540, .int x] d (ax_Pv fun d1 => (∀ j, j ≤ sl.length → x = nI j → d1 540 0 = nI 0 ∧ ms_is d1 (sl.take j)) ∧ (x < 0 ∨ nI (sl.length + 1) ≤ x → d1 540 0 = nI 1 ∧ ms_is d1 sl) ∧ mss d d1) := by
  show ax_W 127 0 [some (.ref 540), some (.int x)] [] d _
  have l40 := h.1
  have e0 : x < 0 ∨ nI (sl.length + 1) ≤ x ∨ ∃ j, j < sl.length + 1 ∧ x = nI j := pk_ix x (by omega)
  refine wx_aldn j127_0 rfl ?_
  refine wx_ildn j127_1 rfl ?_
  refine wx_if 13 j127_2 (by decide) (fun c2 => ?_) (fun c2 => ?_)
  · simp only [ax_cn, Classical.not_not] at c2
    have h2 := c2
    refine wx_icst (v := nI 1) j127_13 (by decide) ?_
    refine wx_goto 18 j127_14 (by decide) ?_
    refine wx_put j127_18 rfl (Nat.le_of_ble_eq_true rfl) rfl rfl rfl ?_
    refine wx_aldn j127_21 rfl ?_
    refine wx_get (v := .int _) j127_22 rfl (Nat.le_of_ble_eq_true rfl) rfl ?_
    rw [up_at]
    refine wx_if 33 j127_25 (by decide) (fun c25 => ?_) (fun c25 => ?_)
    · simp only [ax_cn, Classical.not_not] at c25
      have h25 := c25
      refine wx_rv j127_33 rfl ?_
      exact ⟨fun j hj e => absurd c2 (by rw [e]; exact nI_pos (by omega)), fun _ => ⟨up_at _ _ _ _, ms_up h (by decide)⟩, mss_up (Or.inl rfl)⟩
    · simp only [ax_cn, Classical.not_not] at c25
      have h25 := c25
      exact absurd h25 (by decide)
  · simp only [ax_cn, Classical.not_not] at c2
    have h2 := c2
    refine wx_ildn j127_5 rfl ?_
    refine wx_aldn j127_6 rfl ?_
    refine wx_get (v := .int _) j127_7 rfl (Nat.le_of_ble_eq_true rfl) rfl ?_
    rw [h.2.1]
    refine wx_cmp 17 j127_10 (by decide) (fun c10 => ?_) (fun c10 => ?_)
    · simp only [ax_cn, Classical.not_not] at c10
      have h10 := c10
      refine wx_icst (v := nI 0) j127_17 (by decide) ?_
      refine wx_put j127_18 rfl (Nat.le_of_ble_eq_true rfl) rfl rfl rfl ?_
      refine wx_aldn j127_21 rfl ?_
      refine wx_get (v := .int _) j127_22 rfl (Nat.le_of_ble_eq_true rfl) rfl ?_
      rw [up_at]
      refine wx_if 33 j127_25 (by decide) (fun c25 => ?_) (fun c25 => ?_)
      · simp only [ax_cn, Classical.not_not] at c25
        have h25 := c25
        refine wx_rv j127_33 rfl ?_
        exact absurd rfl h25
      · simp only [ax_cn, Classical.not_not] at c25
        have h25 := c25
        obtain ⟨j, hj, rfl⟩ : ∃ j, j < sl.length + 1 ∧ x = nI j := by
          rcases e0 with q | q | q
          · exact absurd q h2
          · exact absurd (Int32.le_trans q h10) (fun z => absurd ((nI_leI (by omega) (by omega)).mp z) (by omega))
          · exact q
        refine wx_aldn j127_28 rfl ?_
        refine wx_ildn j127_29 rfl ?_
        refine wx_put j127_30 rfl (Nat.le_of_ble_eq_true rfl) rfl rfl rfl ?_
        refine wx_rv j127_33 rfl ?_
        refine ⟨fun j2 hj2 e2 => ⟨by rw [up_nk (by decide), up_at], ?_⟩, fun q => absurd q (by rintro (q | q); exact absurd q (nI_pos (by omega)); exact absurd ((nI_leI (by omega) (by omega)).mp q) (by omega)), mss_tr (mss_up (Or.inl rfl)) (mss_up (Or.inr rfl))⟩
        obtain rfl := (nI_eq (by omega) (by omega)).mp e2
        have hle : (sl.take j).length = j := by rw [List.length_take]; omega
        refine ⟨by omega, by rw [up_at, hle], fun i hi => ?_, fun e he => h.2.2.2 e (List.mem_of_mem_take he)⟩
        rw [hle] at hi
        rw [up_ni (by decide), up_ni (by decide), h.2.2.1 i (by omega), List.getD_eq_getElem?_getD, List.getD_eq_getElem?_getD, List.getElem?_take, if_pos hi]
    · simp only [ax_cn, Classical.not_not] at c10
      have h10 := c10
      refine wx_icst (v := nI 1) j127_13 (by decide) ?_
      refine wx_goto 18 j127_14 (by decide) ?_
      refine wx_put j127_18 rfl (Nat.le_of_ble_eq_true rfl) rfl rfl rfl ?_
      refine wx_aldn j127_21 rfl ?_
      refine wx_get (v := .int _) j127_22 rfl (Nat.le_of_ble_eq_true rfl) rfl ?_
      rw [up_at]
      refine wx_if 33 j127_25 (by decide) (fun c25 => ?_) (fun c25 => ?_)
      · simp only [ax_cn, Classical.not_not] at c25
        have h25 := c25
        refine wx_rv j127_33 rfl ?_
        exact ⟨fun j hj e => absurd ((nI_leI (by omega) (by omega)).mpr hj) (by rw [← e]; exact h10), fun _ => ⟨up_at _ _ _ _, ms_up h (by decide)⟩, mss_up (Or.inl rfl)⟩
      · simp only [ax_cn, Classical.not_not] at c25
        have h25 := c25
        exact absurd h25 (by decide)
end MH
