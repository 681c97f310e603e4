/-! THE REFERENCE reads: bits, places, numbers, letters. Field 22: taken; 23: wrong. -/
def ms_is (d : ax_D) (sl : List Nat) : Prop := sl.length ≤ 4000 ∧ d 540 21 = nI sl.length ∧ (∀ i, i < sl.length → d 561 i = nI (sl.getD i 0)) ∧ ∀ e, e ∈ sl → e < 2
def mtk (d d1 : ax_D) : Prop := ∀ id i, ¬ (id = 540 ∧ (i = 22 ∨ i = 23)) → d1 id i = d id i
theorem mtk_rf (d : ax_D) : mtk d d := fun _ _ _ => rfl
theorem mtk_tr {d d1 d2 : ax_D} (h : mtk d d1) (h2 : mtk d1 d2) : mtk d d2 := fun id i a => (h2 id i a).trans (h id i a)
theorem mtk_id {d d1 : ax_D} {id : Nat} (h : mtk d d1) (hi : id ≠ 540) : d1 id = d id := funext fun i => h id i (fun q => hi q.1)
theorem mtk_up {d : ax_D} {i : Nat} {x : Int32} (h : i = 22 ∨ i = 23) : mtk d (ax_up d 540 i x) := by
  intro id j hn
  rw [up_ap, if_neg]
  rintro ⟨rfl, rfl⟩
  exact hn ⟨rfl, h⟩
theorem ms_tk {d d1 : ax_D} {sl : List Nat} (h : ms_is d sl) (hf : mtk d d1) : ms_is d1 sl := by
  unfold ms_is
  rw [hf 540 21 (by decide), mtk_id hf (id := 561) (by decide)]
  exact h
theorem mt_tk {d d1 : ax_D} {c : Nat} {T : TT} (h : mt_is d c T) (hf : mtk d d1) : mt_is d1 c T := by
  unfold mt_is sg
  rw [mtk_id hf (id := 542) (by decide), mtk_id hf (id := 543) (by decide), mtk_id hf (id := 544) (by decide), mtk_id hf (id := 545) (by decide), mtk_id hf (id := 546) (by decide), mtk_id hf (id := 547) (by decide), mtk_id hf (id := 548) (by decide), mtk_id hf (id := 549) (by decide), mtk_id hf (id := 550) (by decide), mtk_id hf (id := 551) (by decide), mtk_id hf (id := 552) (by decide), mtk_id hf (id := 553) (by decide), mtk_id hf (id := 554) (by decide)]
  exact h
theorem mg_tk {d d1 : ax_D} {c n : Nat} {nm : Nat → Nat} {fl : Nat → Bool} {b : Bool} (h : mg_is d c n nm fl b) (hf : mtk d d1) : mg_is d1 c n nm fl b := mg_id h (mtk_id hf (by decide)) (mtk_id hf (by decide)) (mtk_id hf (by decide)) (mtk_id hf (by decide))
def rPx (r : Option Nat × Nat) (m : Nat) : Option Nat × Nat := match r with
  | (some v, t1) => if v < m then (some v, t1) else (none, t1)
  | (none, t1) => (none, t1)
theorem rP_x (sl : List Nat) (m t : Nat) : rP sl m t = rPx (rB sl (wd m) 0 t) m := rfl
/-- taken, wrong -/
def mr (d : ax_D) (t : Nat) (w : Bool) : Prop := d 540 22 = nI t ∧ d 540 23 = bB w
section MB
variable {d : ax_D} {sl : List Nat} {t : Nat}
theorem sm_takeBit (hs : ms_is d sl) (hr : mr d t false) (ht : t ≤ sl.length) : ax_E 128 [.ref 540] d (ax_Pi fun y d1 => (t < sl.length → y = nI (sl.getD t 0) ∧ mr d1 (t + 1) false) ∧ (¬ t < sl.length → y = nI 0 ∧ mr d1 t true) ∧ mtk d d1) := by
  show ax_W 128 0 [some (.ref 540)] [] d _
  have l40 := hs.1
  refine wx_aldn j128_0 rfl ?_
  refine wx_aldn j128_1 rfl ?_
  refine wx_get (v := .int _) j128_2 rfl (Nat.le_of_ble_eq_true rfl) rfl ?_
  rw [hr.2]
  refine wx_if 19 j128_5 (by decide) (fun c5 => ?_) (fun c5 => ?_)
  · simp only [ax_cn, Classical.not_not] at c5
    exact absurd rfl c5
  · simp only [ax_cn, Classical.not_not] at c5
    refine wx_aldn j128_8 rfl ?_
    refine wx_get (v := .int _) j128_9 rfl (Nat.le_of_ble_eq_true rfl) rfl ?_
    refine wx_aldn j128_12 rfl ?_
    refine wx_get (v := .int _) j128_13 rfl (Nat.le_of_ble_eq_true rfl) rfl ?_
    rw [hr.1, hs.2.1]
    refine wx_cmp 23 j128_16 (by decide) (fun c16 => ?_) (fun c16 => ?_)
    · simp only [ax_cn, Classical.not_not] at c16
      have hlt : t < sl.length := Nat.lt_of_le_of_ne ht (fun q => c16 (by rw [q]))
      refine wx_icst (v := nI 0) j128_23 (by decide) ?_
      refine wx_put j128_24 rfl (Nat.le_of_ble_eq_true rfl) rfl rfl rfl ?_
      refine wx_aldn j128_27 rfl ?_
      refine wx_get (v := .int _) j128_28 rfl (Nat.le_of_ble_eq_true rfl) rfl ?_
      rw [up_at]
      refine wx_if 36 j128_31 (by decide) (fun c31 => ?_) (fun c31 => ?_)
      · simp only [ax_cn, Classical.not_not] at c31
        have h31 := c31
        refine wx_aldn j128_36 rfl ?_
        refine wx_dupr j128_37 ?_
        refine wx_get (v := .int _) j128_38 rfl (Nat.le_of_ble_eq_true rfl) rfl ?_
        refine wx_icst (v := nI 1) j128_41 (by decide) ?_
        rw [up_nk (by decide), hr.1]
        refine wx_iadd j128_42 ?_
        rw [nI_add]
        refine wx_put j128_43 rfl (Nat.le_of_ble_eq_true rfl) rfl rfl rfl ?_
        refine wx_aldn j128_46 rfl ?_
        refine wx_get (v := .ref 561) j128_47 rfl (Nat.le_of_ble_eq_true rfl) rfl ?_
        refine wx_aldn j128_50 rfl ?_
        refine wx_get (v := .int _) j128_51 rfl (Nat.le_of_ble_eq_true rfl) rfl ?_
        refine wx_icst (v := nI 1) j128_54 (by decide) ?_
        rw [up_at]
        refine wx_isub j128_55 ?_
        rw [nI_s1]
        refine wx_balx (t) j128_56 rfl rfl (by omega) (by decide) ?_
        rw [up_ni (by decide), up_ni (by decide), hs.2.2.1 t hlt]
        refine wx_if 64 j128_57 (by decide) (fun c57 => ?_) (fun c57 => ?_)
        · simp only [ax_cn, Classical.not_not] at c57
          have hb0 : sl.getD t 0 = 0 := (nI_eq (by have := hs.2.2.2 _ (getD_mem hlt); omega) (by decide)).mp (c57.trans nI_0.symm)
          refine wx_icst (v := nI 0) j128_64 (by decide) ?_
          refine wx_ri j128_65 rfl rfl ?_
          exact ⟨fun _ => ⟨by rw [hb0], by rw [up_at], by rw [up_nk (by decide), up_at]; rfl⟩, fun q => absurd hlt q, mtk_tr (mtk_up (Or.inr rfl)) (mtk_up (Or.inl rfl))⟩
        · simp only [ax_cn, Classical.not_not] at c57
          have hb1 : sl.getD t 0 = 1 := by
            have h2 := hs.2.2.2 _ (getD_mem hlt)
            have : ¬ sl.getD t 0 = 0 := fun q => c57 (by rw [q]; rfl)
            omega
          refine wx_icst (v := nI 1) j128_60 (by decide) ?_
          refine wx_goto 65 j128_61 (by decide) ?_
          refine wx_ri j128_65 rfl rfl ?_
          exact ⟨fun _ => ⟨by rw [hb1], by rw [up_at], by rw [up_nk (by decide), up_at]; rfl⟩, fun q => absurd hlt q, mtk_tr (mtk_up (Or.inr rfl)) (mtk_up (Or.inl rfl))⟩
      · simp only [ax_cn, Classical.not_not] at c31
        have h31 := c31
        refine wx_icst (v := nI 0) j128_34 (by decide) ?_
        refine wx_ri j128_35 rfl rfl ?_
        exact absurd rfl h31
    · simp only [ax_cn, Classical.not_not] at c16
      have hnl : ¬ t < sl.length := fun q => absurd ((nI_eq (by omega) (by omega)).mp c16) (by omega)
      refine wx_icst (v := nI 1) j128_19 (by decide) ?_
      refine wx_goto 24 j128_20 (by decide) ?_
      refine wx_put j128_24 rfl (Nat.le_of_ble_eq_true rfl) rfl rfl rfl ?_
      refine wx_aldn j128_27 rfl ?_
      refine wx_get (v := .int _) j128_28 rfl (Nat.le_of_ble_eq_true rfl) rfl ?_
      rw [up_at]
      refine wx_if 36 j128_31 (by decide) (fun c31 => ?_) (fun c31 => ?_)
      · simp only [ax_cn, Classical.not_not] at c31
        have h31 := c31
        exact absurd h31 (by decide)
      · simp only [ax_cn, Classical.not_not] at c31
        have h31 := c31
        refine wx_icst (v := nI 0) j128_34 (by decide) ?_
        refine wx_ri j128_35 rfl rfl ?_
        exact ⟨fun q => absurd q hnl, fun _ => ⟨rfl, by rw [up_nk (by decide)]; exact hr.1, by rw [up_at]; rfl⟩, mtk_up (Or.inr rfl)⟩
theorem sm_takeBitB (hr : mr d t true) : ax_E 128 [.ref 540] d (ax_Pi fun y d1 => y = nI 0 ∧ mr d1 t true ∧ mtk d d1) := by
  show ax_W 128 0 [some (.ref 540)] [] d _
  refine wx_aldn j128_0 rfl ?_
  refine wx_aldn j128_1 rfl ?_
  refine wx_get (v := .int _) j128_2 rfl (Nat.le_of_ble_eq_true rfl) rfl ?_
  rw [hr.2]
  refine wx_if 19 j128_5 (by decide) (fun c5 => ?_) (fun c5 => ?_)
  · simp only [ax_cn, Classical.not_not] at c5
    refine wx_icst (v := nI 1) j128_19 (by decide) ?_
    refine wx_goto 24 j128_20 (by decide) ?_
    refine wx_put j128_24 rfl (Nat.le_of_ble_eq_true rfl) rfl rfl rfl ?_
    refine wx_aldn j128_27 rfl ?_
    refine wx_get (v := .int _) j128_28 rfl (Nat.le_of_ble_eq_true rfl) rfl ?_
    rw [up_at]
    refine wx_if 36 j128_31 (by decide) (fun c31 => ?_) (fun c31 => ?_)
    · simp only [ax_cn, Classical.not_not] at c31
      exact absurd c31 (by decide)
    · simp only [ax_cn, Classical.not_not] at c31
      refine wx_icst (v := nI 0) j128_34 (by decide) ?_
      refine wx_ri j128_35 rfl rfl ?_
      exact ⟨rfl, ⟨by rw [up_nk (by decide)]; exact hr.1, by rw [up_at]; rfl⟩, mtk_up (Or.inr rfl)⟩
  · simp only [ax_cn, Classical.not_not] at c5
    exact absurd c5 (by decide)
theorem mtp_B {m : Nat} (hm : m ≤ 32) : ∀ g i x (d1 : ax_D), 6 - i < g → i ≤ wd m → mr d1 t true → mtk d d1 → ax_W 129 4 [some (.ref 540), some (.int (nI m)), some (.int x), some (.int (nI (2 ^ i)))] [] d1 (ax_Pi fun y d2 => y = nI 0 ∧ mr d2 t true ∧ mtk d d2) := by
  have h5 := wd_5 m
  intro g
  induction g with
  | zero => intro i x d1 h0; omega
  | succ g ih =>
    intro i x d1 h0 hi hr hf
    have hp : 2 ^ i < 2 ^ 31 := Nat.pow_lt_pow_right (by decide) (by omega)
    refine wx_ildn j129_4 rfl ?_
    refine wx_ildn j129_5 rfl ?_
    refine wx_cmp 25 j129_6 (by decide) (fun c6 => ?_) (fun c6 => ?_)
    · simp only [ax_cn, Classical.not_not] at c6
      refine wx_aldn j129_25 rfl ?_
      refine wx_aldn j129_26 rfl ?_
      refine wx_get (v := .int _) j129_27 rfl (Nat.le_of_ble_eq_true rfl) rfl ?_
      rw [hr.2]
      refine wx_if 38 j129_30 (by decide) (fun c30 => ?_) (fun c30 => ?_)
      · simp only [ax_cn, Classical.not_not] at c30
        refine wx_icst (v := nI 1) j129_38 (by decide) ?_
        refine wx_goto 43 j129_39 (by decide) ?_
        refine wx_put j129_43 rfl (Nat.le_of_ble_eq_true rfl) rfl rfl rfl ?_
        refine wx_aldn j129_46 rfl ?_
        refine wx_get (v := .int _) j129_47 rfl (Nat.le_of_ble_eq_true rfl) rfl ?_
        rw [up_at]
        refine wx_if 57 j129_50 (by decide) (fun c50 => ?_) (fun c50 => ?_)
        · simp only [ax_cn, Classical.not_not] at c50
          exact absurd c50 (by decide)
        · simp only [ax_cn, Classical.not_not] at c50
          refine wx_icst (v := nI 0) j129_53 (by decide) ?_
          refine wx_goto 58 j129_54 (by decide) ?_
          refine wx_ri j129_58 rfl rfl ?_
          exact ⟨rfl, ⟨by rw [up_nk (by decide)]; exact hr.1, by rw [up_at]; rfl⟩, mtk_tr hf (mtk_up (Or.inr rfl))⟩
      · simp only [ax_cn, Classical.not_not] at c30
        exact absurd c30 (by decide)
    · simp only [ax_cn, Classical.not_not] at c6
      have hil : i < wd m := wd_lt (fun q => c6 ((nI_leI (by omega) hp).mpr q)) hm
      refine wx_icst (v := nI 2) j129_9 (by decide) ?_
      refine wx_ildn j129_10 rfl ?_
      refine wx_imul j129_11 ?_
      refine wx_aldn j129_12 rfl ?_
      refine wx_i0 j129_13 rfl  (Nat.le_of_ble_eq_true rfl) rfl (sm_takeBitB hr) ?_
      rintro _ d2 ⟨rfl, r2, f2⟩
      refine wx_iadd j129_16 ?_
      refine wx_istn (L' := [_, _, some (.int _), _]) j129_17 (Nat.le_of_ble_eq_true rfl) rfl ?_
      refine wx_icst (v := nI 2) j129_18 (by decide) ?_
      refine wx_ildn j129_19 rfl ?_
      refine wx_imul j129_20 ?_
      rw [pk_mul, ← Nat.pow_succ']
      refine wx_istn (L' := [_, _, _, some (.int _)]) j129_21 (Nat.le_of_ble_eq_true rfl) rfl ?_
      refine wx_goto 4 j129_22 (by decide) ?_
      exact ih (i + 1) _ d2 (by omega) hil r2 (mtk_tr hf f2)
theorem mtp_A {m : Nat} (hs : ms_is d sl) (hm : m ≤ 32) : ∀ w i acc t (d1 : ax_D), i + w = wd m → acc < 2 ^ i → t ≤ sl.length → mr d1 t false → mtk d d1 → ax_W 129 4 [some (.ref 540), some (.int (nI m)), some (.int (nI acc)), some (.int (nI (2 ^ i)))] [] d1 (ax_Pi fun y d2 => y = nI ((rPx (rB sl w acc t) m).1.getD 0) ∧ mr d2 (rPx (rB sl w acc t) m).2 (rPx (rB sl w acc t) m).1.isNone ∧ mtk d d2) := by
  have h5 := wd_5 m
  intro w
  induction w with
  | zero =>
    intro i acc t d1 hi ha ht hr hf
    have hp : 2 ^ i < 2 ^ 31 := Nat.pow_lt_pow_right (by decide) (by omega)
    have hp5 : 2 ^ i ≤ 2 ^ 5 := Nat.pow_le_pow_right (by decide) (by omega)
    have e : rB sl 0 acc t = (some acc, t) := rfl
    rw [e]
    refine wx_ildn j129_4 rfl ?_
    refine wx_ildn j129_5 rfl ?_
    refine wx_cmp 25 j129_6 (by decide) (fun c6 => ?_) (fun c6 => ?_)
    · simp only [ax_cn, Classical.not_not] at c6
      refine wx_aldn j129_25 rfl ?_
      refine wx_aldn j129_26 rfl ?_
      refine wx_get (v := .int _) j129_27 rfl (Nat.le_of_ble_eq_true rfl) rfl ?_
      rw [hr.2]
      refine wx_if 38 j129_30 (by decide) (fun c30 => ?_) (fun c30 => ?_)
      · simp only [ax_cn, Classical.not_not] at c30
        exact absurd rfl c30
      · simp only [ax_cn, Classical.not_not] at c30
        refine wx_ildn j129_33 rfl ?_
        refine wx_ildn j129_34 rfl ?_
        refine wx_cmp 42 j129_35 (by decide) (fun c35 => ?_) (fun c35 => ?_)
        · simp only [ax_cn, Classical.not_not] at c35
          have hv : acc < m := (nI_ltI (by omega) (by omega)).mp c35
          have e2 : rPx (some acc, t) m = (some acc, t) := by show (if acc < m then (some acc, t) else (none, t)) = _; rw [if_pos hv]
          rw [e2]
          refine wx_icst (v := nI 0) j129_42 (by decide) ?_
          refine wx_put j129_43 rfl (Nat.le_of_ble_eq_true rfl) rfl rfl rfl ?_
          refine wx_aldn j129_46 rfl ?_
          refine wx_get (v := .int _) j129_47 rfl (Nat.le_of_ble_eq_true rfl) rfl ?_
          rw [up_at]
          refine wx_if 57 j129_50 (by decide) (fun c50 => ?_) (fun c50 => ?_)
          · simp only [ax_cn, Classical.not_not] at c50
            have h50 := c50
            refine wx_ildn j129_57 rfl ?_
            refine wx_ri j129_58 rfl rfl ?_
            exact ⟨rfl, ⟨by rw [up_nk (by decide)]; exact hr.1, by rw [up_at]; rfl⟩, mtk_tr hf (mtk_up (Or.inr rfl))⟩
          · simp only [ax_cn, Classical.not_not] at c50
            have h50 := c50
            refine wx_icst (v := nI 0) j129_53 (by decide) ?_
            refine wx_goto 58 j129_54 (by decide) ?_
            refine wx_ri j129_58 rfl rfl ?_
            exact absurd rfl h50
        · simp only [ax_cn, Classical.not_not] at c35
          have hv : ¬ acc < m := fun q => c35 ((nI_ltI (by omega) (by omega)).mpr q)
          have e2 : rPx (some acc, t) m = (none, t) := by show (if acc < m then (some acc, t) else (none, t)) = _; rw [if_neg hv]
          rw [e2]
          refine wx_icst (v := nI 1) j129_38 (by decide) ?_
          refine wx_goto 43 j129_39 (by decide) ?_
          refine wx_put j129_43 rfl (Nat.le_of_ble_eq_true rfl) rfl rfl rfl ?_
          refine wx_aldn j129_46 rfl ?_
          refine wx_get (v := .int _) j129_47 rfl (Nat.le_of_ble_eq_true rfl) rfl ?_
          rw [up_at]
          refine wx_if 57 j129_50 (by decide) (fun c50 => ?_) (fun c50 => ?_)
          · simp only [ax_cn, Classical.not_not] at c50
            have h50 := c50
            refine wx_ildn j129_57 rfl ?_
            refine wx_ri j129_58 rfl rfl ?_
            exact absurd h50 (by decide)
          · simp only [ax_cn, Classical.not_not] at c50
            have h50 := c50
            refine wx_icst (v := nI 0) j129_53 (by decide) ?_
            refine wx_goto 58 j129_54 (by decide) ?_
            refine wx_ri j129_58 rfl rfl ?_
            exact ⟨rfl, ⟨by rw [up_nk (by decide)]; exact hr.1, by rw [up_at]; rfl⟩, mtk_tr hf (mtk_up (Or.inr rfl))⟩
    · simp only [ax_cn, Classical.not_not] at c6
      exact absurd (wd_lt (fun q => c6 ((nI_leI (by omega) hp).mpr q)) hm) (by omega)
  | succ w ih =>
    intro i acc t d1 hi ha ht hr hf
    have hp : 2 ^ i < 2 ^ 31 := Nat.pow_lt_pow_right (by decide) (by omega)
    refine wx_ildn j129_4 rfl ?_
    refine wx_ildn j129_5 rfl ?_
    refine wx_cmp 25 j129_6 (by decide) (fun c6 => ?_) (fun c6 => ?_)
    · simp only [ax_cn, Classical.not_not] at c6
      exact absurd (wd_le ((nI_leI (by omega) hp).mp c6) (by omega)) (by omega)
    · simp only [ax_cn, Classical.not_not] at c6
      refine wx_icst (v := nI 2) j129_9 (by decide) ?_
      refine wx_ildn j129_10 rfl ?_
      refine wx_imul j129_11 ?_
      rw [pk_mul]
      refine wx_aldn j129_12 rfl ?_
      refine wx_i0 j129_13 rfl  (Nat.le_of_ble_eq_true rfl) rfl (sm_takeBit (ms_tk hs hf) hr ht) ?_
      rintro y d2 ⟨h1, h2, f2⟩
      by_cases hlt : t < sl.length
      · obtain ⟨rfl, r2⟩ := h1 hlt
        have hb := hs.2.2.2 _ (getD_mem hlt)
        have e : rB sl (w + 1) acc t = rB sl w (acc * 2 + sl.getD t 0) (t + 1) := by show (if t < sl.length then _ else _) = _; rw [if_pos hlt]
        rw [e]
        refine wx_iadd j129_16 ?_
        rw [nI_add, Nat.mul_comm 2 acc]
        refine wx_istn (L' := [_, _, some (.int _), _]) j129_17 (Nat.le_of_ble_eq_true rfl) rfl ?_
        refine wx_icst (v := nI 2) j129_18 (by decide) ?_
        refine wx_ildn j129_19 rfl ?_
        refine wx_imul j129_20 ?_
        rw [pk_mul, ← Nat.pow_succ']
        refine wx_istn (L' := [_, _, _, some (.int _)]) j129_21 (Nat.le_of_ble_eq_true rfl) rfl ?_
        refine wx_goto 4 j129_22 (by decide) ?_
        exact ih (i + 1) (acc * 2 + sl.getD t 0) (t + 1) d2 (by omega) (by rw [Nat.pow_succ]; omega) hlt r2 (mtk_tr hf f2)
      · obtain ⟨rfl, r2⟩ := h2 hlt
        have e : rB sl (w + 1) acc t = (none, t) := by show (if t < sl.length then _ else _) = _; rw [if_neg hlt]
        rw [e]
        refine wx_iadd j129_16 ?_
        refine wx_istn (L' := [_, _, some (.int _), _]) j129_17 (Nat.le_of_ble_eq_true rfl) rfl ?_
        refine wx_icst (v := nI 2) j129_18 (by decide) ?_
        refine wx_ildn j129_19 rfl ?_
        refine wx_imul j129_20 ?_
        rw [pk_mul, ← Nat.pow_succ']
        refine wx_istn (L' := [_, _, _, some (.int _)]) j129_21 (Nat.le_of_ble_eq_true rfl) rfl ?_
        refine wx_goto 4 j129_22 (by decide) ?_
        exact mtp_B hm 7 (i + 1) _ d2 (by omega) (by omega) r2 (mtk_tr hf f2)
theorem sm_takePlace {m : Nat} (hs : ms_is d sl) (hr : mr d t false) (ht : t ≤ sl.length) (hm : m ≤ 32) : ax_E 129 [.ref 540, .int (nI m)] d (ax_Pi fun y d1 => y = nI ((rP sl m t).1.getD 0) ∧ mr d1 (rP sl m t).2 (rP sl m t).1.isNone ∧ mtk d d1) := by
  show ax_W 129 0 [some (.ref 540), some (.int (nI m)), none, none] [] d _
  rw [rP_x]
  refine wx_icst (v := nI 0) j129_0 (by decide) ?_
  refine wx_istn (L' := [_, _, some (.int _), _]) j129_1 (Nat.le_of_ble_eq_true rfl) rfl ?_
  refine wx_icst (v := nI 1) j129_2 (by decide) ?_
  refine wx_istn (L' := [_, _, _, some (.int _)]) j129_3 (Nat.le_of_ble_eq_true rfl) rfl ?_
  exact mtp_A hs hm (wd m) 0 0 t d (by omega) (by decide) ht hr (mtk_rf d)
theorem sm_takePlaceB {m : Nat} (hr : mr d t true) (hm : m ≤ 32) : ax_E 129 [.ref 540, .int (nI m)] d (ax_Pi fun y d1 => y = nI 0 ∧ mr d1 t true ∧ mtk d d1) := by
  show ax_W 129 0 [some (.ref 540), some (.int (nI m)), none, none] [] d _
  refine wx_icst (v := nI 0) j129_0 (by decide) ?_
  refine wx_istn (L' := [_, _, some (.int _), _]) j129_1 (Nat.le_of_ble_eq_true rfl) rfl ?_
  refine wx_icst (v := nI 1) j129_2 (by decide) ?_
  refine wx_istn (L' := [_, _, _, some (.int _)]) j129_3 (Nat.le_of_ble_eq_true rfl) rfl ?_
  exact mtp_B hm 7 0 _ d (by omega) (Nat.zero_le _) hr (mtk_rf d)
theorem rB_acc : ∀ w acc t, rB sl w acc t = ((rB sl w 0 t).1.map (fun v => acc * 2 ^ w + v), (rB sl w 0 t).2)
  | 0, acc, t => by show (some acc, t) = (some (acc * 1 + 0), t); rw [Nat.mul_one, Nat.add_zero]
  | w + 1, acc, t => by
    show (if t < sl.length then rB sl w (acc * 2 + sl.getD t 0) (t + 1) else (none, t)) = _
    have e : rB sl (w + 1) 0 t = if t < sl.length then rB sl w (0 * 2 + sl.getD t 0) (t + 1) else (none, t) := rfl
    rw [e]
    by_cases h : t < sl.length
    · rw [if_pos h, if_pos h, rB_acc w (acc * 2 + sl.getD t 0), rB_acc w (0 * 2 + sl.getD t 0), Option.map_map]
      refine Prod.ext ?_ rfl
      show Option.map _ _ = Option.map _ _
      congr 1
      funext v
      show (acc * 2 + sl.getD t 0) * 2 ^ w + v = acc * 2 ^ (w + 1) + ((0 * 2 + sl.getD t 0) * 2 ^ w + v)
      rw [Nat.pow_succ, Nat.add_mul, Nat.zero_mul, Nat.zero_add, Nat.mul_assoc, Nat.mul_comm 2 (2 ^ w), Nat.add_assoc]
    · rw [if_neg h, if_neg h]; rfl
/-- four bits: one, and a place of eight -/
theorem rB_4 (hb : ∀ e, e ∈ sl → e < 2) (t : Nat) (h : t < sl.length) : rB sl 4 0 t = ((rP sl 8 (t + 1)).1.map (fun v => 8 * sl.getD t 0 + v), (rP sl 8 (t + 1)).2) := by
  have e : rB sl 4 0 t = rB sl 3 (0 * 2 + sl.getD t 0) (t + 1) := by show (if t < sl.length then _ else _) = _; rw [if_pos h]
  have hv := rB_v hb 3 0 (t + 1)
  rw [e, rB_acc, rP_x, show wd 8 = 3 from rfl]
  cases hq : rB sl 3 0 (t + 1) with
  | mk o t1 =>
    cases o with
    | none => rfl
    | some v =>
      have h8 := hv v (by rw [hq])
      have e2 : rPx (some v, t1) 8 = (some v, t1) := by show (if v < 8 then (some v, t1) else (none, t1)) = _; rw [if_pos (by omega)]
      rw [e2]
      show (some ((0 * 2 + sl.getD t 0) * 2 ^ 3 + v), t1) = (some (8 * sl.getD t 0 + v), t1)
      rw [show (0 * 2 + sl.getD t 0) * 2 ^ 3 + v = 8 * sl.getD t 0 + v by omega]
theorem mtn_loop (hs : ms_is d sl) : ∀ g x t (d1 : ax_D), g ≤ 4 → t ≤ sl.length → mr d1 t false → mtk d d1 → ax_W 130 6 [some (.ref 540), some (.int (nI x)), some (.int (nI (4 - g))), some (.int (nI 1))] [] d1 (ax_Pi fun y d2 => (∀ v, (rN sl g x (8 ^ (4 - g)) t).1 = some v → y = nI v) ∧ mr d2 (rN sl g x (8 ^ (4 - g)) t).2 (rN sl g x (8 ^ (4 - g)) t).1.isNone ∧ mtk d d2) := by
  intro g
  induction g with
  | zero =>
    intro x t d1 hg ht hr hf
    refine wx_ildn j130_6 rfl ?_
    refine wx_if 62 j130_7 (by decide) (fun c7 => ?_) (fun c7 => ?_)
    · simp only [ax_cn, Classical.not_not] at c7
      exact absurd c7 (by decide)
    · simp only [ax_cn, Classical.not_not] at c7
      refine wx_aldn j130_10 rfl ?_
      refine wx_get (v := .int _) j130_11 rfl (Nat.le_of_ble_eq_true rfl) rfl ?_
      rw [hr.2]
      refine wx_if 62 j130_14 (by decide) (fun c14 => ?_) (fun c14 => ?_)
      · simp only [ax_cn, Classical.not_not] at c14
        exact absurd rfl c14
      · simp only [ax_cn, Classical.not_not] at c14
        refine wx_ildn j130_17 rfl ?_
        refine wx_icst (v := nI 4) j130_18 (by decide) ?_
        refine wx_cmp 29 j130_19 (by decide) (fun c19 => ?_) (fun c19 => ?_)
        · simp only [ax_cn, Classical.not_not] at c19
          exact absurd trivial c19
        · simp only [ax_cn, Classical.not_not] at c19
          refine wx_aldn j130_22 rfl ?_
          refine wx_icst (v := nI 1) j130_23 (by decide) ?_
          refine wx_put j130_24 rfl (Nat.le_of_ble_eq_true rfl) rfl rfl rfl ?_
          refine wx_icst (v := nI 0) j130_27 (by decide) ?_
          refine wx_ri j130_28 rfl rfl ?_
          exact ⟨fun v hv => (by cases hv), ⟨by rw [up_nk (by decide)]; exact hr.1, by rw [up_at]; rfl⟩, mtk_tr hf (mtk_up (Or.inr rfl))⟩
  | succ g ih =>
    intro x t d1 hg ht hr hf
    have hsh : ∀ v3, v3 < 8 → nI v3 <<< (nI (3 * (4 - (g + 1))) &&& 31) = nI (8 ^ (4 - (g + 1)) * v3) := by
      intro v3 h3
      rw [pk_shlN _ (3 * (4 - (g + 1))) (sh_amt _ (by omega)) ?_, Nat.pow_mul, Nat.mul_comm]
      have : 2 ^ (3 * (4 - (g + 1))) ≤ 2 ^ 9 := Nat.pow_le_pow_right (by decide) (by omega)
      have h7 : v3 * 2 ^ (3 * (4 - (g + 1))) ≤ 7 * 2 ^ 9 := Nat.mul_le_mul (by omega) this
      omega
    refine wx_ildn j130_6 rfl ?_
    refine wx_if 62 j130_7 (by decide) (fun c7 => ?_) (fun c7 => ?_)
    · simp only [ax_cn, Classical.not_not] at c7
      exact absurd c7 (by decide)
    · simp only [ax_cn, Classical.not_not] at c7
      refine wx_aldn j130_10 rfl ?_
      refine wx_get (v := .int _) j130_11 rfl (Nat.le_of_ble_eq_true rfl) rfl ?_
      rw [hr.2]
      refine wx_if 62 j130_14 (by decide) (fun c14 => ?_) (fun c14 => ?_)
      · simp only [ax_cn, Classical.not_not] at c14
        exact absurd rfl c14
      · simp only [ax_cn, Classical.not_not] at c14
        refine wx_ildn j130_17 rfl ?_
        refine wx_icst (v := nI 4) j130_18 (by decide) ?_
        refine wx_cmp 29 j130_19 (by decide) (fun c19 => ?_) (fun c19 => ?_)
        · simp only [ax_cn, Classical.not_not] at c19
          refine wx_aldn j130_29 rfl ?_
          refine wx_i0 j130_30 rfl  (Nat.le_of_ble_eq_true rfl) rfl (sm_takeBit (ms_tk hs hf) hr ht) ?_
          rintro y d2 ⟨h1, h2, f2⟩
          by_cases hlt : t < sl.length
          · obtain ⟨rfl, r2⟩ := h1 hlt
            have hb := hs.2.2.2 _ (getD_mem hlt)
            have h4 := rB_4 hs.2.2.2 t hlt
            have e0 : rN sl (g + 1) x (8 ^ (4 - (g + 1))) t = (match rB sl 4 0 t with
              | (none, t1) => (none, t1)
              | (some v, t1) => if v < 8 then (some (x + 8 ^ (4 - (g + 1)) * (v % 8)), t1) else rN sl g (x + 8 ^ (4 - (g + 1)) * (v % 8)) (8 ^ (4 - (g + 1)) * 8) t1) := rfl
            have tP := rP_t (sl := sl) (m := 8) (t := t + 1) hlt
            have vP : ∀ v, (rP sl 8 (t + 1)).1 = some v → v < 8 := fun v hv => rP_v hv
            refine wx_icst (v := nI 1) j130_33 (by decide) ?_
            refine wx_cmp 41 j130_34 (by decide) (fun c34 => ?_) (fun c34 => ?_)
            · simp only [ax_cn, Classical.not_not] at c34
              have hb0 : sl.getD t 0 = 0 := by
                have : ¬ sl.getD t 0 = 1 := fun q => c34 (by rw [q])
                omega
              refine wx_icst (v := nI 0) j130_41 (by decide) ?_
              refine wx_istn (L' := [_, _, _, some (.int _)]) j130_42 (Nat.le_of_ble_eq_true rfl) rfl ?_
              refine wx_ildn j130_43 rfl ?_
              refine wx_aldn j130_44 rfl ?_
              refine wx_bpsh (v := nI 8) j130_45 (by decide) ?_
              refine wx_i1 j130_47 rfl rfl (Nat.le_of_ble_eq_true rfl) rfl (sm_takePlace (m := 8) (ms_tk hs (mtk_tr hf f2)) r2 hlt (by decide)) ?_
              rintro _ d3 ⟨rfl, r3, f3⟩
              generalize rP sl 8 (t + 1) = r at *
              obtain ⟨o, t1⟩ := r
              cases o with
              | none =>
                have e : rN sl (g + 1) x (8 ^ (4 - (g + 1))) t = (none, t1) := by rw [e0, h4]; rfl
                simp only [Option.isNone_none] at r3
                refine wx_icst (v := nI 3) j130_50 (by decide) ?_
                refine wx_ildn j130_51 rfl ?_
                refine wx_imul j130_52 ?_
                refine wx_ishl j130_53 ?_
                refine wx_iadd j130_54 ?_
                refine wx_istn (L' := [_, some (.int _), _, _]) j130_55 (Nat.le_of_ble_eq_true rfl) rfl ?_
                refine wx_iinc (v := _ + 1) (L' := [_, _, some (.int _), _]) j130_56 rfl rfl rfl ?_
                refine wx_goto 6 j130_59 (by decide) ?_
                refine wx_ildn j130_6 rfl ?_
                refine wx_if 62 j130_7 (by decide) (fun c7 => ?_) (fun c7 => ?_)
                · simp only [ax_cn, Classical.not_not] at c7
                  refine wx_ildn j130_62 rfl ?_
                  refine wx_ri j130_63 rfl rfl ?_
                  exact ⟨fun v hv => (by rw [e] at hv; cases hv), by rw [e]; exact r3, mtk_tr (mtk_tr hf f2) f3⟩
                · simp only [ax_cn, Classical.not_not] at c7
                  exact absurd rfl c7
              | some v =>
                have hv8 := vP v rfl
                simp only [Option.getD_some, Option.isNone_some] at r3 ⊢
                have e : rN sl (g + 1) x (8 ^ (4 - (g + 1))) t = (some (x + 8 ^ (4 - (g + 1)) * v), t1) := by
                  rw [e0, h4]
                  show (if 8 * sl.getD t 0 + v < 8 then (some (x + 8 ^ (4 - (g + 1)) * ((8 * sl.getD t 0 + v) % 8)), t1) else _) = _
                  rw [hb0, Nat.mul_zero, Nat.zero_add, if_pos hv8, Nat.mod_eq_of_lt hv8]
                refine wx_icst (v := nI 3) j130_50 (by decide) ?_
                refine wx_ildn j130_51 rfl ?_
                refine wx_imul j130_52 ?_
                rw [pk_mul]
                refine wx_ishl j130_53 ?_
                rw [hsh v hv8]
                refine wx_iadd j130_54 ?_
                rw [nI_add]
                refine wx_istn (L' := [_, some (.int _), _, _]) j130_55 (Nat.le_of_ble_eq_true rfl) rfl ?_
                refine wx_iinc (v := _ + 1) (L' := [_, _, some (.int _), _]) j130_56 rfl rfl rfl ?_
                refine wx_goto 6 j130_59 (by decide) ?_
                refine wx_ildn j130_6 rfl ?_
                refine wx_if 62 j130_7 (by decide) (fun c7 => ?_) (fun c7 => ?_)
                · simp only [ax_cn, Classical.not_not] at c7
                  refine wx_ildn j130_62 rfl ?_
                  refine wx_ri j130_63 rfl rfl ?_
                  exact ⟨fun v2 hv2 => (by rw [e] at hv2; rw [← Option.some.inj hv2]), by rw [e]; exact r3, mtk_tr (mtk_tr hf f2) f3⟩
                · simp only [ax_cn, Classical.not_not] at c7
                  exact absurd rfl c7
            · simp only [ax_cn, Classical.not_not] at c34
              have hb1 : sl.getD t 0 = 1 := (nI_eq (by omega) (by decide)).mp c34
              refine wx_icst (v := nI 1) j130_37 (by decide) ?_
              refine wx_goto 42 j130_38 (by decide) ?_
              refine wx_istn (L' := [_, _, _, some (.int _)]) j130_42 (Nat.le_of_ble_eq_true rfl) rfl ?_
              refine wx_ildn j130_43 rfl ?_
              refine wx_aldn j130_44 rfl ?_
              refine wx_bpsh (v := nI 8) j130_45 (by decide) ?_
              refine wx_i1 j130_47 rfl rfl (Nat.le_of_ble_eq_true rfl) rfl (sm_takePlace (m := 8) (ms_tk hs (mtk_tr hf f2)) r2 hlt (by decide)) ?_
              rintro _ d3 ⟨rfl, r3, f3⟩
              generalize rP sl 8 (t + 1) = r at *
              obtain ⟨o, t1⟩ := r
              cases o with
              | none =>
                have e : rN sl (g + 1) x (8 ^ (4 - (g + 1))) t = (none, t1) := by rw [e0, h4]; rfl
                simp only [Option.isNone_none] at r3
                refine wx_icst (v := nI 3) j130_50 (by decide) ?_
                refine wx_ildn j130_51 rfl ?_
                refine wx_imul j130_52 ?_
                refine wx_ishl j130_53 ?_
                refine wx_iadd j130_54 ?_
                refine wx_istn (L' := [_, some (.int _), _, _]) j130_55 (Nat.le_of_ble_eq_true rfl) rfl ?_
                refine wx_iinc (v := _ + 1) (L' := [_, _, some (.int _), _]) j130_56 rfl rfl rfl ?_
                refine wx_goto 6 j130_59 (by decide) ?_
                refine wx_ildn j130_6 rfl ?_
                refine wx_if 62 j130_7 (by decide) (fun c7 => ?_) (fun c7 => ?_)
                · simp only [ax_cn, Classical.not_not] at c7
                  exact absurd c7 (by decide)
                · simp only [ax_cn, Classical.not_not] at c7
                  refine wx_aldn j130_10 rfl ?_
                  refine wx_get (v := .int _) j130_11 rfl (Nat.le_of_ble_eq_true rfl) rfl ?_
                  rw [r3.2]
                  refine wx_if 62 j130_14 (by decide) (fun c14 => ?_) (fun c14 => ?_)
                  · simp only [ax_cn, Classical.not_not] at c14
                    refine wx_ildn j130_62 rfl ?_
                    refine wx_ri j130_63 rfl rfl ?_
                    exact ⟨fun v hv => (by rw [e] at hv; cases hv), by rw [e]; exact r3, mtk_tr (mtk_tr hf f2) f3⟩
                  · simp only [ax_cn, Classical.not_not] at c14
                    exact absurd c14 (by decide)
              | some v =>
                have hv8 := vP v rfl
                simp only [Option.getD_some, Option.isNone_some] at r3 ⊢
                have e : rN sl (g + 1) x (8 ^ (4 - (g + 1))) t = rN sl g (x + 8 ^ (4 - (g + 1)) * v) (8 ^ (4 - g)) t1 := by
                  rw [e0, h4]
                  show (if 8 * sl.getD t 0 + v < 8 then _ else rN sl g (x + 8 ^ (4 - (g + 1)) * ((8 * sl.getD t 0 + v) % 8)) (8 ^ (4 - (g + 1)) * 8) t1) = _
                  rw [hb1, if_neg (by omega), show (8 * 1 + v) % 8 = v by omega, ← Nat.pow_succ, show (4 - (g + 1)).succ = 4 - g by omega]
                rw [e]
                refine wx_icst (v := nI 3) j130_50 (by decide) ?_
                refine wx_ildn j130_51 rfl ?_
                refine wx_imul j130_52 ?_
                rw [pk_mul]
                refine wx_ishl j130_53 ?_
                rw [hsh v hv8]
                refine wx_iadd j130_54 ?_
                rw [nI_add]
                refine wx_istn (L' := [_, some (.int _), _, _]) j130_55 (Nat.le_of_ble_eq_true rfl) rfl ?_
                refine wx_iinc (v := nI (4 - g)) (L' := [_, _, some (.int _), _]) j130_56 rfl (by rw [show (Int32.ofInt 1) = 1 from rfl, nI_1, show 4 - (g + 1) + 1 = 4 - g by omega]) rfl ?_
                refine wx_goto 6 j130_59 (by decide) ?_
                exact ih (x + 8 ^ (4 - (g + 1)) * v) t1 d3 (by omega) tP.2 r3 (mtk_tr (mtk_tr hf f2) f3)
          · obtain ⟨rfl, r2⟩ := h2 hlt
            have e : rN sl (g + 1) x (8 ^ (4 - (g + 1))) t = (none, t) := by
              show (match rB sl 4 0 t with
              | (none, t1) => (none, t1)
              | (some v, t1) => if v < 8 then (some (x + 8 ^ (4 - (g + 1)) * (v % 8)), t1) else rN sl g (x + 8 ^ (4 - (g + 1)) * (v % 8)) (8 ^ (4 - (g + 1)) * 8) t1) = _
              have e4 : rB sl 4 0 t = (none, t) := by show (if t < sl.length then _ else _) = _; rw [if_neg hlt]
              rw [e4]
            refine wx_icst (v := nI 1) j130_33 (by decide) ?_
            refine wx_cmp 41 j130_34 (by decide) (fun c34 => ?_) (fun c34 => ?_)
            · simp only [ax_cn, Classical.not_not] at c34
              refine wx_icst (v := nI 0) j130_41 (by decide) ?_
              refine wx_istn (L' := [_, _, _, some (.int _)]) j130_42 (Nat.le_of_ble_eq_true rfl) rfl ?_
              refine wx_ildn j130_43 rfl ?_
              refine wx_aldn j130_44 rfl ?_
              refine wx_bpsh (v := nI 8) j130_45 (by decide) ?_
              refine wx_i1 j130_47 rfl rfl (Nat.le_of_ble_eq_true rfl) rfl (sm_takePlaceB r2 (by decide)) ?_
              rintro _ d3 ⟨rfl, r3, f3⟩
              refine wx_icst (v := nI 3) j130_50 (by decide) ?_
              refine wx_ildn j130_51 rfl ?_
              refine wx_imul j130_52 ?_
              refine wx_ishl j130_53 ?_
              refine wx_iadd j130_54 ?_
              refine wx_istn (L' := [_, some (.int _), _, _]) j130_55 (Nat.le_of_ble_eq_true rfl) rfl ?_
              refine wx_iinc (v := _ + 1) (L' := [_, _, some (.int _), _]) j130_56 rfl rfl rfl ?_
              refine wx_goto 6 j130_59 (by decide) ?_
              refine wx_ildn j130_6 rfl ?_
              refine wx_if 62 j130_7 (by decide) (fun c7 => ?_) (fun c7 => ?_)
              · simp only [ax_cn, Classical.not_not] at c7
                refine wx_ildn j130_62 rfl ?_
                refine wx_ri j130_63 rfl rfl ?_
                exact ⟨fun v hv => (by rw [e] at hv; cases hv), by rw [e]; exact r3, mtk_tr (mtk_tr hf f2) f3⟩
              · simp only [ax_cn, Classical.not_not] at c7
                exact absurd rfl c7
            · simp only [ax_cn, Classical.not_not] at c34
              exact absurd c34 (by decide)
          
        · simp only [ax_cn, Classical.not_not] at c19
          exact absurd ((nI_eq (by omega) (by decide)).mp c19) (by omega)
theorem sm_takeNumber (hs : ms_is d sl) (hr : mr d t false) (ht : t ≤ sl.length) : ax_E 130 [.ref 540] d (ax_Pi fun y d1 => (∀ v, (rNum sl t).1 = some v → y = nI v) ∧ mr d1 (rNum sl t).2 (rNum sl t).1.isNone ∧ mtk d d1) := by
  show ax_W 130 0 [some (.ref 540), none, none, none] [] d _
  refine wx_icst (v := nI 0) j130_0 (by decide) ?_
  refine wx_istn (L' := [_, some (.int _), _, _]) j130_1 (Nat.le_of_ble_eq_true rfl) rfl ?_
  refine wx_icst (v := nI 0) j130_2 (by decide) ?_
  refine wx_istn (L' := [_, _, some (.int _), _]) j130_3 (Nat.le_of_ble_eq_true rfl) rfl ?_
  refine wx_icst (v := nI 1) j130_4 (by decide) ?_
  refine wx_istn (L' := [_, _, _, some (.int _)]) j130_5 (Nat.le_of_ble_eq_true rfl) rfl ?_
  exact mtn_loop hs 4 0 t d (by decide) ht hr (mtk_rf d)
theorem sm_takeNumberB (hr : mr d t true) : ax_E 130 [.ref 540] d (ax_Pi fun y d1 => d1 = d) := by
  show ax_W 130 0 [some (.ref 540), none, none, none] [] d _
  refine wx_icst (v := nI 0) j130_0 (by decide) ?_
  refine wx_istn (L' := [_, some (.int _), _, _]) j130_1 (Nat.le_of_ble_eq_true rfl) rfl ?_
  refine wx_icst (v := nI 0) j130_2 (by decide) ?_
  refine wx_istn (L' := [_, _, some (.int _), _]) j130_3 (Nat.le_of_ble_eq_true rfl) rfl ?_
  refine wx_icst (v := nI 1) j130_4 (by decide) ?_
  refine wx_istn (L' := [_, _, _, some (.int _)]) j130_5 (Nat.le_of_ble_eq_true rfl) rfl ?_
  refine wx_ildn j130_6 rfl ?_
  refine wx_if 62 j130_7 (by decide) (fun c7 => ?_) (fun c7 => ?_)
  · simp only [ax_cn, Classical.not_not] at c7
    exact absurd c7 (by decide)
  · simp only [ax_cn, Classical.not_not] at c7
    refine wx_aldn j130_10 rfl ?_
    refine wx_get (v := .int _) j130_11 rfl (Nat.le_of_ble_eq_true rfl) rfl ?_
    rw [hr.2]
    refine wx_if 62 j130_14 (by decide) (fun c14 => ?_) (fun c14 => ?_)
    · simp only [ax_cn, Classical.not_not] at c14
      refine wx_ildn j130_62 rfl ?_
      refine wx_ri j130_63 rfl rfl ?_
      exact rfl
    · simp only [ax_cn, Classical.not_not] at c14
      exact absurd c14 (by decide)
theorem mtl_loop {C : Nat} (hs : ms_is d sl) (hC : C ≤ 5) : ∀ k i x t (d1 : ax_D) (z : Option Value), i + k = C → t ≤ sl.length → mr d1 t false → mtk d d1 → ax_W 131 28 [some (.ref 540), some (.int (nI C)), some (.int (nI x)), some (.int (nI (27 ^ i))), some (.int (nI i)), z] [] d1 (ax_Pi fun y d2 => (∀ v, (rLr sl k x (27 ^ i) t).1 = some v → y = nI v) ∧ mr d2 (rLr sl k x (27 ^ i) t).2 (rLr sl k x (27 ^ i) t).1.isNone ∧ mtk d d2) := by
  intro k
  induction k with
  | zero =>
    intro i x t d1 z hi ht hr hf
    obtain rfl : i = C := by omega
    refine wx_ild j131_28 rfl ?_
    refine wx_ildn j131_30 rfl ?_
    refine wx_cmp 105 j131_31 (by decide) (fun c31 => ?_) (fun c31 => ?_)
    · simp only [ax_cn, Classical.not_not] at c31
      refine wx_ildn j131_105 rfl ?_
      refine wx_ri j131_106 rfl rfl ?_
      exact ⟨fun v hv => (by rw [← Option.some.inj hv]), hr, hf⟩
    · simp only [ax_cn, Classical.not_not] at c31
      exact absurd (nI_le (Nat.le_refl i) (by omega)) c31
  | succ k ih =>
    intro i x t d1 z hi ht hr hf
    have e0 : rLr sl (k + 1) x (27 ^ i) t = (match rNum sl t with
      | (none, t1) => (none, t1)
      | (some c, t1) => if 1 ≤ c ∧ c < 27 then rLr sl k (x + c * 27 ^ i) (27 ^ i * 27) t1 else (none, t1)) := rfl
    have tN := rNum_t (sl := sl) (t := t) ht
    have vN : ∀ v, (rNum sl t).1 = some v → v < 4096 := fun v hv => rNum_v hv
    refine wx_ild j131_28 rfl ?_
    refine wx_ildn j131_30 rfl ?_
    refine wx_cmp 105 j131_31 (by decide) (fun c31 => ?_) (fun c31 => ?_)
    · simp only [ax_cn, Classical.not_not] at c31
      exact absurd c31 (nI_ge (by omega) (by omega))
    · simp only [ax_cn, Classical.not_not] at c31
      refine wx_aldn j131_34 rfl ?_
      refine wx_get (v := .int _) j131_35 rfl (Nat.le_of_ble_eq_true rfl) rfl ?_
      rw [hr.2]
      refine wx_if 105 j131_38 (by decide) (fun c38 => ?_) (fun c38 => ?_)
      · simp only [ax_cn, Classical.not_not] at c38
        exact absurd rfl c38
      · simp only [ax_cn, Classical.not_not] at c38
        refine wx_aldn j131_41 rfl ?_
        refine wx_i0 j131_42 rfl  (Nat.le_of_ble_eq_true rfl) rfl (sm_takeNumber (ms_tk hs hf) hr ht) ?_
        rintro y d2 ⟨h1, r2, f2⟩
        generalize rNum sl t = r at *
        obtain ⟨o, t1⟩ := r
        cases o with
        | none =>
          have e : rLr sl (k + 1) x (27 ^ i) t = (none, t1) := e0
          simp only [Option.isNone_none] at r2
          refine wx_ist (L' := [_, _, _, _, _, some (.int _)]) j131_45 (Nat.le_of_ble_eq_true rfl) rfl ?_
          refine wx_aldn j131_47 rfl ?_
          refine wx_aldn j131_48 rfl ?_
          refine wx_get (v := .int _) j131_49 rfl (Nat.le_of_ble_eq_true rfl) rfl ?_
          rw [r2.2]
          refine wx_if 68 j131_52 (by decide) (fun c52 => ?_) (fun c52 => ?_)
          · simp only [ax_cn, Classical.not_not] at c52
            refine wx_icst (v := nI 1) j131_68 (by decide) ?_
            refine wx_goto 73 j131_69 (by decide) ?_
            refine wx_put j131_73 rfl (Nat.le_of_ble_eq_true rfl) rfl rfl rfl ?_
            refine wx_ildn j131_76 rfl ?_
            refine wx_aldn j131_77 rfl ?_
            refine wx_get (v := .int _) j131_78 rfl (Nat.le_of_ble_eq_true rfl) rfl ?_
            rw [up_at]
            refine wx_if 88 j131_81 (by decide) (fun c81 => ?_) (fun c81 => ?_)
            · simp only [ax_cn, Classical.not_not] at c81
              exact absurd c81 (by decide)
            · simp only [ax_cn, Classical.not_not] at c81
              refine wx_icst (v := nI 0) j131_84 (by decide) ?_
              refine wx_goto 92 j131_85 (by decide) ?_
              refine wx_iadd j131_92 ?_
              refine wx_istn (L' := [_, _, some (.int _), _, _, _]) j131_93 (Nat.le_of_ble_eq_true rfl) rfl ?_
              refine wx_bpsh (v := nI 27) j131_94 (by decide) ?_
              refine wx_ildn j131_96 rfl ?_
              refine wx_imul j131_97 ?_
              refine wx_istn (L' := [_, _, _, some (.int _), _, _]) j131_98 (Nat.le_of_ble_eq_true rfl) rfl ?_
              refine wx_iinc (v := nI (i + 1)) (L' := [_, _, _, _, some (.int _), _]) j131_99 rfl (nI_1 i) rfl ?_
              refine wx_goto 28 j131_102 (by decide) ?_
              refine wx_ild j131_28 rfl ?_
              refine wx_ildn j131_30 rfl ?_
              refine wx_cmp 105 j131_31 (by decide) (fun c31 => ?_) (fun c31 => ?_)
              · simp only [ax_cn, Classical.not_not] at c31
                refine wx_ildn j131_105 rfl ?_
                refine wx_ri j131_106 rfl rfl ?_
                exact ⟨fun v hv => (by rw [e] at hv; cases hv), by rw [e]; exact ⟨by rw [up_nk (by decide)]; exact r2.1, by rw [up_at]; rfl⟩, mtk_tr (mtk_tr hf f2) (mtk_up (Or.inr rfl))⟩
              · simp only [ax_cn, Classical.not_not] at c31
                refine wx_aldn j131_34 rfl ?_
                refine wx_get (v := .int _) j131_35 rfl (Nat.le_of_ble_eq_true rfl) rfl ?_
                rw [up_at]
                refine wx_if 105 j131_38 (by decide) (fun c38 => ?_) (fun c38 => ?_)
                · simp only [ax_cn, Classical.not_not] at c38
                  refine wx_ildn j131_105 rfl ?_
                  refine wx_ri j131_106 rfl rfl ?_
                  exact ⟨fun v hv => (by rw [e] at hv; cases hv), by rw [e]; exact ⟨by rw [up_nk (by decide)]; exact r2.1, by rw [up_at]; rfl⟩, mtk_tr (mtk_tr hf f2) (mtk_up (Or.inr rfl))⟩
                · simp only [ax_cn, Classical.not_not] at c38
                  exact absurd c38 (by decide)
          · simp only [ax_cn, Classical.not_not] at c52
            exact absurd c52 (by decide)
        | some c =>
          have hc := vN c rfl
          obtain rfl := h1 c rfl
          simp only [Option.isNone_some] at r2
          by_cases hcc : 1 ≤ c ∧ c < 27
          · have e : rLr sl (k + 1) x (27 ^ i) t = rLr sl k (x + c * 27 ^ i) (27 ^ (i + 1)) t1 := by
              rw [e0]
              show (if 1 ≤ c ∧ c < 27 then _ else _) = _
              rw [if_pos hcc, Nat.pow_succ]
            rw [e]
            refine wx_ist (L' := [_, _, _, _, _, some (.int _)]) j131_45 (Nat.le_of_ble_eq_true rfl) rfl ?_
            refine wx_aldn j131_47 rfl ?_
            refine wx_aldn j131_48 rfl ?_
            refine wx_get (v := .int _) j131_49 rfl (Nat.le_of_ble_eq_true rfl) rfl ?_
            rw [r2.2]
            refine wx_if 68 j131_52 (by decide) (fun c52 => ?_) (fun c52 => ?_)
            · simp only [ax_cn, Classical.not_not] at c52
              exact absurd rfl c52
            · simp only [ax_cn, Classical.not_not] at c52
              refine wx_ild j131_55 rfl ?_
              refine wx_icst (v := nI 1) j131_57 (by decide) ?_
              refine wx_cmp 68 j131_58 (by decide) (fun c58 => ?_) (fun c58 => ?_)
              · simp only [ax_cn, Classical.not_not] at c58
                exact absurd ((nI_ltI (by omega) (by decide)).mp c58) (by omega)
              · simp only [ax_cn, Classical.not_not] at c58
                refine wx_ild j131_61 rfl ?_
                refine wx_bpsh (v := nI 26) j131_63 (by decide) ?_
                refine wx_cmp 72 j131_65 (by decide) (fun c65 => ?_) (fun c65 => ?_)
                · simp only [ax_cn, Classical.not_not] at c65
                  refine wx_icst (v := nI 0) j131_72 (by decide) ?_
                  refine wx_put j131_73 rfl (Nat.le_of_ble_eq_true rfl) rfl rfl rfl ?_
                  refine wx_ildn j131_76 rfl ?_
                  refine wx_aldn j131_77 rfl ?_
                  refine wx_get (v := .int _) j131_78 rfl (Nat.le_of_ble_eq_true rfl) rfl ?_
                  rw [up_at]
                  refine wx_if 88 j131_81 (by decide) (fun c81 => ?_) (fun c81 => ?_)
                  · simp only [ax_cn, Classical.not_not] at c81
                    refine wx_ildn j131_88 rfl ?_
                    refine wx_ild j131_89 rfl ?_
                    refine wx_imul j131_91 ?_
                    rw [pk_mul, Nat.mul_comm (27 ^ i) c]
                    refine wx_iadd j131_92 ?_
                    rw [nI_add]
                    refine wx_istn (L' := [_, _, some (.int _), _, _, _]) j131_93 (Nat.le_of_ble_eq_true rfl) rfl ?_
                    refine wx_bpsh (v := nI 27) j131_94 (by decide) ?_
                    refine wx_ildn j131_96 rfl ?_
                    refine wx_imul j131_97 ?_
                    rw [pk_mul, ← Nat.pow_succ']
                    refine wx_istn (L' := [_, _, _, some (.int _), _, _]) j131_98 (Nat.le_of_ble_eq_true rfl) rfl ?_
                    refine wx_iinc (v := nI (i + 1)) (L' := [_, _, _, _, some (.int _), _]) j131_99 rfl (nI_1 i) rfl ?_
                    refine wx_goto 28 j131_102 (by decide) ?_
                    exact ih (i + 1) (x + c * 27 ^ i) t1 _ _ (by omega) tN.2 ⟨by rw [up_nk (by decide)]; exact r2.1, by rw [up_at]; rfl⟩ (mtk_tr (mtk_tr hf f2) (mtk_up (Or.inr rfl)))
                  · simp only [ax_cn, Classical.not_not] at c81
                    exact absurd rfl c81
                · simp only [ax_cn, Classical.not_not] at c65
                  exact absurd ((nI_leI (by omega) (by decide)).mpr (by omega)) c65
          · have e : rLr sl (k + 1) x (27 ^ i) t = (none, t1) := by
              rw [e0]
              show (if 1 ≤ c ∧ c < 27 then _ else _) = _
              rw [if_neg hcc]
            refine wx_ist (L' := [_, _, _, _, _, some (.int _)]) j131_45 (Nat.le_of_ble_eq_true rfl) rfl ?_
            refine wx_aldn j131_47 rfl ?_
            refine wx_aldn j131_48 rfl ?_
            refine wx_get (v := .int _) j131_49 rfl (Nat.le_of_ble_eq_true rfl) rfl ?_
            rw [r2.2]
            refine wx_if 68 j131_52 (by decide) (fun c52 => ?_) (fun c52 => ?_)
            · simp only [ax_cn, Classical.not_not] at c52
              exact absurd rfl c52
            · simp only [ax_cn, Classical.not_not] at c52
              refine wx_ild j131_55 rfl ?_
              refine wx_icst (v := nI 1) j131_57 (by decide) ?_
              refine wx_cmp 68 j131_58 (by decide) (fun c58 => ?_) (fun c58 => ?_)
              · simp only [ax_cn, Classical.not_not] at c58
                refine wx_icst (v := nI 1) j131_68 (by decide) ?_
                refine wx_goto 73 j131_69 (by decide) ?_
                refine wx_put j131_73 rfl (Nat.le_of_ble_eq_true rfl) rfl rfl rfl ?_
                refine wx_ildn j131_76 rfl ?_
                refine wx_aldn j131_77 rfl ?_
                refine wx_get (v := .int _) j131_78 rfl (Nat.le_of_ble_eq_true rfl) rfl ?_
                rw [up_at]
                refine wx_if 88 j131_81 (by decide) (fun c81 => ?_) (fun c81 => ?_)
                · simp only [ax_cn, Classical.not_not] at c81
                  exact absurd c81 (by decide)
                · simp only [ax_cn, Classical.not_not] at c81
                  refine wx_icst (v := nI 0) j131_84 (by decide) ?_
                  refine wx_goto 92 j131_85 (by decide) ?_
                  refine wx_iadd j131_92 ?_
                  refine wx_istn (L' := [_, _, some (.int _), _, _, _]) j131_93 (Nat.le_of_ble_eq_true rfl) rfl ?_
                  refine wx_bpsh (v := nI 27) j131_94 (by decide) ?_
                  refine wx_ildn j131_96 rfl ?_
                  refine wx_imul j131_97 ?_
                  refine wx_istn (L' := [_, _, _, some (.int _), _, _]) j131_98 (Nat.le_of_ble_eq_true rfl) rfl ?_
                  refine wx_iinc (v := nI (i + 1)) (L' := [_, _, _, _, some (.int _), _]) j131_99 rfl (nI_1 i) rfl ?_
                  refine wx_goto 28 j131_102 (by decide) ?_
                  refine wx_ild j131_28 rfl ?_
                  refine wx_ildn j131_30 rfl ?_
                  refine wx_cmp 105 j131_31 (by decide) (fun c31 => ?_) (fun c31 => ?_)
                  · simp only [ax_cn, Classical.not_not] at c31
                    refine wx_ildn j131_105 rfl ?_
                    refine wx_ri j131_106 rfl rfl ?_
                    exact ⟨fun v hv => (by rw [e] at hv; cases hv), by rw [e]; exact ⟨by rw [up_nk (by decide)]; exact r2.1, by rw [up_at]; rfl⟩, mtk_tr (mtk_tr hf f2) (mtk_up (Or.inr rfl))⟩
                  · simp only [ax_cn, Classical.not_not] at c31
                    refine wx_aldn j131_34 rfl ?_
                    refine wx_get (v := .int _) j131_35 rfl (Nat.le_of_ble_eq_true rfl) rfl ?_
                    rw [up_at]
                    refine wx_if 105 j131_38 (by decide) (fun c38 => ?_) (fun c38 => ?_)
                    · simp only [ax_cn, Classical.not_not] at c38
                      refine wx_ildn j131_105 rfl ?_
                      refine wx_ri j131_106 rfl rfl ?_
                      exact ⟨fun v hv => (by rw [e] at hv; cases hv), by rw [e]; exact ⟨by rw [up_nk (by decide)]; exact r2.1, by rw [up_at]; rfl⟩, mtk_tr (mtk_tr hf f2) (mtk_up (Or.inr rfl))⟩
                    · simp only [ax_cn, Classical.not_not] at c38
                      exact absurd c38 (by decide)
              · simp only [ax_cn, Classical.not_not] at c58
                have h58 : ¬ c < 1 := fun q => c58 ((nI_ltI (by omega) (by decide)).mpr q)
                refine wx_ild j131_61 rfl ?_
                refine wx_bpsh (v := nI 26) j131_63 (by decide) ?_
                refine wx_cmp 72 j131_65 (by decide) (fun c65 => ?_) (fun c65 => ?_)
                · simp only [ax_cn, Classical.not_not] at c65
                  exact absurd ((nI_leI (by omega) (by decide)).mp c65) (by omega)
                · simp only [ax_cn, Classical.not_not] at c65
                  refine wx_icst (v := nI 1) j131_68 (by decide) ?_
                  refine wx_goto 73 j131_69 (by decide) ?_
                  refine wx_put j131_73 rfl (Nat.le_of_ble_eq_true rfl) rfl rfl rfl ?_
                  refine wx_ildn j131_76 rfl ?_
                  refine wx_aldn j131_77 rfl ?_
                  refine wx_get (v := .int _) j131_78 rfl (Nat.le_of_ble_eq_true rfl) rfl ?_
                  rw [up_at]
                  refine wx_if 88 j131_81 (by decide) (fun c81 => ?_) (fun c81 => ?_)
                  · simp only [ax_cn, Classical.not_not] at c81
                    exact absurd c81 (by decide)
                  · simp only [ax_cn, Classical.not_not] at c81
                    refine wx_icst (v := nI 0) j131_84 (by decide) ?_
                    refine wx_goto 92 j131_85 (by decide) ?_
                    refine wx_iadd j131_92 ?_
                    refine wx_istn (L' := [_, _, some (.int _), _, _, _]) j131_93 (Nat.le_of_ble_eq_true rfl) rfl ?_
                    refine wx_bpsh (v := nI 27) j131_94 (by decide) ?_
                    refine wx_ildn j131_96 rfl ?_
                    refine wx_imul j131_97 ?_
                    refine wx_istn (L' := [_, _, _, some (.int _), _, _]) j131_98 (Nat.le_of_ble_eq_true rfl) rfl ?_
                    refine wx_iinc (v := nI (i + 1)) (L' := [_, _, _, _, some (.int _), _]) j131_99 rfl (nI_1 i) rfl ?_
                    refine wx_goto 28 j131_102 (by decide) ?_
                    refine wx_ild j131_28 rfl ?_
                    refine wx_ildn j131_30 rfl ?_
                    refine wx_cmp 105 j131_31 (by decide) (fun c31 => ?_) (fun c31 => ?_)
                    · simp only [ax_cn, Classical.not_not] at c31
                      refine wx_ildn j131_105 rfl ?_
                      refine wx_ri j131_106 rfl rfl ?_
                      exact ⟨fun v hv => (by rw [e] at hv; cases hv), by rw [e]; exact ⟨by rw [up_nk (by decide)]; exact r2.1, by rw [up_at]; rfl⟩, mtk_tr (mtk_tr hf f2) (mtk_up (Or.inr rfl))⟩
                    · simp only [ax_cn, Classical.not_not] at c31
                      refine wx_aldn j131_34 rfl ?_
                      refine wx_get (v := .int _) j131_35 rfl (Nat.le_of_ble_eq_true rfl) rfl ?_
                      rw [up_at]
                      refine wx_if 105 j131_38 (by decide) (fun c38 => ?_) (fun c38 => ?_)
                      · simp only [ax_cn, Classical.not_not] at c38
                        refine wx_ildn j131_105 rfl ?_
                        refine wx_ri j131_106 rfl rfl ?_
                        exact ⟨fun v hv => (by rw [e] at hv; cases hv), by rw [e]; exact ⟨by rw [up_nk (by decide)]; exact r2.1, by rw [up_at]; rfl⟩, mtk_tr (mtk_tr hf f2) (mtk_up (Or.inr rfl))⟩
                      · simp only [ax_cn, Classical.not_not] at c38
                        exact absurd c38 (by decide)
theorem sm_takeLetters {n : Nat} (hs : ms_is d sl) (hr : mr d t false) (ht : t ≤ sl.length) (hn : n < 2 ^ 31) : ax_E 131 [.ref 540, .int (nI n)] d (ax_Pi fun y d1 => (∀ v, (rL sl n t).1 = some v → y = nI v) ∧ mr d1 (rL sl n t).2 (rL sl n t).1.isNone ∧ mtk d d1) := by
  show ax_W 131 0 [some (.ref 540), some (.int (nI n)), none, none, none, none] [] d _
  refine wx_aldn j131_0 rfl ?_
  refine wx_aldn j131_1 rfl ?_
  refine wx_get (v := .int _) j131_2 rfl (Nat.le_of_ble_eq_true rfl) rfl ?_
  rw [hr.2]
  refine wx_if 13 j131_5 (by decide) (fun c5 => ?_) (fun c5 => ?_)
  · simp only [ax_cn, Classical.not_not] at c5
    exact absurd rfl c5
  · simp only [ax_cn, Classical.not_not] at c5
    refine wx_ildn j131_8 rfl ?_
    refine wx_icst (v := nI 5) j131_9 (by decide) ?_
    refine wx_cmp 17 j131_10 (by decide) (fun c10 => ?_) (fun c10 => ?_)
    · simp only [ax_cn, Classical.not_not] at c10
      have h5 : n ≤ 5 := (nI_leI (by omega) (by decide)).mp c10
      have e : rL sl n t = rLr sl n 0 (27 ^ 0) t := by unfold rL; rw [if_pos h5]
      rw [e]
      refine wx_icst (v := nI 0) j131_17 (by decide) ?_
      refine wx_put j131_18 rfl (Nat.le_of_ble_eq_true rfl) rfl rfl rfl ?_
      refine wx_icst (v := nI 0) j131_21 (by decide) ?_
      refine wx_istn (L' := [_, _, some (.int _), _, _, _]) j131_22 (Nat.le_of_ble_eq_true rfl) rfl ?_
      refine wx_icst (v := nI 1) j131_23 (by decide) ?_
      refine wx_istn (L' := [_, _, _, some (.int _), _, _]) j131_24 (Nat.le_of_ble_eq_true rfl) rfl ?_
      refine wx_icst (v := nI 0) j131_25 (by decide) ?_
      refine wx_ist (L' := [_, _, _, _, some (.int _), _]) j131_26 (Nat.le_of_ble_eq_true rfl) rfl ?_
      refine ax_W_mono (mtl_loop (d := ax_up d 540 23 (nI 0)) (ms_tk hs (mtk_up (Or.inr rfl))) h5 n 0 0 t _ _ (by omega) ht ⟨by rw [up_nk (by decide)]; exact hr.1, by rw [up_at]; rfl⟩ (mtk_rf _)) ?_
      rintro o d2 ⟨y, e1, e2, e3, e4⟩
      exact ⟨y, e1, e2, e3, mtk_tr (mtk_up (Or.inr rfl)) e4⟩
    · simp only [ax_cn, Classical.not_not] at c10
      have h5 : ¬ n ≤ 5 := fun q => c10 ((nI_leI (by omega) (by decide)).mpr q)
      have e : rL sl n t = (none, t) := by unfold rL; rw [if_neg h5]
      rw [e]
      refine wx_icst (v := nI 1) j131_13 (by decide) ?_
      refine wx_goto 18 j131_14 (by decide) ?_
      refine wx_put j131_18 rfl (Nat.le_of_ble_eq_true rfl) rfl rfl rfl ?_
      refine wx_icst (v := nI 0) j131_21 (by decide) ?_
      refine wx_istn (L' := [_, _, some (.int _), _, _, _]) j131_22 (Nat.le_of_ble_eq_true rfl) rfl ?_
      refine wx_icst (v := nI 1) j131_23 (by decide) ?_
      refine wx_istn (L' := [_, _, _, some (.int _), _, _]) j131_24 (Nat.le_of_ble_eq_true rfl) rfl ?_
      refine wx_icst (v := nI 0) j131_25 (by decide) ?_
      refine wx_ist (L' := [_, _, _, _, some (.int _), _]) j131_26 (Nat.le_of_ble_eq_true rfl) rfl ?_
      refine wx_ild j131_28 rfl ?_
      refine wx_ildn j131_30 rfl ?_
      refine wx_cmp 105 j131_31 (by decide) (fun c31 => ?_) (fun c31 => ?_)
      · simp only [ax_cn, Classical.not_not] at c31
        refine wx_ildn j131_105 rfl ?_
        refine wx_ri j131_106 rfl rfl ?_
        exact ⟨fun v hv => (by cases hv), ⟨by rw [up_nk (by decide)]; exact hr.1, by rw [up_at]; rfl⟩, mtk_up (Or.inr rfl)⟩
      · simp only [ax_cn, Classical.not_not] at c31
        refine wx_aldn j131_34 rfl ?_
        refine wx_get (v := .int _) j131_35 rfl (Nat.le_of_ble_eq_true rfl) rfl ?_
        rw [up_at]
        refine wx_if 105 j131_38 (by decide) (fun c38 => ?_) (fun c38 => ?_)
        · simp only [ax_cn, Classical.not_not] at c38
          refine wx_ildn j131_105 rfl ?_
          refine wx_ri j131_106 rfl rfl ?_
          exact ⟨fun v hv => (by cases hv), ⟨by rw [up_nk (by decide)]; exact hr.1, by rw [up_at]; rfl⟩, mtk_up (Or.inr rfl)⟩
        · simp only [ax_cn, Classical.not_not] at c38
          exact absurd c38 (by decide)
theorem sm_takeLettersB {x : Int32} (hr : mr d t true) : ax_E 131 [.ref 540, .int x] d (ax_Pi fun y d1 => mr d1 t true ∧ mtk d d1) := by
  show ax_W 131 0 [some (.ref 540), some (.int x), none, none, none, none] [] d _
  refine wx_aldn j131_0 rfl ?_
  refine wx_aldn j131_1 rfl ?_
  refine wx_get (v := .int _) j131_2 rfl (Nat.le_of_ble_eq_true rfl) rfl ?_
  rw [hr.2]
  refine wx_if 13 j131_5 (by decide) (fun c5 => ?_) (fun c5 => ?_)
  · simp only [ax_cn, Classical.not_not] at c5
    refine wx_icst (v := nI 1) j131_13 (by decide) ?_
    refine wx_goto 18 j131_14 (by decide) ?_
    refine wx_put j131_18 rfl (Nat.le_of_ble_eq_true rfl) rfl rfl rfl ?_
    refine wx_icst (v := nI 0) j131_21 (by decide) ?_
    refine wx_istn (L' := [_, _, some (.int _), _, _, _]) j131_22 (Nat.le_of_ble_eq_true rfl) rfl ?_
    refine wx_icst (v := nI 1) j131_23 (by decide) ?_
    refine wx_istn (L' := [_, _, _, some (.int _), _, _]) j131_24 (Nat.le_of_ble_eq_true rfl) rfl ?_
    refine wx_icst (v := nI 0) j131_25 (by decide) ?_
    refine wx_ist (L' := [_, _, _, _, some (.int _), _]) j131_26 (Nat.le_of_ble_eq_true rfl) rfl ?_
    refine wx_ild j131_28 rfl ?_
    refine wx_ildn j131_30 rfl ?_
    refine wx_cmp 105 j131_31 (by decide) (fun c31 => ?_) (fun c31 => ?_)
    · simp only [ax_cn, Classical.not_not] at c31
      refine wx_ildn j131_105 rfl ?_
      refine wx_ri j131_106 rfl rfl ?_
      exact ⟨⟨by rw [up_nk (by decide)]; exact hr.1, by rw [up_at]; rfl⟩, mtk_up (Or.inr rfl)⟩
    · simp only [ax_cn, Classical.not_not] at c31
      refine wx_aldn j131_34 rfl ?_
      refine wx_get (v := .int _) j131_35 rfl (Nat.le_of_ble_eq_true rfl) rfl ?_
      rw [up_at]
      refine wx_if 105 j131_38 (by decide) (fun c38 => ?_) (fun c38 => ?_)
      · simp only [ax_cn, Classical.not_not] at c38
        refine wx_ildn j131_105 rfl ?_
        refine wx_ri j131_106 rfl rfl ?_
        exact ⟨⟨by rw [up_nk (by decide)]; exact hr.1, by rw [up_at]; rfl⟩, mtk_up (Or.inr rfl)⟩
      · simp only [ax_cn, Classical.not_not] at c38
        exact absurd c38 (by decide)
  · simp only [ax_cn, Classical.not_not] at c5
    exact absurd c5 (by decide)
end MB
