/-! THE REFERENCE reads the stream, tells events, writes them again. -/
def mrx (d d1 : ax_D) : Prop := ∀ id i, ¬ (542 ≤ id ∧ id ≤ 558 ∧ i / msz id = 1) → id ≠ 566 → id ≠ 567 → id ≠ 568 → id ≠ 569 → ¬ (id = 540 ∧ (i = 0 ∨ i = 22 ∨ i = 23 ∨ i = 24)) → d1 id i = d id i
theorem mrx_tr {d d1 d2 : ax_D} (h : mrx d d1) (h2 : mrx d1 d2) : mrx d d2 := fun id i a b c e f g => (h2 id i a b c e f g).trans (h id i a b c e f g)
theorem mrx_e {d d1 : ax_D} (h : mre d d1) : mrx d d1 := fun id i a b c e f g => h id i a b c e f (fun q => g ⟨q.1, by omega⟩)
theorem mrx_mo {d d1 : ax_D} (h : mo d d1 1) : mrx d d1 := fun id i a _ _ _ _ _ => h id i a
theorem mrx_up {d : ax_D} {i : Nat} {x : Int32} (h : i = 0 ∨ i = 22 ∨ i = 23 ∨ i = 24) : mrx d (ax_up d 540 i x) := by
  intro id j _ _ _ _ _ hn
  rw [up_ap, if_neg]
  rintro ⟨rfl, rfl⟩
  exact hn ⟨rfl, h⟩
theorem me_up {d : ax_D} {i : Nat} {x : Int32} {es : List Ev} (h : me_is d es) (hi : i ≠ 24) : me_is (ax_up d 540 i x) es := me_k h (up_nk (Ne.symm hi)) (ax_up_ne (by decide)) (ax_up_ne (by decide)) (ax_up_ne (by decide)) (ax_up_ne (by decide))
theorem me_0 {d : ax_D} : me_is (ax_up d 540 24 (nI 0)) [] := ⟨by decide, up_at _ _ _ _, fun i hi => absurd hi (Nat.not_lt_zero i)⟩
theorem mr_up {d : ax_D} {i t : Nat} {x : Int32} {w : Bool} (h : mr d t w) (hi : i ≠ 22 ∧ i ≠ 23) : mr (ax_up d 540 i x) t w := ⟨by rw [up_nk (Ne.symm hi.1)]; exact h.1, by rw [up_nk (Ne.symm hi.2)]; exact h.2⟩
def rP9 (d : ax_D) (r : Nat × List Ev × Nat) : Int32 → ax_D → Prop := fun y d1 => y = nI r.2.1.length ∧ d1 540 0 = nI r.1 ∧ me_is d1 r.2.1 ∧ d1 540 22 = nI r.2.2 ∧ mrx d d1
section MI
variable {d d0 : ax_D} {sl : List Nat} {t n m : Nat} {T : TT} {es : List Ev} {nm : Nat → Nat} {fl : Nat → Bool} {b : Bool} {x y : Int32}
theorem mre_w (hr : mr d t true) (hf0 : mrx d0 d) : ax_W 138 53 [some (.ref 540)] [] d (ax_Pi (rP9 d0 (1, [], t))) := by
  refine wx_aldn j138_53 rfl ?_
  refine wx_aldn j138_54 rfl ?_
  refine wx_get (v := .int _) j138_55 rfl (Nat.le_of_ble_eq_true rfl) rfl ?_
  rw [hr.2]
  refine wx_if 65 j138_58 (by decide) (fun c58 => ?_) (fun c58 => ?_)
  · simp only [ax_cn, Classical.not_not] at c58
    exact absurd c58 (by decide)
  · simp only [ax_cn, Classical.not_not] at c58
    refine wx_icst (v := nI 1) j138_61 (by decide) ?_
    refine wx_goto 80 j138_62 (by decide) ?_
    refine wx_put j138_80 rfl (Nat.le_of_ble_eq_true rfl) rfl rfl rfl ?_
    refine wx_aldn j138_83 rfl ?_
    refine wx_aldn j138_84 rfl ?_
    refine wx_get (v := .int _) j138_85 rfl (Nat.le_of_ble_eq_true rfl) rfl ?_
    rw [up_at]
    refine wx_if 95 j138_88 (by decide) (fun c88 => ?_) (fun c88 => ?_)
    · simp only [ax_cn, Classical.not_not] at c88
      exact absurd c88 (by decide)
    · simp only [ax_cn, Classical.not_not] at c88
      refine wx_icst (v := nI 0) j138_91 (by decide) ?_
      refine wx_goto 99 j138_92 (by decide) ?_
      refine wx_put j138_99 rfl (Nat.le_of_ble_eq_true rfl) rfl rfl rfl ?_
      refine wx_aldn j138_102 rfl ?_
      refine wx_get (v := .int _) j138_103 rfl (Nat.le_of_ble_eq_true rfl) rfl ?_
      refine wx_ri j138_106 rfl rfl ?_
      exact ⟨by rw [up_at]; rfl, by rw [up_nk (by decide), up_at], me_0, by rw [up_nk (by decide), up_nk (by decide)]; exact hr.1, mrx_tr hf0 (mrx_tr (mrx_up (Or.inl rfl)) (mrx_up (Or.inr (Or.inr (Or.inr rfl)))))⟩
theorem mre_m (hr : mr d t false) (he : me_is d es) (hl : es.length = 201) (hf0 : mrx d0 d) : ax_W 138 53 [some (.ref 540)] [] d (ax_Pi (rP9 d0 (2, [], t))) := by
  refine wx_aldn j138_53 rfl ?_
  refine wx_aldn j138_54 rfl ?_
  refine wx_get (v := .int _) j138_55 rfl (Nat.le_of_ble_eq_true rfl) rfl ?_
  rw [hr.2]
  refine wx_if 65 j138_58 (by decide) (fun c58 => ?_) (fun c58 => ?_)
  · simp only [ax_cn, Classical.not_not] at c58
    refine wx_aldn j138_65 rfl ?_
    refine wx_get (v := .int _) j138_66 rfl (Nat.le_of_ble_eq_true rfl) rfl ?_
    refine wx_spsh (v := nI 200) j138_69 (by decide) ?_
    rw [he.2.1, hl]
    refine wx_cmp 79 j138_72 (by decide) (fun c72 => ?_) (fun c72 => ?_)
    · simp only [ax_cn, Classical.not_not] at c72
      exact absurd c72 (by decide)
    · simp only [ax_cn, Classical.not_not] at c72
      refine wx_icst (v := nI 2) j138_75 (by decide) ?_
      refine wx_goto 80 j138_76 (by decide) ?_
      refine wx_put j138_80 rfl (Nat.le_of_ble_eq_true rfl) rfl rfl rfl ?_
      refine wx_aldn j138_83 rfl ?_
      refine wx_aldn j138_84 rfl ?_
      refine wx_get (v := .int _) j138_85 rfl (Nat.le_of_ble_eq_true rfl) rfl ?_
      rw [up_at]
      refine wx_if 95 j138_88 (by decide) (fun c88 => ?_) (fun c88 => ?_)
      · simp only [ax_cn, Classical.not_not] at c88
        exact absurd c88 (by decide)
      · simp only [ax_cn, Classical.not_not] at c88
        refine wx_icst (v := nI 0) j138_91 (by decide) ?_
        refine wx_goto 99 j138_92 (by decide) ?_
        refine wx_put j138_99 rfl (Nat.le_of_ble_eq_true rfl) rfl rfl rfl ?_
        refine wx_aldn j138_102 rfl ?_
        refine wx_get (v := .int _) j138_103 rfl (Nat.le_of_ble_eq_true rfl) rfl ?_
        refine wx_ri j138_106 rfl rfl ?_
        exact ⟨by rw [up_at]; rfl, by rw [up_nk (by decide), up_at], me_0, by rw [up_nk (by decide), up_nk (by decide)]; exact hr.1, mrx_tr hf0 (mrx_tr (mrx_up (Or.inl rfl)) (mrx_up (Or.inr (Or.inr (Or.inr rfl)))))⟩
  · simp only [ax_cn, Classical.not_not] at c58
    exact absurd rfl c58
theorem mre_o (hr : mr d t false) (he : me_is d es) (hl : es.length ≤ 200) (hf0 : mrx d0 d) : ax_W 138 53 [some (.ref 540)] [] d (ax_Pi (rP9 d0 (0, es, t))) := by
  refine wx_aldn j138_53 rfl ?_
  refine wx_aldn j138_54 rfl ?_
  refine wx_get (v := .int _) j138_55 rfl (Nat.le_of_ble_eq_true rfl) rfl ?_
  rw [hr.2]
  refine wx_if 65 j138_58 (by decide) (fun c58 => ?_) (fun c58 => ?_)
  · simp only [ax_cn, Classical.not_not] at c58
    refine wx_aldn j138_65 rfl ?_
    refine wx_get (v := .int _) j138_66 rfl (Nat.le_of_ble_eq_true rfl) rfl ?_
    refine wx_spsh (v := nI 200) j138_69 (by decide) ?_
    rw [he.2.1]
    refine wx_cmp 79 j138_72 (by decide) (fun c72 => ?_) (fun c72 => ?_)
    · simp only [ax_cn, Classical.not_not] at c72
      refine wx_icst (v := nI 0) j138_79 (by decide) ?_
      refine wx_put j138_80 rfl (Nat.le_of_ble_eq_true rfl) rfl rfl rfl ?_
      refine wx_aldn j138_83 rfl ?_
      refine wx_aldn j138_84 rfl ?_
      refine wx_get (v := .int _) j138_85 rfl (Nat.le_of_ble_eq_true rfl) rfl ?_
      rw [up_at]
      refine wx_if 95 j138_88 (by decide) (fun c88 => ?_) (fun c88 => ?_)
      · simp only [ax_cn, Classical.not_not] at c88
        refine wx_aldn j138_95 rfl ?_
        refine wx_get (v := .int _) j138_96 rfl (Nat.le_of_ble_eq_true rfl) rfl ?_
        rw [up_nk (by decide), he.2.1]
        refine wx_put j138_99 rfl (Nat.le_of_ble_eq_true rfl) rfl rfl rfl ?_
        refine wx_aldn j138_102 rfl ?_
        refine wx_get (v := .int _) j138_103 rfl (Nat.le_of_ble_eq_true rfl) rfl ?_
        refine wx_ri j138_106 rfl rfl ?_
        exact ⟨by rw [up_at], by rw [up_nk (by decide), up_at], ⟨he.1, up_at _ _ _ _, fun i hi => by rw [ax_up_ne (show 566 ≠ 540 by decide), ax_up_ne (show 566 ≠ 540 by decide), ax_up_ne (show 567 ≠ 540 by decide), ax_up_ne (show 567 ≠ 540 by decide), ax_up_ne (show 568 ≠ 540 by decide), ax_up_ne (show 568 ≠ 540 by decide), ax_up_ne (show 569 ≠ 540 by decide), ax_up_ne (show 569 ≠ 540 by decide)]; exact he.2.2 i hi⟩, by rw [up_nk (by decide), up_nk (by decide)]; exact hr.1, mrx_tr hf0 (mrx_tr (mrx_up (Or.inl rfl)) (mrx_up (Or.inr (Or.inr (Or.inr rfl)))))⟩
      · simp only [ax_cn, Classical.not_not] at c88
        exact absurd (show nI 0 ≤ 0 by decide) c88
    · simp only [ax_cn, Classical.not_not] at c72
      exact absurd ((nI_leI (by omega) (by decide)).mpr hl) c72
  · simp only [ax_cn, Classical.not_not] at c58
    exact absurd rfl c58
theorem mrd_loop : ∀ g (T : TT) n nm fl b t es (d : ax_D), ms_is d sl → mr d t false → t ≤ sl.length → mt_is d 1 T → BI T → (∀ i, i < n → nm i < (T 4 0).length) → mg_is d 1 n nm fl b → me_is d es → es.length + g = 201 → (0 < g → (b = false ∧ n = 0) ∨ (b = true ∧ 0 < n)) → mrx d0 d → ax_W 138 20 [some (.ref 540)] [] d (ax_Pi (rP9 d0 (rAll sl g T n nm fl b t es))) := by
  intro g
  induction g with
  | zero =>
    intro T n nm fl b t es d hs hr ht h hB hnm hg he hl hbn hf0
    have e : rAll sl 0 T n nm fl b t es = (2, [], t) := rfl
    rw [e]
    refine wx_aldn j138_20 rfl ?_
    refine wx_get (v := .ref 558) j138_21 rfl (Nat.le_of_ble_eq_true rfl) rfl ?_
    refine wx_icst (v := nI 1) j138_24 (by decide) ?_
    refine wx_balx (1) j138_25 rfl rfl (by decide) (by decide) ?_
    refine wx_if 53 j138_26 (by decide) (fun c26 => ?_) (fun c26 => ?_)
    · simp only [ax_cn, Classical.not_not] at c26
      exact mre_m hr he (by omega) hf0
    · simp only [ax_cn, Classical.not_not] at c26
      refine wx_aldn j138_29 rfl ?_
      refine wx_get (v := .int _) j138_30 rfl (Nat.le_of_ble_eq_true rfl) rfl ?_
      rw [hr.2]
      refine wx_if 53 j138_33 (by decide) (fun c33 => ?_) (fun c33 => ?_)
      · simp only [ax_cn, Classical.not_not] at c33
        exact absurd rfl c33
      · simp only [ax_cn, Classical.not_not] at c33
        refine wx_aldn j138_36 rfl ?_
        refine wx_get (v := .int _) j138_37 rfl (Nat.le_of_ble_eq_true rfl) rfl ?_
        refine wx_spsh (v := nI 201) j138_40 (by decide) ?_
        rw [he.2.1]
        refine wx_cmp 53 j138_43 (by decide) (fun c43 => ?_) (fun c43 => ?_)
        · simp only [ax_cn, Classical.not_not] at c43
          exact mre_m hr he (by omega) hf0
        · simp only [ax_cn, Classical.not_not] at c43
          exact absurd ((nI_leI (by decide) (by omega)).mpr (by omega)) c43
  | succ g ih =>
    intro T n nm fl b t es d hs hr ht h hB hnm hg he hl hbn hf0
    have hw : (b && decide (n = 0)) = false := by
      rcases hbn (Nat.succ_pos g) with ⟨hb, -⟩ | ⟨-, hn⟩
      · rw [hb]; rfl
      · rw [decide_eq_false (by omega), Bool.and_false]
    have hOK : rOK sl n fl b (rStep sl T n nm fl b t) := by
      rcases hbn (Nat.succ_pos g) with ⟨hb, hn⟩ | ⟨hb, hn⟩
      · subst hb; subst hn; exact rEv1_OK hB ht
      · subst hb
        obtain ⟨m, rfl⟩ : ∃ m, n = m + 1 := ⟨n - 1, by omega⟩
        exact rEv2_OK hB hnm ht
    have hE : ax_E 137 [.ref 540] d (ax_Pv (meQ d es (rStep sl T n nm fl b t))) := by
      rcases hbn (Nat.succ_pos g) with ⟨hb, hn⟩ | ⟨hb, hn⟩
      · subst hb; subst hn; exact sm_takeEvent1 hs hr ht h hB he (by omega) hg
      · subst hb
        obtain ⟨m, rfl⟩ : ∃ m, n = m + 1 := ⟨n - 1, by omega⟩
        exact sm_takeEvent2 hs hr ht h hB he (by omega) hg (hnm m (Nat.lt_succ_self m))
    have e0 : rAll sl (g + 1) T n nm fl b t es = (match (rStep sl T n nm fl b t).1 with
      | none => (1, [], (rStep sl T n nm fl b t).2)
      | some q => if q.2.1 = 0 ∧ es.length < 200 then (0, es ++ [q.2.2.2.2], (rStep sl T n nm fl b t).2) else rAll sl g q.1 q.2.1 q.2.2.1 q.2.2.2.1 true (rStep sl T n nm fl b t).2 (es ++ [q.2.2.2.2])) := rfl
    rw [e0]
    refine wx_aldn j138_20 rfl ?_
    refine wx_get (v := .ref 558) j138_21 rfl (Nat.le_of_ble_eq_true rfl) rfl ?_
    refine wx_icst (v := nI 1) j138_24 (by decide) ?_
    refine wx_balx (1) j138_25 rfl rfl (by decide) (by decide) ?_
    rw [hg.2.2.1, hw]
    refine wx_if 53 j138_26 (by decide) (fun c26 => ?_) (fun c26 => ?_)
    · simp only [ax_cn, Classical.not_not] at c26
      exact absurd rfl c26
    · simp only [ax_cn, Classical.not_not] at c26
      refine wx_aldn j138_29 rfl ?_
      refine wx_get (v := .int _) j138_30 rfl (Nat.le_of_ble_eq_true rfl) rfl ?_
      rw [hr.2]
      refine wx_if 53 j138_33 (by decide) (fun c33 => ?_) (fun c33 => ?_)
      · simp only [ax_cn, Classical.not_not] at c33
        exact absurd rfl c33
      · simp only [ax_cn, Classical.not_not] at c33
        refine wx_aldn j138_36 rfl ?_
        refine wx_get (v := .int _) j138_37 rfl (Nat.le_of_ble_eq_true rfl) rfl ?_
        refine wx_spsh (v := nI 201) j138_40 (by decide) ?_
        rw [he.2.1]
        refine wx_cmp 53 j138_43 (by decide) (fun c43 => ?_) (fun c43 => ?_)
        · simp only [ax_cn, Classical.not_not] at c43
          exact absurd ((nI_leI (by decide) (by omega)).mp c43) (by omega)
        · simp only [ax_cn, Classical.not_not] at c43
          refine wx_aldn j138_46 rfl ?_
          refine wx_v0 j138_47 rfl  (Nat.le_of_ble_eq_true rfl) rfl (hE) ?_
          rintro d2 ⟨r2, q2, f2⟩
          generalize rStep sl T n nm fl b t = r at *
          obtain ⟨o, t1⟩ := r
          cases o with
          | none =>
            simp only [Option.isNone_none] at r2 ⊢
            refine wx_goto 20 j138_50 (by decide) ?_
            refine wx_aldn j138_20 rfl ?_
            refine wx_get (v := .ref 558) j138_21 rfl (Nat.le_of_ble_eq_true rfl) rfl ?_
            refine wx_icst (v := nI 1) j138_24 (by decide) ?_
            refine wx_balx (1) j138_25 rfl rfl (by decide) (by decide) ?_
            refine wx_if 53 j138_26 (by decide) (fun c26 => ?_) (fun c26 => ?_)
            · simp only [ax_cn, Classical.not_not] at c26
              exact mre_w r2 (mrx_tr hf0 (mrx_e f2))
            · simp only [ax_cn, Classical.not_not] at c26
              refine wx_aldn j138_29 rfl ?_
              refine wx_get (v := .int _) j138_30 rfl (Nat.le_of_ble_eq_true rfl) rfl ?_
              rw [r2.2]
              refine wx_if 53 j138_33 (by decide) (fun c33 => ?_) (fun c33 => ?_)
              · simp only [ax_cn, Classical.not_not] at c33
                exact mre_w r2 (mrx_tr hf0 (mrx_e f2))
              · simp only [ax_cn, Classical.not_not] at c33
                exact absurd c33 (by decide)
          | some q =>
            obtain ⟨t2, g2, e2⟩ := q2 q rfl
            obtain ⟨b1, b2, b3, b4, b5⟩ := hOK.2 q rfl
            have ht1 : t1 ≤ sl.length := hOK.1
            simp only [Option.isNone_some] at r2 ⊢
            by_cases hq : q.2.1 = 0 ∧ es.length < 200
            · rw [if_pos hq]
              refine wx_goto 20 j138_50 (by decide) ?_
              refine wx_aldn j138_20 rfl ?_
              refine wx_get (v := .ref 558) j138_21 rfl (Nat.le_of_ble_eq_true rfl) rfl ?_
              refine wx_icst (v := nI 1) j138_24 (by decide) ?_
              refine wx_balx (1) j138_25 rfl rfl (by decide) (by decide) ?_
              rw [g2.2.2.1, decide_eq_true hq.1]
              refine wx_if 53 j138_26 (by decide) (fun c26 => ?_) (fun c26 => ?_)
              · simp only [ax_cn, Classical.not_not] at c26
                exact mre_o r2 e2 (by rw [List.length_append]; exact hq.2) (mrx_tr hf0 (mrx_e f2))
              · simp only [ax_cn, Classical.not_not] at c26
                exact absurd c26 (by decide)
            · rw [if_neg hq]
              refine wx_goto 20 j138_50 (by decide) ?_
              refine ih q.1 q.2.1 q.2.2.1 q.2.2.2.1 true t1 (es ++ [q.2.2.2.2]) d2 (ms_re hs f2) r2 ht1 t2 b1 b2 g2 e2 (by rw [List.length_append]; show es.length + 1 + g = 201; omega) (fun hg0 => Or.inr ⟨rfl, ?_⟩) (mrx_tr hf0 (mrx_e f2))
              have : ¬ q.2.1 = 0 := fun z => hq ⟨z, by omega⟩
              omega
theorem sm_read (hs : ms_is d sl) : ax_E 138 [.ref 540] d (ax_Pi (rP9 d (rD sl))) := by
  show ax_W 138 0 [some (.ref 540)] [] d _
  refine wx_aldn j138_0 rfl ?_
  refine wx_icst (v := nI 1) j138_1 (by decide) ?_
  refine wx_v1 j138_2 rfl rfl (Nat.le_of_ble_eq_true rfl) rfl (sm_begin (c := 1) (by decide)) ?_
  rintro d2 ⟨t2, g2, f2⟩
  refine wx_aldn j138_5 rfl ?_
  refine wx_icst (v := nI 0) j138_6 (by decide) ?_
  refine wx_put j138_7 rfl (Nat.le_of_ble_eq_true rfl) rfl rfl rfl ?_
  refine wx_aldn j138_10 rfl ?_
  refine wx_icst (v := nI 0) j138_11 (by decide) ?_
  refine wx_put j138_12 rfl (Nat.le_of_ble_eq_true rfl) rfl rfl rfl ?_
  refine wx_aldn j138_15 rfl ?_
  refine wx_icst (v := nI 0) j138_16 (by decide) ?_
  refine wx_put j138_17 rfl (Nat.le_of_ble_eq_true rfl) rfl rfl rfl ?_
  exact mrd_loop 201 t00 0 _ _ false 0 [] _ (ms_up (ms_up (ms_up (ms_mo hs f2) (by decide)) (by decide)) (by decide)) ⟨by rw [up_nk (by decide), up_nk (by decide), up_at], by rw [up_nk (by decide), up_at]; rfl⟩ (Nat.zero_le _) (mt_up (mt_up (mt_up t2 (Or.inl (by decide))) (Or.inl (by decide))) (Or.inl (by decide))) BI_00 (fun i hi => absurd hi (Nat.not_lt_zero i)) (mg_up (mg_up (mg_up (g2 _ _) (by decide)) (by decide)) (by decide)) me_0 rfl (fun _ => Or.inl ⟨rfl, rfl⟩) (mrx_tr (mrx_mo f2) (mrx_tr (mrx_up (Or.inr (Or.inl rfl))) (mrx_tr (mrx_up (Or.inr (Or.inr (Or.inl rfl)))) (mrx_up (Or.inr (Or.inr (Or.inr rfl)))))))
/-- a part of an event -/
def evp (e : Ev) (k : Nat) : Nat := if k = 0 then e.1 else if k = 1 then e.2.1 else if k = 2 then e.2.2.1 else e.2.2.2
theorem sm_event (h : me_is d es) : ax_E 140 [.ref 540, .int x, .int y] d (ax_Pi fun z d1 => (∀ i k, i < es.length → k < 4 → x = nI i → y = nI k → z = nI (evp (es.getD i (0, 0, 0, 0)) k) ∧ d1 540 0 = nI 0) ∧ (x < 0 ∨ nI es.length ≤ x → d1 540 0 = nI 1) ∧ (∀ i, i < es.length → x = nI i → (y < 0 ∨ nI 4 ≤ y) → d1 540 0 = nI 2) ∧ d1 = ax_up d 540 0 (d1 540 0)) := by
  show ax_W 140 0 [some (.ref 540), some (.int x), some (.int y)] [] d _
  have l201 := h.1
  have hix := pk_ix x (show es.length < 2 ^ 31 by omega)
  have hiy := pk_ix y (show 4 < 2 ^ 31 by decide)
  refine wx_aldn j140_0 rfl ?_
  refine wx_ildn j140_1 rfl ?_
  refine wx_if 13 j140_2 (by decide) (fun c2 => ?_) (fun c2 => ?_)
  · simp only [ax_cn, Classical.not_not] at c2
    have h2 := c2
    refine wx_icst (v := nI 1) j140_13 (by decide) ?_
    refine wx_goto 31 j140_14 (by decide) ?_
    refine wx_put j140_31 rfl (Nat.le_of_ble_eq_true rfl) rfl rfl rfl ?_
    refine wx_aldn j140_34 rfl ?_
    refine wx_get (v := .int _) j140_35 rfl (Nat.le_of_ble_eq_true rfl) rfl ?_
    rw [up_at]
    refine wx_if 43 j140_38 (by decide) (fun c38 => ?_) (fun c38 => ?_)
    · simp only [ax_cn, Classical.not_not] at c38
      have h38 := c38
      exact absurd h38 (by decide)
    · simp only [ax_cn, Classical.not_not] at c38
      have h38 := c38
      refine wx_icst (v := nI 0) j140_41 (by decide) ?_
      refine wx_ri j140_42 rfl rfl ?_
      exact ⟨fun i k hi hk ex ey => absurd h2 (by rw [ex]; exact nI_pos (by omega)), fun _ => up_at _ _ _ _, fun i hi ex => absurd h2 (by rw [ex]; exact nI_pos (by omega)), by rw [up_at]⟩
  · simp only [ax_cn, Classical.not_not] at c2
    have h2 := c2
    refine wx_ildn j140_5 rfl ?_
    refine wx_aldn j140_6 rfl ?_
    refine wx_get (v := .int _) j140_7 rfl (Nat.le_of_ble_eq_true rfl) rfl ?_
    rw [h.2.1]
    refine wx_cmp 17 j140_10 (by decide) (fun c10 => ?_) (fun c10 => ?_)
    · simp only [ax_cn, Classical.not_not] at c10
      have h10 := c10
      refine wx_ildn j140_17 rfl ?_
      refine wx_if 26 j140_18 (by decide) (fun c18 => ?_) (fun c18 => ?_)
      · simp only [ax_cn, Classical.not_not] at c18
        have h18 := c18
        refine wx_icst (v := nI 2) j140_26 (by decide) ?_
        refine wx_goto 31 j140_27 (by decide) ?_
        refine wx_put j140_31 rfl (Nat.le_of_ble_eq_true rfl) rfl rfl rfl ?_
        refine wx_aldn j140_34 rfl ?_
        refine wx_get (v := .int _) j140_35 rfl (Nat.le_of_ble_eq_true rfl) rfl ?_
        rw [up_at]
        refine wx_if 43 j140_38 (by decide) (fun c38 => ?_) (fun c38 => ?_)
        · simp only [ax_cn, Classical.not_not] at c38
          have h38 := c38
          exact absurd h38 (by decide)
        · simp only [ax_cn, Classical.not_not] at c38
          have h38 := c38
          refine wx_icst (v := nI 0) j140_41 (by decide) ?_
          refine wx_ri j140_42 rfl rfl ?_
          exact ⟨fun i k hi hk ex ey => absurd h18 (by rw [ey]; exact nI_pos (by omega)), fun q => absurd (q.elim (fun q => absurd q h2) (fun q => absurd h10 (Int32.not_lt.mpr q))) (fun z => z), fun i hi ex q => up_at _ _ _ _, by rw [up_at]⟩
      · simp only [ax_cn, Classical.not_not] at c18
        have h18 := c18
        refine wx_ildn j140_21 rfl ?_
        refine wx_icst (v := nI 3) j140_22 (by decide) ?_
        refine wx_cmp 30 j140_23 (by decide) (fun c23 => ?_) (fun c23 => ?_)
        · simp only [ax_cn, Classical.not_not] at c23
          have h23 := c23
          refine wx_icst (v := nI 0) j140_30 (by decide) ?_
          refine wx_put j140_31 rfl (Nat.le_of_ble_eq_true rfl) rfl rfl rfl ?_
          refine wx_aldn j140_34 rfl ?_
          refine wx_get (v := .int _) j140_35 rfl (Nat.le_of_ble_eq_true rfl) rfl ?_
          rw [up_at]
          refine wx_if 43 j140_38 (by decide) (fun c38 => ?_) (fun c38 => ?_)
          · simp only [ax_cn, Classical.not_not] at c38
            have h38 := c38
            obtain ⟨i, hi, rfl⟩ : ∃ i, i < es.length ∧ x = nI i := by
              rcases hix with q | q | q
              · exact absurd q h2
              · exact absurd h10 (Int32.not_lt.mpr q)
              · exact q
            obtain ⟨k, hk, rfl⟩ : ∃ k, k < 4 ∧ y = nI k := by
              rcases hiy with q | q | q
              · exact absurd q h18
              · exact absurd (Int32.le_trans q h23) (by decide)
              · exact q
            have e4 := h.2.2 i hi
            have fin : ∀ z : Int32, z = nI (evp (es.getD i (0, 0, 0, 0)) k) → (∀ i2 k2, i2 < es.length → k2 < 4 → nI i = nI i2 → nI k = nI k2 → z = nI (evp (es.getD i2 (0, 0, 0, 0)) k2) ∧ ax_up d 540 0 (nI 0) 540 0 = nI 0) ∧ (nI i < 0 ∨ nI es.length ≤ nI i → ax_up d 540 0 (nI 0) 540 0 = nI 1) ∧ (∀ i2, i2 < es.length → nI i = nI i2 → (nI k < 0 ∨ nI 4 ≤ nI k) → ax_up d 540 0 (nI 0) 540 0 = nI 2) ∧ ax_up d 540 0 (nI 0) = ax_up d 540 0 (ax_up d 540 0 (nI 0) 540 0) := by
              intro z hz
              refine ⟨fun i2 k2 hi2 hk2 e1 e2 => ?_, fun q => ?_, fun i2 hi2 e1 q => ?_, by rw [up_at]⟩
              · rw [← (nI_eq (by omega) (by omega)).mp e1, ← (nI_eq (by omega) (by omega)).mp e2]
                exact ⟨hz, up_at _ _ _ _⟩
              · rcases q with q | q
                · exact absurd q (nI_pos (by omega))
                · exact absurd ((nI_leI (by omega) (by omega)).mp q) (by omega)
              · rcases q with q | q
                · exact absurd q (nI_pos (by omega))
                · exact absurd ((nI_leI (by omega) (by omega)).mp q) (by omega)
            refine wx_ildn j140_43 rfl ?_
            refine wx_if 56 j140_44 (by decide) (fun c44 => ?_) (fun c44 => ?_)
            · simp only [ax_cn, Classical.not_not] at c44
              have k0 : ¬ k = 0 := fun q => c44 (by rw [q]; rfl)
              refine wx_ildn j140_56 rfl ?_
              refine wx_icst (v := nI 1) j140_57 (by decide) ?_
              refine wx_cmp 70 j140_58 (by decide) (fun c58 => ?_) (fun c58 => ?_)
              · simp only [ax_cn, Classical.not_not] at c58
                have k1 : ¬ k = 1 := fun q => c58 (by rw [q])
                refine wx_ildn j140_70 rfl ?_
                refine wx_icst (v := nI 2) j140_71 (by decide) ?_
                refine wx_cmp 84 j140_72 (by decide) (fun c72 => ?_) (fun c72 => ?_)
                · simp only [ax_cn, Classical.not_not] at c72
                  have k2 : ¬ k = 2 := fun q => c72 (by rw [q])
                  refine wx_aldn j140_84 rfl ?_
                  refine wx_get (v := .ref 569) j140_85 rfl (Nat.le_of_ble_eq_true rfl) rfl ?_
                  refine wx_ildn j140_88 rfl ?_
                  refine wx_ialx (i) j140_89 rfl rfl (by omega) (by decide) ?_
                  rw [up_ni (by decide), e4.2.2.2]
                  refine wx_ri j140_90 rfl rfl ?_
                  exact fin _ (by unfold evp; rw [if_neg k0, if_neg k1, if_neg k2])
                · simp only [ax_cn, Classical.not_not] at c72
                  have k2 : k = 2 := (nI_eq (by omega) (by decide)).mp c72
                  refine wx_aldn j140_75 rfl ?_
                  refine wx_get (v := .ref 568) j140_76 rfl (Nat.le_of_ble_eq_true rfl) rfl ?_
                  refine wx_ildn j140_79 rfl ?_
                  refine wx_ialx (i) j140_80 rfl rfl (by omega) (by decide) ?_
                  rw [up_ni (by decide), e4.2.2.1]
                  refine wx_goto 90 j140_81 (by decide) ?_
                  refine wx_ri j140_90 rfl rfl ?_
                  exact fin _ (by unfold evp; rw [if_neg k0, if_neg k1, if_pos k2])
              · simp only [ax_cn, Classical.not_not] at c58
                have k1 : k = 1 := (nI_eq (by omega) (by decide)).mp c58
                refine wx_aldn j140_61 rfl ?_
                refine wx_get (v := .ref 567) j140_62 rfl (Nat.le_of_ble_eq_true rfl) rfl ?_
                refine wx_ildn j140_65 rfl ?_
                refine wx_ialx (i) j140_66 rfl rfl (by omega) (by decide) ?_
                rw [up_ni (by decide), e4.2.1]
                refine wx_goto 90 j140_67 (by decide) ?_
                refine wx_ri j140_90 rfl rfl ?_
                exact fin _ (by unfold evp; rw [if_neg k0, if_pos k1])
            · simp only [ax_cn, Classical.not_not] at c44
              have k0 : k = 0 := (nI_eq (by omega) (by decide)).mp (c44.trans nI_0.symm)
              refine wx_aldn j140_47 rfl ?_
              refine wx_get (v := .ref 566) j140_48 rfl (Nat.le_of_ble_eq_true rfl) rfl ?_
              refine wx_ildn j140_51 rfl ?_
              refine wx_ialx (i) j140_52 rfl rfl (by omega) (by decide) ?_
              rw [up_ni (by decide), e4.1]
              refine wx_goto 90 j140_53 (by decide) ?_
              refine wx_ri j140_90 rfl rfl ?_
              exact fin _ (by unfold evp; rw [if_pos k0])
          · simp only [ax_cn, Classical.not_not] at c38
            have h38 := c38
            refine wx_icst (v := nI 0) j140_41 (by decide) ?_
            refine wx_ri j140_42 rfl rfl ?_
            exact absurd (show nI 0 ≤ 0 by decide) h38
        · simp only [ax_cn, Classical.not_not] at c23
          have h23 := c23
          refine wx_icst (v := nI 2) j140_26 (by decide) ?_
          refine wx_goto 31 j140_27 (by decide) ?_
          refine wx_put j140_31 rfl (Nat.le_of_ble_eq_true rfl) rfl rfl rfl ?_
          refine wx_aldn j140_34 rfl ?_
          refine wx_get (v := .int _) j140_35 rfl (Nat.le_of_ble_eq_true rfl) rfl ?_
          rw [up_at]
          refine wx_if 43 j140_38 (by decide) (fun c38 => ?_) (fun c38 => ?_)
          · simp only [ax_cn, Classical.not_not] at c38
            have h38 := c38
            exact absurd h38 (by decide)
          · simp only [ax_cn, Classical.not_not] at c38
            have h38 := c38
            refine wx_icst (v := nI 0) j140_41 (by decide) ?_
            refine wx_ri j140_42 rfl rfl ?_
            exact ⟨fun i k hi hk ex ey => absurd (by rw [ey]; exact (nI_leI (by omega) (by decide)).mpr (by omega)) h23, fun q => absurd (q.elim (fun q => absurd q h2) (fun q => absurd h10 (Int32.not_lt.mpr q))) (fun z => z), fun i hi ex q => up_at _ _ _ _, by rw [up_at]⟩
    · simp only [ax_cn, Classical.not_not] at c10
      have h10 := c10
      refine wx_icst (v := nI 1) j140_13 (by decide) ?_
      refine wx_goto 31 j140_14 (by decide) ?_
      refine wx_put j140_31 rfl (Nat.le_of_ble_eq_true rfl) rfl rfl rfl ?_
      refine wx_aldn j140_34 rfl ?_
      refine wx_get (v := .int _) j140_35 rfl (Nat.le_of_ble_eq_true rfl) rfl ?_
      rw [up_at]
      refine wx_if 43 j140_38 (by decide) (fun c38 => ?_) (fun c38 => ?_)
      · simp only [ax_cn, Classical.not_not] at c38
        have h38 := c38
        exact absurd h38 (by decide)
      · simp only [ax_cn, Classical.not_not] at c38
        have h38 := c38
        refine wx_icst (v := nI 0) j140_41 (by decide) ?_
        refine wx_ri j140_42 rfl rfl ?_
        exact ⟨fun i k hi hk ex ey => absurd ((nI_ltI (by omega) (by omega)).mpr hi) (by rw [← ex]; exact h10), fun _ => up_at _ _ _ _, fun i hi ex => absurd ((nI_ltI (by omega) (by omega)).mpr hi) (by rw [← ex]; exact h10), by rw [up_at]⟩
theorem getD_memE {l : List Ev} {i : Nat} {z : Ev} (h : i < l.length) : l.getD i z ∈ l := by
  rw [List.getD_eq_getElem?_getD, List.getElem?_eq_getElem h]
  exact List.getElem_mem h
/-- the events one after the other; none: one can't be written -/
def wAll (S : WS) : List Ev → Option WS
  | [] => some S
  | e :: es => if (oW S e.1 e.2.1 e.2.2.1 e.2.2.2).1 = 0 then wAll (oW S e.1 e.2.1 e.2.2.1 e.2.2.2).2 es else none
def oA (es : List Ev) : Nat × WS := match wAll wS0 es with
  | some S => (0, S)
  | none => (2, wS0)
theorem EVk_k {e : Ev} (h : EVk e) : e.1 = 1 ∨ e.1 = 2 ∨ e.1 = 3 ∨ e.1 = 4 := by
  rcases h.1 with h | h | h | h
  · exact Or.inl h.1
  · exact Or.inr (Or.inl h)
  · exact Or.inr (Or.inr (Or.inl h.1))
  · rw [h]; exact Or.inr (Or.inr (Or.inr rfl))
theorem me_wx {d d1 : ax_D} (h : me_is d es) (hf : mwx d d1) : me_is d1 es := me_k h (hf 540 24 (by decide) (by decide) (by decide)) (funext fun i => hf 566 i (by omega) (by decide) (fun q => absurd q.1 (by decide))) (funext fun i => hf 567 i (by omega) (by decide) (fun q => absurd q.1 (by decide))) (funext fun i => hf 568 i (by omega) (by decide) (fun q => absurd q.1 (by decide))) (funext fun i => hf 569 i (by omega) (by decide) (fun q => absurd q.1 (by decide)))
theorem drop_c {α : Type} {l : List α} {i : Nat} {z : α} (h : i < l.length) : l.drop i = l.getD i z :: l.drop (i + 1) := by
  rw [List.getD_eq_getElem?_getD, List.getElem?_eq_getElem h]
  exact List.drop_eq_getElem_cons h
def aP (d : ax_D) (r : Nat × WS) : Int32 → ax_D → Prop := fun y d1 => (r.1 = 0 → y = nI r.2.2.2.2.2.2.length) ∧ d1 540 0 = nI r.1 ∧ d1 540 29 = nI 1 ∧ MW d1 r.2 ∧ mwx d d1
theorem mag_end {z3 : Option Value} {w : Nat} {i : Int32} (hw : w = 2 ∨ w = 3) (hb : d 540 29 = nI 1) (hf0 : mwx d0 d) : ax_W 141 145 [some (.ref 540), some (.int (nI w)), some (.int i), z3] [] d (ax_Pi (aP d0 (2, wS0))) := by
  refine wx_ildn j141_145 rfl ?_
  refine wx_if 166 j141_146 (by decide) (fun c146 => ?_) (fun c146 => ?_)
  · simp only [ax_cn, Classical.not_not] at c146
    exact absurd c146 (nI_nle (by omega) (by omega))
  · simp only [ax_cn, Classical.not_not] at c146
    refine wx_aldn j141_149 rfl ?_
    refine wx_icst (v := nI 0) j141_150 (by decide) ?_
    refine wx_v1 j141_151 rfl rfl (Nat.le_of_ble_eq_true rfl) rfl (sm_begin (c := 0) (by decide)) ?_
    rintro d2 ⟨t2, g2, f2⟩
    refine wx_aldn j141_154 rfl ?_
    refine wx_icst (v := nI 0) j141_155 (by decide) ?_
    refine wx_put j141_156 rfl (Nat.le_of_ble_eq_true rfl) rfl rfl rfl ?_
    refine wx_aldn j141_159 rfl ?_
    refine wx_icst (v := nI 2) j141_160 (by decide) ?_
    refine wx_put j141_161 rfl (Nat.le_of_ble_eq_true rfl) rfl rfl rfl ?_
    refine wx_icst (v := nI 0) j141_164 (by decide) ?_
    refine wx_ri j141_165 rfl rfl ?_
    exact ⟨fun q => absurd q (by decide), up_at _ _ _ _, by rw [up_nk (by decide), up_nk (by decide), mo_id f2 (by decide)]; exact hb, MW_up ⟨mt_up t2 (Or.inl (by decide)), mg_up (g2 _ _) (by decide), mb_0⟩ (by decide), mwx_tr (mwx_tr (mwx_tr hf0 (mwx_mo f2)) (mwx_up (Or.inr (Or.inl rfl)))) (mwx_up (Or.inl rfl))⟩
theorem mag_loop (hEV : ∀ e, e ∈ es → EVk e) (hl : es.length ≤ 200) : ∀ n i S (d : ax_D) (z3 : Option Value), es.length - i < n → i ≤ es.length → me_is d es → MW d S → WI S → d 540 29 = nI 1 → d 540 0 = nI 0 → mwx d0 d → ax_W 141 43 [some (.ref 540), some (.int (nI 0)), some (.int (nI i)), z3] [] d (ax_Pi (aP d0 (match wAll S (es.drop i) with
    | some S => (0, S)
    | none => (2, wS0)))) := by
  intro n
  induction n with
  | zero => intro i S d z3 h0; omega
  | succ n ih =>
    intro i S d z3 h0 hi he hM hI hb h00 hf0
    refine wx_ildn j141_43 rfl ?_
    refine wx_aldn j141_44 rfl ?_
    refine wx_get (v := .int _) j141_45 rfl (Nat.le_of_ble_eq_true rfl) rfl ?_
    rw [he.2.1]
    refine wx_cmp 145 j141_48 (by decide) (fun c48 => ?_) (fun c48 => ?_)
    · simp only [ax_cn, Classical.not_not] at c48
      have hil : i = es.length := Nat.le_antisymm hi ((nI_leI (by omega) (by omega)).mp c48)
      rw [hil, List.drop_length]
      have eA : wAll S [] = some S := rfl
      rw [eA]
      refine wx_ildn j141_145 rfl ?_
      refine wx_if 166 j141_146 (by decide) (fun c146 => ?_) (fun c146 => ?_)
      · simp only [ax_cn, Classical.not_not] at c146
        refine wx_aldn j141_166 rfl ?_
        refine wx_get (v := .int _) j141_167 rfl (Nat.le_of_ble_eq_true rfl) rfl ?_
        refine wx_ri j141_170 rfl rfl ?_
        exact ⟨fun _ => hM.2.2.2.1, h00, hb, hM, hf0⟩
      · simp only [ax_cn, Classical.not_not] at c146
        exact absurd (show nI 0 ≤ 0 by decide) c146
    · simp only [ax_cn, Classical.not_not] at c48
      have hil : i < es.length := Nat.not_le.mp (fun q => c48 ((nI_leI (by omega) (by omega)).mpr q))
      have hEe := hEV _ (getD_memE (z := (0, 0, 0, 0)) hil)
      have e4 := he.2.2 i hil
      rw [drop_c (z := (0, 0, 0, 0)) hil]
      generalize es.getD i (0, 0, 0, 0) = e at hEe e4 ⊢
      have eA : wAll S (e :: es.drop (i + 1)) = if (oW S e.1 e.2.1 e.2.2.1 e.2.2.2).1 = 0 then wAll (oW S e.1 e.2.1 e.2.2.1 e.2.2.2).2 (es.drop (i + 1)) else none := rfl
      rw [eA]
      have hk14 := EVk_k hEe
      refine wx_ildn j141_51 rfl ?_
      refine wx_if 145 j141_52 (by decide) (fun c52 => ?_) (fun c52 => ?_)
      · simp only [ax_cn, Classical.not_not] at c52
        exact absurd rfl c52
      · simp only [ax_cn, Classical.not_not] at c52
        refine wx_aldn j141_55 rfl ?_
        refine wx_get (v := .ref 566) j141_56 rfl (Nat.le_of_ble_eq_true rfl) rfl ?_
        refine wx_ildn j141_59 rfl ?_
        refine wx_ialx (i) j141_60 rfl rfl (by omega) (by decide) ?_
        rw [e4.1]
        refine wx_istn (L' := [_, _, _, some (.int _)]) j141_61 (Nat.le_of_ble_eq_true rfl) rfl ?_
        refine wx_ildn j141_62 rfl ?_
        refine wx_icst (v := nI 1) j141_63 (by decide) ?_
        refine wx_cmp 86 j141_64 (by decide) (fun c64 => ?_) (fun c64 => ?_)
        · simp only [ax_cn, Classical.not_not] at c64
          have hk1 : ¬ e.1 = 1 := fun q => c64 (by rw [q])
          refine wx_ildn j141_86 rfl ?_
          refine wx_icst (v := nI 2) j141_87 (by decide) ?_
          refine wx_cmp 116 j141_88 (by decide) (fun c88 => ?_) (fun c88 => ?_)
          · simp only [ax_cn, Classical.not_not] at c88
            have hk2 : ¬ e.1 = 2 := fun q => c88 (by rw [q])
            refine wx_ildn j141_116 rfl ?_
            refine wx_icst (v := nI 3) j141_117 (by decide) ?_
            refine wx_cmp 134 j141_118 (by decide) (fun c118 => ?_) (fun c118 => ?_)
            · simp only [ax_cn, Classical.not_not] at c118
              have hk3 : ¬ e.1 = 3 := fun q => c118 (by rw [q])
              have eO : oW S e.1 e.2.1 e.2.2.1 e.2.2.2 = oW S 4 0 0 0 := by
                rcases hEe.1 with h | h | h | h
                · omega
                · omega
                · omega
                · rw [h]
              refine wx_aldn j141_134 rfl ?_
              refine wx_i0 j141_135 rfl  (Nat.le_of_ble_eq_true rfl) rfl (sm_wClose hM hI) ?_
              rintro y2 d2 h2
              obtain ⟨rfl, m2, f2⟩ := h2
              have b2 : d2 540 29 = nI 1 := (f2 540 29 (by decide) (by decide) (by decide)).trans hb
              have k2 : d2 540 0 = nI 0 := (f2 540 0 (by decide) (by decide) (by decide)).trans h00
              have hWI : WI (oW S e.1 e.2.1 e.2.2.1 e.2.2.2).2 := WI_oW hI (EVk_k hEe) hEe.2.1 hEe.2.2.1 hEe.2.2.2
              by_cases hz : (oW S e.1 e.2.1 e.2.2.1 e.2.2.2).1 = 0
              · rw [if_pos hz]
                rw [eO] at hz hWI ⊢
                rw [hz]
                refine wx_istn (L' := [_, some (.int _), _, _]) j141_138 (Nat.le_of_ble_eq_true rfl) rfl ?_
                refine wx_iinc (v := nI (i + 1)) (L' := [_, _, some (.int _), _]) j141_139 rfl (nI_1 i) rfl ?_
                refine wx_goto 43 j141_142 (by decide) ?_
                exact ih (i + 1) _ d2 _ (by omega) hil (me_wx he (mwx_e f2)) m2 hWI b2 k2 (mwx_tr hf0 (mwx_e f2))
              · rw [if_neg hz]
                rw [eO] at hz
                have hw := oW_le (S := S) (k := 4) (sp := 0) (lo := 0) (v := 0)
                refine wx_istn (L' := [_, some (.int _), _, _]) j141_138 (Nat.le_of_ble_eq_true rfl) rfl ?_
                refine wx_iinc (v := nI (i + 1)) (L' := [_, _, some (.int _), _]) j141_139 rfl (nI_1 i) rfl ?_
                refine wx_goto 43 j141_142 (by decide) ?_
                refine wx_ildn j141_43 rfl ?_
                refine wx_aldn j141_44 rfl ?_
                refine wx_get (v := .int _) j141_45 rfl (Nat.le_of_ble_eq_true rfl) rfl ?_
                rw [(me_wx he (mwx_e f2)).2.1]
                refine wx_cmp 145 j141_48 (by decide) (fun c48 => ?_) (fun c48 => ?_)
                · simp only [ax_cn, Classical.not_not] at c48
                  exact mag_end (by omega) b2 (mwx_tr hf0 (mwx_e f2))
                · simp only [ax_cn, Classical.not_not] at c48
                  refine wx_ildn j141_51 rfl ?_
                  refine wx_if 145 j141_52 (by decide) (fun c52 => ?_) (fun c52 => ?_)
                  · simp only [ax_cn, Classical.not_not] at c52
                    exact mag_end (by omega) b2 (mwx_tr hf0 (mwx_e f2))
                  · simp only [ax_cn, Classical.not_not] at c52
                    exact absurd c52 (nI_ne0 (by omega) (by omega))
              
            · simp only [ax_cn, Classical.not_not] at c118
              have hk : e.1 = 3 := (nI_eq (by omega) (by decide)).mp c118
              have eO : oW S e.1 e.2.1 e.2.2.1 e.2.2.2 = oW S 3 0 0 e.2.2.2 := by
                rcases hEe.1 with h | h | h | h
                · omega
                · omega
                · rw [h.1, h.2.1, h.2.2]
                · rw [h] at hk; exact absurd hk (by decide)
              refine wx_aldn j141_121 rfl ?_
              refine wx_aldn j141_122 rfl ?_
              refine wx_get (v := .ref 569) j141_123 rfl (Nat.le_of_ble_eq_true rfl) rfl ?_
              refine wx_ildn j141_126 rfl ?_
              refine wx_ialx (i) j141_127 rfl rfl (by omega) (by decide) ?_
              rw [e4.2.2.2]
              refine wx_i1 j141_128 rfl rfl (Nat.le_of_ble_eq_true rfl) rfl (sm_wText hM hI hEe.2.2.2) ?_
              rintro y2 d2 h2
              obtain ⟨rfl, m2, f2⟩ := h2
              have b2 : d2 540 29 = nI 1 := (f2 540 29 (by decide) (by decide) (by decide)).trans hb
              have k2 : d2 540 0 = nI 0 := (f2 540 0 (by decide) (by decide) (by decide)).trans h00
              have hWI : WI (oW S e.1 e.2.1 e.2.2.1 e.2.2.2).2 := WI_oW hI (EVk_k hEe) hEe.2.1 hEe.2.2.1 hEe.2.2.2
              by_cases hz : (oW S e.1 e.2.1 e.2.2.1 e.2.2.2).1 = 0
              · rw [if_pos hz]
                rw [eO] at hz hWI ⊢
                rw [hz]
                refine wx_goto 138 j141_131 (by decide) ?_
                refine wx_istn (L' := [_, some (.int _), _, _]) j141_138 (Nat.le_of_ble_eq_true rfl) rfl ?_
                refine wx_iinc (v := nI (i + 1)) (L' := [_, _, some (.int _), _]) j141_139 rfl (nI_1 i) rfl ?_
                refine wx_goto 43 j141_142 (by decide) ?_
                exact ih (i + 1) _ d2 _ (by omega) hil (me_wx he (mwx_e f2)) m2 hWI b2 k2 (mwx_tr hf0 (mwx_e f2))
              · rw [if_neg hz]
                rw [eO] at hz
                have hw := oW_le (S := S) (k := 3) (sp := 0) (lo := 0) (v := e.2.2.2)
                refine wx_goto 138 j141_131 (by decide) ?_
                refine wx_istn (L' := [_, some (.int _), _, _]) j141_138 (Nat.le_of_ble_eq_true rfl) rfl ?_
                refine wx_iinc (v := nI (i + 1)) (L' := [_, _, some (.int _), _]) j141_139 rfl (nI_1 i) rfl ?_
                refine wx_goto 43 j141_142 (by decide) ?_
                refine wx_ildn j141_43 rfl ?_
                refine wx_aldn j141_44 rfl ?_
                refine wx_get (v := .int _) j141_45 rfl (Nat.le_of_ble_eq_true rfl) rfl ?_
                rw [(me_wx he (mwx_e f2)).2.1]
                refine wx_cmp 145 j141_48 (by decide) (fun c48 => ?_) (fun c48 => ?_)
                · simp only [ax_cn, Classical.not_not] at c48
                  exact mag_end (by omega) b2 (mwx_tr hf0 (mwx_e f2))
                · simp only [ax_cn, Classical.not_not] at c48
                  refine wx_ildn j141_51 rfl ?_
                  refine wx_if 145 j141_52 (by decide) (fun c52 => ?_) (fun c52 => ?_)
                  · simp only [ax_cn, Classical.not_not] at c52
                    exact mag_end (by omega) b2 (mwx_tr hf0 (mwx_e f2))
                  · simp only [ax_cn, Classical.not_not] at c52
                    exact absurd c52 (nI_ne0 (by omega) (by omega))
              
          · simp only [ax_cn, Classical.not_not] at c88
            have hk : e.1 = 2 := (nI_eq (by omega) (by decide)).mp c88
            have eO : oW S e.1 e.2.1 e.2.2.1 e.2.2.2 = oW S 2 e.2.1 e.2.2.1 e.2.2.2 := by rw [hk]
            refine wx_aldn j141_91 rfl ?_
            refine wx_aldn j141_92 rfl ?_
            refine wx_get (v := .ref 567) j141_93 rfl (Nat.le_of_ble_eq_true rfl) rfl ?_
            refine wx_ildn j141_96 rfl ?_
            refine wx_ialx (i) j141_97 rfl rfl (by omega) (by decide) ?_
            rw [e4.2.1]
            refine wx_aldn j141_98 rfl ?_
            refine wx_get (v := .ref 568) j141_99 rfl (Nat.le_of_ble_eq_true rfl) rfl ?_
            refine wx_ildn j141_102 rfl ?_
            refine wx_ialx (i) j141_103 rfl rfl (by omega) (by decide) ?_
            rw [e4.2.2.1]
            refine wx_aldn j141_104 rfl ?_
            refine wx_get (v := .ref 569) j141_105 rfl (Nat.le_of_ble_eq_true rfl) rfl ?_
            refine wx_ildn j141_108 rfl ?_
            refine wx_ialx (i) j141_109 rfl rfl (by omega) (by decide) ?_
            rw [e4.2.2.2]
            refine wx_i3 j141_110 rfl rfl rfl rfl (Nat.le_of_ble_eq_true rfl) rfl (sm_wAttr hM hI hEe.2.1 hEe.2.2.1 hEe.2.2.2) ?_
            rintro y2 d2 h2
            obtain ⟨rfl, m2, f2⟩ := h2
            have b2 : d2 540 29 = nI 1 := (f2 540 29 (by decide) (by decide) (by decide)).trans hb
            have k2 : d2 540 0 = nI 0 := (f2 540 0 (by decide) (by decide) (by decide)).trans h00
            have hWI : WI (oW S e.1 e.2.1 e.2.2.1 e.2.2.2).2 := WI_oW hI (EVk_k hEe) hEe.2.1 hEe.2.2.1 hEe.2.2.2
            by_cases hz : (oW S e.1 e.2.1 e.2.2.1 e.2.2.2).1 = 0
            · rw [if_pos hz]
              rw [eO] at hz hWI ⊢
              rw [hz]
              refine wx_goto 138 j141_113 (by decide) ?_
              refine wx_istn (L' := [_, some (.int _), _, _]) j141_138 (Nat.le_of_ble_eq_true rfl) rfl ?_
              refine wx_iinc (v := nI (i + 1)) (L' := [_, _, some (.int _), _]) j141_139 rfl (nI_1 i) rfl ?_
              refine wx_goto 43 j141_142 (by decide) ?_
              exact ih (i + 1) _ d2 _ (by omega) hil (me_wx he (mwx_e f2)) m2 hWI b2 k2 (mwx_tr hf0 (mwx_e f2))
            · rw [if_neg hz]
              rw [eO] at hz
              have hw := oW_le (S := S) (k := 2) (sp := e.2.1) (lo := e.2.2.1) (v := e.2.2.2)
              refine wx_goto 138 j141_113 (by decide) ?_
              refine wx_istn (L' := [_, some (.int _), _, _]) j141_138 (Nat.le_of_ble_eq_true rfl) rfl ?_
              refine wx_iinc (v := nI (i + 1)) (L' := [_, _, some (.int _), _]) j141_139 rfl (nI_1 i) rfl ?_
              refine wx_goto 43 j141_142 (by decide) ?_
              refine wx_ildn j141_43 rfl ?_
              refine wx_aldn j141_44 rfl ?_
              refine wx_get (v := .int _) j141_45 rfl (Nat.le_of_ble_eq_true rfl) rfl ?_
              rw [(me_wx he (mwx_e f2)).2.1]
              refine wx_cmp 145 j141_48 (by decide) (fun c48 => ?_) (fun c48 => ?_)
              · simp only [ax_cn, Classical.not_not] at c48
                exact mag_end (by omega) b2 (mwx_tr hf0 (mwx_e f2))
              · simp only [ax_cn, Classical.not_not] at c48
                refine wx_ildn j141_51 rfl ?_
                refine wx_if 145 j141_52 (by decide) (fun c52 => ?_) (fun c52 => ?_)
                · simp only [ax_cn, Classical.not_not] at c52
                  exact mag_end (by omega) b2 (mwx_tr hf0 (mwx_e f2))
                · simp only [ax_cn, Classical.not_not] at c52
                  exact absurd c52 (nI_ne0 (by omega) (by omega))
            
        · simp only [ax_cn, Classical.not_not] at c64
          have hk : e.1 = 1 := (nI_eq (by omega) (by decide)).mp c64
          have eO : oW S e.1 e.2.1 e.2.2.1 e.2.2.2 = oW S 1 e.2.1 e.2.2.1 0 := by
            rcases hEe.1 with h | h | h | h
            · rw [h.1, h.2]
            · omega
            · omega
            · rw [h] at hk; exact absurd hk (by decide)
          refine wx_aldn j141_67 rfl ?_
          refine wx_aldn j141_68 rfl ?_
          refine wx_get (v := .ref 567) j141_69 rfl (Nat.le_of_ble_eq_true rfl) rfl ?_
          refine wx_ildn j141_72 rfl ?_
          refine wx_ialx (i) j141_73 rfl rfl (by omega) (by decide) ?_
          rw [e4.2.1]
          refine wx_aldn j141_74 rfl ?_
          refine wx_get (v := .ref 568) j141_75 rfl (Nat.le_of_ble_eq_true rfl) rfl ?_
          refine wx_ildn j141_78 rfl ?_
          refine wx_ialx (i) j141_79 rfl rfl (by omega) (by decide) ?_
          rw [e4.2.2.1]
          refine wx_i2 j141_80 rfl rfl rfl (Nat.le_of_ble_eq_true rfl) rfl (sm_wOpen hM hI hEe.2.1 hEe.2.2.1) ?_
          rintro y2 d2 h2
          obtain ⟨rfl, m2, f2⟩ := h2
          have b2 : d2 540 29 = nI 1 := (f2 540 29 (by decide) (by decide) (by decide)).trans hb
          have k2 : d2 540 0 = nI 0 := (f2 540 0 (by decide) (by decide) (by decide)).trans h00
          have hWI : WI (oW S e.1 e.2.1 e.2.2.1 e.2.2.2).2 := WI_oW hI (EVk_k hEe) hEe.2.1 hEe.2.2.1 hEe.2.2.2
          by_cases hz : (oW S e.1 e.2.1 e.2.2.1 e.2.2.2).1 = 0
          · rw [if_pos hz]
            rw [eO] at hz hWI ⊢
            rw [hz]
            refine wx_goto 138 j141_83 (by decide) ?_
            refine wx_istn (L' := [_, some (.int _), _, _]) j141_138 (Nat.le_of_ble_eq_true rfl) rfl ?_
            refine wx_iinc (v := nI (i + 1)) (L' := [_, _, some (.int _), _]) j141_139 rfl (nI_1 i) rfl ?_
            refine wx_goto 43 j141_142 (by decide) ?_
            exact ih (i + 1) _ d2 _ (by omega) hil (me_wx he (mwx_e f2)) m2 hWI b2 k2 (mwx_tr hf0 (mwx_e f2))
          · rw [if_neg hz]
            rw [eO] at hz
            have hw := oW_le (S := S) (k := 1) (sp := e.2.1) (lo := e.2.2.1) (v := 0)
            refine wx_goto 138 j141_83 (by decide) ?_
            refine wx_istn (L' := [_, some (.int _), _, _]) j141_138 (Nat.le_of_ble_eq_true rfl) rfl ?_
            refine wx_iinc (v := nI (i + 1)) (L' := [_, _, some (.int _), _]) j141_139 rfl (nI_1 i) rfl ?_
            refine wx_goto 43 j141_142 (by decide) ?_
            refine wx_ildn j141_43 rfl ?_
            refine wx_aldn j141_44 rfl ?_
            refine wx_get (v := .int _) j141_45 rfl (Nat.le_of_ble_eq_true rfl) rfl ?_
            rw [(me_wx he (mwx_e f2)).2.1]
            refine wx_cmp 145 j141_48 (by decide) (fun c48 => ?_) (fun c48 => ?_)
            · simp only [ax_cn, Classical.not_not] at c48
              exact mag_end (by omega) b2 (mwx_tr hf0 (mwx_e f2))
            · simp only [ax_cn, Classical.not_not] at c48
              refine wx_ildn j141_51 rfl ?_
              refine wx_if 145 j141_52 (by decide) (fun c52 => ?_) (fun c52 => ?_)
              · simp only [ax_cn, Classical.not_not] at c52
                exact mag_end (by omega) b2 (mwx_tr hf0 (mwx_e f2))
              · simp only [ax_cn, Classical.not_not] at c52
                exact absurd c52 (nI_ne0 (by omega) (by omega))
theorem sm_again0 {S : WS} (h : MX d S) (he : me_is d []) : ax_E 141 [.ref 540] d (ax_Pi fun y d1 => xP d (1, S) d1) := by
  show ax_W 141 0 [some (.ref 540), none, none, none] [] d _
  refine wx_aldn j141_0 rfl ?_
  refine wx_v0 j141_1 rfl  (Nat.le_of_ble_eq_true rfl) rfl (sm_ready h) ?_
  rintro d1 h1
  have he1 := me_wx he h1.2.2.2
  refine wx_aldn j141_4 rfl ?_
  refine wx_aldn j141_5 rfl ?_
  refine wx_get (v := .int _) j141_6 rfl (Nat.le_of_ble_eq_true rfl) rfl ?_
  rw [he1.2.1]
  refine wx_if 16 j141_9 (by decide) (fun c9 => ?_) (fun c9 => ?_)
  · simp only [ax_cn, Classical.not_not] at c9
    exact absurd rfl c9
  · simp only [ax_cn, Classical.not_not] at c9
    refine wx_icst (v := nI 1) j141_12 (by decide) ?_
    refine wx_goto 17 j141_13 (by decide) ?_
    refine wx_put j141_17 rfl (Nat.le_of_ble_eq_true rfl) rfl rfl rfl ?_
    refine wx_aldn j141_20 rfl ?_
    refine wx_get (v := .int _) j141_21 rfl (Nat.le_of_ble_eq_true rfl) rfl ?_
    rw [up_at]
    refine wx_if 29 j141_24 (by decide) (fun c24 => ?_) (fun c24 => ?_)
    · simp only [ax_cn, Classical.not_not] at c24
      exact absurd c24 (by decide)
    · simp only [ax_cn, Classical.not_not] at c24
      refine wx_icst (v := nI 0) j141_27 (by decide) ?_
      refine wx_ri j141_28 rfl rfl ?_
      exact xP_1 h1
theorem sm_again {S : WS} (h : MX d S) (he : me_is d es) (hEV : ∀ e, e ∈ es → EVk e) (hl : es.length ≤ 200) (h0 : 0 < es.length) : ax_E 141 [.ref 540] d (ax_Pi (aP d (oA es))) := by
  show ax_W 141 0 [some (.ref 540), none, none, none] [] d _
  refine wx_aldn j141_0 rfl ?_
  refine wx_v0 j141_1 rfl  (Nat.le_of_ble_eq_true rfl) rfl (sm_ready h) ?_
  rintro d1 h1
  have he1 := me_wx he h1.2.2.2
  refine wx_aldn j141_4 rfl ?_
  refine wx_aldn j141_5 rfl ?_
  refine wx_get (v := .int _) j141_6 rfl (Nat.le_of_ble_eq_true rfl) rfl ?_
  rw [he1.2.1]
  refine wx_if 16 j141_9 (by decide) (fun c9 => ?_) (fun c9 => ?_)
  · simp only [ax_cn, Classical.not_not] at c9
    refine wx_icst (v := nI 0) j141_16 (by decide) ?_
    refine wx_put j141_17 rfl (Nat.le_of_ble_eq_true rfl) rfl rfl rfl ?_
    refine wx_aldn j141_20 rfl ?_
    refine wx_get (v := .int _) j141_21 rfl (Nat.le_of_ble_eq_true rfl) rfl ?_
    rw [up_at]
    refine wx_if 29 j141_24 (by decide) (fun c24 => ?_) (fun c24 => ?_)
    · simp only [ax_cn, Classical.not_not] at c24
      refine wx_aldn j141_29 rfl ?_
      refine wx_icst (v := nI 0) j141_30 (by decide) ?_
      refine wx_v1 j141_31 rfl rfl (Nat.le_of_ble_eq_true rfl) rfl (sm_begin (c := 0) (by decide)) ?_
      rintro d2 ⟨t2, g2, f2⟩
      have fx : mwx d (ax_up d2 540 19 (nI 0)) := mwx_tr (mwx_tr (mwx_tr h1.2.2.2 (mwx_up (Or.inl rfl))) (mwx_mo f2)) (mwx_up (Or.inr (Or.inl rfl)))
      refine wx_aldn j141_34 rfl ?_
      refine wx_icst (v := nI 0) j141_35 (by decide) ?_
      refine wx_put j141_36 rfl (Nat.le_of_ble_eq_true rfl) rfl rfl rfl ?_
      refine wx_icst (v := nI 0) j141_39 (by decide) ?_
      refine wx_istn (L' := [_, some (.int _), _, _]) j141_40 (Nat.le_of_ble_eq_true rfl) rfl ?_
      refine wx_icst (v := nI 0) j141_41 (by decide) ?_
      refine wx_istn (L' := [_, _, some (.int _), _]) j141_42 (Nat.le_of_ble_eq_true rfl) rfl ?_
      exact mag_loop hEV hl (es.length + 1) 0 wS0 _ _ (by omega) (Nat.zero_le _) (me_wx he fx) ⟨mt_up t2 (Or.inl (by decide)), mg_up (g2 _ _) (by decide), mb_0⟩ WI_0 (by rw [up_nk (by decide), mo_id f2 (by decide), up_nk (by decide)]; exact h1.2.1) (by rw [up_nk (by decide), mo_id f2 (by decide), up_at]) fx
    · simp only [ax_cn, Classical.not_not] at c24
      exact absurd (show nI 0 ≤ 0 by decide) c24
  · simp only [ax_cn, Classical.not_not] at c9
    exact absurd c9 (nI_ne0 h0 (by omega))
end MI
