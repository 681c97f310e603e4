/-! THE REFERENCE reads an event. -/
def mre (d d1 : ax_D) : Prop := ∀ id i, ¬ (542 ≤ id ∧ id ≤ 558 ∧ i / msz id = 1) → id ≠ 566 → id ≠ 567 → id ≠ 568 → id ≠ 569 → ¬ (id = 540 ∧ (i = 22 ∨ i = 23 ∨ i = 24)) → d1 id i = d id i
theorem mre_rf (d : ax_D) : mre d d := fun _ _ _ _ _ _ _ _ => rfl
theorem mre_tr {d d1 d2 : ax_D} (h : mre d d1) (h2 : mre d1 d2) : mre d d2 := fun id i a b c e f g => (h2 id i a b c e f g).trans (h id i a b c e f g)
theorem mre_tk {d d1 : ax_D} (h : mtk d d1) : mre d d1 := fun id i _ _ _ _ _ g => h id i (fun q => g ⟨q.1, by omega⟩)
theorem mre_rq {d d1 : ax_D} (h : mrf d d1) : mre d d1 := fun id i a _ _ _ _ g => h id i (fun q => a ⟨q.1, by omega, q.2.2⟩) (fun q => g ⟨q.1, by omega⟩)
theorem mre_mo {d d1 : ax_D} (h : mo d d1 1) : mre d d1 := fun id i a _ _ _ _ _ => h id i a
theorem mre_ef {d d1 : ax_D} (h : mef d d1) : mre d d1 := fun id i _ b c e f g => h id i b c e f (fun q => g ⟨q.1, by omega⟩)
theorem ms_re {d d1 : ax_D} {sl : List Nat} (h : ms_is d sl) (hf : mre d d1) : ms_is d1 sl := by
  unfold ms_is
  rw [hf 540 21 (by decide) (by decide) (by decide) (by decide) (by decide) (by decide), show d1 561 = d 561 from funext fun i => hf 561 i (by omega) (by decide) (by decide) (by decide) (by decide) (fun q => absurd q.1 (by decide))]
  exact h
def meQ (d0 : ax_D) (es : List Ev) (r : RS) (d1 : ax_D) : Prop := mr d1 r.2 r.1.isNone ∧ (∀ q, r.1 = some q → mt_is d1 1 q.1 ∧ mg_is d1 1 q.2.1 q.2.2.1 q.2.2.2.1 true ∧ me_is d1 (es ++ [q.2.2.2.2])) ∧ mre d0 d1
section MF
variable {d d0 : ax_D} {sl : List Nat} {t n m x : Nat} {T : TT} {es : List Ev} {nm : Nat → Nat} {fl : Nat → Bool} {b : Bool}
theorem me_add {a1 a2 a3 a4 : Nat} (h : me_is d es) (hl : es.length < 201) : me_is (ax_up (ax_up (ax_up (ax_up (ax_up d 566 es.length (nI a1)) 567 es.length (nI a2)) 568 es.length (nI a3)) 569 es.length (nI a4)) 540 24 (nI (es.length + 1))) (es ++ [(a1, a2, a3, a4)]) ∧ mef d (ax_up (ax_up (ax_up (ax_up (ax_up d 566 es.length (nI a1)) 567 es.length (nI a2)) 568 es.length (nI a3)) 569 es.length (nI a4)) 540 24 (nI (es.length + 1))) := by
  refine ⟨⟨by rw [List.length_append]; exact hl, by rw [up_at, List.length_append]; rfl, fun i hi => ?_⟩, fun id i h1 h2 h3 h4 h5 => ?_⟩
  · by_cases hi2 : i = es.length
    · subst hi2
      rw [getD_app_1]
      refine ⟨?_, ?_, ?_, ?_⟩
      · rw [up_ni (by decide), up_ni (by decide), up_ni (by decide), up_ni (by decide), up_at]
      · rw [up_ni (by decide), up_ni (by decide), up_ni (by decide), up_at]
      · rw [up_ni (by decide), up_ni (by decide), up_at]
      · rw [up_ni (by decide), up_at]
    · have hi3 : i < es.length := by rw [List.length_append] at hi; simp at hi; omega
      have := h.2.2 i hi3
      rw [getD_app_l hi3]
      refine ⟨?_, ?_, ?_, ?_⟩
      · rw [up_ni (by decide), up_ni (by decide), up_ni (by decide), up_ni (by decide), up_nk hi2]; exact this.1
      · rw [up_ni (by decide), up_ni (by decide), up_ni (by decide), up_nk hi2, up_ni (by decide)]; exact this.2.1
      · rw [up_ni (by decide), up_ni (by decide), up_nk hi2, up_ni (by decide), up_ni (by decide)]; exact this.2.2.1
      · rw [up_ni (by decide), up_nk hi2, up_ni (by decide), up_ni (by decide), up_ni (by decide)]; exact this.2.2.2
  · rw [up_ap, if_neg h5, up_ap, if_neg (fun q => h4 q.1), up_ap, if_neg (fun q => h3 q.1), up_ap, if_neg (fun q => h2 q.1), up_ap, if_neg (fun q => h1 q.1)]
theorem rFi_1 {i : Nat} : rFi sl T n nm fl (i * 8 + 1) t = if n = 8 then (none, t) else (some (T, n + 1, va_up nm n i, va_up (fll fl n) n false, (1, (T 4 0).getD i 0, (T 5 0).getD i 0, 0)), t) := by
  unfold rFi
  rw [if_pos (by omega), show (i * 8 + 1) / 8 = i by omega]
theorem rFi_2 {i : Nat} : rFi sl T n nm fl (i * 8 + 2) t = (match (rVa sl T i t).1 with
    | none => (none, (rVa sl T i t).2.2)
    | some v => (some ((rVa sl T i t).2.1, n, nm, fl, (2, (T 4 0).getD i 0, (T 5 0).getD i 0, v)), (rVa sl T i t).2.2)) := by
  unfold rFi
  rw [if_neg (by omega), if_pos (by omega), show (i * 8 + 2) / 8 = i by omega]
  rfl
theorem rVa_LB (hB : BI T) (hx : x < (T 4 0).length) : (rVa sl T x t).1.isSome → LB (rVa sl T x t).2.1 := by
  intro _
  unfold rVa
  cases hN : rNum sl t with
  | mk o t1 =>
    cases o with
    | none => exact hB.2.2.2.1
    | some k =>
      match k with
      | 0 => exact hB.2.2.2.1
      | 1 => exact hB.2.2.2.1
      | k + 2 =>
        simp only
        cases hL : rL sl k t1 with
        | mk o2 t2 =>
          cases o2 with
          | none => exact hB.2.2.2.1
          | some v => exact (BI_av hB (rL_v (sl := sl) (n := k) (t := t1) (by rw [hL])) hx).2.2.2.1
theorem sm_noteN {k v : Nat} (he : me_is d es) (hl : es.length < 201) : ax_E 135 [.ref 540, .int (nI k), .int (-1), .int (nI v)] d (ax_Pv fun d1 => me_is d1 (es ++ [(k, 0, 0, v)]) ∧ mef d d1) := by
  show ax_W 135 0 [some (.ref 540), some (.int (nI k)), some (.int (-1)), some (.int (nI v))] [] d _
  refine wx_aldn j135_0 rfl ?_
  refine wx_get (v := .ref 566) j135_1 rfl (Nat.le_of_ble_eq_true rfl) rfl ?_
  refine wx_aldn j135_4 rfl ?_
  refine wx_get (v := .int _) j135_5 rfl (Nat.le_of_ble_eq_true rfl) rfl ?_
  rw [he.2.1]
  refine wx_ildn j135_8 rfl ?_
  refine wx_iasx (es.length) j135_9 rfl rfl (by omega) (by decide) ?_
  refine wx_aldn j135_10 rfl ?_
  refine wx_get (v := .ref 567) j135_11 rfl (Nat.le_of_ble_eq_true rfl) rfl ?_
  refine wx_aldn j135_14 rfl ?_
  refine wx_get (v := .int _) j135_15 rfl (Nat.le_of_ble_eq_true rfl) rfl ?_
  rw [up_ni (by decide), he.2.1]
  refine wx_ildn j135_18 rfl ?_
  refine wx_if 26 j135_19 (by decide) (fun c19 => ?_) (fun c19 => ?_)
  · simp only [ax_cn, Classical.not_not] at c19
    exact absurd c19 (by decide)
  · simp only [ax_cn, Classical.not_not] at c19
    refine wx_icst (v := nI 0) j135_22 (by decide) ?_
    refine wx_goto 35 j135_23 (by decide) ?_
    refine wx_iasx (es.length) j135_35 rfl rfl (by omega) (by decide) ?_
    refine wx_aldn j135_36 rfl ?_
    refine wx_get (v := .ref 568) j135_37 rfl (Nat.le_of_ble_eq_true rfl) rfl ?_
    refine wx_aldn j135_40 rfl ?_
    refine wx_get (v := .int _) j135_41 rfl (Nat.le_of_ble_eq_true rfl) rfl ?_
    rw [up_ni (by decide), up_ni (by decide), he.2.1]
    refine wx_ildn j135_44 rfl ?_
    refine wx_if 52 j135_45 (by decide) (fun c45 => ?_) (fun c45 => ?_)
    · simp only [ax_cn, Classical.not_not] at c45
      exact absurd c45 (by decide)
    · simp only [ax_cn, Classical.not_not] at c45
      refine wx_icst (v := nI 0) j135_48 (by decide) ?_
      refine wx_goto 61 j135_49 (by decide) ?_
      refine wx_iasx (es.length) j135_61 rfl rfl (by omega) (by decide) ?_
      refine wx_aldn j135_62 rfl ?_
      refine wx_get (v := .ref 569) j135_63 rfl (Nat.le_of_ble_eq_true rfl) rfl ?_
      refine wx_aldn j135_66 rfl ?_
      refine wx_get (v := .int _) j135_67 rfl (Nat.le_of_ble_eq_true rfl) rfl ?_
      rw [up_ni (by decide), up_ni (by decide), up_ni (by decide), he.2.1]
      refine wx_ildn j135_70 rfl ?_
      refine wx_iasx (es.length) j135_71 rfl rfl (by omega) (by decide) ?_
      refine wx_aldn j135_72 rfl ?_
      refine wx_dupr j135_73 ?_
      refine wx_get (v := .int _) j135_74 rfl (Nat.le_of_ble_eq_true rfl) rfl ?_
      rw [up_ni (by decide), up_ni (by decide), up_ni (by decide), up_ni (by decide), he.2.1]
      refine wx_icst (v := nI 1) j135_77 (by decide) ?_
      refine wx_iadd j135_78 ?_
      rw [nI_add]
      refine wx_put j135_79 rfl (Nat.le_of_ble_eq_true rfl) rfl rfl rfl ?_
      refine wx_rv j135_82 rfl ?_
      exact me_add he hl
theorem sm_note {k v : Nat} (he : me_is d es) (hl : es.length < 201) (h : mt_is d 1 T) (h4 : x < (T 4 0).length) (h45 : T45 T) (hL : LB T) : ax_E 135 [.ref 540, .int (nI k), .int (nI x), .int (nI v)] d (ax_Pv fun d1 => me_is d1 (es ++ [(k, (T 4 0).getD x 0, (T 5 0).getD x 0, v)]) ∧ mef d d1) := by
  show ax_W 135 0 [some (.ref 540), some (.int (nI k)), some (.int (nI x)), some (.int (nI v))] [] d _
  have l4 := lb4 hL
  refine wx_aldn j135_0 rfl ?_
  refine wx_get (v := .ref 566) j135_1 rfl (Nat.le_of_ble_eq_true rfl) rfl ?_
  refine wx_aldn j135_4 rfl ?_
  refine wx_get (v := .int _) j135_5 rfl (Nat.le_of_ble_eq_true rfl) rfl ?_
  rw [he.2.1]
  refine wx_ildn j135_8 rfl ?_
  refine wx_iasx (es.length) j135_9 rfl rfl (by omega) (by decide) ?_
  refine wx_aldn j135_10 rfl ?_
  refine wx_get (v := .ref 567) j135_11 rfl (Nat.le_of_ble_eq_true rfl) rfl ?_
  refine wx_aldn j135_14 rfl ?_
  refine wx_get (v := .int _) j135_15 rfl (Nat.le_of_ble_eq_true rfl) rfl ?_
  rw [up_ni (by decide), he.2.1]
  refine wx_ildn j135_18 rfl ?_
  refine wx_if 26 j135_19 (by decide) (fun c19 => ?_) (fun c19 => ?_)
  · simp only [ax_cn, Classical.not_not] at c19
    refine wx_aldn j135_26 rfl ?_
    refine wx_get (v := .ref 547) j135_27 rfl (Nat.le_of_ble_eq_true rfl) rfl ?_
    refine wx_bpsh (v := nI 20) j135_30 (by decide) ?_
    refine wx_ildn j135_32 rfl ?_
    refine wx_iadd j135_33 ?_
    rw [nI_add]
    refine wx_ialx (20 * 1 + x) j135_34 rfl rfl (by omega) (by decide) ?_
    rw [up_ni (by decide), h.2.2.1.2.1 x h4]
    refine wx_iasx (es.length) j135_35 rfl rfl (by omega) (by decide) ?_
    refine wx_aldn j135_36 rfl ?_
    refine wx_get (v := .ref 568) j135_37 rfl (Nat.le_of_ble_eq_true rfl) rfl ?_
    refine wx_aldn j135_40 rfl ?_
    refine wx_get (v := .int _) j135_41 rfl (Nat.le_of_ble_eq_true rfl) rfl ?_
    rw [up_ni (by decide), up_ni (by decide), he.2.1]
    refine wx_ildn j135_44 rfl ?_
    refine wx_if 52 j135_45 (by decide) (fun c45 => ?_) (fun c45 => ?_)
    · simp only [ax_cn, Classical.not_not] at c45
      refine wx_aldn j135_52 rfl ?_
      refine wx_get (v := .ref 548) j135_53 rfl (Nat.le_of_ble_eq_true rfl) rfl ?_
      refine wx_bpsh (v := nI 20) j135_56 (by decide) ?_
      refine wx_ildn j135_58 rfl ?_
      refine wx_iadd j135_59 ?_
      rw [nI_add]
      refine wx_ialx (20 * 1 + x) j135_60 rfl rfl (by omega) (by decide) ?_
      rw [up_ni (by decide), up_ni (by decide), h.2.2.1.2.2 x (by rw [← show (T 4 0).length = (T 5 0).length from h45]; exact h4)]
      refine wx_iasx (es.length) j135_61 rfl rfl (by omega) (by decide) ?_
      refine wx_aldn j135_62 rfl ?_
      refine wx_get (v := .ref 569) j135_63 rfl (Nat.le_of_ble_eq_true rfl) rfl ?_
      refine wx_aldn j135_66 rfl ?_
      refine wx_get (v := .int _) j135_67 rfl (Nat.le_of_ble_eq_true rfl) rfl ?_
      rw [up_ni (by decide), up_ni (by decide), up_ni (by decide), he.2.1]
      refine wx_ildn j135_70 rfl ?_
      refine wx_iasx (es.length) j135_71 rfl rfl (by omega) (by decide) ?_
      refine wx_aldn j135_72 rfl ?_
      refine wx_dupr j135_73 ?_
      refine wx_get (v := .int _) j135_74 rfl (Nat.le_of_ble_eq_true rfl) rfl ?_
      rw [up_ni (by decide), up_ni (by decide), up_ni (by decide), up_ni (by decide), he.2.1]
      refine wx_icst (v := nI 1) j135_77 (by decide) ?_
      refine wx_iadd j135_78 ?_
      rw [nI_add]
      refine wx_put j135_79 rfl (Nat.le_of_ble_eq_true rfl) rfl rfl rfl ?_
      refine wx_rv j135_82 rfl ?_
      exact me_add he hl
    · simp only [ax_cn, Classical.not_not] at c45
      exact absurd (nI_pos' (by omega)) c45
  · simp only [ax_cn, Classical.not_not] at c19
    exact absurd (nI_pos' (by omega)) c19
theorem sm_takeOpenB {y : Int32} (hr : mr d t true) : ax_E 136 [.ref 540, .int y] d (ax_Pv fun d1 => mr d1 t true ∧ mtk d d1) := by
  show ax_W 136 0 [some (.ref 540), some (.int y)] [] d _
  refine wx_aldn j136_0 rfl ?_
  refine wx_aldn j136_1 rfl ?_
  refine wx_get (v := .int _) j136_2 rfl (Nat.le_of_ble_eq_true rfl) rfl ?_
  rw [hr.2]
  refine wx_if 19 j136_5 (by decide) (fun c5 => ?_) (fun c5 => ?_)
  · simp only [ax_cn, Classical.not_not] at c5
    refine wx_icst (v := nI 1) j136_19 (by decide) ?_
    refine wx_goto 24 j136_20 (by decide) ?_
    refine wx_put j136_24 rfl (Nat.le_of_ble_eq_true rfl) rfl rfl rfl ?_
    refine wx_aldn j136_27 rfl ?_
    refine wx_get (v := .int _) j136_28 rfl (Nat.le_of_ble_eq_true rfl) rfl ?_
    rw [up_at]
    refine wx_if 47 j136_31 (by decide) (fun c31 => ?_) (fun c31 => ?_)
    · simp only [ax_cn, Classical.not_not] at c31
      refine wx_rv j136_47 rfl ?_
      exact ⟨mr_w hr rfl, mtk_up (Or.inr rfl)⟩
    · simp only [ax_cn, Classical.not_not] at c31
      exact absurd c31 (by decide)
  · simp only [ax_cn, Classical.not_not] at c5
    exact absurd c5 (by decide)
theorem sm_takeOpen (hr : mr d t false) (h : mt_is d 1 T) (hB : BI T) (he : me_is d es) (hl : es.length < 201) (hg : mg_is d 1 n nm fl b) (hw : (b && decide (n = 0)) = false) (hx : x < (T 4 0).length) (hf0 : mre d0 d) : ax_E 136 [.ref 540, .int (nI x)] d (ax_Pv (meQ d0 es (rFi sl T n nm fl (x * 8 + 1) t))) := by
  show ax_W 136 0 [some (.ref 540), some (.int (nI x))] [] d _
  have hL := hB.2.2.2.1
  have l4 := lb4 hL
  have n8 := hg.1
  rw [rFi_1]
  refine wx_aldn j136_0 rfl ?_
  refine wx_aldn j136_1 rfl ?_
  refine wx_get (v := .int _) j136_2 rfl (Nat.le_of_ble_eq_true rfl) rfl ?_
  rw [hr.2]
  refine wx_if 19 j136_5 (by decide) (fun c5 => ?_) (fun c5 => ?_)
  · simp only [ax_cn, Classical.not_not] at c5
    exact absurd rfl c5
  · simp only [ax_cn, Classical.not_not] at c5
    refine wx_aldn j136_8 rfl ?_
    refine wx_get (v := .ref 555) j136_9 rfl (Nat.le_of_ble_eq_true rfl) rfl ?_
    refine wx_icst (v := nI 1) j136_12 (by decide) ?_
    refine wx_ialx (1) j136_13 rfl rfl (by decide) (by decide) ?_
    rw [hg.2.1]
    refine wx_bpsh (v := nI 8) j136_14 (by decide) ?_
    refine wx_cmp 23 j136_16 (by decide) (fun c16 => ?_) (fun c16 => ?_)
    · simp only [ax_cn, Classical.not_not] at c16
      have hn8 : ¬ n = 8 := fun q => c16 (by rw [q])
      rw [if_neg hn8]
      refine wx_icst (v := nI 0) j136_23 (by decide) ?_
      refine wx_put j136_24 rfl (Nat.le_of_ble_eq_true rfl) rfl rfl rfl ?_
      refine wx_aldn j136_27 rfl ?_
      refine wx_get (v := .int _) j136_28 rfl (Nat.le_of_ble_eq_true rfl) rfl ?_
      rw [up_at]
      refine wx_if 47 j136_31 (by decide) (fun c31 => ?_) (fun c31 => ?_)
      · simp only [ax_cn, Classical.not_not] at c31
        have h31 := c31
        refine wx_rv j136_47 rfl ?_
        exact absurd rfl h31
      · simp only [ax_cn, Classical.not_not] at c31
        have h31 := c31
        refine wx_aldn j136_34 rfl ?_
        refine wx_icst (v := nI 1) j136_35 (by decide) ?_
        refine wx_ildn j136_36 rfl ?_
        refine wx_v2 j136_37 rfl rfl rfl (Nat.le_of_ble_eq_true rfl) rfl (sm_enter (c := 1) (by decide) (mg_tk hg (mtk_up (Or.inr rfl))) hw (by omega) (by omega)) ?_
        rintro d2 ⟨g2, f2, e2⟩
        have t2 := mt_555 (mt_up h (i := 23) (x := nI 0) (Or.inl (by decide : 540 < 542))) e2
        have he2 := me_mo (me_tk he (mtk_up (x := nI 0) (Or.inr rfl))) f2
        refine wx_aldn j136_40 rfl ?_
        refine wx_icst (v := nI 1) j136_41 (by decide) ?_
        refine wx_ildn j136_42 rfl ?_
        refine wx_icst (v := nI 0) j136_43 (by decide) ?_
        refine wx_v3 j136_44 rfl rfl rfl rfl (Nat.le_of_ble_eq_true rfl) rfl (sm_note he2 hl t2 hx hB.2.1 hL) ?_
        rintro d3 ⟨he3, f3⟩
        refine wx_rv j136_47 rfl ?_
        refine ⟨mr_ef (mr_mo (mr_w hr rfl) f2) f3, fun q hq => ?_, mre_tr hf0 (mre_tr (mre_tr (mre_tk (mtk_up (Or.inr rfl))) (mre_mo f2)) (mre_ef f3))⟩
        obtain rfl := Option.some.inj hq
        exact ⟨mt_ef t2 f3, mg_ef g2 f3, he3⟩
    · simp only [ax_cn, Classical.not_not] at c16
      have hn8 : n = 8 := (nI_eq (by omega) (by decide)).mp c16
      rw [if_pos hn8]
      refine wx_icst (v := nI 1) j136_19 (by decide) ?_
      refine wx_goto 24 j136_20 (by decide) ?_
      refine wx_put j136_24 rfl (Nat.le_of_ble_eq_true rfl) rfl rfl rfl ?_
      refine wx_aldn j136_27 rfl ?_
      refine wx_get (v := .int _) j136_28 rfl (Nat.le_of_ble_eq_true rfl) rfl ?_
      rw [up_at]
      refine wx_if 47 j136_31 (by decide) (fun c31 => ?_) (fun c31 => ?_)
      · simp only [ax_cn, Classical.not_not] at c31
        have h31 := c31
        refine wx_rv j136_47 rfl ?_
        exact ⟨mr_w hr rfl, fun q hq => (by cases hq), mre_tr hf0 (mre_tk (mtk_up (Or.inr rfl)))⟩
      · simp only [ax_cn, Classical.not_not] at c31
        have h31 := c31
        exact absurd h31 (by decide)
theorem te_0 {x1 x2 : Int32} {z5 z6 : Option Value} (hr : mr d t false) (h : mt_is d 1 T) (hB : BI T) (he : me_is d es) (hl : es.length < 201) {xn : Int32} {c : Nat} (hg : mg_is d 1 (m + 1) nm fl true) (hc : ¬ c % 8 = 1 ∧ ¬ c % 8 = 2 ∧ ¬ c % 8 = 3) (hf0 : mre d0 d) : ax_W 137 171 [some (.ref 540), some (.int x1), some (.int x2), some (.int (nI 0)), some (.int xn), z5, z6] [] d (ax_Pv (meQ d0 es (rFi sl T (m + 1) nm fl c t))) := by
  rw [rFi_0 hc.1 hc.2.1 hc.2.2]
  refine wx_ildn j137_171 rfl ?_
  refine wx_if 190 j137_172 (by decide) (fun c172 => ?_) (fun c172 => ?_)
  · simp only [ax_cn, Classical.not_not] at c172
    exact absurd rfl c172
  · simp only [ax_cn, Classical.not_not] at c172
    refine wx_aldn j137_175 rfl ?_
    refine wx_icst (v := nI 1) j137_176 (by decide) ?_
    refine wx_v1 j137_177 rfl rfl (Nat.le_of_ble_eq_true rfl) rfl (sm_leave (c := 1) (by decide) hg) ?_
    rintro d2 ⟨g2, f2, e2⟩
    refine wx_aldn j137_180 rfl ?_
    refine wx_icst (v := nI 4) j137_181 (by decide) ?_
    refine wx_icst (v := (-1)) j137_182 (by decide) ?_
    refine wx_icst (v := nI 0) j137_183 (by decide) ?_
    refine wx_v3 j137_184 rfl rfl rfl rfl (Nat.le_of_ble_eq_true rfl) rfl (sm_noteN (me_mo he f2) hl) ?_
    rintro d3 ⟨he3, f3⟩
    refine wx_goto 285 j137_187 (by decide) ?_
    refine wx_rv j137_285 rfl ?_
    refine ⟨mr_ef (mr_mo hr f2) f3, fun q hq => ?_, mre_tr hf0 (mre_tr (mre_mo f2) (mre_ef f3))⟩
    obtain rfl := Option.some.inj hq
    exact ⟨mt_ef (mt_555 h e2) f3, mg_ef g2 f3, he3⟩
theorem te_2 {x1 x2 : Int32} {z5 z6 : Option Value} (hr : mr d t false) (h : mt_is d 1 T) (hB : BI T) (he : me_is d es) (hl : es.length < 201) {x : Nat} (hg : mg_is d 1 (m + 1) nm fl true) (hx : x < (T 4 0).length) (hf0 : mre d0 d) : ax_W 137 171 [some (.ref 540), some (.int x1), some (.int x2), some (.int (nI 2)), some (.int (nI x)), z5, z6] [] d (ax_Pv (meQ d0 es (rFi sl T (m + 1) nm fl (x * 8 + 1) t))) := by
  refine wx_ildn j137_171 rfl ?_
  refine wx_if 190 j137_172 (by decide) (fun c172 => ?_) (fun c172 => ?_)
  · simp only [ax_cn, Classical.not_not] at c172
    refine wx_ildn j137_190 rfl ?_
    refine wx_icst (v := nI 2) j137_191 (by decide) ?_
    refine wx_cmp 204 j137_192 (by decide) (fun c192 => ?_) (fun c192 => ?_)
    · simp only [ax_cn, Classical.not_not] at c192
      exact absurd trivial c192
    · simp only [ax_cn, Classical.not_not] at c192
      refine wx_aldn j137_195 rfl ?_
      refine wx_ild j137_196 rfl ?_
      refine wx_v1 j137_198 rfl rfl (Nat.le_of_ble_eq_true rfl) rfl (sm_takeOpen (sl := sl) hr h hB he hl hg (by rw [decide_eq_false (Nat.succ_ne_zero m)]; rfl) hx hf0) ?_
      rintro d2 q2
      refine wx_goto 285 j137_201 (by decide) ?_
      refine wx_rv j137_285 rfl ?_
      exact q2
  · simp only [ax_cn, Classical.not_not] at c172
    exact absurd c172 (by decide)
theorem te_1 {x1 x2 : Int32} {z5 z6 : Option Value} (hr : mr d t false) (h : mt_is d 1 T) (hB : BI T) (he : me_is d es) (hl : es.length < 201) {x : Nat} (hg : mg_is d 1 (m + 1) nm fl true) (hs : ms_is d sl) (ht : t ≤ sl.length) (hx : x < (T 4 0).length) (hf0 : mre d0 d) : ax_W 137 171 [some (.ref 540), some (.int x1), some (.int x2), some (.int (nI 1)), some (.int (nI x)), z5, z6] [] d (ax_Pv (meQ d0 es (rFi sl T (m + 1) nm fl (x * 8 + 2) t))) := by
  refine wx_ildn j137_171 rfl ?_
  refine wx_if 190 j137_172 (by decide) (fun c172 => ?_) (fun c172 => ?_)
  · simp only [ax_cn, Classical.not_not] at c172
    refine wx_ildn j137_190 rfl ?_
    refine wx_icst (v := nI 2) j137_191 (by decide) ?_
    refine wx_cmp 204 j137_192 (by decide) (fun c192 => ?_) (fun c192 => ?_)
    · simp only [ax_cn, Classical.not_not] at c192
      refine wx_ildn j137_204 rfl ?_
      refine wx_icst (v := nI 1) j137_205 (by decide) ?_
      refine wx_cmp 236 j137_206 (by decide) (fun c206 => ?_) (fun c206 => ?_)
      · simp only [ax_cn, Classical.not_not] at c206
        exact absurd trivial c206
      · simp only [ax_cn, Classical.not_not] at c206
        refine wx_aldn j137_209 rfl ?_
        refine wx_ild j137_210 rfl ?_
        refine wx_i1 j137_212 rfl rfl (Nat.le_of_ble_eq_true rfl) rfl (sm_takeValue hs hr ht h hB hx) ?_
        rintro y d2 ⟨h2, r2, f2⟩
        rw [rFi_2]
        have hB2 : (rVa sl T x t).2.1 4 = T 4 ∧ (rVa sl T x t).2.1 5 = T 5 := ⟨funext fun k => rVa_4 (by decide) (by decide), funext fun k => rVa_4 (by decide) (by decide)⟩
        have hT45 := rVa_45 (sl := sl) (t := t) (n := x) hB.2.1
        have hLB2 : (rVa sl T x t).1.isSome → LB (rVa sl T x t).2.1 := rVa_LB hB hx
        cases hV : rVa sl T x t with
        | mk o r =>
        obtain ⟨T2, t2⟩ := r
        rw [hV] at h2 r2
        rw [hV] at hB2 hT45 hLB2
        replace hB2 : T2 4 = T 4 ∧ T2 5 = T 5 := hB2
        replace hT45 : T45 T2 := hT45
        cases o with
        | none =>
          simp only [Option.isNone_none] at r2
          refine wx_ist (L' := [_, _, _, _, _, some (.int _), _]) j137_215 (Nat.le_of_ble_eq_true rfl) rfl ?_
          refine wx_aldn j137_217 rfl ?_
          refine wx_get (v := .int _) j137_218 rfl (Nat.le_of_ble_eq_true rfl) rfl ?_
          rw [r2.2]
          refine wx_if 233 j137_221 (by decide) (fun c221 => ?_) (fun c221 => ?_)
          · simp only [ax_cn, Classical.not_not] at c221
            refine wx_goto 285 j137_233 (by decide) ?_
            refine wx_rv j137_285 rfl ?_
            exact ⟨r2, fun q hq => (by cases hq), mre_tr hf0 (mre_rq f2)⟩
          · simp only [ax_cn, Classical.not_not] at c221
            exact absurd c221 (by decide)
        | some v =>
          obtain ⟨rfl, tt2⟩ := h2 v rfl
          simp only [Option.isNone_some] at r2
          refine wx_ist (L' := [_, _, _, _, _, some (.int _), _]) j137_215 (Nat.le_of_ble_eq_true rfl) rfl ?_
          refine wx_aldn j137_217 rfl ?_
          refine wx_get (v := .int _) j137_218 rfl (Nat.le_of_ble_eq_true rfl) rfl ?_
          rw [r2.2]
          refine wx_if 233 j137_221 (by decide) (fun c221 => ?_) (fun c221 => ?_)
          · simp only [ax_cn, Classical.not_not] at c221
            exact absurd rfl c221
          · simp only [ax_cn, Classical.not_not] at c221
            refine wx_aldn j137_224 rfl ?_
            refine wx_icst (v := nI 2) j137_225 (by decide) ?_
            refine wx_ild j137_226 rfl ?_
            refine wx_ild j137_228 rfl ?_
            refine wx_v3 j137_230 rfl rfl rfl rfl (Nat.le_of_ble_eq_true rfl) rfl (sm_note (T := T2) (me_rf he f2) hl tt2 (by rw [hB2.1]; exact hx) hT45 (hLB2 rfl)) ?_
            rintro d3 ⟨he3, f3⟩
            refine wx_goto 285 j137_233 (by decide) ?_
            refine wx_rv j137_285 rfl ?_
            refine ⟨mr_ef r2 f3, fun q hq => ?_, mre_tr hf0 (mre_tr (mre_rq f2) (mre_ef f3))⟩
            obtain rfl := Option.some.inj hq
            rw [hB2.1, hB2.2] at he3
            exact ⟨mt_ef tt2 f3, mg_ef (mg_rf hg f2) f3, he3⟩
        
    · simp only [ax_cn, Classical.not_not] at c192
      exact absurd c192 (by decide)
  · simp only [ax_cn, Classical.not_not] at c172
    exact absurd c172 (by decide)
theorem mg_1 {i : Nat} (hg : mg_is d 1 n nm fl b) (hi : i < n) : d 556 (8 + i) = nI (nm i) ∧ nm i < 20 ∧ d 557 (8 + i) = bB (fl i) := hg.2.2.2 i hi
theorem rFi_3' : rFi sl T (m + 1) nm fl 3 t = (match (rVa sl T (nm m) t).1 with
    | none => (none, (rVa sl T (nm m) t).2.2)
    | some v => (some ((rVa sl T (nm m) t).2.1, m + 1, nm, fll fl (m + 1), (3, 0, 0, v)), (rVa sl T (nm m) t).2.2)) := rfl
theorem te_3 {x1 x2 : Int32} {z5 z6 : Option Value} (hr : mr d t false) (h : mt_is d 1 T) (hB : BI T) (he : me_is d es) (hl : es.length < 201) {xn : Int32} (hg : mg_is d 1 (m + 1) nm fl true) (hs : ms_is d sl) (ht : t ≤ sl.length) (hnm : nm m < (T 4 0).length) (hf0 : mre d0 d) : ax_W 137 171 [some (.ref 540), some (.int x1), some (.int x2), some (.int (nI 3)), some (.int xn), z5, z6] [] d (ax_Pv (meQ d0 es (rFi sl T (m + 1) nm fl 3 t))) := by
  have hm8 := hg.1
  refine wx_ildn j137_171 rfl ?_
  refine wx_if 190 j137_172 (by decide) (fun c172 => ?_) (fun c172 => ?_)
  · simp only [ax_cn, Classical.not_not] at c172
    refine wx_ildn j137_190 rfl ?_
    refine wx_icst (v := nI 2) j137_191 (by decide) ?_
    refine wx_cmp 204 j137_192 (by decide) (fun c192 => ?_) (fun c192 => ?_)
    · simp only [ax_cn, Classical.not_not] at c192
      refine wx_ildn j137_204 rfl ?_
      refine wx_icst (v := nI 1) j137_205 (by decide) ?_
      refine wx_cmp 236 j137_206 (by decide) (fun c206 => ?_) (fun c206 => ?_)
      · simp only [ax_cn, Classical.not_not] at c206
        refine wx_bpsh (v := nI 8) j137_236 (by decide) ?_
        refine wx_aldn j137_238 rfl ?_
        refine wx_get (v := .ref 555) j137_239 rfl (Nat.le_of_ble_eq_true rfl) rfl ?_
        refine wx_icst (v := nI 1) j137_242 (by decide) ?_
        refine wx_ialx (1) j137_243 rfl rfl (by decide) (by decide) ?_
        rw [hg.2.1]
        refine wx_iadd j137_244 ?_
        rw [nI_add, show 8 + (m + 1) = 8 + m + 1 by omega]
        refine wx_icst (v := nI 1) j137_245 (by decide) ?_
        refine wx_isub j137_246 ?_
        rw [nI_s1]
        refine wx_ist (L' := [_, _, _, _, _, some (.int _), _]) j137_247 (Nat.le_of_ble_eq_true rfl) rfl ?_
        refine wx_aldn j137_249 rfl ?_
        refine wx_aldn j137_250 rfl ?_
        refine wx_get (v := .ref 556) j137_251 rfl (Nat.le_of_ble_eq_true rfl) rfl ?_
        refine wx_ild j137_254 rfl ?_
        refine wx_ialx (8 * 1 + m) j137_256 rfl rfl (by omega) (by decide) ?_
        rw [(hg.2.2.2 m (Nat.lt_succ_self m)).1]
        refine wx_i1 j137_257 rfl rfl (Nat.le_of_ble_eq_true rfl) rfl (sm_takeValue hs hr ht h hB hnm) ?_
        rintro y d2 ⟨h2, r2, f2⟩
        rw [rFi_3']
        cases hV : rVa sl T (nm m) t with
        | mk o r =>
        obtain ⟨T2, t2⟩ := r
        rw [hV] at h2 r2
        have g1 := mg_rf hg f2
        have m9 : mo d2 (ax_up d2 557 (8 * 1 + m) (nI 1 &&& 1)) 1 := mo_up (by decide) (by decide) (show (8 * 1 + m) / 8 = 1 by omega)
        have g9 : mg_is (ax_up d2 557 (8 * 1 + m) (nI 1 &&& 1)) 1 (m + 1) nm (va_up fl m true) true := by
          refine ⟨g1.1, by rw [up_ni (by decide)]; exact g1.2.1, by rw [up_ni (by decide)]; exact g1.2.2.1, fun i hi2 => ?_⟩
          have q := g1.2.2.2 i hi2
          rw [up_ni (by decide), up_ap]
          refine ⟨q.1, q.2.1, ?_⟩
          unfold va_up
          by_cases him : i = m
          · rw [if_pos ⟨rfl, by omega⟩, if_pos him]; rfl
          · rw [if_neg (fun z => him (by omega)), if_neg him]; exact q.2.2
        cases o with
        | none =>
          simp only [Option.isNone_none] at r2
          refine wx_ist (L' := [_, _, _, _, _, _, some (.int _)]) j137_260 (Nat.le_of_ble_eq_true rfl) rfl ?_
          refine wx_aldn j137_262 rfl ?_
          refine wx_get (v := .ref 557) j137_263 rfl (Nat.le_of_ble_eq_true rfl) rfl ?_
          refine wx_ild j137_266 rfl ?_
          refine wx_icst (v := nI 1) j137_268 (by decide) ?_
          refine wx_basx (8 * 1 + m) j137_269 rfl rfl (by omega) (by decide) ?_
          refine wx_aldn j137_270 rfl ?_
          refine wx_get (v := .int _) j137_271 rfl (Nat.le_of_ble_eq_true rfl) rfl ?_
          rw [up_ni (by decide), r2.2]
          refine wx_if 285 j137_274 (by decide) (fun c274 => ?_) (fun c274 => ?_)
          · simp only [ax_cn, Classical.not_not] at c274
            refine wx_rv j137_285 rfl ?_
            exact ⟨mr_mo r2 m9, fun q hq => (by cases hq), mre_tr hf0 (mre_tr (mre_rq f2) (mre_mo m9))⟩
          · simp only [ax_cn, Classical.not_not] at c274
            exact absurd c274 (by decide)
        | some v =>
          obtain ⟨rfl, tt2⟩ := h2 v rfl
          simp only [Option.isNone_some] at r2
          refine wx_ist (L' := [_, _, _, _, _, _, some (.int _)]) j137_260 (Nat.le_of_ble_eq_true rfl) rfl ?_
          refine wx_aldn j137_262 rfl ?_
          refine wx_get (v := .ref 557) j137_263 rfl (Nat.le_of_ble_eq_true rfl) rfl ?_
          refine wx_ild j137_266 rfl ?_
          refine wx_icst (v := nI 1) j137_268 (by decide) ?_
          refine wx_basx (8 * 1 + m) j137_269 rfl rfl (by omega) (by decide) ?_
          refine wx_aldn j137_270 rfl ?_
          refine wx_get (v := .int _) j137_271 rfl (Nat.le_of_ble_eq_true rfl) rfl ?_
          rw [up_ni (by decide), r2.2]
          refine wx_if 285 j137_274 (by decide) (fun c274 => ?_) (fun c274 => ?_)
          · simp only [ax_cn, Classical.not_not] at c274
            exact absurd rfl c274
          · simp only [ax_cn, Classical.not_not] at c274
            refine wx_aldn j137_277 rfl ?_
            refine wx_icst (v := nI 3) j137_278 (by decide) ?_
            refine wx_icst (v := (-1)) j137_279 (by decide) ?_
            refine wx_ild j137_280 rfl ?_
            refine wx_v3 j137_282 rfl rfl rfl rfl (Nat.le_of_ble_eq_true rfl) rfl (sm_noteN (me_mo (me_rf he f2) m9) hl) ?_
            rintro d3 ⟨he3, f3⟩
            refine wx_rv j137_285 rfl ?_
            refine ⟨mr_ef (mr_mo r2 m9) f3, fun q hq => ?_, mre_tr hf0 (mre_tr (mre_tr (mre_rq f2) (mre_mo m9)) (mre_ef f3))⟩
            obtain rfl := Option.some.inj hq
            rw [fll_s]
            exact ⟨mt_ef (mt_up tt2 (Or.inr (by decide))) f3, mg_ef g9 f3, he3⟩
        
      · simp only [ax_cn, Classical.not_not] at c206
        exact absurd c206 (by decide)
    · simp only [ax_cn, Classical.not_not] at c192
      exact absurd c192 (by decide)
  · simp only [ax_cn, Classical.not_not] at c172
    exact absurd c172 (by decide)
end MF
