/-! THE REFERENCE: learning, entering, leaving, beginning. -/
section M4
variable {d d1 : ax_D} {c x n m : Nat} {T : TT} {nm : Nat → Nat} {fl : Nat → Bool} {b : Bool}
theorem mle_fin {k j code : Nat} (hc : c < 2) (h : mt_is d c T) (hl : LB T) (hk : k < (T 4 0).length) (hj : j < 2) (hr : (T (6 + j) k).length < 12)
    (hs : ∀ i, 0 < i → i ≤ (T (6 + j) k).length → d1 554 (12 * (40 * c + 2 * k + j) + i) = nI (mc ((T (6 + j) k).getD (i - 1) 0))) (hf : ∀ id i, id ≠ 554 ∨ i < 12 * (40 * c + 2 * k + j) ∨ 12 * (40 * c + 2 * k + j) + 12 ≤ i → d1 id i = d id i) :
    mt_is (ax_up (ax_up d1 554 (12 * (40 * c + 2 * k + j)) (nI (mc code))) 553 (40 * c + 2 * k + j) (nI ((T (6 + j) k).length + 1))) c (tst T (6 + j) k (code :: T (6 + j) k)) ∧ mq d (ax_up (ax_up d1 554 (12 * (40 * c + 2 * k + j)) (nI (mc code))) 553 (40 * c + 2 * k + j) (nI ((T (6 + j) k).length + 1))) c := by
  have l4 := lb4 hl
  obtain ⟨h0, h1, h4, h2, h3, h6⟩ := h
  have e : ∀ id, id ≠ 554 → d1 id = d id := fun id hid => funext fun i => hf id i (Or.inl hid)
  have ee : ∀ id, id ≠ 554 → id ≠ 553 → ax_up (ax_up d1 554 (12 * (40 * c + 2 * k + j)) (nI (mc code))) 553 (40 * c + 2 * k + j) (nI ((T (6 + j) k).length + 1)) id = d id := fun id a1 a2 => by rw [ax_up_ne a2, ax_up_ne a1, e id a1]
  generalize hd2 : ax_up (ax_up d1 554 (12 * (40 * c + 2 * k + j)) (nI (mc code))) 553 (40 * c + 2 * k + j) (nI ((T (6 + j) k).length + 1)) = d2 at ee ⊢
  refine ⟨mt_of ?_ (fun p hp => ?_) ?_ (fun q hq => ?_) ?_ (fun q hq z hz => ?_), ?_⟩
  · rw [tst_ne (Or.inl (by omega))]
    unfold M0 sg
    rw [ee 542 (by decide) (by decide), ee 543 (by decide) (by decide)]
    exact h0
  · rw [tst_ne (Or.inl (by omega))]
    unfold M1 sg
    rw [ee 544 (by decide) (by decide), ee 545 (by decide) (by decide)]
    exact h1 p hp
  · rw [tst_ne (Or.inl (by omega)), tst_ne (Or.inl (by omega))]
    unfold M4 sg
    rw [ee 546 (by decide) (by decide), ee 547 (by decide) (by decide), ee 548 (by decide) (by decide)]
    exact h4
  · rw [tst_ne (Or.inl (by omega))] at hq
    rw [tst_ne (Or.inl (by omega))]
    unfold M2 sg
    rw [ee 549 (by decide) (by decide), ee 550 (by decide) (by decide)]
    exact h2 q hq
  · rw [tst_ne (Or.inl (by omega))]
    unfold M3 sg
    rw [ee 551 (by decide) (by decide), ee 552 (by decide) (by decide)]
    exact h3
  · rw [tst_ne (Or.inl (by omega))] at hq
    rw [← hd2]
    by_cases hqz : q = k ∧ z = j
    · obtain ⟨rfl, rfl⟩ := hqz
      rw [tst_at]
      refine ⟨by rw [up_at]; rfl, fun i hi => ?_⟩
      rw [up_ni (by decide), up_ap]
      rw [List.length_map, List.length_cons] at hi
      match i, hi with
      | 0, _ => rw [if_pos ⟨rfl, rfl⟩]; rfl
      | i + 1, hi =>
        rw [if_neg (fun q2 => by omega), hs (i + 1) (by omega) (by omega), List.map_cons]
        show _ = nI ((List.map mc (T (6 + z) q)).getD i 0)
        rw [getD_map (by omega), Nat.add_sub_cancel]
    · have hne : 40 * c + 2 * q + z ≠ 40 * c + 2 * k + j := by omega
      rw [tst_ne (by omega)]
      have l6 := lb6 hl hz (show q < 20 by omega)
      refine ⟨by rw [up_nk hne, up_ni (by decide), e 553 (by decide)]; exact (h6 q hq z hz).1, fun i hi => ?_⟩
      rw [List.length_map] at hi
      rw [up_ni (by decide), up_nk (by omega), hf 554 _ (Or.inr (by omega))]
      exact (h6 q hq z hz).2 i (by rw [List.length_map]; exact hi)
  · intro id i hni
    rw [← hd2, up_ap, if_neg, up_ap, if_neg]
    · refine hf id i ?_
      by_cases h5 : id = 554
      · subst h5
        refine Or.inr ?_
        have : ¬ i / 480 = c := fun q => hni ⟨by decide, by decide, q⟩
        omega
      · exact Or.inl h5
    · rintro ⟨rfl, rfl⟩
      exact hni ⟨by decide, by decide, show 12 * (40 * c + 2 * k + j) / 480 = c by omega⟩
    · rintro ⟨rfl, rfl⟩
      exact hni ⟨by decide, by decide, show (40 * c + 2 * k + j) / 40 = c by omega⟩
theorem mle_loop {k j code : Nat} (hc : c < 2) (h : mt_is d c T) (hl : LB T) (hk : k < (T 4 0).length) (hj : j < 2) (hr : (T (6 + j) k).length < 12) : ∀ p (d1 : ax_D), p ≤ (T (6 + j) k).length → (∀ i, p < i → i ≤ (T (6 + j) k).length → d1 554 (12 * (40 * c + 2 * k + j) + i) = nI (mc ((T (6 + j) k).getD (i - 1) 0))) → (∀ i, i ≤ p → i < (T (6 + j) k).length → d1 554 (12 * (40 * c + 2 * k + j) + i) = nI (mc ((T (6 + j) k).getD i 0))) → (∀ id i, id ≠ 554 ∨ i < 12 * (40 * c + 2 * k + j) ∨ 12 * (40 * c + 2 * k + j) + 12 ≤ i → d1 id i = d id i) → ax_W 100 28 [some (.ref 540), some (.int (nI (40 * c + 2 * k + j))), some (.int (nI (mc code))), some (.int (nI p))] [] d1 (ax_Pv fun d2 => mt_is d2 c (tst T (6 + j) k (code :: T (6 + j) k)) ∧ mq d d2 c) := by
  have l4 := lb4 hl
  have hrr : 40 * c + 2 * k + j < 80 := by omega
  intro p
  induction p with
  | zero =>
    intro d1 hp hs hu hf
    refine wx_ildn j100_28 rfl ?_
    refine wx_if 62 j100_29 (by decide) (fun c29 => ?_) (fun c29 => ?_)
    · simp only [ax_cn, Classical.not_not] at c29
      refine wx_aldn j100_62 rfl ?_
      refine wx_get (v := .ref 554) j100_63 rfl (Nat.le_of_ble_eq_true rfl) rfl ?_
      refine wx_bpsh (v := nI 12) j100_66 (by decide) ?_
      refine wx_ildn j100_68 rfl ?_
      refine wx_imul j100_69 ?_
      rw [pk_mul]
      refine wx_ildn j100_70 rfl ?_
      refine wx_iasx (12 * (40 * c + 2 * k + j)) j100_71 rfl rfl (by omega) (by decide) ?_
      refine wx_aldn j100_72 rfl ?_
      refine wx_get (v := .ref 553) j100_73 rfl (Nat.le_of_ble_eq_true rfl) rfl ?_
      refine wx_ildn j100_76 rfl ?_
      refine wx_dup2 j100_77 ?_
      refine wx_ialx (40 * c + 2 * k + j) j100_78 rfl rfl (hrr) (by decide) ?_
      rw [up_ni (by decide), hf 553 _ (Or.inl (by decide)), (h.2.2.2.2.2 k hk j hj).1]
      refine wx_icst (v := nI 1) j100_79 (by decide) ?_
      refine wx_iadd j100_80 ?_
      rw [nI_add]
      refine wx_iasx (40 * c + 2 * k + j) j100_81 rfl rfl (hrr) (by decide) ?_
      refine wx_rv j100_82 rfl ?_
      exact mle_fin hc h hl hk hj hr hs hf
    · simp only [ax_cn, Classical.not_not] at c29
      exact absurd (show nI 0 ≤ 0 by decide) c29
  | succ p ih =>
    intro d1 hp hs hu hf
    refine wx_ildn j100_28 rfl ?_
    refine wx_if 62 j100_29 (by decide) (fun c29 => ?_) (fun c29 => ?_)
    · simp only [ax_cn, Classical.not_not] at c29
      exact absurd c29 (nI_nle (Nat.succ_pos p) (by omega))
    · simp only [ax_cn, Classical.not_not] at c29
      refine wx_aldn j100_32 rfl ?_
      refine wx_get (v := .ref 554) j100_33 rfl (Nat.le_of_ble_eq_true rfl) rfl ?_
      refine wx_bpsh (v := nI 12) j100_36 (by decide) ?_
      refine wx_ildn j100_38 rfl ?_
      refine wx_imul j100_39 ?_
      rw [pk_mul]
      refine wx_ildn j100_40 rfl ?_
      refine wx_iadd j100_41 ?_
      rw [nI_add]
      refine wx_aldn j100_42 rfl ?_
      refine wx_get (v := .ref 554) j100_43 rfl (Nat.le_of_ble_eq_true rfl) rfl ?_
      refine wx_bpsh (v := nI 12) j100_46 (by decide) ?_
      refine wx_ildn j100_48 rfl ?_
      refine wx_imul j100_49 ?_
      rw [pk_mul]
      refine wx_ildn j100_50 rfl ?_
      refine wx_iadd j100_51 ?_
      rw [nI_add]
      refine wx_icst (v := nI 1) j100_52 (by decide) ?_
      refine wx_isub j100_53 ?_
      rw [show 12 * (40 * c + 2 * k + j) + (p + 1) = 12 * (40 * c + 2 * k + j) + p + 1 by omega, nI_s1]
      refine wx_ialx (12 * (40 * c + 2 * k + j) + p) j100_54 rfl rfl (by omega) (by decide) ?_
      refine wx_iasx (12 * (40 * c + 2 * k + j) + p + 1) j100_55 rfl rfl (by omega) (by decide) ?_
      refine wx_iinc (v := nI p) (L' := [_, _, _, some (.int _)]) j100_56 rfl (pk_m1 p) rfl ?_
      refine wx_goto 28 j100_59 (by decide) ?_
      refine ih _ (by omega) (fun i h1 h2 => ?_) (fun i h1 h2 => ?_) (fun id i hid => ?_)
      · by_cases hip : i = p + 1
        · subst hip
          rw [show 12 * (40 * c + 2 * k + j) + (p + 1) = 12 * (40 * c + 2 * k + j) + p + 1 by omega, up_at, hu p (by omega) (by omega), Nat.add_sub_cancel]
        · rw [up_nk (by omega)]; exact hs i (by omega) h2
      · rw [up_nk (by omega)]; exact hu i (by omega) h2
      · rw [up_ap, if_neg (fun q => by omega)]; exact hf id i hid
theorem sm_learn {k j code : Nat} (hc : c < 2) (h : mt_is d c T) (hl : LB T) (hk : k < (T 4 0).length) (hj : j < 2) (hb : ∀ e, e ∈ T (6 + j) k → e < 1000) (hx : mc code < tB) (hi : fi ((T (6 + j) k).map mc) (mc code) = fi (T (6 + j) k) code) : ax_E 100 [.ref 540, .int (nI (40 * c + 2 * k + j)), .int (nI (mc code))] d (ax_Pv fun d1 => mt_is d1 c (tln T (6 + j) k code) ∧ mq d d1 c) := by
  show ax_W 100 0 [some (.ref 540), some (.int (nI (40 * c + 2 * k + j))), some (.int (nI (mc code))), none] [] d _
  have l4 := lb4 hl
  have l6 := lb6 hl hj (show k < 20 by omega)
  have hrr : 40 * c + 2 * k + j < 80 := by omega
  refine wx_aldn j100_0 rfl ?_
  refine wx_ildn j100_1 rfl ?_
  refine wx_ildn j100_2 rfl ?_
  refine wx_i2 j100_3 rfl rfl rfl (Nat.le_of_ble_eq_true rfl) rfl (sm_findCode hc h hl hk hj hb hx) ?_
  rintro _ d9 ⟨rfl, h9⟩
  obtain rfl := h9.symm
  rw [hi]
  have hf31 : ∀ q, fi (T (6 + j) k) code = some q → q < 2 ^ 31 := fun q hq => by have := fi_lt hq; omega
  refine wx_if 20 j100_6 (by decide) (fun c6 => ?_) (fun c6 => ?_)
  · simp only [ax_cn, Classical.not_not] at c6
    obtain ⟨q, hq⟩ : ∃ q, fi (T (6 + j) k) code = some q := by
      cases hfi : fi (T (6 + j) k) code with
      | none => rw [hfi] at c6; exact absurd c6 (by decide)
      | some q => exact ⟨q, rfl⟩
    have e : tln T (6 + j) k code = T := by unfold tln; rw [hq]
    rw [e]
    refine wx_rv j100_20 rfl ?_
    exact ⟨h, mq_rf d c⟩
  · simp only [ax_cn, Classical.not_not] at c6
    have hno : fi (T (6 + j) k) code = none := by
      cases hfi : fi (T (6 + j) k) code with
      | none => rfl
      | some q => rw [hfi] at c6; exact absurd (nI_pos' (hf31 q hfi)) c6
    have e : tln T (6 + j) k code = tst T (6 + j) k (if (T (6 + j) k).length < 12 then code :: T (6 + j) k else T (6 + j) k) := by unfold tln; rw [hno]
    rw [e]
    refine wx_aldn j100_9 rfl ?_
    refine wx_get (v := .ref 553) j100_10 rfl (Nat.le_of_ble_eq_true rfl) rfl ?_
    refine wx_ildn j100_13 rfl ?_
    refine wx_ialx (40 * c + 2 * k + j) j100_14 rfl rfl (hrr) (by decide) ?_
    refine wx_bpsh (v := nI 12) j100_15 (by decide) ?_
    rw [(h.2.2.2.2.2 k hk j hj).1]
    refine wx_cmp 21 j100_17 (by decide) (fun c17 => ?_) (fun c17 => ?_)
    · simp only [ax_cn, Classical.not_not] at c17
      have h12 : ¬ (T (6 + j) k).length = 12 := fun q => c17 (by rw [q])
      have hr : (T (6 + j) k).length < 12 := by omega
      rw [if_pos hr]
      refine wx_aldn j100_21 rfl ?_
      refine wx_get (v := .ref 553) j100_22 rfl (Nat.le_of_ble_eq_true rfl) rfl ?_
      refine wx_ildn j100_25 rfl ?_
      refine wx_ialx (40 * c + 2 * k + j) j100_26 rfl rfl (hrr) (by decide) ?_
      rw [(h.2.2.2.2.2 k hk j hj).1]
      refine wx_istn (L' := [_, _, _, some (.int _)]) j100_27 (Nat.le_of_ble_eq_true rfl) rfl ?_
      exact mle_loop hc h hl hk hj hr (T (6 + j) k).length d (Nat.le_refl _) (fun i h1 h2 => by omega) (fun i _ h2 => sg_map_at (h.2.2.2.2.2 k hk j hj).2 h2) (fun _ _ _ => rfl)
    · simp only [ax_cn, Classical.not_not] at c17
      have h12 : (T (6 + j) k).length = 12 := (nI_eq (by omega) (by decide)).mp c17
      rw [if_neg (by omega), tst_id]
      refine wx_rv j100_20 rfl ?_
      exact ⟨h, mq_rf d c⟩
theorem sm_enter (hc : c < 2) (hg : mg_is d c n nm fl b) (hw : (b && decide (n = 0)) = false) (hn : n < 8) (hx : x < 20) : ax_E 101 [.ref 540, .int (nI c), .int (nI x)] d (ax_Pv fun d1 => mg_is d1 c (n + 1) (va_up nm n x) (va_up (fll fl n) n false) true ∧ mo d d1 c ∧ ∀ id, id < 555 → d1 id = d id) := by
  show ax_W 101 0 [some (.ref 540), some (.int (nI c)), some (.int (nI x))] [] d _
  -- the part behind the first step
  have rest : ∀ d0 : ax_D, mg_is d0 c n nm (fll fl n) b → mo d d0 c → (∀ id, id < 555 → d0 id = d id) → ax_W 101 28 [some (.ref 540), some (.int (nI c)), some (.int (nI x))] [] d0 (ax_Pv fun d1 => mg_is d1 c (n + 1) (va_up nm n x) (va_up (fll fl n) n false) true ∧ mo d d1 c ∧ ∀ id, id < 555 → d1 id = d id) := by
    intro d0 hg0 hf0 hi0
    refine wx_aldn j101_28 rfl ?_
    refine wx_get (v := .ref 556) j101_29 rfl (Nat.le_of_ble_eq_true rfl) rfl ?_
    refine wx_bpsh (v := nI 8) j101_32 (by decide) ?_
    refine wx_ildn j101_34 rfl ?_
    refine wx_imul j101_35 ?_
    rw [pk_mul]
    refine wx_aldn j101_36 rfl ?_
    refine wx_get (v := .ref 555) j101_37 rfl (Nat.le_of_ble_eq_true rfl) rfl ?_
    refine wx_ildn j101_40 rfl ?_
    refine wx_ialx (c) j101_41 rfl rfl (hc) (by decide) ?_
    rw [hg0.2.1]
    refine wx_iadd j101_42 ?_
    rw [nI_add]
    refine wx_ildn j101_43 rfl ?_
    refine wx_iasx (8 * c + n) j101_44 rfl rfl (by omega) (by decide) ?_
    refine wx_aldn j101_45 rfl ?_
    refine wx_get (v := .ref 557) j101_46 rfl (Nat.le_of_ble_eq_true rfl) rfl ?_
    refine wx_bpsh (v := nI 8) j101_49 (by decide) ?_
    refine wx_ildn j101_51 rfl ?_
    refine wx_imul j101_52 ?_
    rw [pk_mul]
    refine wx_aldn j101_53 rfl ?_
    refine wx_get (v := .ref 555) j101_54 rfl (Nat.le_of_ble_eq_true rfl) rfl ?_
    refine wx_ildn j101_57 rfl ?_
    refine wx_ialx (c) j101_58 rfl rfl (hc) (by decide) ?_
    rw [up_ni (by decide), hg0.2.1]
    refine wx_iadd j101_59 ?_
    rw [nI_add]
    refine wx_icst (v := nI 0) j101_60 (by decide) ?_
    refine wx_basx (8 * c + n) j101_61 rfl rfl (by omega) (by decide) ?_
    refine wx_aldn j101_62 rfl ?_
    refine wx_get (v := .ref 555) j101_63 rfl (Nat.le_of_ble_eq_true rfl) rfl ?_
    refine wx_ildn j101_66 rfl ?_
    refine wx_dup2 j101_67 ?_
    refine wx_ialx (c) j101_68 rfl rfl (hc) (by decide) ?_
    rw [up_ni (by decide), up_ni (by decide), hg0.2.1]
    refine wx_icst (v := nI 1) j101_69 (by decide) ?_
    refine wx_iadd j101_70 ?_
    rw [nI_add]
    refine wx_iasx (c) j101_71 rfl rfl (hc) (by decide) ?_
    refine wx_rv j101_72 rfl ?_
    refine ⟨⟨hn, by rw [up_at], ?_, fun i hi => ?_⟩, mo_tr hf0 (mo_tr (mo_tr (mo_up (by decide) (by decide) (show (8 * c + n) / 8 = c by omega)) (mo_up (by decide) (by decide) (show (8 * c + n) / 8 = c by omega))) (mo_up (by decide) (by decide) (Nat.div_one c))), fun id hid => by rw [ax_up_ne (by omega), ax_up_ne (by omega), ax_up_ne (by omega)]; exact hi0 id hid⟩
    · rw [up_ni (by decide), up_ni (by decide), up_ni (by decide), hg0.2.2.1, hw, decide_eq_false (Nat.succ_ne_zero n)]; rfl
    · unfold va_up
      by_cases hi2 : i = n
      · subst hi2
        rw [if_pos rfl, if_pos rfl, up_ni (by decide), up_ni (by decide), up_at, up_ni (by decide), up_at]
        exact ⟨rfl, hx, rfl⟩
      · have a := hg0.2.2.2 i (by omega)
        rw [if_neg hi2, if_neg hi2, up_ni (by decide), up_ni (by decide), up_nk (by omega), up_ni (by decide), up_nk (by omega), up_ni (by decide)]
        exact a
  refine wx_aldn j101_0 rfl ?_
  refine wx_get (v := .ref 555) j101_1 rfl (Nat.le_of_ble_eq_true rfl) rfl ?_
  refine wx_ildn j101_4 rfl ?_
  refine wx_ialx (c) j101_5 rfl rfl (hc) (by decide) ?_
  rw [hg.2.1]
  refine wx_if 28 j101_6 (by decide) (fun c6 => ?_) (fun c6 => ?_)
  · simp only [ax_cn, Classical.not_not] at c6
    have hn0 : n = 0 := Nat.eq_zero_of_not_pos (fun q => nI_nle q (by omega) c6)
    exact rest d (by unfold fll; rw [if_pos hn0]; exact hg) (mo_rf d c) (fun _ _ => rfl)
  · simp only [ax_cn, Classical.not_not] at c6
    obtain ⟨m, rfl⟩ : ∃ m, n = m + 1 := ⟨n - 1, by
      rcases Nat.eq_zero_or_pos n with q | q
      · rw [q] at c6; exact absurd (show nI 0 ≤ 0 by decide) c6
      · omega⟩
    refine wx_aldn j101_9 rfl ?_
    refine wx_get (v := .ref 557) j101_10 rfl (Nat.le_of_ble_eq_true rfl) rfl ?_
    refine wx_bpsh (v := nI 8) j101_13 (by decide) ?_
    refine wx_ildn j101_15 rfl ?_
    refine wx_imul j101_16 ?_
    rw [pk_mul]
    refine wx_aldn j101_17 rfl ?_
    refine wx_get (v := .ref 555) j101_18 rfl (Nat.le_of_ble_eq_true rfl) rfl ?_
    refine wx_ildn j101_21 rfl ?_
    refine wx_ialx (c) j101_22 rfl rfl (hc) (by decide) ?_
    rw [hg.2.1]
    refine wx_iadd j101_23 ?_
    rw [nI_add]
    refine wx_icst (v := nI 1) j101_24 (by decide) ?_
    refine wx_isub j101_25 ?_
    rw [show 8 * c + (m + 1) = 8 * c + m + 1 by omega, nI_s1]
    refine wx_icst (v := nI 1) j101_26 (by decide) ?_
    refine wx_basx (8 * c + m) j101_27 rfl rfl (by omega) (by decide) ?_
    refine rest _ ⟨hg.1, by rw [up_ni (by decide)]; exact hg.2.1, by rw [up_ni (by decide)]; exact hg.2.2.1, fun i hi => ?_⟩ (mo_up (by decide) (by decide) (show (8 * c + m) / 8 = c by omega)) (fun id hid => ax_up_ne (by omega))
    obtain ⟨a1, a2, a3⟩ := hg.2.2.2 i hi
    refine ⟨by rw [up_ni (by decide)]; exact a1, a2, ?_⟩
    unfold fll
    rw [if_neg (Nat.succ_ne_zero m), Nat.add_sub_cancel]
    unfold va_up
    by_cases hi2 : i = m
    · subst hi2
      rw [up_at, if_pos rfl]; rfl
    · rw [up_nk (by omega), if_neg hi2]; exact a3
theorem sm_leave (hc : c < 2) (hg : mg_is d c (m + 1) nm fl true) : ax_E 102 [.ref 540, .int (nI c)] d (ax_Pv fun d1 => mg_is d1 c m nm fl true ∧ mo d d1 c ∧ ∀ id, id < 555 → d1 id = d id) := by
  show ax_W 102 0 [some (.ref 540), some (.int (nI c))] [] d _
  refine wx_aldn j102_0 rfl ?_
  refine wx_get (v := .ref 555) j102_1 rfl (Nat.le_of_ble_eq_true rfl) rfl ?_
  refine wx_ildn j102_4 rfl ?_
  refine wx_dup2 j102_5 ?_
  refine wx_ialx (c) j102_6 rfl rfl (hc) (by decide) ?_
  rw [hg.2.1]
  refine wx_icst (v := nI 1) j102_7 (by decide) ?_
  refine wx_isub j102_8 ?_
  rw [nI_s1]
  refine wx_iasx (c) j102_9 rfl rfl (hc) (by decide) ?_
  refine wx_aldn j102_10 rfl ?_
  refine wx_get (v := .ref 558) j102_11 rfl (Nat.le_of_ble_eq_true rfl) rfl ?_
  refine wx_ildn j102_14 rfl ?_
  refine wx_aldn j102_15 rfl ?_
  refine wx_get (v := .ref 555) j102_16 rfl (Nat.le_of_ble_eq_true rfl) rfl ?_
  refine wx_ildn j102_19 rfl ?_
  refine wx_ialx (c) j102_20 rfl rfl (hc) (by decide) ?_
  rw [up_at]
  refine wx_if 28 j102_21 (by decide) (fun c21 => ?_) (fun c21 => ?_)
  · simp only [ax_cn, Classical.not_not] at c21
    have hm : ¬ m = 0 := fun q => c21 (by rw [q]; rfl)
    refine wx_icst (v := nI 0) j102_28 (by decide) ?_
    refine wx_basx (c) j102_29 rfl rfl (hc) (by decide) ?_
    refine wx_rv j102_30 rfl ?_
    refine ⟨⟨by have := hg.1; omega, by rw [up_ni (by decide), up_at], by rw [up_at, decide_eq_false hm]; rfl, fun i hi => ?_⟩, mo_tr (mo_up (by decide) (by decide) (Nat.div_one c)) (mo_up (by decide) (by decide) (Nat.div_one c)), fun id hid => by rw [ax_up_ne (by omega), ax_up_ne (by omega)]⟩
    rw [up_ni (by decide), up_ni (by decide), up_ni (by decide), up_ni (by decide)]
    exact hg.2.2.2 i (by omega)
  · simp only [ax_cn, Classical.not_not] at c21
    have hm : m = 0 := (nI_eq (by have := hg.1; omega) (by decide)).mp (c21.trans nI_0.symm)
    refine wx_icst (v := nI 1) j102_24 (by decide) ?_
    refine wx_goto 29 j102_25 (by decide) ?_
    refine wx_basx (c) j102_29 rfl rfl (hc) (by decide) ?_
    refine wx_rv j102_30 rfl ?_
    refine ⟨⟨by have := hg.1; omega, by rw [up_ni (by decide), up_at], by rw [up_at, decide_eq_true hm]; rfl, fun i hi => ?_⟩, mo_tr (mo_up (by decide) (by decide) (Nat.div_one c)) (mo_up (by decide) (by decide) (Nat.div_one c)), fun id hid => by rw [ax_up_ne (by omega), ax_up_ne (by omega)]⟩
    rw [up_ni (by decide), up_ni (by decide), up_ni (by decide), up_ni (by decide)]
    exact hg.2.2.2 i (by omega)
theorem mbg_loop (hc : c < 2) {d0 : ax_D} (hs : d0 542 c = nI 1) (hs2 : d0 543 (6 * c) = nI 0) (hm : mo d d0 c) : ∀ n i (d1 : ax_D), 6 - i < n → i ≤ 6 → (∀ q, q < i → d1 544 (6 * c + q) = nI 0) → (∀ id, id ≠ 544 → d1 id = d0 id) → mo d d1 c → ax_W 86 19 [some (.ref 540), some (.int (nI c)), some (.int (nI i))] [] d1 (ax_Pv fun d2 => mt_is d2 c t00 ∧ (∀ nm fl, mg_is d2 c 0 nm fl false) ∧ mo d d2 c) := by
  intro n
  induction n with
  | zero => intro i d1 h0; omega
  | succ n ih =>
    intro i d1 h0 hi hz hf hmo
    refine wx_ildn j86_19 rfl ?_
    refine wx_bpsh (v := nI 6) j86_20 (by decide) ?_
    refine wx_cmp 43 j86_22 (by decide) (fun c22 => ?_) (fun c22 => ?_)
    · simp only [ax_cn, Classical.not_not] at c22
      have hil : i = 6 := Nat.le_antisymm hi ((nI_leI (by decide) (by omega)).mp c22)
      refine wx_aldn j86_43 rfl ?_
      refine wx_get (v := .ref 546) j86_44 rfl (Nat.le_of_ble_eq_true rfl) rfl ?_
      refine wx_ildn j86_47 rfl ?_
      refine wx_icst (v := nI 0) j86_48 (by decide) ?_
      refine wx_iasx (c) j86_49 rfl rfl (hc) (by decide) ?_
      refine wx_aldn j86_50 rfl ?_
      refine wx_get (v := .ref 551) j86_51 rfl (Nat.le_of_ble_eq_true rfl) rfl ?_
      refine wx_ildn j86_54 rfl ?_
      refine wx_icst (v := nI 0) j86_55 (by decide) ?_
      refine wx_iasx (c) j86_56 rfl rfl (hc) (by decide) ?_
      refine wx_aldn j86_57 rfl ?_
      refine wx_get (v := .ref 555) j86_58 rfl (Nat.le_of_ble_eq_true rfl) rfl ?_
      refine wx_ildn j86_61 rfl ?_
      refine wx_icst (v := nI 0) j86_62 (by decide) ?_
      refine wx_iasx (c) j86_63 rfl rfl (hc) (by decide) ?_
      refine wx_aldn j86_64 rfl ?_
      refine wx_get (v := .ref 558) j86_65 rfl (Nat.le_of_ble_eq_true rfl) rfl ?_
      refine wx_ildn j86_68 rfl ?_
      refine wx_icst (v := nI 0) j86_69 (by decide) ?_
      refine wx_basx (c) j86_70 rfl rfl (hc) (by decide) ?_
      refine wx_rv j86_71 rfl ?_
      have e4 : t00 4 0 = [] := rfl
      refine ⟨mt_of ?_ (fun q hq => ?_) ?_ (fun q hq => absurd hq (Nat.not_lt_zero q)) ?_ (fun q hq => absurd hq (Nat.not_lt_zero q)), fun nm fl => ⟨by decide, by rw [up_ni (by decide), up_at], by rw [up_at]; rfl, fun z hz => absurd hz (Nat.not_lt_zero z)⟩, ?_⟩
      · refine ⟨?_, fun z hz => ?_⟩
        · rw [up_ni (by decide), up_ni (by decide), up_ni (by decide), up_ni (by decide), hf 542 (by decide)]; exact hs
        · have hz0 : z = 0 := Nat.lt_one_iff.mp hz
          subst hz0
          rw [up_ni (by decide), up_ni (by decide), up_ni (by decide), up_ni (by decide), hf 543 (by decide)]; exact hs2
      · have e1 : t00 1 q = [] := by unfold t00; rw [if_neg (fun z => by omega)]
        rw [e1]
        refine ⟨?_, fun z hz => absurd hz (Nat.not_lt_zero z)⟩
        rw [up_ni (by decide), up_ni (by decide), up_ni (by decide), up_ni (by decide)]; exact hz q (by omega)
      · exact ⟨by rw [up_ni (by decide), up_ni (by decide), up_ni (by decide), up_at]; rfl, fun z hz => absurd hz (Nat.not_lt_zero z), fun z hz => absurd hz (Nat.not_lt_zero z)⟩
      · exact ⟨by rw [up_ni (by decide), up_ni (by decide), up_at]; rfl, fun z hz => absurd hz (Nat.not_lt_zero z)⟩
      · exact mo_tr hmo (mo_tr (mo_tr (mo_tr (mo_up (by decide) (by decide) (Nat.div_one c)) (mo_up (by decide) (by decide) (Nat.div_one c))) (mo_up (by decide) (by decide) (Nat.div_one c))) (mo_up (by decide) (by decide) (Nat.div_one c)))
    · simp only [ax_cn, Classical.not_not] at c22
      have hil : i < 6 := Nat.not_le.mp (fun q => c22 ((nI_leI (by decide) (by omega)).mpr q))
      refine wx_aldn j86_25 rfl ?_
      refine wx_get (v := .ref 544) j86_26 rfl (Nat.le_of_ble_eq_true rfl) rfl ?_
      refine wx_bpsh (v := nI 6) j86_29 (by decide) ?_
      refine wx_ildn j86_31 rfl ?_
      refine wx_imul j86_32 ?_
      rw [pk_mul]
      refine wx_ildn j86_33 rfl ?_
      refine wx_iadd j86_34 ?_
      rw [nI_add]
      refine wx_icst (v := nI 0) j86_35 (by decide) ?_
      refine wx_iasx (6 * c + i) j86_36 rfl rfl (by omega) (by decide) ?_
      refine wx_iinc (v := nI (i + 1)) (L' := [_, _, some (.int _)]) j86_37 rfl (nI_1 i) rfl ?_
      refine wx_goto 19 j86_40 (by decide) ?_
      refine ih (i + 1) _ (by omega) (by omega) (fun q hq => ?_) (fun id hid => by rw [ax_up_ne hid]; exact hf id hid) (mo_tr hmo (mo_up (by decide) (by decide) (show (6 * c + i) / 6 = c by omega)))
      by_cases hq2 : q = i
      · subst hq2; rw [up_at]
      · rw [up_nk (by omega)]; exact hz q (by omega)
theorem sm_begin (hc : c < 2) : ax_E 86 [.ref 540, .int (nI c)] d (ax_Pv fun d1 => mt_is d1 c t00 ∧ (∀ nm fl, mg_is d1 c 0 nm fl false) ∧ mo d d1 c) := by
  show ax_W 86 0 [some (.ref 540), some (.int (nI c)), none] [] d _
  refine wx_aldn j86_0 rfl ?_
  refine wx_get (v := .ref 542) j86_1 rfl (Nat.le_of_ble_eq_true rfl) rfl ?_
  refine wx_ildn j86_4 rfl ?_
  refine wx_icst (v := nI 1) j86_5 (by decide) ?_
  refine wx_iasx (c) j86_6 rfl rfl (hc) (by decide) ?_
  refine wx_aldn j86_7 rfl ?_
  refine wx_get (v := .ref 543) j86_8 rfl (Nat.le_of_ble_eq_true rfl) rfl ?_
  refine wx_bpsh (v := nI 6) j86_11 (by decide) ?_
  refine wx_ildn j86_13 rfl ?_
  refine wx_imul j86_14 ?_
  rw [pk_mul]
  refine wx_icst (v := nI 0) j86_15 (by decide) ?_
  refine wx_iasx (6 * c) j86_16 rfl rfl (by omega) (by decide) ?_
  refine wx_icst (v := nI 0) j86_17 (by decide) ?_
  refine wx_istn (L' := [_, _, some (.int _)]) j86_18 (Nat.le_of_ble_eq_true rfl) rfl ?_
  have m0 : mo d (ax_up (ax_up d 542 c (nI 1)) 543 (6 * c) (nI 0)) c := mo_tr (mo_up (by decide) (by decide) (Nat.div_one c)) (mo_up (by decide) (by decide) (show 6 * c / 6 = c by omega))
  exact mbg_loop hc (by rw [up_ni (by decide), up_at]) (up_at _ _ _ _) m0 7 0 _ (by omega) (by decide) (fun q hq => absurd hq (Nat.not_lt_zero q)) (fun _ _ => rfl) m0
end M4
