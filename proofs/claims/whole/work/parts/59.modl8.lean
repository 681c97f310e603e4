/-! THE REFERENCE writes an event. -/
def mwe (d d1 : ax_D) : Prop := ∀ id i, ¬ (542 ≤ id ∧ id ≤ 558 ∧ i / msz id = 0) → id ≠ 559 → ¬ (id = 540 ∧ i = 19) → d1 id i = d id i
theorem mwe_rf (d : ax_D) : mwe d d := fun _ _ _ _ _ => rfl
theorem mwe_tr {d d1 d2 : ax_D} (h : mwe d d1) (h2 : mwe d1 d2) : mwe d d2 := fun id i a b c => (h2 id i a b c).trans (h id i a b c)
theorem mwe_wf {d d1 : ax_D} (h : mwf d d1) : mwe d d1 := fun id i a b c => h id i (fun q => a ⟨q.1, by omega, q.2.2⟩) b c
theorem mwe_mo {d d1 : ax_D} (h : mo d d1 0) : mwe d d1 := fun id i a _ _ => h id i a
theorem mg_mq {d d1 : ax_D} {c c' n : Nat} {nm : Nat → Nat} {fl : Nat → Bool} {b : Bool} (h : mg_is d c n nm fl b) (hf : mq d d1 c') : mg_is d1 c n nm fl b := mg_id h (mq_id hf (by decide)) (mq_id hf (by decide)) (mq_id hf (by decide)) (mq_id hf (by decide))
theorem mt_555 {d d1 : ax_D} {c : Nat} {T : TT} (h : mt_is d c T) (hf : ∀ id, id < 555 → d1 id = d id) : mt_is d1 c T := by
  unfold mt_is sg
  rw [hf 542 (by decide), hf 543 (by decide), hf 544 (by decide), hf 545 (by decide), hf 546 (by decide), hf 547 (by decide), hf 548 (by decide), hf 549 (by decide), hf 550 (by decide), hf 551 (by decide), hf 552 (by decide), hf 553 (by decide), hf 554 (by decide)]
  exact h
theorem hrf_mk {T : TT} {n k sp lo : Nat} {l : List Nat} (h1 : l.length ≤ 3800) (h2 : k = 1 → n ≠ 8) (h3 : k = 1 ∨ k = 2 → rfn T sp lo = true) : hrf T n l k sp lo = true := by
  unfold hrf
  rw [decide_eq_true h1]
  by_cases hk : k = 1
  · rw [decide_eq_false (h2 hk), h3 (Or.inl hk), Bool.and_false, Bool.or_true]; rfl
  · rw [decide_eq_false hk]
    by_cases hk2 : k = 1 ∨ k = 2
    · rw [h3 hk2, Bool.or_true]; rfl
    · rw [decide_eq_false hk2]; rfl
theorem hrf_n {T : TT} {n k sp lo : Nat} {l : List Nat} (h : ¬ (l.length ≤ 3800 ∧ (k = 1 → n ≠ 8) ∧ (k = 1 ∨ k = 2 → rfn T sp lo = true))) : hrf T n l k sp lo = false := by
  cases hq : hrf T n l k sp lo with
  | false => rfl
  | true => exact absurd (hrf_of hq) h
theorem rfn_s {T : TT} {sp lo q : Nat} (h : fn T sp lo = some q) : rfn T sp lo = true := by unfold rfn; rw [h]; rfl
section M8
variable {d : ax_D} {l : List Nat} {T : TT} {m n : Nat} {nm : Nat → Nat} {fl : Nat → Bool} {b : Bool} {sp lo v : Nat}
theorem fll_s : fll fl (m + 1) = va_up fl m true := by unfold fll; rw [if_neg (Nat.succ_ne_zero m)]; rfl
theorem vc1_1 {i : Nat} : vc1 (i * 8 + 1) := Or.inl (by omega)
theorem vc1_2 {i : Nat} : vc1 (i * 8 + 2) := Or.inr (Or.inl (by omega))
theorem row_1000 {f : Bool} {k : Nat} (h : BI T) : ∀ e, e ∈ T (kj f) k → e < 1000 := fun e he => vc_lt (CI_row h.2.2.2.2 k e he) (lb4 h.2.2.2.1)
theorem sm_we1w (hg : mg_is d 0 0 nm fl true) : ax_E 112 [.ref 540, .int (nI sp), .int (nI lo)] d (ax_Pi fun y d1 => y = nI 2 ∧ d1 = d) := by
  show ax_W 112 0 [some (.ref 540), some (.int (nI sp)), some (.int (nI lo)), none, none, none] [] d _
  refine wx_aldn j112_0 rfl ?_
  refine wx_get (v := .ref 558) j112_1 rfl (Nat.le_of_ble_eq_true rfl) rfl ?_
  refine wx_icst (v := nI 0) j112_4 (by decide) ?_
  refine wx_balx (0) j112_5 rfl rfl (by decide) (by decide) ?_
  rw [hg.2.2.1]
  refine wx_if 11 j112_6 (by decide) (fun c6 => ?_) (fun c6 => ?_)
  · simp only [ax_cn, Classical.not_not] at c6
    exact absurd c6 (by decide)
  · simp only [ax_cn, Classical.not_not] at c6
    refine wx_icst (v := nI 2) j112_9 (by decide) ?_
    refine wx_ri j112_10 rfl rfl ?_
    exact ⟨rfl, rfl⟩
theorem sm_we1a (h : mt_is d 0 T) (hg : mg_is d 0 0 nm fl false) (hm : mb_is d l) (hB : BI T) (hi : NI T) (hsp : sp < tB) (hlo : lo < tB) : ax_E 112 [.ref 540, .int (nI sp), .int (nI lo)] d (ax_Pi fun y d1 => (hrf T (0) l 1 sp lo = false → y = nI 3 ∧ d1 = d) ∧ (hrf T (0) l 1 sp lo = true → y = nI 0 ∧ mt_is d1 0 ((sNa T sp lo).2.1) ∧ mg_is d1 0 (1) (va_up nm 0 (sNa T sp lo).2.2) (va_up fl 0 false) true ∧ mb_is d1 (l ++ (sNa T sp lo).1) ∧ mwe d d1)) := by
  show ax_W 112 0 [some (.ref 540), some (.int (nI sp)), some (.int (nI lo)), none, none, none] [] d _
  have hL := hB.2.2.2.1
  have l40 := hm.1
  have l4 := lb4 hL
  refine wx_aldn j112_0 rfl ?_
  refine wx_get (v := .ref 558) j112_1 rfl (Nat.le_of_ble_eq_true rfl) rfl ?_
  refine wx_icst (v := nI 0) j112_4 (by decide) ?_
  refine wx_balx (0) j112_5 rfl rfl (by decide) (by decide) ?_
  rw [hg.2.2.1]
  refine wx_if 11 j112_6 (by decide) (fun c6 => ?_) (fun c6 => ?_)
  · simp only [ax_cn, Classical.not_not] at c6
    refine wx_aldn j112_11 rfl ?_
    refine wx_icst (v := nI 0) j112_12 (by decide) ?_
    refine wx_ildn j112_13 rfl ?_
    refine wx_ildn j112_14 rfl ?_
    refine wx_i3 j112_15 rfl rfl rfl rfl (Nat.le_of_ble_eq_true rfl) rfl (sm_findName (c := 0) (by decide) h hL hB.1 hB.2.1 hsp hlo) ?_
    rintro _ d9 ⟨rfl, h9⟩
    obtain rfl := h9.symm
    refine wx_istn (L' := [_, _, _, some (.int _), _, _]) j112_18 (Nat.le_of_ble_eq_true rfl) rfl ?_
    refine wx_ildn j112_19 rfl ?_
    refine wx_if 38 j112_20 (by decide) (fun c20 => ?_) (fun c20 => ?_)
    · simp only [ax_cn, Classical.not_not] at c20
      refine wx_icst (v := nI 0) j112_38 (by decide) ?_
      refine wx_ist (L' := [_, _, _, _, some (.int _), _]) j112_39 (Nat.le_of_ble_eq_true rfl) rfl ?_
      refine wx_aldn j112_41 rfl ?_
      refine wx_get (v := .ref 555) j112_42 rfl (Nat.le_of_ble_eq_true rfl) rfl ?_
      refine wx_icst (v := nI 0) j112_45 (by decide) ?_
      refine wx_ialx (0) j112_46 rfl rfl (by decide) (by decide) ?_
      refine wx_bpsh (v := nI 8) j112_47 (by decide) ?_
      rw [hg.2.1]
      refine wx_cmp 76 j112_49 (by decide) (fun c49 => ?_) (fun c49 => ?_)
      · simp only [ax_cn, Classical.not_not] at c49
        exact absurd c49 (by decide)
      · simp only [ax_cn, Classical.not_not] at c49
        refine wx_aldn j112_52 rfl ?_
        refine wx_get (v := .int _) j112_53 rfl (Nat.le_of_ble_eq_true rfl) rfl ?_
        refine wx_spsh (v := nI 3800) j112_56 (by decide) ?_
        rw [hm.2.1]
        refine wx_cmp 76 j112_59 (by decide) (fun c59 => ?_) (fun c59 => ?_)
        · simp only [ax_cn, Classical.not_not] at c59
          have hf := hrf_n (T := T) (n := 0) (k := 1) (sp := sp) (lo := lo) (l := l) (fun q => absurd ((nI_ltI (by decide) (by omega)).mp c59) (Nat.not_lt.mpr q.1))
          refine wx_icst (v := nI 3) j112_76 (by decide) ?_
          refine wx_ri j112_77 rfl rfl ?_
          exact ⟨fun _ => ⟨rfl, rfl⟩, fun q => absurd (hf.symm.trans q) (by decide)⟩
        · simp only [ax_cn, Classical.not_not] at c59
          have h38 : l.length ≤ 3800 := Nat.not_lt.mp (fun q => c59 ((nI_ltI (by decide) (by omega)).mpr q))
          refine wx_ild j112_62 rfl ?_
          refine wx_if 78 j112_64 (by decide) (fun c64 => ?_) (fun c64 => ?_)
          · simp only [ax_cn, Classical.not_not] at c64
            exact absurd rfl c64
          · simp only [ax_cn, Classical.not_not] at c64
            refine wx_aldn j112_67 rfl ?_
            refine wx_ildn j112_68 rfl ?_
            refine wx_ildn j112_69 rfl ?_
            refine wx_i2 j112_70 rfl rfl rfl (Nat.le_of_ble_eq_true rfl) rfl (sm_lacks h hL hB.1 hB.2.1 hsp hlo) ?_
            rintro _ d9 ⟨rfl, h9⟩
            obtain rfl := h9.symm
            rw [lk_rfn hi hL]
            refine wx_if 78 j112_73 (by decide) (fun c73 => ?_) (fun c73 => ?_)
            · simp only [ax_cn, Classical.not_not] at c73
              have hrf1 : rfn T sp lo = true := by
                have := bB_0.mp c73
                cases hq : rfn T sp lo with
                | true => rfl
                | false => rw [hq] at this; cases this
              have hok := hrf_mk (T := T) (n := 0) (k := 1) (sp := sp) (lo := lo) (l := l) h38 (fun _ => by decide) (fun _ => hrf1)
              have hr := rm3_of hi hrf1
              refine wx_aldn j112_78 rfl ?_
              refine wx_get (v := .ref 555) j112_79 rfl (Nat.le_of_ble_eq_true rfl) rfl ?_
              refine wx_icst (v := nI 0) j112_82 (by decide) ?_
              refine wx_ialx (0) j112_83 rfl rfl (by decide) (by decide) ?_
              rw [hg.2.1]
              refine wx_if 134 j112_84 (by decide) (fun c84 => ?_) (fun c84 => ?_)
              · simp only [ax_cn, Classical.not_not] at c84
                refine wx_aldn j112_134 rfl ?_
                refine wx_ildn j112_135 rfl ?_
                refine wx_ildn j112_136 rfl ?_
                refine wx_i2 j112_137 rfl rfl rfl (Nat.le_of_ble_eq_true rfl) rfl (sm_putName h hm hL hi hsp hlo hr (by omega)) ?_
                rintro _ d1 ⟨rfl, t1, b1, f1⟩
                refine wx_istn (L' := [_, _, _, some (.int _), _, _]) j112_140 (Nat.le_of_ble_eq_true rfl) rfl ?_
                refine wx_aldn j112_141 rfl ?_
                refine wx_icst (v := nI 0) j112_142 (by decide) ?_
                refine wx_ildn j112_143 rfl ?_
                refine wx_v2 j112_144 rfl rfl rfl (Nat.le_of_ble_eq_true rfl) rfl (sm_enter (c := 0) (by decide) (mg_wf hg f1) rfl (by decide) (sNa_20 (lb4 hL) hr)) ?_
                rintro d2 ⟨g2, f2, e2⟩
                refine wx_icst (v := nI 0) j112_147 (by decide) ?_
                refine wx_ri j112_148 rfl rfl ?_
                exact ⟨fun q => absurd (hok.symm.trans q) (by decide), fun _ => ⟨rfl, mt_555 t1 e2, g2, mb_mo b1 f2, mwe_tr (mwe_wf f1) (mwe_mo f2)⟩⟩
              · simp only [ax_cn, Classical.not_not] at c84
                exact absurd (show nI 0 ≤ 0 by decide) c84
            · simp only [ax_cn, Classical.not_not] at c73
              have hrf0 : ¬ rfn T sp lo = true := by
                intro q
                have := bB_1.mp c73
                rw [q] at this
                cases this
              have hf := hrf_n (T := T) (n := 0) (k := 1) (sp := sp) (lo := lo) (l := l) (fun q => hrf0 (q.2.2 (Or.inl rfl)))
              refine wx_icst (v := nI 3) j112_76 (by decide) ?_
              refine wx_ri j112_77 rfl rfl ?_
              exact ⟨fun _ => ⟨rfl, rfl⟩, fun q => absurd (hf.symm.trans q) (by decide)⟩
    · simp only [ax_cn, Classical.not_not] at c20
      refine wx_aldn j112_23 rfl ?_
      refine wx_ildn j112_24 rfl ?_
      obtain ⟨q, hq⟩ := oi_geL c20
      rw [hq]
      simp only [oi]
      refine wx_t1 j112_25 rfl rfl (Nat.le_of_ble_eq_true rfl) (sm_opening) ?_
      rintro _ d9 ⟨rfl, h9⟩
      obtain rfl := h9.symm
      refine wx_i1 j112_28 rfl rfl (Nat.le_of_ble_eq_true rfl) rfl (sm_isLearned0 hg) ?_
      rintro _ d9 ⟨rfl, h9⟩
      obtain rfl := h9.symm
      refine wx_if 38 j112_31 (by decide) (fun c31 => ?_) (fun c31 => ?_)
      · simp only [ax_cn, Classical.not_not] at c31
        refine wx_icst (v := nI 0) j112_38 (by decide) ?_
        refine wx_ist (L' := [_, _, _, _, some (.int _), _]) j112_39 (Nat.le_of_ble_eq_true rfl) rfl ?_
        refine wx_aldn j112_41 rfl ?_
        refine wx_get (v := .ref 555) j112_42 rfl (Nat.le_of_ble_eq_true rfl) rfl ?_
        refine wx_icst (v := nI 0) j112_45 (by decide) ?_
        refine wx_ialx (0) j112_46 rfl rfl (by decide) (by decide) ?_
        refine wx_bpsh (v := nI 8) j112_47 (by decide) ?_
        rw [hg.2.1]
        refine wx_cmp 76 j112_49 (by decide) (fun c49 => ?_) (fun c49 => ?_)
        · simp only [ax_cn, Classical.not_not] at c49
          exact absurd c49 (by decide)
        · simp only [ax_cn, Classical.not_not] at c49
          refine wx_aldn j112_52 rfl ?_
          refine wx_get (v := .int _) j112_53 rfl (Nat.le_of_ble_eq_true rfl) rfl ?_
          refine wx_spsh (v := nI 3800) j112_56 (by decide) ?_
          rw [hm.2.1]
          refine wx_cmp 76 j112_59 (by decide) (fun c59 => ?_) (fun c59 => ?_)
          · simp only [ax_cn, Classical.not_not] at c59
            have hf := hrf_n (T := T) (n := 0) (k := 1) (sp := sp) (lo := lo) (l := l) (fun q => absurd ((nI_ltI (by decide) (by omega)).mp c59) (Nat.not_lt.mpr q.1))
            refine wx_icst (v := nI 3) j112_76 (by decide) ?_
            refine wx_ri j112_77 rfl rfl ?_
            exact ⟨fun _ => ⟨rfl, rfl⟩, fun q => absurd (hf.symm.trans q) (by decide)⟩
          · simp only [ax_cn, Classical.not_not] at c59
            have h38 : l.length ≤ 3800 := Nat.not_lt.mp (fun q => c59 ((nI_ltI (by decide) (by omega)).mpr q))
            refine wx_ild j112_62 rfl ?_
            refine wx_if 78 j112_64 (by decide) (fun c64 => ?_) (fun c64 => ?_)
            · simp only [ax_cn, Classical.not_not] at c64
              exact absurd rfl c64
            · simp only [ax_cn, Classical.not_not] at c64
              refine wx_aldn j112_67 rfl ?_
              refine wx_ildn j112_68 rfl ?_
              refine wx_ildn j112_69 rfl ?_
              refine wx_i2 j112_70 rfl rfl rfl (Nat.le_of_ble_eq_true rfl) rfl (sm_lacks h hL hB.1 hB.2.1 hsp hlo) ?_
              rintro _ d9 ⟨rfl, h9⟩
              obtain rfl := h9.symm
              rw [lk_rfn hi hL]
              refine wx_if 78 j112_73 (by decide) (fun c73 => ?_) (fun c73 => ?_)
              · simp only [ax_cn, Classical.not_not] at c73
                have hrf1 : rfn T sp lo = true := by
                  have := bB_0.mp c73
                  cases hq : rfn T sp lo with
                  | true => rfl
                  | false => rw [hq] at this; cases this
                have hok := hrf_mk (T := T) (n := 0) (k := 1) (sp := sp) (lo := lo) (l := l) h38 (fun _ => by decide) (fun _ => hrf1)
                have hr := rm3_of hi hrf1
                refine wx_aldn j112_78 rfl ?_
                refine wx_get (v := .ref 555) j112_79 rfl (Nat.le_of_ble_eq_true rfl) rfl ?_
                refine wx_icst (v := nI 0) j112_82 (by decide) ?_
                refine wx_ialx (0) j112_83 rfl rfl (by decide) (by decide) ?_
                rw [hg.2.1]
                refine wx_if 134 j112_84 (by decide) (fun c84 => ?_) (fun c84 => ?_)
                · simp only [ax_cn, Classical.not_not] at c84
                  refine wx_aldn j112_134 rfl ?_
                  refine wx_ildn j112_135 rfl ?_
                  refine wx_ildn j112_136 rfl ?_
                  refine wx_i2 j112_137 rfl rfl rfl (Nat.le_of_ble_eq_true rfl) rfl (sm_putName h hm hL hi hsp hlo hr (by omega)) ?_
                  rintro _ d1 ⟨rfl, t1, b1, f1⟩
                  refine wx_istn (L' := [_, _, _, some (.int _), _, _]) j112_140 (Nat.le_of_ble_eq_true rfl) rfl ?_
                  refine wx_aldn j112_141 rfl ?_
                  refine wx_icst (v := nI 0) j112_142 (by decide) ?_
                  refine wx_ildn j112_143 rfl ?_
                  refine wx_v2 j112_144 rfl rfl rfl (Nat.le_of_ble_eq_true rfl) rfl (sm_enter (c := 0) (by decide) (mg_wf hg f1) rfl (by decide) (sNa_20 (lb4 hL) hr)) ?_
                  rintro d2 ⟨g2, f2, e2⟩
                  refine wx_icst (v := nI 0) j112_147 (by decide) ?_
                  refine wx_ri j112_148 rfl rfl ?_
                  exact ⟨fun q => absurd (hok.symm.trans q) (by decide), fun _ => ⟨rfl, mt_555 t1 e2, g2, mb_mo b1 f2, mwe_tr (mwe_wf f1) (mwe_mo f2)⟩⟩
                · simp only [ax_cn, Classical.not_not] at c84
                  exact absurd (show nI 0 ≤ 0 by decide) c84
              · simp only [ax_cn, Classical.not_not] at c73
                have hrf0 : ¬ rfn T sp lo = true := by
                  intro q
                  have := bB_1.mp c73
                  rw [q] at this
                  cases this
                have hf := hrf_n (T := T) (n := 0) (k := 1) (sp := sp) (lo := lo) (l := l) (fun q => hrf0 (q.2.2 (Or.inl rfl)))
                refine wx_icst (v := nI 3) j112_76 (by decide) ?_
                refine wx_ri j112_77 rfl rfl ?_
                exact ⟨fun _ => ⟨rfl, rfl⟩, fun q => absurd (hf.symm.trans q) (by decide)⟩
      · simp only [ax_cn, Classical.not_not] at c31
        exact absurd rfl c31
  · simp only [ax_cn, Classical.not_not] at c6
    exact absurd rfl c6
theorem mwo_new {x3 x4 : Int32} {d0 : ax_D} {j : Nat} (hj : (if fl m then 1 else 0) = j) (h : mt_is d 0 T) (hg : mg_is d 0 (m + 1) nm fl true) (hm : mb_is d l) (hB : BI T) (hi : NI T) (hsp : sp < tB) (hlo : lo < tB) (hnm : nm m < (T 4 0).length) (hr : rm3 T sp lo) (hn8 : m + 1 < 8) (hl : l.length + 120 ≤ 4000) (hf0 : mwe d0 d) : ax_W 112 114 [some (.ref 540), some (.int (nI sp)), some (.int (nI lo)), some (.int x3), some (.int x4), some (.int (nI (40 * 0 + 2 * nm m + j)))] [] d (ax_Pi fun y d1 => y = nI 0 ∧ mt_is d1 0 (tln (sNa T sp lo).2.1 (kj (fl m)) (nm m) ((sNa T sp lo).2.2 * 8 + 1)) ∧ mg_is d1 0 (m + 1 + 1) (va_up nm (m + 1) (sNa T sp lo).2.2) (va_up (va_up fl m true) (m + 1) false) true ∧ mb_is d1 (l ++ (sNa T sp lo).1) ∧ mwe d0 d1) := by
  have hL := hB.2.2.2.1
  obtain ⟨hkj, hj2⟩ := kj_j hj
  have hB1 := BI_sNa hB hsp hlo hr
  have h20 := sNa_20 (lb4 hL) hr
  have hk1 := Nat.lt_of_lt_of_le hnm (sNa_len4 (T := T) (sp := sp) (lo := lo))
  refine wx_aldn j112_114 rfl ?_
  refine wx_ildn j112_115 rfl ?_
  refine wx_ildn j112_116 rfl ?_
  refine wx_i2 j112_117 rfl rfl rfl (Nat.le_of_ble_eq_true rfl) rfl (sm_putName h hm hL hi hsp hlo hr hl) ?_
  rintro _ d1 ⟨rfl, t1, b1, f1⟩
  refine wx_istn (L' := [_, _, _, some (.int _), _, _]) j112_120 (Nat.le_of_ble_eq_true rfl) rfl ?_
  refine wx_aldn j112_121 rfl ?_
  refine wx_ild j112_122 rfl ?_
  refine wx_ildn j112_124 rfl ?_
  refine wx_t1 j112_125 rfl rfl (Nat.le_of_ble_eq_true rfl) (sm_opening) ?_
  rintro _ d9 ⟨rfl, h9⟩
  obtain rfl := h9.symm
  rw [← mc_1]
  refine wx_v2 j112_128 rfl rfl rfl (Nat.le_of_ble_eq_true rfl) rfl (sm_learn (c := 0) (j := j) (by decide) t1 hB1.2.2.2.1 hk1 hj2 (by rw [← hkj]; exact row_1000 hB1) (mc_lt (by omega)) (by rw [← hkj]; exact fi_mcT hB1.2.2.2.2 vc1_1)) ?_
  rintro d2 ⟨t2, f2⟩
  rw [← hkj] at t2
  refine wx_goto 141 j112_131 (by decide) ?_
  refine wx_aldn j112_141 rfl ?_
  refine wx_icst (v := nI 0) j112_142 (by decide) ?_
  refine wx_ildn j112_143 rfl ?_
  refine wx_v2 j112_144 rfl rfl rfl (Nat.le_of_ble_eq_true rfl) rfl (sm_enter (c := 0) (by decide) (mg_mq (mg_wf hg f1) f2) rfl hn8 h20) ?_
  rintro d3 ⟨g3, f3, e3⟩
  rw [fll_s] at g3
  refine wx_icst (v := nI 0) j112_147 (by decide) ?_
  refine wx_ri j112_148 rfl rfl ?_
  exact ⟨rfl, mt_555 t2 e3, g3, mb_mo (mb_mq b1 f2) f3, mwe_tr hf0 (mwe_tr (mwe_wf (mwf_tr f1 (mwf_mq f2))) (mwe_mo f3))⟩
theorem mwo_go {x4 : Int32} (h : mt_is d 0 T) (hg : mg_is d 0 (m + 1) nm fl true) (hm : mb_is d l) (hB : BI T) (hi : NI T) (hsp : sp < tB) (hlo : lo < tB) (hnm : nm m < (T 4 0).length) (hr : rm3 T sp lo) (hn8 : m + 1 < 8) (hl : l.length + 140 ≤ 4000) : ax_W 112 78 [some (.ref 540), some (.int (nI sp)), some (.int (nI lo)), some (.int (oi (fn T sp lo))), some (.int x4), none] [] d (ax_Pi fun y d1 => y = nI 0 ∧ mt_is d1 0 (sNd T (fl m) (nm m) 1 sp lo).2.1 ∧ mg_is d1 0 (m + 1 + 1) (va_up nm (m + 1) (sNd T (fl m) (nm m) 1 sp lo).2.2) (va_up (va_up fl m true) (m + 1) false) true ∧ mb_is d1 (l ++ (sNd T (fl m) (nm m) 1 sp lo).1) ∧ mwe d d1) := by
  have hL := hB.2.2.2.1
  have l4 := lb4 hL
  obtain ⟨j, hj⟩ : ∃ j : Nat, (if fl m then 1 else 0) = j := ⟨_, rfl⟩
  obtain ⟨hkj, hj2⟩ := kj_j hj
  have hki := sKi_len T (fl m) (nm m) 1
  have ecb : cb T (fl m) (nm m) 1 none = sKi T (fl m) (nm m) 1 := by unfold cb; rw [if_neg (fun q => absurd q.2 (by decide))]
  cases hq : fn T sp lo with
  | some q =>
    have hq1 := (fn_spec hq).1
    simp only [oi]
    refine wx_aldn j112_78 rfl ?_
    refine wx_get (v := .ref 555) j112_79 rfl (Nat.le_of_ble_eq_true rfl) rfl ?_
    refine wx_icst (v := nI 0) j112_82 (by decide) ?_
    refine wx_ialx (0) j112_83 rfl rfl (by decide) (by decide) ?_
    rw [hg.2.1]
    refine wx_if 134 j112_84 (by decide) (fun c84 => ?_) (fun c84 => ?_)
    · simp only [ax_cn, Classical.not_not] at c84
      exact absurd c84 (nI_nle (by omega) (by omega))
    · simp only [ax_cn, Classical.not_not] at c84
      refine wx_aldn j112_87 rfl ?_
      refine wx_icst (v := nI 0) j112_88 (by decide) ?_
      refine wx_i1 j112_89 rfl rfl (Nat.le_of_ble_eq_true rfl) rfl (sm_rowOf (c := 0) (by decide) hg) ?_
      rintro _ d9 ⟨rfl, h9⟩
      obtain rfl := h9.symm
      rw [hj]
      refine wx_ist (L' := [_, _, _, _, _, some (.int _)]) j112_92 (Nat.le_of_ble_eq_true rfl) rfl ?_
      refine wx_aldn j112_94 rfl ?_
      refine wx_ildn j112_95 rfl ?_
      refine wx_if 103 j112_96 (by decide) (fun c96 => ?_) (fun c96 => ?_)
      · simp only [ax_cn, Classical.not_not] at c96
        refine wx_ildn j112_103 rfl ?_
        refine wx_t1 j112_104 rfl rfl (Nat.le_of_ble_eq_true rfl) (sm_opening) ?_
        rintro _ d9 ⟨rfl, h9⟩
        obtain rfl := h9.symm
        rw [← mc_1]
        refine wx_icst (v := nI 2) j112_107 (by decide) ?_
        refine wx_i2 j112_108 rfl rfl rfl (Nat.le_of_ble_eq_true rfl) rfl (sm_putCode (kind := 1) (mc_lt (by omega)) hg h hL hnm (row_1000 hB) hm (Or.inl rfl) (fun _ => by decide) (by omega)) ?_
        rintro _ d1 ⟨rfl, b1, f1⟩
        rw [fi_mcT hB.2.2.2.2 vc1_1] at b1 ⊢
        cases hp : fi (T (kj (fl m)) (nm m)) (q * 8 + 1) with
        | some p0 =>
          have e : sNd T (fl m) (nm m) 1 sp lo = (pb (wd (cho T (fl m) (nm m))) p0, T, q) := by unfold sNd; rw [hq]; simp only [hp]
          rw [e]
          rw [hp] at b1
          refine wx_if 131 j112_111 (by decide) (fun c111 => ?_) (fun c111 => ?_)
          · simp only [ax_cn, Classical.not_not] at c111
            refine wx_goto 141 j112_131 (by decide) ?_
            refine wx_aldn j112_141 rfl ?_
            refine wx_icst (v := nI 0) j112_142 (by decide) ?_
            refine wx_ildn j112_143 rfl ?_
            refine wx_v2 j112_144 rfl rfl rfl (Nat.le_of_ble_eq_true rfl) rfl (sm_enter (c := 0) (by decide) (mg_bf hg f1) rfl hn8 (by omega)) ?_
            rintro d3 ⟨g3, f3, e3⟩
            rw [fll_s] at g3
            refine wx_icst (v := nI 0) j112_147 (by decide) ?_
            refine wx_ri j112_148 rfl rfl ?_
            exact ⟨rfl, mt_555 (mt_bf h f1) e3, g3, mb_mo b1 f3, mwe_tr (mwe_wf (mwf_bf f1)) (mwe_mo f3)⟩
          · simp only [ax_cn, Classical.not_not] at c111
            exact absurd c111 (show ¬ nI 1 = 0 by decide)
        | none =>
          have e : sNd T (fl m) (nm m) 1 sp lo = sNw T (fl m) (nm m) 1 sp lo := by unfold sNd; rw [hq]; simp only [hp]
          rw [e]
          rw [hp, ecb] at b1
          refine wx_if 131 j112_111 (by decide) (fun c111 => ?_) (fun c111 => ?_)
          · simp only [ax_cn, Classical.not_not] at c111
            exact absurd rfl c111
          · simp only [ax_cn, Classical.not_not] at c111
            refine ax_W_mono (mwo_new hj (mt_bf h f1) (mg_bf hg f1) b1 hB hi hsp hlo hnm hr hn8 (by rw [List.length_append]; omega) (mwe_wf (mwf_bf f1))) ?_
            rintro o d2 ⟨y, e1, e2, e3, e4, e5, e6⟩
            rw [List.append_assoc] at e5
            exact ⟨y, e1, e2, e3, e4, e5, e6⟩
        
      · simp only [ax_cn, Classical.not_not] at c96
        exact absurd (nI_pos' (by omega)) c96
  | none =>
    simp only [oi]
    refine wx_aldn j112_78 rfl ?_
    refine wx_get (v := .ref 555) j112_79 rfl (Nat.le_of_ble_eq_true rfl) rfl ?_
    refine wx_icst (v := nI 0) j112_82 (by decide) ?_
    refine wx_ialx (0) j112_83 rfl rfl (by decide) (by decide) ?_
    rw [hg.2.1]
    refine wx_if 134 j112_84 (by decide) (fun c84 => ?_) (fun c84 => ?_)
    · simp only [ax_cn, Classical.not_not] at c84
      exact absurd c84 (nI_nle (by omega) (by omega))
    · simp only [ax_cn, Classical.not_not] at c84
      refine wx_aldn j112_87 rfl ?_
      refine wx_icst (v := nI 0) j112_88 (by decide) ?_
      refine wx_i1 j112_89 rfl rfl (Nat.le_of_ble_eq_true rfl) rfl (sm_rowOf (c := 0) (by decide) hg) ?_
      rintro _ d9 ⟨rfl, h9⟩
      obtain rfl := h9.symm
      rw [hj]
      refine wx_ist (L' := [_, _, _, _, _, some (.int _)]) j112_92 (Nat.le_of_ble_eq_true rfl) rfl ?_
      refine wx_aldn j112_94 rfl ?_
      refine wx_ildn j112_95 rfl ?_
      refine wx_if 103 j112_96 (by decide) (fun c96 => ?_) (fun c96 => ?_)
      · simp only [ax_cn, Classical.not_not] at c96
        exact absurd c96 (by decide)
      · simp only [ax_cn, Classical.not_not] at c96
        refine wx_icst (v := (-1)) j112_99 (by decide) ?_
        refine wx_goto 107 j112_100 (by decide) ?_
        refine wx_icst (v := nI 2) j112_107 (by decide) ?_
        refine wx_i2 j112_108 rfl rfl rfl (Nat.le_of_ble_eq_true rfl) rfl (sm_putCodeN (kind := 1) hg h hL hnm (row_1000 hB) hm (Or.inl rfl) (fun _ => by decide) (by omega)) ?_
        rintro _ d1 ⟨rfl, b1, f1⟩
        rw [ecb] at b1
        have e : sNd T (fl m) (nm m) 1 sp lo = sNw T (fl m) (nm m) 1 sp lo := by unfold sNd; rw [hq]
        rw [e]
        refine wx_if 131 j112_111 (by decide) (fun c111 => ?_) (fun c111 => ?_)
        · simp only [ax_cn, Classical.not_not] at c111
          exact absurd rfl c111
        · simp only [ax_cn, Classical.not_not] at c111
          refine ax_W_mono (mwo_new hj (mt_bf h f1) (mg_bf hg f1) b1 hB hi hsp hlo hnm hr hn8 (by rw [List.length_append]; omega) (mwe_wf (mwf_bf f1))) ?_
          rintro o d2 ⟨y, e1, e2, e3, e4, e5, e6⟩
          rw [List.append_assoc] at e5
          exact ⟨y, e1, e2, e3, e4, e5, e6⟩
theorem sm_we1b (h : mt_is d 0 T) (hg : mg_is d 0 (m + 1) nm fl true) (hm : mb_is d l) (hB : BI T) (hi : NI T) (hsp : sp < tB) (hlo : lo < tB) (hnm : nm m < (T 4 0).length) : ax_E 112 [.ref 540, .int (nI sp), .int (nI lo)] d (ax_Pi fun y d1 => (hrf T (m + 1) l 1 sp lo = false → y = nI 3 ∧ d1 = d) ∧ (hrf T (m + 1) l 1 sp lo = true → y = nI 0 ∧ mt_is d1 0 ((sNd T (fl m) (nm m) 1 sp lo).2.1) ∧ mg_is d1 0 (m + 1 + 1) (va_up nm (m + 1) (sNd T (fl m) (nm m) 1 sp lo).2.2) (va_up (va_up fl m true) (m + 1) false) true ∧ mb_is d1 (l ++ (sNd T (fl m) (nm m) 1 sp lo).1) ∧ mwe d d1)) := by
  show ax_W 112 0 [some (.ref 540), some (.int (nI sp)), some (.int (nI lo)), none, none, none] [] d _
  have hL := hB.2.2.2.1
  have l40 := hm.1
  have l4 := lb4 hL
  have hm8 := hg.1
  refine wx_aldn j112_0 rfl ?_
  refine wx_get (v := .ref 558) j112_1 rfl (Nat.le_of_ble_eq_true rfl) rfl ?_
  refine wx_icst (v := nI 0) j112_4 (by decide) ?_
  refine wx_balx (0) j112_5 rfl rfl (by decide) (by decide) ?_
  rw [hg.2.2.1]
  refine wx_if 11 j112_6 (by decide) (fun c6 => ?_) (fun c6 => ?_)
  · simp only [ax_cn, Classical.not_not] at c6
    refine wx_aldn j112_11 rfl ?_
    refine wx_icst (v := nI 0) j112_12 (by decide) ?_
    refine wx_ildn j112_13 rfl ?_
    refine wx_ildn j112_14 rfl ?_
    refine wx_i3 j112_15 rfl rfl rfl rfl (Nat.le_of_ble_eq_true rfl) rfl (sm_findName (c := 0) (by decide) h hL hB.1 hB.2.1 hsp hlo) ?_
    rintro _ d9 ⟨rfl, h9⟩
    obtain rfl := h9.symm
    refine wx_istn (L' := [_, _, _, some (.int _), _, _]) j112_18 (Nat.le_of_ble_eq_true rfl) rfl ?_
    refine wx_ildn j112_19 rfl ?_
    refine wx_if 38 j112_20 (by decide) (fun c20 => ?_) (fun c20 => ?_)
    · simp only [ax_cn, Classical.not_not] at c20
      refine wx_icst (v := nI 0) j112_38 (by decide) ?_
      refine wx_ist (L' := [_, _, _, _, some (.int _), _]) j112_39 (Nat.le_of_ble_eq_true rfl) rfl ?_
      refine wx_aldn j112_41 rfl ?_
      refine wx_get (v := .ref 555) j112_42 rfl (Nat.le_of_ble_eq_true rfl) rfl ?_
      refine wx_icst (v := nI 0) j112_45 (by decide) ?_
      refine wx_ialx (0) j112_46 rfl rfl (by decide) (by decide) ?_
      refine wx_bpsh (v := nI 8) j112_47 (by decide) ?_
      rw [hg.2.1]
      refine wx_cmp 76 j112_49 (by decide) (fun c49 => ?_) (fun c49 => ?_)
      · simp only [ax_cn, Classical.not_not] at c49
        have hf := hrf_n (T := T) (n := m + 1) (k := 1) (sp := sp) (lo := lo) (l := l) (fun q => q.2.1 rfl ((nI_eq (by omega) (by decide)).mp c49))
        refine wx_icst (v := nI 3) j112_76 (by decide) ?_
        refine wx_ri j112_77 rfl rfl ?_
        exact ⟨fun _ => ⟨rfl, rfl⟩, fun q => absurd (hf.symm.trans q) (by decide)⟩
      · simp only [ax_cn, Classical.not_not] at c49
        have hn8 : ¬ m + 1 = 8 := fun q => c49 (by rw [q])
        refine wx_aldn j112_52 rfl ?_
        refine wx_get (v := .int _) j112_53 rfl (Nat.le_of_ble_eq_true rfl) rfl ?_
        refine wx_spsh (v := nI 3800) j112_56 (by decide) ?_
        rw [hm.2.1]
        refine wx_cmp 76 j112_59 (by decide) (fun c59 => ?_) (fun c59 => ?_)
        · simp only [ax_cn, Classical.not_not] at c59
          have hf := hrf_n (T := T) (n := m + 1) (k := 1) (sp := sp) (lo := lo) (l := l) (fun q => absurd ((nI_ltI (by decide) (by omega)).mp c59) (Nat.not_lt.mpr q.1))
          refine wx_icst (v := nI 3) j112_76 (by decide) ?_
          refine wx_ri j112_77 rfl rfl ?_
          exact ⟨fun _ => ⟨rfl, rfl⟩, fun q => absurd (hf.symm.trans q) (by decide)⟩
        · simp only [ax_cn, Classical.not_not] at c59
          have h38 : l.length ≤ 3800 := Nat.not_lt.mp (fun q => c59 ((nI_ltI (by decide) (by omega)).mpr q))
          refine wx_ild j112_62 rfl ?_
          refine wx_if 78 j112_64 (by decide) (fun c64 => ?_) (fun c64 => ?_)
          · simp only [ax_cn, Classical.not_not] at c64
            exact absurd rfl c64
          · simp only [ax_cn, Classical.not_not] at c64
            refine wx_aldn j112_67 rfl ?_
            refine wx_ildn j112_68 rfl ?_
            refine wx_ildn j112_69 rfl ?_
            refine wx_i2 j112_70 rfl rfl rfl (Nat.le_of_ble_eq_true rfl) rfl (sm_lacks h hL hB.1 hB.2.1 hsp hlo) ?_
            rintro _ d9 ⟨rfl, h9⟩
            obtain rfl := h9.symm
            rw [lk_rfn hi hL]
            refine wx_if 78 j112_73 (by decide) (fun c73 => ?_) (fun c73 => ?_)
            · simp only [ax_cn, Classical.not_not] at c73
              have hrf1 : rfn T sp lo = true := by
                have := bB_0.mp c73
                cases hq : rfn T sp lo with
                | true => rfl
                | false => rw [hq] at this; cases this
              have hok := hrf_mk (T := T) (n := m + 1) (k := 1) (sp := sp) (lo := lo) (l := l) h38 (fun _ q => by omega) (fun _ => hrf1)
              have hr := rm3_of hi hrf1
              refine ax_W_mono (mwo_go h hg hm hB hi hsp hlo hnm hr (by omega) (by omega)) ?_
              rintro o d1 ⟨y, e1, e2⟩
              exact ⟨y, e1, fun q => absurd (hok.symm.trans q) (by decide), fun _ => e2⟩
            · simp only [ax_cn, Classical.not_not] at c73
              have hrf0 : ¬ rfn T sp lo = true := by
                intro q
                have := bB_1.mp c73
                rw [q] at this
                cases this
              have hf := hrf_n (T := T) (n := m + 1) (k := 1) (sp := sp) (lo := lo) (l := l) (fun q => hrf0 (q.2.2 (Or.inl rfl)))
              refine wx_icst (v := nI 3) j112_76 (by decide) ?_
              refine wx_ri j112_77 rfl rfl ?_
              exact ⟨fun _ => ⟨rfl, rfl⟩, fun q => absurd (hf.symm.trans q) (by decide)⟩
    · simp only [ax_cn, Classical.not_not] at c20
      refine wx_aldn j112_23 rfl ?_
      refine wx_ildn j112_24 rfl ?_
      obtain ⟨q, hq⟩ := oi_geL c20
      have hq1 := (fn_spec hq).1
      have hoi := oi_s _ q hq
      rw [hoi]
      refine wx_t1 j112_25 rfl rfl (Nat.le_of_ble_eq_true rfl) (sm_opening) ?_
      rintro _ d9 ⟨rfl, h9⟩
      obtain rfl := h9.symm
      rw [← mc_1]
      refine wx_i1 j112_28 rfl rfl (Nat.le_of_ble_eq_true rfl) rfl (sm_isLearned (mc_lt (by omega)) hg h hL hnm (row_1000 hB)) ?_
      rintro _ d9 ⟨rfl, h9⟩
      obtain rfl := h9.symm
      refine wx_if 38 j112_31 (by decide) (fun c31 => ?_) (fun c31 => ?_)
      · simp only [ax_cn, Classical.not_not] at c31
        refine wx_icst (v := nI 0) j112_38 (by decide) ?_
        refine wx_ist (L' := [_, _, _, _, some (.int _), _]) j112_39 (Nat.le_of_ble_eq_true rfl) rfl ?_
        refine wx_aldn j112_41 rfl ?_
        refine wx_get (v := .ref 555) j112_42 rfl (Nat.le_of_ble_eq_true rfl) rfl ?_
        refine wx_icst (v := nI 0) j112_45 (by decide) ?_
        refine wx_ialx (0) j112_46 rfl rfl (by decide) (by decide) ?_
        refine wx_bpsh (v := nI 8) j112_47 (by decide) ?_
        rw [hg.2.1]
        refine wx_cmp 76 j112_49 (by decide) (fun c49 => ?_) (fun c49 => ?_)
        · simp only [ax_cn, Classical.not_not] at c49
          have hf := hrf_n (T := T) (n := m + 1) (k := 1) (sp := sp) (lo := lo) (l := l) (fun q => q.2.1 rfl ((nI_eq (by omega) (by decide)).mp c49))
          refine wx_icst (v := nI 3) j112_76 (by decide) ?_
          refine wx_ri j112_77 rfl rfl ?_
          exact ⟨fun _ => ⟨rfl, rfl⟩, fun q => absurd (hf.symm.trans q) (by decide)⟩
        · simp only [ax_cn, Classical.not_not] at c49
          have hn8 : ¬ m + 1 = 8 := fun q => c49 (by rw [q])
          refine wx_aldn j112_52 rfl ?_
          refine wx_get (v := .int _) j112_53 rfl (Nat.le_of_ble_eq_true rfl) rfl ?_
          refine wx_spsh (v := nI 3800) j112_56 (by decide) ?_
          rw [hm.2.1]
          refine wx_cmp 76 j112_59 (by decide) (fun c59 => ?_) (fun c59 => ?_)
          · simp only [ax_cn, Classical.not_not] at c59
            have hf := hrf_n (T := T) (n := m + 1) (k := 1) (sp := sp) (lo := lo) (l := l) (fun q => absurd ((nI_ltI (by decide) (by omega)).mp c59) (Nat.not_lt.mpr q.1))
            refine wx_icst (v := nI 3) j112_76 (by decide) ?_
            refine wx_ri j112_77 rfl rfl ?_
            exact ⟨fun _ => ⟨rfl, rfl⟩, fun q => absurd (hf.symm.trans q) (by decide)⟩
          · simp only [ax_cn, Classical.not_not] at c59
            have h38 : l.length ≤ 3800 := Nat.not_lt.mp (fun q => c59 ((nI_ltI (by decide) (by omega)).mpr q))
            refine wx_ild j112_62 rfl ?_
            refine wx_if 78 j112_64 (by decide) (fun c64 => ?_) (fun c64 => ?_)
            · simp only [ax_cn, Classical.not_not] at c64
              exact absurd rfl c64
            · simp only [ax_cn, Classical.not_not] at c64
              refine wx_aldn j112_67 rfl ?_
              refine wx_ildn j112_68 rfl ?_
              refine wx_ildn j112_69 rfl ?_
              refine wx_i2 j112_70 rfl rfl rfl (Nat.le_of_ble_eq_true rfl) rfl (sm_lacks h hL hB.1 hB.2.1 hsp hlo) ?_
              rintro _ d9 ⟨rfl, h9⟩
              obtain rfl := h9.symm
              rw [lk_rfn hi hL]
              refine wx_if 78 j112_73 (by decide) (fun c73 => ?_) (fun c73 => ?_)
              · simp only [ax_cn, Classical.not_not] at c73
                have hrf1 : rfn T sp lo = true := by
                  have := bB_0.mp c73
                  cases hq : rfn T sp lo with
                  | true => rfl
                  | false => rw [hq] at this; cases this
                rw [← hoi]
                have hok := hrf_mk (T := T) (n := m + 1) (k := 1) (sp := sp) (lo := lo) (l := l) h38 (fun _ q => by omega) (fun _ => hrf1)
                have hr := rm3_of hi hrf1
                refine ax_W_mono (mwo_go h hg hm hB hi hsp hlo hnm hr (by omega) (by omega)) ?_
                rintro o d1 ⟨y, e1, e2⟩
                exact ⟨y, e1, fun q => absurd (hok.symm.trans q) (by decide), fun _ => e2⟩
              · simp only [ax_cn, Classical.not_not] at c73
                have hrf0 : ¬ rfn T sp lo = true := by
                  intro q
                  have := bB_1.mp c73
                  rw [q] at this
                  cases this
                have hf := hrf_n (T := T) (n := m + 1) (k := 1) (sp := sp) (lo := lo) (l := l) (fun q => hrf0 (q.2.2 (Or.inl rfl)))
                refine wx_icst (v := nI 3) j112_76 (by decide) ?_
                refine wx_ri j112_77 rfl rfl ?_
                exact ⟨fun _ => ⟨rfl, rfl⟩, fun q => absurd (hf.symm.trans q) (by decide)⟩
      · simp only [ax_cn, Classical.not_not] at c31
        have hrf1 := rfn_s hq
        refine wx_icst (v := nI 1) j112_34 (by decide) ?_
        refine wx_goto 39 j112_35 (by decide) ?_
        refine wx_ist (L' := [_, _, _, _, some (.int _), _]) j112_39 (Nat.le_of_ble_eq_true rfl) rfl ?_
        refine wx_aldn j112_41 rfl ?_
        refine wx_get (v := .ref 555) j112_42 rfl (Nat.le_of_ble_eq_true rfl) rfl ?_
        refine wx_icst (v := nI 0) j112_45 (by decide) ?_
        refine wx_ialx (0) j112_46 rfl rfl (by decide) (by decide) ?_
        refine wx_bpsh (v := nI 8) j112_47 (by decide) ?_
        rw [hg.2.1]
        refine wx_cmp 76 j112_49 (by decide) (fun c49 => ?_) (fun c49 => ?_)
        · simp only [ax_cn, Classical.not_not] at c49
          have hf := hrf_n (T := T) (n := m + 1) (k := 1) (sp := sp) (lo := lo) (l := l) (fun q => q.2.1 rfl ((nI_eq (by omega) (by decide)).mp c49))
          refine wx_icst (v := nI 3) j112_76 (by decide) ?_
          refine wx_ri j112_77 rfl rfl ?_
          exact ⟨fun _ => ⟨rfl, rfl⟩, fun q => absurd (hf.symm.trans q) (by decide)⟩
        · simp only [ax_cn, Classical.not_not] at c49
          have hn8 : ¬ m + 1 = 8 := fun q => c49 (by rw [q])
          refine wx_aldn j112_52 rfl ?_
          refine wx_get (v := .int _) j112_53 rfl (Nat.le_of_ble_eq_true rfl) rfl ?_
          refine wx_spsh (v := nI 3800) j112_56 (by decide) ?_
          rw [hm.2.1]
          refine wx_cmp 76 j112_59 (by decide) (fun c59 => ?_) (fun c59 => ?_)
          · simp only [ax_cn, Classical.not_not] at c59
            have hf := hrf_n (T := T) (n := m + 1) (k := 1) (sp := sp) (lo := lo) (l := l) (fun q => absurd ((nI_ltI (by decide) (by omega)).mp c59) (Nat.not_lt.mpr q.1))
            refine wx_icst (v := nI 3) j112_76 (by decide) ?_
            refine wx_ri j112_77 rfl rfl ?_
            exact ⟨fun _ => ⟨rfl, rfl⟩, fun q => absurd (hf.symm.trans q) (by decide)⟩
          · simp only [ax_cn, Classical.not_not] at c59
            have h38 : l.length ≤ 3800 := Nat.not_lt.mp (fun q => c59 ((nI_ltI (by decide) (by omega)).mpr q))
            refine wx_ild j112_62 rfl ?_
            refine wx_if 78 j112_64 (by decide) (fun c64 => ?_) (fun c64 => ?_)
            · simp only [ax_cn, Classical.not_not] at c64
              rw [← hoi]
              have hok := hrf_mk (T := T) (n := m + 1) (k := 1) (sp := sp) (lo := lo) (l := l) h38 (fun _ q => by omega) (fun _ => hrf1)
              have hr := rm3_of hi hrf1
              refine ax_W_mono (mwo_go h hg hm hB hi hsp hlo hnm hr (by omega) (by omega)) ?_
              rintro o d1 ⟨y, e1, e2⟩
              exact ⟨y, e1, fun q => absurd (hok.symm.trans q) (by decide), fun _ => e2⟩
            · simp only [ax_cn, Classical.not_not] at c64
              refine wx_aldn j112_67 rfl ?_
              refine wx_ildn j112_68 rfl ?_
              refine wx_ildn j112_69 rfl ?_
              refine wx_i2 j112_70 rfl rfl rfl (Nat.le_of_ble_eq_true rfl) rfl (sm_lacks h hL hB.1 hB.2.1 hsp hlo) ?_
              rintro _ d9 ⟨rfl, h9⟩
              obtain rfl := h9.symm
              rw [lk_rfn hi hL]
              refine wx_if 78 j112_73 (by decide) (fun c73 => ?_) (fun c73 => ?_)
              · simp only [ax_cn, Classical.not_not] at c73
                have hrf1 : rfn T sp lo = true := by
                  have := bB_0.mp c73
                  cases hq : rfn T sp lo with
                  | true => rfl
                  | false => rw [hq] at this; cases this
                rw [← hoi]
                have hok := hrf_mk (T := T) (n := m + 1) (k := 1) (sp := sp) (lo := lo) (l := l) h38 (fun _ q => by omega) (fun _ => hrf1)
                have hr := rm3_of hi hrf1
                refine ax_W_mono (mwo_go h hg hm hB hi hsp hlo hnm hr (by omega) (by omega)) ?_
                rintro o d1 ⟨y, e1, e2⟩
                exact ⟨y, e1, fun q => absurd (hok.symm.trans q) (by decide), fun _ => e2⟩
              · simp only [ax_cn, Classical.not_not] at c73
                have hrf0 : ¬ rfn T sp lo = true := by
                  intro q
                  have := bB_1.mp c73
                  rw [q] at this
                  cases this
                have hf := hrf_n (T := T) (n := m + 1) (k := 1) (sp := sp) (lo := lo) (l := l) (fun q => hrf0 (q.2.2 (Or.inl rfl)))
                refine wx_icst (v := nI 3) j112_76 (by decide) ?_
                refine wx_ri j112_77 rfl rfl ?_
                exact ⟨fun _ => ⟨rfl, rfl⟩, fun q => absurd (hf.symm.trans q) (by decide)⟩
  · simp only [ax_cn, Classical.not_not] at c6
    exact absurd (by rw [decide_eq_false (Nat.succ_ne_zero m)]; rfl) c6
end M8
