/-! THE REFERENCE reads: values, codes; notes events. -/
def me_is (d : ax_D) (es : List Ev) : Prop := es.length ≤ 201 ∧ d 540 24 = nI es.length ∧ ∀ i, i < es.length → d 566 i = nI (es.getD i (0, 0, 0, 0)).1 ∧ d 567 i = nI (es.getD i (0, 0, 0, 0)).2.1 ∧ d 568 i = nI (es.getD i (0, 0, 0, 0)).2.2.1 ∧ d 569 i = nI (es.getD i (0, 0, 0, 0)).2.2.2
def mef (d d1 : ax_D) : Prop := ∀ id i, id ≠ 566 → id ≠ 567 → id ≠ 568 → id ≠ 569 → ¬ (id = 540 ∧ i = 24) → d1 id i = d id i
theorem me_k {d d1 : ax_D} {es : List Ev} (h : me_is d es) (h0 : d1 540 24 = d 540 24) (h1 : d1 566 = d 566) (h2 : d1 567 = d 567) (h3 : d1 568 = d 568) (h4 : d1 569 = d 569) : me_is d1 es := by
  unfold me_is
  rw [h0, h1, h2, h3, h4]
  exact h
theorem me_tk {d d1 : ax_D} {es : List Ev} (h : me_is d es) (hf : mtk d d1) : me_is d1 es := me_k h (hf _ _ (by decide)) (mtk_id hf (by decide)) (mtk_id hf (by decide)) (mtk_id hf (by decide)) (mtk_id hf (by decide))
theorem me_rf {d d1 : ax_D} {es : List Ev} (h : me_is d es) (hf : mrf d d1) : me_is d1 es := me_k h (hf _ _ (by decide) (by decide)) (mrf_id hf (by decide)) (mrf_id hf (by decide)) (mrf_id hf (by decide)) (mrf_id hf (by decide))
theorem me_mo {d d1 : ax_D} {c : Nat} {es : List Ev} (h : me_is d es) (hf : mo d d1 c) : me_is d1 es := me_k h (by rw [mo_id hf (by decide)]) (mo_id hf (by decide)) (mo_id hf (by decide)) (mo_id hf (by decide)) (mo_id hf (by decide))
theorem mef_id {d d1 : ax_D} {id : Nat} (h : mef d d1) (h1 : id < 566 ∨ 569 < id) (h2 : id ≠ 540) : d1 id = d id := funext fun i => h id i (by omega) (by omega) (by omega) (by omega) (fun q => h2 q.1)
theorem mt_ef {d d1 : ax_D} {c : Nat} {T : TT} (h : mt_is d c T) (hf : mef d d1) : mt_is d1 c T := by
  unfold mt_is sg
  rw [mef_id hf (id := 542) (by decide) (by decide), mef_id hf (id := 543) (by decide) (by decide), mef_id hf (id := 544) (by decide) (by decide), mef_id hf (id := 545) (by decide) (by decide), mef_id hf (id := 546) (by decide) (by decide), mef_id hf (id := 547) (by decide) (by decide), mef_id hf (id := 548) (by decide) (by decide), mef_id hf (id := 549) (by decide) (by decide), mef_id hf (id := 550) (by decide) (by decide), mef_id hf (id := 551) (by decide) (by decide), mef_id hf (id := 552) (by decide) (by decide), mef_id hf (id := 553) (by decide) (by decide), mef_id hf (id := 554) (by decide) (by decide)]
  exact h
theorem mg_ef {d d1 : ax_D} {c n : Nat} {nm : Nat → Nat} {fl : Nat → Bool} {b : Bool} (h : mg_is d c n nm fl b) (hf : mef d d1) : mg_is d1 c n nm fl b := mg_id h (mef_id hf (by decide) (by decide)) (mef_id hf (by decide) (by decide)) (mef_id hf (by decide) (by decide)) (mef_id hf (by decide) (by decide))
theorem mr_ef {d d1 : ax_D} {t : Nat} {w : Bool} (h : mr d t w) (hf : mef d d1) : mr d1 t w := by
  unfold mr
  rw [hf 540 22 (by decide) (by decide) (by decide) (by decide) (by decide), hf 540 23 (by decide) (by decide) (by decide) (by decide) (by decide)]
  exact h
theorem mr_mo {d d1 : ax_D} {c t : Nat} {w : Bool} (h : mr d t w) (hf : mo d d1 c) : mr d1 t w := by
  unfold mr
  rw [mo_id hf (id := 540) (by decide)]
  exact h
theorem ms_mo {d d1 : ax_D} {c : Nat} {sl : List Nat} (h : ms_is d sl) (hf : mo d d1 c) : ms_is d1 sl := by
  unfold ms_is
  rw [mo_id hf (id := 540) (by decide), mo_id hf (id := 561) (by decide)]
  exact h
section MD
variable {d d0 : ax_D} {sl : List Nat} {t n m : Nat} {T : TT} {es : List Ev} {nm : Nat → Nat} {fl : Nat → Bool} {b : Bool}
theorem sm_takeValue (hs : ms_is d sl) (hr : mr d t false) (ht : t ≤ sl.length) (h : mt_is d 1 T) (hB : BI T) (hn : n < (T 4 0).length) : ax_E 133 [.ref 540, .int (nI n)] d (ax_Pi fun y d1 => (∀ v, (rVa sl T n t).1 = some v → y = nI v ∧ mt_is d1 1 (rVa sl T n t).2.1) ∧ mr d1 (rVa sl T n t).2.2 (rVa sl T n t).1.isNone ∧ mrf d d1) := by
  show ax_W 133 0 [some (.ref 540), some (.int (nI n)), none, none] [] d _
  have hL := hB.2.2.2.1
  have l4 := lb4 hL
  have l2 := lb2 hL (show n < 20 by omega)
  have l3 := lb3 hL
  have tN := rNum_t (sl := sl) (t := t) ht
  have vN : ∀ v, (rNum sl t).1 = some v → v < 4096 := fun v hv => rNum_v hv
  refine wx_aldn j133_0 rfl ?_
  refine wx_i0 j133_1 rfl  (Nat.le_of_ble_eq_true rfl) rfl (sm_takeNumber hs hr ht) ?_
  rintro y d2 ⟨h1, r2, f2⟩
  cases hN : rNum sl t with
  | mk o t1 =>
  rw [hN] at h1 r2 tN vN
  cases o with
  | none =>
    have e : rVa sl T n t = (none, T, t1) := by unfold rVa; rw [hN]
    rw [e]
    simp only [Option.isNone_none] at r2
    refine wx_istn (L' := [_, _, some (.int _), _]) j133_4 (Nat.le_of_ble_eq_true rfl) rfl ?_
    refine wx_aldn j133_5 rfl ?_
    refine wx_get (v := .int _) j133_6 rfl (Nat.le_of_ble_eq_true rfl) rfl ?_
    rw [r2.2]
    refine wx_if 14 j133_9 (by decide) (fun c9 => ?_) (fun c9 => ?_)
    · simp only [ax_cn, Classical.not_not] at c9
      exact absurd c9 (by decide)
    · simp only [ax_cn, Classical.not_not] at c9
      refine wx_icst (v := nI 0) j133_12 (by decide) ?_
      refine wx_ri j133_13 rfl rfl ?_
      exact ⟨fun v hv => (by cases hv), r2, mrf_tk f2⟩
  | some n0 =>
  have hn4 := vN n0 rfl
  obtain rfl := h1 n0 rfl
  simp only [Option.isNone_some] at r2 tN
  match n0, hN, hn4 with
  | 0, hN, _ =>
    refine wx_istn (L' := [_, _, some (.int _), _]) j133_4 (Nat.le_of_ble_eq_true rfl) rfl ?_
    refine wx_aldn j133_5 rfl ?_
    refine wx_get (v := .int _) j133_6 rfl (Nat.le_of_ble_eq_true rfl) rfl ?_
    rw [r2.2]
    refine wx_if 14 j133_9 (by decide) (fun c9 => ?_) (fun c9 => ?_)
    · simp only [ax_cn, Classical.not_not] at c9
      refine wx_ildn j133_14 rfl ?_
      refine wx_if 57 j133_15 (by decide) (fun c15 => ?_) (fun c15 => ?_)
      · simp only [ax_cn, Classical.not_not] at c15
        exact absurd rfl c15
      · simp only [ax_cn, Classical.not_not] at c15
        refine wx_aldn j133_18 rfl ?_
        refine wx_aldn j133_19 rfl ?_
        refine wx_get (v := .ref 549) j133_20 rfl (Nat.le_of_ble_eq_true rfl) rfl ?_
        refine wx_bpsh (v := nI 20) j133_23 (by decide) ?_
        refine wx_ildn j133_25 rfl ?_
        refine wx_iadd j133_26 ?_
        rw [nI_add]
        refine wx_ialx (20 * 1 + n) j133_27 rfl rfl (by omega) (by decide) ?_
        rw [((mt_tk h f2).2.2.2.1 n hn).1]
        refine wx_i1 j133_28 rfl rfl (Nat.le_of_ble_eq_true rfl) rfl (sm_takePlace (ms_tk hs f2) r2 tN.2 (by omega)) ?_
        rintro _ d3 ⟨rfl, r3, f3⟩
        have hP : ∀ v, (rP sl (T 2 n).length t1).1 = some v → v < (T 2 n).length := fun v hv => rP_v hv
        cases hPq : rP sl (T 2 n).length t1 with
        | mk o2 t2 =>
        rw [hPq] at r3 hP
        have t3 := mt_tk (mt_tk h f2) f3
        cases o2 with
        | none =>
          have e : rVa sl T n t = (none, T, t2) := by unfold rVa; rw [hN]; simp only; unfold rFr; rw [hPq]
          rw [e]
          simp only [Option.isNone_none, Option.getD_none] at r3 ⊢
          refine wx_istn (L' := [_, _, _, some (.int _)]) j133_31 (Nat.le_of_ble_eq_true rfl) rfl ?_
          refine wx_aldn j133_32 rfl ?_
          refine wx_get (v := .int _) j133_33 rfl (Nat.le_of_ble_eq_true rfl) rfl ?_
          rw [r3.2]
          refine wx_if 43 j133_36 (by decide) (fun c36 => ?_) (fun c36 => ?_)
          · simp only [ax_cn, Classical.not_not] at c36
            exact absurd c36 (by decide)
          · simp only [ax_cn, Classical.not_not] at c36
            refine wx_icst (v := nI 0) j133_39 (by decide) ?_
            refine wx_goto 56 j133_40 (by decide) ?_
            refine wx_ri j133_56 rfl rfl ?_
            exact ⟨fun v hv => (by cases hv), r3, mrf_tk (mtk_tr f2 f3)⟩
        | some k =>
          have hk := hP k rfl
          have e : rVa sl T n t = (some ((T 2 n).getD k 0), T, t2) := by unfold rVa; rw [hN]; simp only; unfold rFr; rw [hPq]
          rw [e]
          simp only [Option.isNone_some, Option.getD_some] at r3 ⊢
          refine wx_istn (L' := [_, _, _, some (.int _)]) j133_31 (Nat.le_of_ble_eq_true rfl) rfl ?_
          refine wx_aldn j133_32 rfl ?_
          refine wx_get (v := .int _) j133_33 rfl (Nat.le_of_ble_eq_true rfl) rfl ?_
          rw [r3.2]
          refine wx_if 43 j133_36 (by decide) (fun c36 => ?_) (fun c36 => ?_)
          · simp only [ax_cn, Classical.not_not] at c36
            refine wx_aldn j133_43 rfl ?_
            refine wx_get (v := .ref 550) j133_44 rfl (Nat.le_of_ble_eq_true rfl) rfl ?_
            refine wx_icst (v := nI 5) j133_47 (by decide) ?_
            refine wx_bpsh (v := nI 20) j133_48 (by decide) ?_
            refine wx_ildn j133_50 rfl ?_
            refine wx_iadd j133_51 ?_
            rw [nI_add]
            refine wx_imul j133_52 ?_
            rw [pk_mul]
            refine wx_ildn j133_53 rfl ?_
            refine wx_iadd j133_54 ?_
            rw [nI_add]
            refine wx_ialx (5 * (20 * 1 + n) + k) j133_55 rfl rfl (by omega) (by decide) ?_
            rw [(t3.2.2.2.1 n hn).2 k hk]
            refine wx_ri j133_56 rfl rfl ?_
            exact ⟨fun v hv => ⟨by rw [← Option.some.inj hv], t3⟩, r3, mrf_tk (mtk_tr f2 f3)⟩
          · simp only [ax_cn, Classical.not_not] at c36
            exact absurd rfl c36
        
    · simp only [ax_cn, Classical.not_not] at c9
      exact absurd rfl c9
  | 1, hN, _ =>
    refine wx_istn (L' := [_, _, some (.int _), _]) j133_4 (Nat.le_of_ble_eq_true rfl) rfl ?_
    refine wx_aldn j133_5 rfl ?_
    refine wx_get (v := .int _) j133_6 rfl (Nat.le_of_ble_eq_true rfl) rfl ?_
    rw [r2.2]
    refine wx_if 14 j133_9 (by decide) (fun c9 => ?_) (fun c9 => ?_)
    · simp only [ax_cn, Classical.not_not] at c9
      refine wx_ildn j133_14 rfl ?_
      refine wx_if 57 j133_15 (by decide) (fun c15 => ?_) (fun c15 => ?_)
      · simp only [ax_cn, Classical.not_not] at c15
        refine wx_ildn j133_57 rfl ?_
        refine wx_icst (v := nI 1) j133_58 (by decide) ?_
        refine wx_cmp 94 j133_59 (by decide) (fun c59 => ?_) (fun c59 => ?_)
        · simp only [ax_cn, Classical.not_not] at c59
          exact absurd trivial c59
        · simp only [ax_cn, Classical.not_not] at c59
          refine wx_aldn j133_62 rfl ?_
          refine wx_aldn j133_63 rfl ?_
          refine wx_get (v := .ref 551) j133_64 rfl (Nat.le_of_ble_eq_true rfl) rfl ?_
          refine wx_icst (v := nI 1) j133_67 (by decide) ?_
          refine wx_ialx (1) j133_68 rfl rfl (by decide) (by decide) ?_
          rw [(mt_tk h f2).2.2.2.2.1.1]
          refine wx_i1 j133_69 rfl rfl (Nat.le_of_ble_eq_true rfl) rfl (sm_takePlace (ms_tk hs f2) r2 tN.2 (by omega)) ?_
          rintro _ d3 ⟨rfl, r3, f3⟩
          have hP : ∀ v, (rP sl (T 3 0).length t1).1 = some v → v < (T 3 0).length := fun v hv => rP_v hv
          cases hPq : rP sl (T 3 0).length t1 with
          | mk o2 t2 =>
          rw [hPq] at r3 hP
          have t3 := mt_tk (mt_tk h f2) f3
          cases o2 with
          | none =>
            have e : rVa sl T n t = (none, T, t2) := by unfold rVa; rw [hN]; simp only; unfold rFr; rw [hPq]
            rw [e]
            simp only [Option.isNone_none, Option.getD_none] at r3 ⊢
            refine wx_istn (L' := [_, _, _, some (.int _)]) j133_72 (Nat.le_of_ble_eq_true rfl) rfl ?_
            refine wx_aldn j133_73 rfl ?_
            refine wx_get (v := .int _) j133_74 rfl (Nat.le_of_ble_eq_true rfl) rfl ?_
            rw [r3.2]
            refine wx_if 84 j133_77 (by decide) (fun c77 => ?_) (fun c77 => ?_)
            · simp only [ax_cn, Classical.not_not] at c77
              exact absurd c77 (by decide)
            · simp only [ax_cn, Classical.not_not] at c77
              refine wx_icst (v := nI 0) j133_80 (by decide) ?_
              refine wx_goto 93 j133_81 (by decide) ?_
              refine wx_ri j133_93 rfl rfl ?_
              exact ⟨fun v hv => (by cases hv), r3, mrf_tk (mtk_tr f2 f3)⟩
          | some k =>
            have hk := hP k rfl
            have e : rVa sl T n t = (some ((T 3 0).getD k 0), T, t2) := by unfold rVa; rw [hN]; simp only; unfold rFr; rw [hPq]
            rw [e]
            simp only [Option.isNone_some, Option.getD_some] at r3 ⊢
            refine wx_istn (L' := [_, _, _, some (.int _)]) j133_72 (Nat.le_of_ble_eq_true rfl) rfl ?_
            refine wx_aldn j133_73 rfl ?_
            refine wx_get (v := .int _) j133_74 rfl (Nat.le_of_ble_eq_true rfl) rfl ?_
            rw [r3.2]
            refine wx_if 84 j133_77 (by decide) (fun c77 => ?_) (fun c77 => ?_)
            · simp only [ax_cn, Classical.not_not] at c77
              refine wx_aldn j133_84 rfl ?_
              refine wx_get (v := .ref 552) j133_85 rfl (Nat.le_of_ble_eq_true rfl) rfl ?_
              refine wx_bpsh (v := nI 20) j133_88 (by decide) ?_
              refine wx_ildn j133_90 rfl ?_
              refine wx_iadd j133_91 ?_
              rw [nI_add]
              refine wx_ialx (20 * 1 + k) j133_92 rfl rfl (by omega) (by decide) ?_
              rw [t3.2.2.2.2.1.2 k hk]
              refine wx_ri j133_93 rfl rfl ?_
              exact ⟨fun v hv => ⟨by rw [← Option.some.inj hv], t3⟩, r3, mrf_tk (mtk_tr f2 f3)⟩
            · simp only [ax_cn, Classical.not_not] at c77
              exact absurd rfl c77
          
      · simp only [ax_cn, Classical.not_not] at c15
        exact absurd c15 (by decide)
    · simp only [ax_cn, Classical.not_not] at c9
      exact absurd rfl c9
  | k + 2, hN, hn4 =>
    refine wx_istn (L' := [_, _, some (.int _), _]) j133_4 (Nat.le_of_ble_eq_true rfl) rfl ?_
    refine wx_aldn j133_5 rfl ?_
    refine wx_get (v := .int _) j133_6 rfl (Nat.le_of_ble_eq_true rfl) rfl ?_
    rw [r2.2]
    refine wx_if 14 j133_9 (by decide) (fun c9 => ?_) (fun c9 => ?_)
    · simp only [ax_cn, Classical.not_not] at c9
      refine wx_ildn j133_14 rfl ?_
      refine wx_if 57 j133_15 (by decide) (fun c15 => ?_) (fun c15 => ?_)
      · simp only [ax_cn, Classical.not_not] at c15
        refine wx_ildn j133_57 rfl ?_
        refine wx_icst (v := nI 1) j133_58 (by decide) ?_
        refine wx_cmp 94 j133_59 (by decide) (fun c59 => ?_) (fun c59 => ?_)
        · simp only [ax_cn, Classical.not_not] at c59
          refine wx_aldn j133_94 rfl ?_
          refine wx_ildn j133_95 rfl ?_
          refine wx_icst (v := nI 2) j133_96 (by decide) ?_
          refine wx_isub j133_97 ?_
          rw [pk_sub (by omega), show k + 2 - 2 = k by omega]
          refine wx_i1 j133_98 rfl rfl (Nat.le_of_ble_eq_true rfl) rfl (sm_takeLetters (ms_tk hs f2) r2 tN.2 (by omega)) ?_
          rintro y d3 ⟨h3, r3, f3⟩
          have hLv : ∀ v, (rL sl k t1).1 = some v → v < tB := fun v hv => rL_v hv
          cases hLq : rL sl k t1 with
          | mk o2 t2 =>
          rw [hLq] at r3 h3 hLv
          have t3 := mt_tk (mt_tk h f2) f3
          cases o2 with
          | none =>
            have e : rVa sl T n t = (none, T, t2) := by unfold rVa; rw [hN]; simp only; rw [hLq]
            rw [e]
            simp only [Option.isNone_none] at r3
            refine wx_istn (L' := [_, _, _, some (.int _)]) j133_101 (Nat.le_of_ble_eq_true rfl) rfl ?_
            refine wx_aldn j133_102 rfl ?_
            refine wx_get (v := .int _) j133_103 rfl (Nat.le_of_ble_eq_true rfl) rfl ?_
            rw [r3.2]
            refine wx_if 116 j133_106 (by decide) (fun c106 => ?_) (fun c106 => ?_)
            · simp only [ax_cn, Classical.not_not] at c106
              refine wx_ildn j133_116 rfl ?_
              refine wx_ri j133_117 rfl rfl ?_
              exact ⟨fun v hv => (by cases hv), r3, mrf_tk (mtk_tr f2 f3)⟩
            · simp only [ax_cn, Classical.not_not] at c106
              exact absurd c106 (by decide)
          | some x =>
            have hx := hLv x rfl
            obtain rfl := h3 x rfl
            have e : rVa sl T n t = (some x, tav T n x, t2) := by unfold rVa; rw [hN]; simp only; rw [hLq]
            rw [e]
            simp only [Option.isNone_some] at r3
            refine wx_istn (L' := [_, _, _, some (.int _)]) j133_101 (Nat.le_of_ble_eq_true rfl) rfl ?_
            refine wx_aldn j133_102 rfl ?_
            refine wx_get (v := .int _) j133_103 rfl (Nat.le_of_ble_eq_true rfl) rfl ?_
            rw [r3.2]
            refine wx_if 116 j133_106 (by decide) (fun c106 => ?_) (fun c106 => ?_)
            · simp only [ax_cn, Classical.not_not] at c106
              exact absurd rfl c106
            · simp only [ax_cn, Classical.not_not] at c106
              refine wx_aldn j133_109 rfl ?_
              refine wx_icst (v := nI 1) j133_110 (by decide) ?_
              refine wx_ildn j133_111 rfl ?_
              refine wx_ildn j133_112 rfl ?_
              refine wx_v3 j133_113 rfl rfl rfl rfl (Nat.le_of_ble_eq_true rfl) rfl (sm_addValue (c := 1) (by decide) t3 hL hn hx) ?_
              rintro d4 ⟨t4, f4⟩
              refine wx_ildn j133_116 rfl ?_
              refine wx_ri j133_117 rfl rfl ?_
              exact ⟨fun v hv => ⟨by rw [← Option.some.inj hv], t4⟩, mr_mq r3 f4, mrf_tr (mrf_tk (mtk_tr f2 f3)) (mrf_mq f4)⟩
          
        · simp only [ax_cn, Classical.not_not] at c59
          exact absurd ((nI_eq (by omega) (by decide)).mp c59) (by omega)
      · simp only [ax_cn, Classical.not_not] at c15
        exact absurd c15 (nI_ne0 (by omega) (by omega))
    · simp only [ax_cn, Classical.not_not] at c9
      exact absurd rfl c9
end MD
/-- what stands at a code's place: (0, c) the learned code c, (1, 4) a CLOSE in content, (2, kind) a new code -/
def rC (sl : List Nat) (T : TT) (f : Bool) (k t : Nat) : Option (Nat × Nat) × Nat := match (rP sl (cho T f k) t).1 with
  | none => (none, (rP sl (cho T f k) t).2)
  | some p => if p < (T (kj f) k).length then (some (0, (T (kj f) k).getD p 0), (rP sl (cho T f k) t).2) else if f = true ∧ p = (T (kj f) k).length then (some (1, 4), (rP sl (cho T f k) t).2) else ((rKd sl f (rP sl (cho T f k) t).2).1.map (fun kind => (2, kind)), (rKd sl f (rP sl (cho T f k) t).2).2)
def cv (q : Nat × Nat) : Int32 := if q.1 = 0 then nI (mc q.2) else if q.1 = 1 then -9 else -1 - nI (k4 q.2)
section ME
variable {d d0 : ax_D} {sl : List Nat} {t n m : Nat} {T : TT} {es : List Ev} {nm : Nat → Nat} {fl : Nat → Bool} {b : Bool}
theorem hmod {j k : Nat} (hj : j < 2) (hk : k < 20) : nI (40 * 1 + 2 * k + j) - nI (40 * 1 + 2 * k + j) / nI 2 * nI 2 = nI j := by rw [pk_rem (by omega) (by decide) (by decide)]; congr 1; omega
theorem sm_takeCode (hs : ms_is d sl) (hr : mr d t false) (ht : t ≤ sl.length) (h : mt_is d 1 T) (hB : BI T) (hnm : nm m < (T 4 0).length) : ax_E 134 [.ref 540, .int (nI (40 * 1 + 2 * nm m + (if fl m then 1 else 0)))] d (ax_Pi fun y d1 => (∀ q, (rC sl T (fl m) (nm m) t).1 = some q → y = cv q) ∧ mr d1 (rC sl T (fl m) (nm m) t).2 (rC sl T (fl m) (nm m) t).1.isNone ∧ mtk d d1) := by
  show ax_W 134 0 [some (.ref 540), some (.int (nI (40 * 1 + 2 * nm m + (if fl m then 1 else 0)))), none, none, none] [] d _
  have hL := hB.2.2.2.1
  have l4 := lb4 hL
  have hn20 : nm m < 20 := by omega
  cases hfm : fl m with
  | false =>
    have l6 : (T 6 (nm m)).length ≤ 12 := lb6 hL (show 0 < 2 by decide) hn20
    rw [show (if (false : Bool) = true then 1 else 0) = 0 from rfl]
    have hch : cho T false (nm m) = (T 6 (nm m)).length + 1 := rfl
    have tP := rP_t (sl := sl) (m := (T 6 (nm m)).length + 1) (t := t) ht
    have vP : ∀ v, (rP sl ((T 6 (nm m)).length + 1) t).1 = some v → v < (T 6 (nm m)).length + 1 := fun v hv => rP_v hv
    refine wx_aldn j134_0 rfl ?_
    refine wx_get (v := .ref 553) j134_1 rfl (Nat.le_of_ble_eq_true rfl) rfl ?_
    refine wx_ildn j134_4 rfl ?_
    refine wx_ialx (40 * 1 + 2 * nm m + 0) j134_5 rfl rfl (by omega) (by decide) ?_
    rw [show d 553 (40 * 1 + 2 * nm m + 0) = nI (T 6 (nm m)).length from (h.2.2.2.2.2 (nm m) hnm 0 (by decide)).1]
    refine wx_istn (L' := [_, _, some (.int _), _, _]) j134_6 (Nat.le_of_ble_eq_true rfl) rfl ?_
    refine wx_ildn j134_7 rfl ?_
    refine wx_icst (v := nI 2) j134_8 (by decide) ?_
    refine wx_irem j134_9 (by decide) ?_
    rw [hmod (by decide) hn20]
    refine wx_icst (v := nI 1) j134_10 (by decide) ?_
    refine wx_cmp 18 j134_11 (by decide) (fun c11 => ?_) (fun c11 => ?_)
    · simp only [ax_cn, Classical.not_not] at c11
      have h11 := c11
      refine wx_icst (v := nI 0) j134_18 (by decide) ?_
      refine wx_istn (L' := [_, _, _, some (.int _), _]) j134_19 (Nat.le_of_ble_eq_true rfl) rfl ?_
      refine wx_aldn j134_20 rfl ?_
      refine wx_ildn j134_21 rfl ?_
      refine wx_ildn j134_22 rfl ?_
      refine wx_if 30 j134_23 (by decide) (fun c23 => ?_) (fun c23 => ?_)
      · simp only [ax_cn, Classical.not_not] at c23
        have h23 := c23
        refine wx_icst (v := nI 1) j134_30 (by decide) ?_
        refine wx_iadd j134_31 ?_
        rw [nI_add]
        refine wx_i1 j134_32 rfl rfl (Nat.le_of_ble_eq_true rfl) rfl (sm_takePlace hs hr ht (by omega)) ?_
        rintro _ d2 ⟨rfl, r2, f2⟩
        cases hP : rP sl ((T 6 (nm m)).length + 1) t with
        | mk o t1 =>
        rw [hP] at r2 tP vP
        cases o with
        | none =>
          have e : rC sl T false (nm m) t = (none, t1) := by unfold rC; rw [hch, hP]
          rw [e]
          simp only [Option.isNone_none, Option.getD_none] at r2 ⊢
          refine wx_ist (L' := [_, _, _, _, some (.int _)]) j134_35 (Nat.le_of_ble_eq_true rfl) rfl ?_
          refine wx_aldn j134_37 rfl ?_
          refine wx_get (v := .int _) j134_38 rfl (Nat.le_of_ble_eq_true rfl) rfl ?_
          rw [r2.2]
          refine wx_if 46 j134_41 (by decide) (fun c41 => ?_) (fun c41 => ?_)
          · simp only [ax_cn, Classical.not_not] at c41
            exact absurd c41 (by decide)
          · simp only [ax_cn, Classical.not_not] at c41
            refine wx_icst (v := nI 0) j134_44 (by decide) ?_
            refine wx_ri j134_45 rfl rfl ?_
            exact ⟨fun q hq => (by cases hq), r2, f2⟩
        | some p0 =>
          have hp0 := vP p0 rfl
          simp only [Option.isNone_some, Option.getD_some] at r2 tP ⊢
          refine wx_ist (L' := [_, _, _, _, some (.int _)]) j134_35 (Nat.le_of_ble_eq_true rfl) rfl ?_
          refine wx_aldn j134_37 rfl ?_
          refine wx_get (v := .int _) j134_38 rfl (Nat.le_of_ble_eq_true rfl) rfl ?_
          rw [r2.2]
          refine wx_if 46 j134_41 (by decide) (fun c41 => ?_) (fun c41 => ?_)
          · simp only [ax_cn, Classical.not_not] at c41
            refine wx_ild j134_46 rfl ?_
            refine wx_ildn j134_48 rfl ?_
            refine wx_cmp 65 j134_49 (by decide) (fun c49 => ?_) (fun c49 => ?_)
            · simp only [ax_cn, Classical.not_not] at c49
              have hge : (T 6 (nm m)).length ≤ p0 := (nI_leI (by omega) (by omega)).mp c49
              have hge2 : ¬ p0 < (T (kj false) (nm m)).length := Nat.not_lt.mpr hge
              refine wx_ildn j134_65 rfl ?_
              refine wx_if 77 j134_66 (by decide) (fun c66 => ?_) (fun c66 => ?_)
              · simp only [ax_cn, Classical.not_not] at c66
                exact absurd rfl c66
              · simp only [ax_cn, Classical.not_not] at c66
                have h66 := c66
                refine wx_icst (v := (-1)) j134_69 (by decide) ?_
                refine wx_aldn j134_70 rfl ?_
                refine wx_icst (v := nI 4) j134_71 (by decide) ?_
                refine wx_i1 j134_72 rfl rfl (Nat.le_of_ble_eq_true rfl) rfl (sm_takePlace (ms_tk hs f2) r2 tP.2 (by decide)) ?_
                rintro _ d3 ⟨rfl, r3, f3⟩
                have hP4 : ∀ v, (rP sl 4 t1).1 = some v → v < 4 := fun v hv => rP_v hv
                cases hPq : rP sl 4 t1 with
                | mk o2 t2 =>
                rw [hPq] at r3 hP4
                cases o2 with
                | none =>
                  have eK : rKd sl false t1 = (none, t2) := by unfold rKd; rw [if_neg (by decide)]; unfold rTk; rw [hPq]
                  have e : rC sl T false (nm m) t = (none, t2) := by unfold rC; rw [hch, hP]; simp only; rw [if_neg (by omega), if_neg (by intro z; cases z.1), eK]; rfl
                  rw [e]
                  simp only [Option.isNone_none, Option.getD_none] at r3 ⊢
                  refine wx_isub j134_75 ?_
                  refine wx_ri j134_76 rfl rfl ?_
                  exact ⟨fun q hq => (by cases hq), r3, mtk_tr f2 f3⟩
                | some p =>
                  have hp4 := hP4 p rfl
                  have eK : rKd sl false t1 = (some (if p = 0 then 4 else if p = 1 then 2 else if p = 2 then 1 else 3), t2) := by unfold rKd; rw [if_neg (by decide)]; unfold rTk; rw [hPq]
                  have e : rC sl T false (nm m) t = (some (2, (if p = 0 then 4 else if p = 1 then 2 else if p = 2 then 1 else 3)), t2) := by unfold rC; rw [hch, hP]; simp only; rw [if_neg (by omega), if_neg (by intro z; cases z.1), eK]; rfl
                  rw [e]
                  simp only [Option.isNone_some, Option.getD_some] at r3 ⊢
                  refine wx_isub j134_75 ?_
                  refine wx_ri j134_76 rfl rfl ?_
                  refine ⟨fun q hq => ?_, r3, mtk_tr f2 f3⟩
                  rw [← Option.some.inj hq]
                  show _ = (-1 : Int32) - nI (k4 (if p = 0 then 4 else if p = 1 then 2 else if p = 2 then 1 else 3))
                  rcases (show p = 0 ∨ p = 1 ∨ p = 2 ∨ p = 3 by omega) with rfl | rfl | rfl | rfl <;> decide
                
            · simp only [ax_cn, Classical.not_not] at c49
              have hlt : p0 < (T 6 (nm m)).length := Nat.not_le.mp (fun q => c49 ((nI_leI (by omega) (by omega)).mpr q))
              have e : rC sl T false (nm m) t = (some (0, (T 6 (nm m)).getD p0 0), t1) := by unfold rC; rw [hch, hP]; simp only; rw [if_pos (show p0 < (T (kj false) (nm m)).length from hlt)]; rfl
              rw [e]
              refine wx_aldn j134_52 rfl ?_
              refine wx_get (v := .ref 554) j134_53 rfl (Nat.le_of_ble_eq_true rfl) rfl ?_
              refine wx_bpsh (v := nI 12) j134_56 (by decide) ?_
              refine wx_ildn j134_58 rfl ?_
              refine wx_imul j134_59 ?_
              rw [pk_mul]
              refine wx_ild j134_60 rfl ?_
              refine wx_iadd j134_62 ?_
              rw [nI_add]
              refine wx_ialx (12 * (40 * 1 + 2 * nm m + 0) + p0) j134_63 rfl rfl (by omega) (by decide) ?_
              rw [sg_map_at ((mt_tk h f2).2.2.2.2.2 (nm m) hnm 0 (by decide)).2 hlt]
              refine wx_ri j134_64 rfl rfl ?_
              exact ⟨fun q hq => (by rw [← Option.some.inj hq]; rfl), r2, f2⟩
          · simp only [ax_cn, Classical.not_not] at c41
            exact absurd rfl c41
        
      · simp only [ax_cn, Classical.not_not] at c23
        exact absurd rfl c23
    · simp only [ax_cn, Classical.not_not] at c11
      exact absurd c11 (by decide)
  | true =>
    have l6 : (T 7 (nm m)).length ≤ 12 := lb6 hL (show 1 < 2 by decide) hn20
    rw [show (if (true : Bool) = true then 1 else 0) = 1 from rfl]
    have hch : cho T true (nm m) = (T 7 (nm m)).length + 2 := rfl
    have tP := rP_t (sl := sl) (m := (T 7 (nm m)).length + 2) (t := t) ht
    have vP : ∀ v, (rP sl ((T 7 (nm m)).length + 2) t).1 = some v → v < (T 7 (nm m)).length + 2 := fun v hv => rP_v hv
    refine wx_aldn j134_0 rfl ?_
    refine wx_get (v := .ref 553) j134_1 rfl (Nat.le_of_ble_eq_true rfl) rfl ?_
    refine wx_ildn j134_4 rfl ?_
    refine wx_ialx (40 * 1 + 2 * nm m + 1) j134_5 rfl rfl (by omega) (by decide) ?_
    rw [show d 553 (40 * 1 + 2 * nm m + 1) = nI (T 7 (nm m)).length from (h.2.2.2.2.2 (nm m) hnm 1 (by decide)).1]
    refine wx_istn (L' := [_, _, some (.int _), _, _]) j134_6 (Nat.le_of_ble_eq_true rfl) rfl ?_
    refine wx_ildn j134_7 rfl ?_
    refine wx_icst (v := nI 2) j134_8 (by decide) ?_
    refine wx_irem j134_9 (by decide) ?_
    rw [hmod (by decide) hn20]
    refine wx_icst (v := nI 1) j134_10 (by decide) ?_
    refine wx_cmp 18 j134_11 (by decide) (fun c11 => ?_) (fun c11 => ?_)
    · simp only [ax_cn, Classical.not_not] at c11
      exact absurd trivial c11
    · simp only [ax_cn, Classical.not_not] at c11
      have h11 := c11
      refine wx_icst (v := nI 1) j134_14 (by decide) ?_
      refine wx_goto 19 j134_15 (by decide) ?_
      refine wx_istn (L' := [_, _, _, some (.int _), _]) j134_19 (Nat.le_of_ble_eq_true rfl) rfl ?_
      refine wx_aldn j134_20 rfl ?_
      refine wx_ildn j134_21 rfl ?_
      refine wx_ildn j134_22 rfl ?_
      refine wx_if 30 j134_23 (by decide) (fun c23 => ?_) (fun c23 => ?_)
      · simp only [ax_cn, Classical.not_not] at c23
        exact absurd c23 (by decide)
      · simp only [ax_cn, Classical.not_not] at c23
        have h23 := c23
        refine wx_icst (v := nI 2) j134_26 (by decide) ?_
        refine wx_goto 31 j134_27 (by decide) ?_
        refine wx_iadd j134_31 ?_
        rw [nI_add]
        refine wx_i1 j134_32 rfl rfl (Nat.le_of_ble_eq_true rfl) rfl (sm_takePlace hs hr ht (by omega)) ?_
        rintro _ d2 ⟨rfl, r2, f2⟩
        cases hP : rP sl ((T 7 (nm m)).length + 2) t with
        | mk o t1 =>
        rw [hP] at r2 tP vP
        cases o with
        | none =>
          have e : rC sl T true (nm m) t = (none, t1) := by unfold rC; rw [hch, hP]
          rw [e]
          simp only [Option.isNone_none, Option.getD_none] at r2 ⊢
          refine wx_ist (L' := [_, _, _, _, some (.int _)]) j134_35 (Nat.le_of_ble_eq_true rfl) rfl ?_
          refine wx_aldn j134_37 rfl ?_
          refine wx_get (v := .int _) j134_38 rfl (Nat.le_of_ble_eq_true rfl) rfl ?_
          rw [r2.2]
          refine wx_if 46 j134_41 (by decide) (fun c41 => ?_) (fun c41 => ?_)
          · simp only [ax_cn, Classical.not_not] at c41
            exact absurd c41 (by decide)
          · simp only [ax_cn, Classical.not_not] at c41
            refine wx_icst (v := nI 0) j134_44 (by decide) ?_
            refine wx_ri j134_45 rfl rfl ?_
            exact ⟨fun q hq => (by cases hq), r2, f2⟩
        | some p0 =>
          have hp0 := vP p0 rfl
          simp only [Option.isNone_some, Option.getD_some] at r2 tP ⊢
          refine wx_ist (L' := [_, _, _, _, some (.int _)]) j134_35 (Nat.le_of_ble_eq_true rfl) rfl ?_
          refine wx_aldn j134_37 rfl ?_
          refine wx_get (v := .int _) j134_38 rfl (Nat.le_of_ble_eq_true rfl) rfl ?_
          rw [r2.2]
          refine wx_if 46 j134_41 (by decide) (fun c41 => ?_) (fun c41 => ?_)
          · simp only [ax_cn, Classical.not_not] at c41
            refine wx_ild j134_46 rfl ?_
            refine wx_ildn j134_48 rfl ?_
            refine wx_cmp 65 j134_49 (by decide) (fun c49 => ?_) (fun c49 => ?_)
            · simp only [ax_cn, Classical.not_not] at c49
              have hge : (T 7 (nm m)).length ≤ p0 := (nI_leI (by omega) (by omega)).mp c49
              have hge2 : ¬ p0 < (T (kj true) (nm m)).length := Nat.not_lt.mpr hge
              refine wx_ildn j134_65 rfl ?_
              refine wx_if 77 j134_66 (by decide) (fun c66 => ?_) (fun c66 => ?_)
              · simp only [ax_cn, Classical.not_not] at c66
                have h66 := c66
                refine wx_ild j134_77 rfl ?_
                refine wx_ildn j134_79 rfl ?_
                refine wx_cmp 88 j134_80 (by decide) (fun c80 => ?_) (fun c80 => ?_)
                · simp only [ax_cn, Classical.not_not] at c80
                  have hpl : ¬ p0 = (T (kj true) (nm m)).length := fun q => c80 (by rw [q]; rfl)
                  refine wx_bpsh (v := (-3)) j134_88 (by decide) ?_
                  refine wx_aldn j134_90 rfl ?_
                  refine wx_icst (v := nI 2) j134_91 (by decide) ?_
                  refine wx_i1 j134_92 rfl rfl (Nat.le_of_ble_eq_true rfl) rfl (sm_takePlace (ms_tk hs f2) r2 tP.2 (by decide)) ?_
                  rintro _ d3 ⟨rfl, r3, f3⟩
                  have hP4 : ∀ v, (rP sl 2 t1).1 = some v → v < 2 := fun v hv => rP_v hv
                  cases hPq : rP sl 2 t1 with
                  | mk o2 t2 =>
                  rw [hPq] at r3 hP4
                  cases o2 with
                  | none =>
                    have eK : rKd sl true t1 = (none, t2) := by unfold rKd; rw [if_pos rfl]; unfold rCk; rw [hPq]
                    have e : rC sl T true (nm m) t = (none, t2) := by unfold rC; rw [hch, hP]; simp only; rw [if_neg (by omega), if_neg (by intro z; exact hpl z.2), eK]; rfl
                    rw [e]
                    simp only [Option.isNone_none, Option.getD_none] at r3 ⊢
                    refine wx_isub j134_95 ?_
                    refine wx_ri j134_96 rfl rfl ?_
                    exact ⟨fun q hq => (by cases hq), r3, mtk_tr f2 f3⟩
                  | some p =>
                    have hp4 := hP4 p rfl
                    have eK : rKd sl true t1 = (some (if p = 0 then 1 else 3), t2) := by unfold rKd; rw [if_pos rfl]; unfold rCk; rw [hPq]
                    have e : rC sl T true (nm m) t = (some (2, (if p = 0 then 1 else 3)), t2) := by unfold rC; rw [hch, hP]; simp only; rw [if_neg (by omega), if_neg (by intro z; exact hpl z.2), eK]; rfl
                    rw [e]
                    simp only [Option.isNone_some, Option.getD_some] at r3 ⊢
                    refine wx_isub j134_95 ?_
                    refine wx_ri j134_96 rfl rfl ?_
                    refine ⟨fun q hq => ?_, r3, mtk_tr f2 f3⟩
                    rw [← Option.some.inj hq]
                    show _ = (-1 : Int32) - nI (k4 (if p = 0 then 1 else 3))
                    rcases (show p = 0 ∨ p = 1 by omega) with rfl | rfl <;> decide
                  
                · simp only [ax_cn, Classical.not_not] at c80
                  have hpl : p0 = (T (kj true) (nm m)).length := (nI_eq (by omega) (by have : (T (kj true) (nm m)).length = (T 7 (nm m)).length := rfl; omega)).mp c80
                  have e : rC sl T true (nm m) t = (some (1, 4), t1) := by unfold rC; rw [hch, hP]; simp only; rw [if_neg hge2, if_pos ⟨trivial, hpl⟩]
                  rw [e]
                  refine wx_bpsh (v := (-9)) j134_83 (by decide) ?_
                  refine wx_goto 96 j134_85 (by decide) ?_
                  refine wx_ri j134_96 rfl rfl ?_
                  exact ⟨fun q hq => (by rw [← Option.some.inj hq]; rfl), r2, f2⟩
              · simp only [ax_cn, Classical.not_not] at c66
                exact absurd c66 (by decide)
            · simp only [ax_cn, Classical.not_not] at c49
              have hlt : p0 < (T 7 (nm m)).length := Nat.not_le.mp (fun q => c49 ((nI_leI (by omega) (by omega)).mpr q))
              have e : rC sl T true (nm m) t = (some (0, (T 7 (nm m)).getD p0 0), t1) := by unfold rC; rw [hch, hP]; simp only; rw [if_pos (show p0 < (T (kj true) (nm m)).length from hlt)]; rfl
              rw [e]
              refine wx_aldn j134_52 rfl ?_
              refine wx_get (v := .ref 554) j134_53 rfl (Nat.le_of_ble_eq_true rfl) rfl ?_
              refine wx_bpsh (v := nI 12) j134_56 (by decide) ?_
              refine wx_ildn j134_58 rfl ?_
              refine wx_imul j134_59 ?_
              rw [pk_mul]
              refine wx_ild j134_60 rfl ?_
              refine wx_iadd j134_62 ?_
              rw [nI_add]
              refine wx_ialx (12 * (40 * 1 + 2 * nm m + 1) + p0) j134_63 rfl rfl (by omega) (by decide) ?_
              rw [sg_map_at ((mt_tk h f2).2.2.2.2.2 (nm m) hnm 1 (by decide)).2 hlt]
              refine wx_ri j134_64 rfl rfl ?_
              exact ⟨fun q hq => (by rw [← Option.some.inj hq]; rfl), r2, f2⟩
          · simp only [ax_cn, Classical.not_not] at c41
            exact absurd rfl c41
end ME
