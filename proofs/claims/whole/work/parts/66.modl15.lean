/-! READING keeps what holds of the tables; the reference reads an event. -/
section RB
variable {sl : List Nat} {T : TT} {t p i : Nat}
theorem rSp_BI (hB : BI T) (h : (rSp sl T t).1 = some p) : BI (rSp sl T t).2.1 ∧ p < ((rSp sl T t).2.1 0 0).length ∧ (rSp sl T t).2.1 4 = T 4 := by
  have hp := rSp_p h
  refine ⟨?_, hp, ?_⟩
  all_goals
    unfold rSp at h ⊢
    cases hP : rP sl ((T 0 0).length + 1) t with
    | mk o t1 =>
      rw [hP] at h
      cases o with
      | none => cases h
      | some q =>
        match q with
        | q + 1 => first | exact hB | rfl
        | 0 =>
          simp only at h ⊢
          unfold rSn at h ⊢
          cases hN : rNum sl t1 with
          | mk o2 t2 =>
            rw [hN] at h
            cases o2 with
            | none => cases h
            | some n =>
              simp only at h ⊢
              cases hL : rL sl n t2 with
              | mk o3 t3 =>
                rw [hL] at h
                cases o3 with
                | none => cases h
                | some x =>
                  simp only at h ⊢
                  by_cases h6 : (T 0 0).length < 6
                  · rw [if_pos h6]
                    first
                      | exact BI_sp hB (rL_v (sl := sl) (n := n) (t := t2) (by rw [hL])) h6
                      | exact (show tst T 0 0 (T 0 0 ++ [x]) 4 = T 4 from tst_row (by decide))
                  · rw [if_neg h6] at h; cases h
theorem rLo_BI {v : Nat} (hB : BI T) (hp : p < (T 0 0).length) (h : (rLo sl T p t).1 = some v) : BI (rLo sl T p t).2.1 ∧ (rLo sl T p t).2.1 4 = T 4 := by
  unfold rLo at h ⊢
  cases hN : rNum sl t with
  | mk o t1 =>
    rw [hN] at h
    cases o with
    | none => cases h
    | some n =>
      match n with
      | 0 => exact ⟨hB, rfl⟩
      | n + 1 =>
        simp only at h ⊢
        unfold rLx at h ⊢
        cases hL : rL sl (n + 1) t1 with
        | mk o2 t2 =>
          rw [hL] at h
          cases o2 with
          | none => cases h
          | some x =>
            simp only at h ⊢
            by_cases h10 : (T 1 p).length < 10
            · rw [if_pos h10]
              exact ⟨BI_lo hB (rL_v (sl := sl) (n := n + 1) (t := t1) (by rw [hL])) hp h10, show tst T 1 p (T 1 p ++ [x]) 4 = T 4 from tst_row (by decide)⟩
            · rw [if_neg h10] at h; cases h
theorem rFo_BI {sp lo : Nat} (hB : BI T) (hsp : sp < tB) (hlo : lo < tB) (h : (rFo T sp lo).1 = some i) : BI (rFo T sp lo).2 ∧ i < ((rFo T sp lo).2 4 0).length ∧ (T 4 0).length ≤ ((rFo T sp lo).2 4 0).length := by
  have hi := rFo_i h
  refine ⟨?_, hi, ?_⟩
  all_goals
    unfold rFo at h ⊢
    cases hn : fn T sp lo with
    | some q => simp only; first | exact hB | exact Nat.le_refl _
    | none =>
      rw [hn] at h
      simp only at h ⊢
      by_cases h20 : (T 4 0).length < 20
      · rw [if_pos h20]
        first
          | exact BI_nm hB hsp hlo h20
          | (show (T 4 0).length ≤ (tnm T sp lo 4 0).length; rw [tnm_4, List.length_append]; exact Nat.le_add_right _ _)
      · rw [if_neg h20] at h; cases h
theorem rNx_BI (hB : BI T) (hp : p < (T 0 0).length) (h : (rNx sl T p t).1 = some i) : BI (rNx sl T p t).2.1 ∧ i < ((rNx sl T p t).2.1 4 0).length ∧ (T 4 0).length ≤ ((rNx sl T p t).2.1 4 0).length := by
  unfold rNx at h ⊢
  cases hL : (rLo sl T p t).1 with
  | none => rw [hL] at h; cases h
  | some lo =>
    rw [hL] at h
    have h1 := rLo_BI hB hp hL
    have h0 : (rLo sl T p t).2.1 0 0 = T 0 0 := rLo_00 p
    have hlo : lo < tB := rLo_v hB.1 hL
    have h2 := rFo_BI h1.1 (sp := ((rLo sl T p t).2.1 0 0).getD p 0) (lo := lo) (h1.1.1 0 0 _ (getD_mem (by rw [h0]; exact hp))) hlo h
    refine ⟨h2.1, h2.2.1, ?_⟩
    have := h2.2.2
    rw [h1.2] at this
    exact this
theorem rNa_BI (hB : BI T) (h : (rNa sl T t).1 = some i) : BI (rNa sl T t).2.1 ∧ i < ((rNa sl T t).2.1 4 0).length ∧ (T 4 0).length ≤ ((rNa sl T t).2.1 4 0).length := by
  unfold rNa at h ⊢
  cases hS : (rSp sl T t).1 with
  | none => rw [hS] at h; cases h
  | some q =>
    rw [hS] at h
    have h1 := rSp_BI hB hS
    have h2 := rNx_BI h1.1 h1.2.1 h
    rw [h1.2.2] at h2
    exact h2
theorem rVa_BI {n v : Nat} (hB : BI T) (hn : n < (T 4 0).length) (h : (rVa sl T n t).1 = some v) : BI (rVa sl T n t).2.1 ∧ (rVa sl T n t).2.1 4 = T 4 := by
  refine ⟨?_, funext fun k => rVa_4 (by decide) (by decide)⟩
  unfold rVa at h ⊢
  cases hN : rNum sl t with
  | mk o t1 =>
    rw [hN] at h
    cases o with
    | none => cases h
    | some k =>
      match k with
      | 0 => exact hB
      | 1 => exact hB
      | k + 2 =>
        simp only at h ⊢
        cases hL : rL sl k t1 with
        | mk o2 t2 =>
          rw [hL] at h
          cases o2 with
          | none => cases h
          | some v => exact BI_av hB (rL_v (sl := sl) (n := k) (t := t1) (by rw [hL])) hn
theorem rCo_C {f : Bool} {k : Nat} : rCo sl T f k t = (match rC sl T f k t with
    | (none, t1) => (none, T, t1)
    | (some q, t1) => if q.1 = 0 then (some q.2, T, t1) else if q.1 = 1 then (some 4, T, t1) else if q.2 = 1 ∨ q.2 = 2 then rNc sl T f k q.2 t1 else (some q.2, tln T (kj f) k q.2, t1)) := by
  unfold rCo rC
  cases hP : rP sl (cho T f k) t with
  | mk o t1 =>
    cases o with
    | none => rfl
    | some p =>
      simp only
      by_cases h1 : p < (T (kj f) k).length
      · rw [if_pos h1, if_pos h1]; rfl
      · rw [if_neg h1, if_neg h1]
        by_cases h2 : f = true ∧ p = (T (kj f) k).length
        · rw [if_pos h2, if_pos h2]; rfl
        · rw [if_neg h2, if_neg h2]
          unfold rLc
          cases hK : rKd sl f t1 with
          | mk o2 t2 =>
            cases o2 with
            | none => rfl
            | some kind => rfl
theorem rC_v {f : Bool} {k : Nat} {q : Nat × Nat} (h : (rC sl T f k t).1 = some q) : (q.1 = 0 ∧ q.2 ∈ T (kj f) k) ∨ (q = (1, 4) ∧ f = true) ∨ (q.1 = 2 ∧ (q.2 = 1 ∨ q.2 = 3 ∨ (f = false ∧ (q.2 = 2 ∨ q.2 = 4)))) := by
  unfold rC at h
  cases hP : rP sl (cho T f k) t with
  | mk o t1 =>
    rw [hP] at h
    cases o with
    | none => cases h
    | some p =>
      simp only at h
      by_cases h1 : p < (T (kj f) k).length
      · rw [if_pos h1] at h
        obtain rfl := Option.some.inj h
        exact Or.inl ⟨rfl, getD_mem h1⟩
      · rw [if_neg h1] at h
        by_cases h2 : f = true ∧ p = (T (kj f) k).length
        · rw [if_pos h2] at h
          obtain rfl := Option.some.inj h
          exact Or.inr (Or.inl ⟨rfl, h2.1⟩)
        · rw [if_neg h2] at h
          cases hK : (rKd sl f t1).1 with
          | none => rw [hK] at h; cases h
          | some kind =>
            rw [hK] at h
            obtain rfl := Option.some.inj h
            refine Or.inr (Or.inr ⟨rfl, ?_⟩)
            cases f with
            | true =>
              have : (rCk sl t1).1 = some kind := hK
              rcases rCk_v this with h | h
              · exact Or.inl h
              · exact Or.inr (Or.inl h)
            | false =>
              rcases rKd_v hK with h | h | h | h
              · exact Or.inl h
              · exact Or.inr (Or.inr ⟨rfl, Or.inl h⟩)
              · exact Or.inr (Or.inl h)
              · exact Or.inr (Or.inr ⟨rfl, Or.inr h⟩)
theorem rC_t {f : Bool} {k : Nat} (h : t ≤ sl.length) : (rC sl T f k t).2 ≤ sl.length := by
  have h1 := rP_t (sl := sl) (m := cho T f k) (t := t) h
  unfold rC
  cases hP : rP sl (cho T f k) t with
  | mk o t1 =>
    rw [hP] at h1
    cases o with
    | none => exact h1.2
    | some p =>
      simp only
      split
      · exact h1.2
      · split
        · exact h1.2
        · exact (rKd_t (sl := sl) (f := f) (t := t1) h1.2).2
end RB
section MG
variable {d d0 : ax_D} {sl : List Nat} {t n m x : Nat} {T : TT} {es : List Ev} {nm : Nat → Nat} {fl : Nat → Bool} {b : Bool}
theorem sm_takeEvent1 (hs : ms_is d sl) (hr : mr d t false) (ht : t ≤ sl.length) (h : mt_is d 1 T) (hB : BI T) (he : me_is d es) (hl : es.length < 201) (hg : mg_is d 1 0 nm fl false) : ax_E 137 [.ref 540] d (ax_Pv (meQ d es (rEv1 sl T nm fl t))) := by
  show ax_W 137 0 [some (.ref 540), none, none, none, none, none, none] [] d _
  refine wx_aldn j137_0 rfl ?_
  refine wx_get (v := .ref 555) j137_1 rfl (Nat.le_of_ble_eq_true rfl) rfl ?_
  refine wx_icst (v := nI 1) j137_4 (by decide) ?_
  refine wx_ialx (1) j137_5 rfl rfl (by decide) (by decide) ?_
  rw [hg.2.1]
  refine wx_if 18 j137_6 (by decide) (fun c6 => ?_) (fun c6 => ?_)
  · simp only [ax_cn, Classical.not_not] at c6
    exact absurd rfl c6
  · simp only [ax_cn, Classical.not_not] at c6
    refine wx_aldn j137_9 rfl ?_
    refine wx_aldn j137_10 rfl ?_
    refine wx_i0 j137_11 rfl  (Nat.le_of_ble_eq_true rfl) rfl (sm_takeName hs hr ht h hB) ?_
    rintro _ d2 ⟨rfl, r2, h2, f2⟩
    have hBI : ∀ i, (rNa sl T t).1 = some i → BI (rNa sl T t).2.1 ∧ i < ((rNa sl T t).2.1 4 0).length ∧ (T 4 0).length ≤ ((rNa sl T t).2.1 4 0).length := fun i hi => rNa_BI hB hi
    cases hN : rNa sl T t with
    | mk o r =>
    obtain ⟨T1, t1⟩ := r
    rw [hN] at r2 h2 hBI
    cases o with
    | none =>
      have e : rEv1 sl T nm fl t = (none, t1) := by unfold rEv1; rw [hN]
      rw [e]
      simp only [Option.isNone_none] at r2
      refine wx_v1 j137_14 rfl rfl (Nat.le_of_ble_eq_true rfl) rfl (sm_takeOpenB r2) ?_
      rintro d3 ⟨r3, f3⟩
      refine wx_rv j137_17 rfl ?_
      exact ⟨r3, fun q hq => (by cases hq), mre_tr (mre_rq f2) (mre_tk f3)⟩
    | some i =>
      have e : rEv1 sl T nm fl t = rFi sl T1 0 nm fl (i * 8 + 1) t1 := by unfold rEv1; rw [hN]
      rw [e]
      have hb := hBI i rfl
      simp only [Option.isNone_some] at r2
      refine wx_v1 j137_14 rfl rfl (Nat.le_of_ble_eq_true rfl) rfl (sm_takeOpen (sl := sl) r2 (h2 i rfl) hb.1 (me_rf he f2) hl (mg_rf hg f2) rfl hb.2.1 (mre_rq f2)) ?_
      rintro d3 q3
      refine wx_rv j137_17 rfl ?_
      exact q3
theorem sm_takeEvent2 (hs : ms_is d sl) (hr : mr d t false) (ht : t ≤ sl.length) (h : mt_is d 1 T) (hB : BI T) (he : me_is d es) (hl : es.length < 201) (hg : mg_is d 1 (m + 1) nm fl true) (hnm : nm m < (T 4 0).length) : ax_E 137 [.ref 540] d (ax_Pv (meQ d es (rEv2 sl T m nm fl t))) := by
  show ax_W 137 0 [some (.ref 540), none, none, none, none, none, none] [] d _
  have hL := hB.2.2.2.1
  have l4 := lb4 hL
  have hm8 := hg.1
  have tC := rC_t (sl := sl) (T := T) (f := fl m) (k := nm m) ht
  have vC : ∀ q, (rC sl T (fl m) (nm m) t).1 = some q → _ := fun q hq => rC_v hq
  obtain ⟨j, hj⟩ : ∃ j : Nat, (if fl m then 1 else 0) = j := ⟨_, rfl⟩
  obtain ⟨hkj, hj2⟩ := kj_j hj
  refine wx_aldn j137_0 rfl ?_
  refine wx_get (v := .ref 555) j137_1 rfl (Nat.le_of_ble_eq_true rfl) rfl ?_
  refine wx_icst (v := nI 1) j137_4 (by decide) ?_
  refine wx_ialx (1) j137_5 rfl rfl (by decide) (by decide) ?_
  rw [hg.2.1]
  refine wx_if 18 j137_6 (by decide) (fun c6 => ?_) (fun c6 => ?_)
  · simp only [ax_cn, Classical.not_not] at c6
    refine wx_aldn j137_18 rfl ?_
    refine wx_icst (v := nI 1) j137_19 (by decide) ?_
    refine wx_i1 j137_20 rfl rfl (Nat.le_of_ble_eq_true rfl) rfl (sm_rowOf (c := 1) (by decide) hg) ?_
    rintro _ d9 ⟨rfl, h9⟩
    obtain rfl := h9.symm
    refine wx_istn (L' := [_, some (.int _), _, _, _, _, _]) j137_23 (Nat.le_of_ble_eq_true rfl) rfl ?_
    refine wx_aldn j137_24 rfl ?_
    refine wx_ildn j137_25 rfl ?_
    refine wx_i1 j137_26 rfl rfl (Nat.le_of_ble_eq_true rfl) rfl (sm_takeCode hs hr ht h hB hnm) ?_
    rintro y d2 ⟨h2, r2, f2⟩
    rw [hj]
    cases hC : rC sl T (fl m) (nm m) t with
    | mk o t1 =>
    rw [hC] at h2 r2 tC vC
    cases o with
    | none =>
      have e : rEv2 sl T m nm fl t = (none, t1) := by unfold rEv2; rw [rCo_C, hC]
      rw [e]
      simp only [Option.isNone_none] at r2
      refine wx_istn (L' := [_, _, some (.int _), _, _, _, _]) j137_29 (Nat.le_of_ble_eq_true rfl) rfl ?_
      refine wx_aldn j137_30 rfl ?_
      refine wx_get (v := .int _) j137_31 rfl (Nat.le_of_ble_eq_true rfl) rfl ?_
      rw [r2.2]
      refine wx_if 38 j137_34 (by decide) (fun c34 => ?_) (fun c34 => ?_)
      · simp only [ax_cn, Classical.not_not] at c34
        exact absurd c34 (by decide)
      · simp only [ax_cn, Classical.not_not] at c34
        refine wx_rv j137_37 rfl ?_
        exact ⟨r2, fun q hq => (by cases hq), mre_tk f2⟩
    | some q =>
    obtain rfl := h2 q rfl
    have hv := vC q rfl
    simp only [Option.isNone_some] at r2
    obtain ⟨qa, c⟩ := q
    rcases hv with ⟨ha, hm⟩ | ⟨ha, hff⟩ | ⟨ha, hk⟩
    · obtain rfl : qa = 0 := ha
      have hvc : vc T c := CI_row hB.2.2.2.2 (nm m) c hm
      have hcs : (∃ i, c = i * 8 + 1 ∧ i < (T 4 0).length) ∨ (∃ i, c = i * 8 + 2 ∧ i < (T 4 0).length) ∨ c = 3 ∨ c = 4 := by
        rcases hvc with ⟨h8 | h8, hlt⟩ | h8 | h8
        · exact Or.inl ⟨c / 8, by omega, hlt⟩
        · exact Or.inr (Or.inl ⟨c / 8, by omega, hlt⟩)
        · exact Or.inr (Or.inr (Or.inl h8))
        · exact Or.inr (Or.inr (Or.inr h8))
      rcases hcs with ⟨i, rfl, hi⟩ | ⟨i, rfl, hi⟩ | rfl | rfl
      · have e : rEv2 sl T m nm fl t = rFi sl T (m + 1) nm fl (i * 8 + 1) t1 := by unfold rEv2; rw [rCo_C, hC]; rfl
        rw [e, show cv (0, i * 8 + 1) = nI (2 + 2 * i) by rw [← mc_1]; rfl]
        refine wx_istn (L' := [_, _, some (.int _), _, _, _, _]) j137_29 (Nat.le_of_ble_eq_true rfl) rfl ?_
        refine wx_aldn j137_30 rfl ?_
        refine wx_get (v := .int _) j137_31 rfl (Nat.le_of_ble_eq_true rfl) rfl ?_
        rw [r2.2]
        refine wx_if 38 j137_34 (by decide) (fun c34 => ?_) (fun c34 => ?_)
        · simp only [ax_cn, Classical.not_not] at c34
          refine wx_ildn j137_38 rfl ?_
          refine wx_if 48 j137_39 (by decide) (fun c39 => ?_) (fun c39 => ?_)
          · simp only [ax_cn, Classical.not_not] at c39
            exact absurd c39 (nI_ne0 (by omega) (by omega))
          · simp only [ax_cn, Classical.not_not] at c39
            refine wx_ildn j137_42 rfl ?_
            refine wx_bpsh (v := (-9)) j137_43 (by decide) ?_
            refine wx_cmp 52 j137_45 (by decide) (fun c45 => ?_) (fun c45 => ?_)
            · simp only [ax_cn, Classical.not_not] at c45
              refine wx_ildn j137_52 rfl ?_
              refine wx_icst (v := nI 1) j137_53 (by decide) ?_
              refine wx_cmp 61 j137_54 (by decide) (fun c54 => ?_) (fun c54 => ?_)
              · simp only [ax_cn, Classical.not_not] at c54
                refine wx_ildn j137_61 rfl ?_
                refine wx_if 73 j137_62 (by decide) (fun c62 => ?_) (fun c62 => ?_)
                · simp only [ax_cn, Classical.not_not] at c62
                  exact absurd c62 (nI_nle (by omega) (by omega))
                · simp only [ax_cn, Classical.not_not] at c62
                  refine wx_icst (v := nI 2) j137_65 (by decide) ?_
                  refine wx_ildn j137_66 rfl ?_
                  refine wx_icst (v := nI 2) j137_67 (by decide) ?_
                  refine wx_irem j137_68 (by decide) ?_
                  rw [pk_rem (by omega) (by decide) (by decide), show (2 + 2 * i) % 2 = 0 by omega]
                  refine wx_isub j137_69 ?_
                  rw [show nI 2 - nI 0 = nI 2 by decide]
                  refine wx_goto 76 j137_70 (by decide) ?_
                  refine wx_istn (L' := [_, _, _, some (.int _), _, _, _]) j137_76 (Nat.le_of_ble_eq_true rfl) rfl ?_
                  refine wx_ildn j137_77 rfl ?_
                  refine wx_icst (v := nI 1) j137_78 (by decide) ?_
                  refine wx_cmp 90 j137_79 (by decide) (fun c79 => ?_) (fun c79 => ?_)
                  · simp only [ax_cn, Classical.not_not] at c79
                    exact absurd ((nI_leI (by omega) (by decide)).mp c79) (by omega)
                  · simp only [ax_cn, Classical.not_not] at c79
                    refine wx_ildn j137_82 rfl ?_
                    refine wx_icst (v := nI 2) j137_83 (by decide) ?_
                    refine wx_isub j137_84 ?_
                    rw [pk_sub (by omega)]
                    refine wx_icst (v := nI 2) j137_85 (by decide) ?_
                    refine wx_idiv j137_86 (by decide) ?_
                    rw [pk_div (by omega) (by decide) (by decide), show (2 + 2 * i - 2) / 2 = i by omega]
                    refine wx_goto 91 j137_87 (by decide) ?_
                    refine wx_ist (L' := [_, _, _, _, some (.int _), _, _]) j137_91 (Nat.le_of_ble_eq_true rfl) rfl ?_
                    refine wx_ildn j137_93 rfl ?_
                    refine wx_if 121 j137_94 (by decide) (fun c94 => ?_) (fun c94 => ?_)
                    · simp only [ax_cn, Classical.not_not] at c94
                      refine wx_ildn j137_121 rfl ?_
                      refine wx_if 171 j137_122 (by decide) (fun c122 => ?_) (fun c122 => ?_)
                      · simp only [ax_cn, Classical.not_not] at c122
                        exact te_2 r2 (mt_tk h f2) hB (me_tk he f2) hl (mg_tk hg f2) hi (mre_tk f2)
                      · simp only [ax_cn, Classical.not_not] at c122
                        exact absurd (nI_pos' (by omega)) c122
                    · simp only [ax_cn, Classical.not_not] at c94
                      exact absurd (nI_pos' (by omega)) c94
              · simp only [ax_cn, Classical.not_not] at c54
                exact absurd ((nI_eq (by omega) (by decide)).mp c54) (by omega)
            · simp only [ax_cn, Classical.not_not] at c45
              exact absurd (show (0 : Int32) ≤ -9 by rw [← c45]; exact nI_pos' (by omega)) (by decide)
        · simp only [ax_cn, Classical.not_not] at c34
          exact absurd rfl c34
      · have e : rEv2 sl T m nm fl t = rFi sl T (m + 1) nm fl (i * 8 + 2) t1 := by unfold rEv2; rw [rCo_C, hC]; rfl
        rw [e, show cv (0, i * 8 + 2) = nI (3 + 2 * i) by rw [← mc_2]; rfl]
        refine wx_istn (L' := [_, _, some (.int _), _, _, _, _]) j137_29 (Nat.le_of_ble_eq_true rfl) rfl ?_
        refine wx_aldn j137_30 rfl ?_
        refine wx_get (v := .int _) j137_31 rfl (Nat.le_of_ble_eq_true rfl) rfl ?_
        rw [r2.2]
        refine wx_if 38 j137_34 (by decide) (fun c34 => ?_) (fun c34 => ?_)
        · simp only [ax_cn, Classical.not_not] at c34
          refine wx_ildn j137_38 rfl ?_
          refine wx_if 48 j137_39 (by decide) (fun c39 => ?_) (fun c39 => ?_)
          · simp only [ax_cn, Classical.not_not] at c39
            exact absurd c39 (nI_ne0 (by omega) (by omega))
          · simp only [ax_cn, Classical.not_not] at c39
            refine wx_ildn j137_42 rfl ?_
            refine wx_bpsh (v := (-9)) j137_43 (by decide) ?_
            refine wx_cmp 52 j137_45 (by decide) (fun c45 => ?_) (fun c45 => ?_)
            · simp only [ax_cn, Classical.not_not] at c45
              refine wx_ildn j137_52 rfl ?_
              refine wx_icst (v := nI 1) j137_53 (by decide) ?_
              refine wx_cmp 61 j137_54 (by decide) (fun c54 => ?_) (fun c54 => ?_)
              · simp only [ax_cn, Classical.not_not] at c54
                refine wx_ildn j137_61 rfl ?_
                refine wx_if 73 j137_62 (by decide) (fun c62 => ?_) (fun c62 => ?_)
                · simp only [ax_cn, Classical.not_not] at c62
                  exact absurd c62 (nI_nle (by omega) (by omega))
                · simp only [ax_cn, Classical.not_not] at c62
                  refine wx_icst (v := nI 2) j137_65 (by decide) ?_
                  refine wx_ildn j137_66 rfl ?_
                  refine wx_icst (v := nI 2) j137_67 (by decide) ?_
                  refine wx_irem j137_68 (by decide) ?_
                  rw [pk_rem (by omega) (by decide) (by decide), show (3 + 2 * i) % 2 = 1 by omega]
                  refine wx_isub j137_69 ?_
                  rw [show nI 2 - nI 1 = nI 1 by decide]
                  refine wx_goto 76 j137_70 (by decide) ?_
                  refine wx_istn (L' := [_, _, _, some (.int _), _, _, _]) j137_76 (Nat.le_of_ble_eq_true rfl) rfl ?_
                  refine wx_ildn j137_77 rfl ?_
                  refine wx_icst (v := nI 1) j137_78 (by decide) ?_
                  refine wx_cmp 90 j137_79 (by decide) (fun c79 => ?_) (fun c79 => ?_)
                  · simp only [ax_cn, Classical.not_not] at c79
                    exact absurd ((nI_leI (by omega) (by decide)).mp c79) (by omega)
                  · simp only [ax_cn, Classical.not_not] at c79
                    refine wx_ildn j137_82 rfl ?_
                    refine wx_icst (v := nI 2) j137_83 (by decide) ?_
                    refine wx_isub j137_84 ?_
                    rw [pk_sub (by omega)]
                    refine wx_icst (v := nI 2) j137_85 (by decide) ?_
                    refine wx_idiv j137_86 (by decide) ?_
                    rw [pk_div (by omega) (by decide) (by decide), show (3 + 2 * i - 2) / 2 = i by omega]
                    refine wx_goto 91 j137_87 (by decide) ?_
                    refine wx_ist (L' := [_, _, _, _, some (.int _), _, _]) j137_91 (Nat.le_of_ble_eq_true rfl) rfl ?_
                    refine wx_ildn j137_93 rfl ?_
                    refine wx_if 121 j137_94 (by decide) (fun c94 => ?_) (fun c94 => ?_)
                    · simp only [ax_cn, Classical.not_not] at c94
                      refine wx_ildn j137_121 rfl ?_
                      refine wx_if 171 j137_122 (by decide) (fun c122 => ?_) (fun c122 => ?_)
                      · simp only [ax_cn, Classical.not_not] at c122
                        exact te_1 r2 (mt_tk h f2) hB (me_tk he f2) hl (mg_tk hg f2) (ms_tk hs f2) tC hi (mre_tk f2)
                      · simp only [ax_cn, Classical.not_not] at c122
                        exact absurd (nI_pos' (by omega)) c122
                    · simp only [ax_cn, Classical.not_not] at c94
                      exact absurd (nI_pos' (by omega)) c94
              · simp only [ax_cn, Classical.not_not] at c54
                exact absurd ((nI_eq (by omega) (by decide)).mp c54) (by omega)
            · simp only [ax_cn, Classical.not_not] at c45
              exact absurd (show (0 : Int32) ≤ -9 by rw [← c45]; exact nI_pos' (by omega)) (by decide)
        · simp only [ax_cn, Classical.not_not] at c34
          exact absurd rfl c34
      · have e : rEv2 sl T m nm fl t = rFi sl T (m + 1) nm fl 3 t1 := by unfold rEv2; rw [rCo_C, hC]; rfl
        rw [e, show cv (0, 3) = nI 1 by decide]
        refine wx_istn (L' := [_, _, some (.int _), _, _, _, _]) j137_29 (Nat.le_of_ble_eq_true rfl) rfl ?_
        refine wx_aldn j137_30 rfl ?_
        refine wx_get (v := .int _) j137_31 rfl (Nat.le_of_ble_eq_true rfl) rfl ?_
        rw [r2.2]
        refine wx_if 38 j137_34 (by decide) (fun c34 => ?_) (fun c34 => ?_)
        · simp only [ax_cn, Classical.not_not] at c34
          refine wx_ildn j137_38 rfl ?_
          refine wx_if 48 j137_39 (by decide) (fun c39 => ?_) (fun c39 => ?_)
          · simp only [ax_cn, Classical.not_not] at c39
            all_goals first | exact absurd c39 (by decide) | exact absurd (by decide) c39 | exact absurd trivial c39
          · simp only [ax_cn, Classical.not_not] at c39
            refine wx_ildn j137_42 rfl ?_
            refine wx_bpsh (v := (-9)) j137_43 (by decide) ?_
            refine wx_cmp 52 j137_45 (by decide) (fun c45 => ?_) (fun c45 => ?_)
            · simp only [ax_cn, Classical.not_not] at c45
              refine wx_ildn j137_52 rfl ?_
              refine wx_icst (v := nI 1) j137_53 (by decide) ?_
              refine wx_cmp 61 j137_54 (by decide) (fun c54 => ?_) (fun c54 => ?_)
              · simp only [ax_cn, Classical.not_not] at c54
                all_goals first | exact absurd c54 (by decide) | exact absurd (by decide) c54 | exact absurd trivial c54
              · simp only [ax_cn, Classical.not_not] at c54
                refine wx_icst (v := nI 3) j137_57 (by decide) ?_
                refine wx_goto 76 j137_58 (by decide) ?_
                refine wx_istn (L' := [_, _, _, some (.int _), _, _, _]) j137_76 (Nat.le_of_ble_eq_true rfl) rfl ?_
                refine wx_ildn j137_77 rfl ?_
                refine wx_icst (v := nI 1) j137_78 (by decide) ?_
                refine wx_cmp 90 j137_79 (by decide) (fun c79 => ?_) (fun c79 => ?_)
                · simp only [ax_cn, Classical.not_not] at c79
                  refine wx_icst (v := (-1)) j137_90 (by decide) ?_
                  refine wx_ist (L' := [_, _, _, _, some (.int _), _, _]) j137_91 (Nat.le_of_ble_eq_true rfl) rfl ?_
                  refine wx_ildn j137_93 rfl ?_
                  refine wx_if 121 j137_94 (by decide) (fun c94 => ?_) (fun c94 => ?_)
                  · simp only [ax_cn, Classical.not_not] at c94
                    refine wx_ildn j137_121 rfl ?_
                    refine wx_if 171 j137_122 (by decide) (fun c122 => ?_) (fun c122 => ?_)
                    · simp only [ax_cn, Classical.not_not] at c122
                      exact te_3 r2 (mt_tk h f2) hB (me_tk he f2) hl (mg_tk hg f2) (ms_tk hs f2) tC hnm (mre_tk f2)
                    · simp only [ax_cn, Classical.not_not] at c122
                      all_goals first | exact absurd c122 (by decide) | exact absurd (by decide) c122 | exact absurd trivial c122
                  · simp only [ax_cn, Classical.not_not] at c94
                    all_goals first | exact absurd c94 (by decide) | exact absurd (by decide) c94 | exact absurd trivial c94
                · simp only [ax_cn, Classical.not_not] at c79
                  all_goals first | exact absurd c79 (by decide) | exact absurd (by decide) c79 | exact absurd trivial c79
            · simp only [ax_cn, Classical.not_not] at c45
              all_goals first | exact absurd c45 (by decide) | exact absurd (by decide) c45 | exact absurd trivial c45
        · simp only [ax_cn, Classical.not_not] at c34
          exact absurd rfl c34
      · have e : rEv2 sl T m nm fl t = rFi sl T (m + 1) nm fl 4 t1 := by unfold rEv2; rw [rCo_C, hC]; rfl
        rw [e, show cv (0, 4) = nI 0 by decide]
        refine wx_istn (L' := [_, _, some (.int _), _, _, _, _]) j137_29 (Nat.le_of_ble_eq_true rfl) rfl ?_
        refine wx_aldn j137_30 rfl ?_
        refine wx_get (v := .int _) j137_31 rfl (Nat.le_of_ble_eq_true rfl) rfl ?_
        rw [r2.2]
        refine wx_if 38 j137_34 (by decide) (fun c34 => ?_) (fun c34 => ?_)
        · simp only [ax_cn, Classical.not_not] at c34
          refine wx_ildn j137_38 rfl ?_
          refine wx_if 48 j137_39 (by decide) (fun c39 => ?_) (fun c39 => ?_)
          · simp only [ax_cn, Classical.not_not] at c39
            refine wx_icst (v := nI 0) j137_48 (by decide) ?_
            refine wx_goto 76 j137_49 (by decide) ?_
            refine wx_istn (L' := [_, _, _, some (.int _), _, _, _]) j137_76 (Nat.le_of_ble_eq_true rfl) rfl ?_
            refine wx_ildn j137_77 rfl ?_
            refine wx_icst (v := nI 1) j137_78 (by decide) ?_
            refine wx_cmp 90 j137_79 (by decide) (fun c79 => ?_) (fun c79 => ?_)
            · simp only [ax_cn, Classical.not_not] at c79
              refine wx_icst (v := (-1)) j137_90 (by decide) ?_
              refine wx_ist (L' := [_, _, _, _, some (.int _), _, _]) j137_91 (Nat.le_of_ble_eq_true rfl) rfl ?_
              refine wx_ildn j137_93 rfl ?_
              refine wx_if 121 j137_94 (by decide) (fun c94 => ?_) (fun c94 => ?_)
              · simp only [ax_cn, Classical.not_not] at c94
                refine wx_ildn j137_121 rfl ?_
                refine wx_if 171 j137_122 (by decide) (fun c122 => ?_) (fun c122 => ?_)
                · simp only [ax_cn, Classical.not_not] at c122
                  exact te_0 (c := 4) r2 (mt_tk h f2) hB (me_tk he f2) hl (mg_tk hg f2) (by decide) (mre_tk f2)
                · simp only [ax_cn, Classical.not_not] at c122
                  all_goals first | exact absurd c122 (by decide) | exact absurd (by decide) c122 | exact absurd trivial c122
              · simp only [ax_cn, Classical.not_not] at c94
                all_goals first | exact absurd c94 (by decide) | exact absurd (by decide) c94 | exact absurd trivial c94
            · simp only [ax_cn, Classical.not_not] at c79
              all_goals first | exact absurd c79 (by decide) | exact absurd (by decide) c79 | exact absurd trivial c79
          · simp only [ax_cn, Classical.not_not] at c39
            all_goals first | exact absurd c39 (by decide) | exact absurd (by decide) c39 | exact absurd trivial c39
        · simp only [ax_cn, Classical.not_not] at c34
          exact absurd rfl c34
    · cases ha
      have e : rEv2 sl T m nm fl t = rFi sl T (m + 1) nm fl 4 t1 := by unfold rEv2; rw [rCo_C, hC]; rfl
      rw [e, show cv (1, 4) = -9 by decide]
      refine wx_istn (L' := [_, _, some (.int _), _, _, _, _]) j137_29 (Nat.le_of_ble_eq_true rfl) rfl ?_
      refine wx_aldn j137_30 rfl ?_
      refine wx_get (v := .int _) j137_31 rfl (Nat.le_of_ble_eq_true rfl) rfl ?_
      rw [r2.2]
      refine wx_if 38 j137_34 (by decide) (fun c34 => ?_) (fun c34 => ?_)
      · simp only [ax_cn, Classical.not_not] at c34
        refine wx_ildn j137_38 rfl ?_
        refine wx_if 48 j137_39 (by decide) (fun c39 => ?_) (fun c39 => ?_)
        · simp only [ax_cn, Classical.not_not] at c39
          all_goals first | exact absurd c39 (by decide) | exact absurd (by decide) c39 | exact absurd trivial c39
        · simp only [ax_cn, Classical.not_not] at c39
          refine wx_ildn j137_42 rfl ?_
          refine wx_bpsh (v := (-9)) j137_43 (by decide) ?_
          refine wx_cmp 52 j137_45 (by decide) (fun c45 => ?_) (fun c45 => ?_)
          · simp only [ax_cn, Classical.not_not] at c45
            all_goals first | exact absurd c45 (by decide) | exact absurd (by decide) c45 | exact absurd trivial c45
          · simp only [ax_cn, Classical.not_not] at c45
            refine wx_icst (v := nI 0) j137_48 (by decide) ?_
            refine wx_goto 76 j137_49 (by decide) ?_
            refine wx_istn (L' := [_, _, _, some (.int _), _, _, _]) j137_76 (Nat.le_of_ble_eq_true rfl) rfl ?_
            refine wx_ildn j137_77 rfl ?_
            refine wx_icst (v := nI 1) j137_78 (by decide) ?_
            refine wx_cmp 90 j137_79 (by decide) (fun c79 => ?_) (fun c79 => ?_)
            · simp only [ax_cn, Classical.not_not] at c79
              refine wx_icst (v := (-1)) j137_90 (by decide) ?_
              refine wx_ist (L' := [_, _, _, _, some (.int _), _, _]) j137_91 (Nat.le_of_ble_eq_true rfl) rfl ?_
              refine wx_ildn j137_93 rfl ?_
              refine wx_if 121 j137_94 (by decide) (fun c94 => ?_) (fun c94 => ?_)
              · simp only [ax_cn, Classical.not_not] at c94
                all_goals first | exact absurd c94 (by decide) | exact absurd (by decide) c94 | exact absurd trivial c94
              · simp only [ax_cn, Classical.not_not] at c94
                refine wx_ildn j137_97 rfl ?_
                refine wx_icst (v := nI 1) j137_98 (by decide) ?_
                refine wx_cmp 107 j137_99 (by decide) (fun c99 => ?_) (fun c99 => ?_)
                · simp only [ax_cn, Classical.not_not] at c99
                  all_goals first | exact absurd c99 (by decide) | exact absurd (by decide) c99 | exact absurd trivial c99
                · simp only [ax_cn, Classical.not_not] at c99
                  refine wx_ildn j137_102 rfl ?_
                  refine wx_icst (v := nI 2) j137_103 (by decide) ?_
                  refine wx_cmp 121 j137_104 (by decide) (fun c104 => ?_) (fun c104 => ?_)
                  · simp only [ax_cn, Classical.not_not] at c104
                    refine wx_ildn j137_121 rfl ?_
                    refine wx_if 171 j137_122 (by decide) (fun c122 => ?_) (fun c122 => ?_)
                    · simp only [ax_cn, Classical.not_not] at c122
                      all_goals first | exact absurd c122 (by decide) | exact absurd (by decide) c122 | exact absurd trivial c122
                    · simp only [ax_cn, Classical.not_not] at c122
                      refine wx_ildn j137_125 rfl ?_
                      refine wx_bpsh (v := (-9)) j137_126 (by decide) ?_
                      refine wx_cmp 171 j137_128 (by decide) (fun c128 => ?_) (fun c128 => ?_)
                      · simp only [ax_cn, Classical.not_not] at c128
                        exact te_0 (c := 4) r2 (mt_tk h f2) hB (me_tk he f2) hl (mg_tk hg f2) (by decide) (mre_tk f2)
                      · simp only [ax_cn, Classical.not_not] at c128
                        all_goals first | exact absurd c128 (by decide) | exact absurd (by decide) c128 | exact absurd trivial c128
                  · simp only [ax_cn, Classical.not_not] at c104
                    all_goals first | exact absurd c104 (by decide) | exact absurd (by decide) c104 | exact absurd trivial c104
            · simp only [ax_cn, Classical.not_not] at c79
              all_goals first | exact absurd c79 (by decide) | exact absurd (by decide) c79 | exact absurd trivial c79
      · simp only [ax_cn, Classical.not_not] at c34
        exact absurd rfl c34
    · obtain rfl : qa = 2 := ha
      have hks : c = 1 ∨ (c = 2 ∧ fl m = false) ∨ c = 3 ∨ (c = 4 ∧ fl m = false) := by
        rcases hk with h8 | h8 | ⟨hff, h8 | h8⟩
        · exact Or.inl h8
        · exact Or.inr (Or.inr (Or.inl h8))
        · exact Or.inr (Or.inl ⟨h8, hff⟩)
        · exact Or.inr (Or.inr (Or.inr ⟨h8, hff⟩))
      rcases hks with rfl | ⟨rfl, hff⟩ | rfl | ⟨rfl, hff⟩
      · rw [show cv (2, 1) = -3 by decide]
        refine wx_istn (L' := [_, _, some (.int _), _, _, _, _]) j137_29 (Nat.le_of_ble_eq_true rfl) rfl ?_
        refine wx_aldn j137_30 rfl ?_
        refine wx_get (v := .int _) j137_31 rfl (Nat.le_of_ble_eq_true rfl) rfl ?_
        rw [r2.2]
        refine wx_if 38 j137_34 (by decide) (fun c34 => ?_) (fun c34 => ?_)
        · simp only [ax_cn, Classical.not_not] at c34
          refine wx_ildn j137_38 rfl ?_
          refine wx_if 48 j137_39 (by decide) (fun c39 => ?_) (fun c39 => ?_)
          · simp only [ax_cn, Classical.not_not] at c39
            all_goals first | exact absurd c39 (by decide) | exact absurd (by decide) c39 | exact absurd trivial c39
          · simp only [ax_cn, Classical.not_not] at c39
            refine wx_ildn j137_42 rfl ?_
            refine wx_bpsh (v := (-9)) j137_43 (by decide) ?_
            refine wx_cmp 52 j137_45 (by decide) (fun c45 => ?_) (fun c45 => ?_)
            · simp only [ax_cn, Classical.not_not] at c45
              refine wx_ildn j137_52 rfl ?_
              refine wx_icst (v := nI 1) j137_53 (by decide) ?_
              refine wx_cmp 61 j137_54 (by decide) (fun c54 => ?_) (fun c54 => ?_)
              · simp only [ax_cn, Classical.not_not] at c54
                refine wx_ildn j137_61 rfl ?_
                refine wx_if 73 j137_62 (by decide) (fun c62 => ?_) (fun c62 => ?_)
                · simp only [ax_cn, Classical.not_not] at c62
                  refine wx_icst (v := (-1)) j137_73 (by decide) ?_
                  refine wx_ildn j137_74 rfl ?_
                  refine wx_isub j137_75 ?_
                  rw [show (-1 : Int32) - -3 = nI 2 by decide]
                  refine wx_istn (L' := [_, _, _, some (.int _), _, _, _]) j137_76 (Nat.le_of_ble_eq_true rfl) rfl ?_
                  refine wx_ildn j137_77 rfl ?_
                  refine wx_icst (v := nI 1) j137_78 (by decide) ?_
                  refine wx_cmp 90 j137_79 (by decide) (fun c79 => ?_) (fun c79 => ?_)
                  · simp only [ax_cn, Classical.not_not] at c79
                    refine wx_icst (v := (-1)) j137_90 (by decide) ?_
                    refine wx_ist (L' := [_, _, _, _, some (.int _), _, _]) j137_91 (Nat.le_of_ble_eq_true rfl) rfl ?_
                    refine wx_ildn j137_93 rfl ?_
                    refine wx_if 121 j137_94 (by decide) (fun c94 => ?_) (fun c94 => ?_)
                    · simp only [ax_cn, Classical.not_not] at c94
                      all_goals first | exact absurd c94 (by decide) | exact absurd (by decide) c94 | exact absurd trivial c94
                    · simp only [ax_cn, Classical.not_not] at c94
                      refine wx_ildn j137_97 rfl ?_
                      refine wx_icst (v := nI 1) j137_98 (by decide) ?_
                      refine wx_cmp 107 j137_99 (by decide) (fun c99 => ?_) (fun c99 => ?_)
                      · simp only [ax_cn, Classical.not_not] at c99
                        all_goals first | exact absurd c99 (by decide) | exact absurd (by decide) c99 | exact absurd trivial c99
                      · simp only [ax_cn, Classical.not_not] at c99
                        refine wx_ildn j137_102 rfl ?_
                        refine wx_icst (v := nI 2) j137_103 (by decide) ?_
                        refine wx_cmp 121 j137_104 (by decide) (fun c104 => ?_) (fun c104 => ?_)
                        · simp only [ax_cn, Classical.not_not] at c104
                          all_goals first | exact absurd c104 (by decide) | exact absurd (by decide) c104 | exact absurd trivial c104
                        · simp only [ax_cn, Classical.not_not] at c104
                          refine wx_aldn j137_107 rfl ?_
                          refine wx_i0 j137_108 rfl  (Nat.le_of_ble_eq_true rfl) rfl (sm_takeName (ms_tk hs f2) r2 tC (mt_tk h f2) hB) ?_
                          rintro _ d3 ⟨rfl, r3, h3, f3⟩
                          have hBI : ∀ i, (rNa sl T t1).1 = some i → BI (rNa sl T t1).2.1 ∧ i < ((rNa sl T t1).2.1 4 0).length ∧ (T 4 0).length ≤ ((rNa sl T t1).2.1 4 0).length := fun i hi => rNa_BI hB hi
                          have tN := rNa_t (sl := sl) (T := T) (t := t1) tC
                          cases hN : rNa sl T t1 with
                          | mk o r =>
                          obtain ⟨T1, t2⟩ := r
                          rw [hN] at r3 h3 hBI tN
                          cases o with
                          | none =>
                            have e : rEv2 sl T m nm fl t = (none, t2) := by unfold rEv2; rw [rCo_C, hC]; simp only; rw [if_neg (by decide), if_neg (by decide), if_pos (by decide)]; unfold rNc; rw [hN]
                            rw [e]
                            simp only [Option.isNone_none] at r3
                            refine wx_ist (L' := [_, _, _, _, some (.int _), _, _]) j137_111 (Nat.le_of_ble_eq_true rfl) rfl ?_
                            refine wx_aldn j137_113 rfl ?_
                            refine wx_get (v := .int _) j137_114 rfl (Nat.le_of_ble_eq_true rfl) rfl ?_
                            rw [r3.2]
                            refine wx_if 121 j137_117 (by decide) (fun c117 => ?_) (fun c117 => ?_)
                            · simp only [ax_cn, Classical.not_not] at c117
                              exact absurd c117 (by decide)
                            · simp only [ax_cn, Classical.not_not] at c117
                              refine wx_rv j137_120 rfl ?_
                              exact ⟨r3, fun q hq => (by cases hq), mre_tr (mre_tk f2) (mre_rq f3)⟩
                          | some i =>
                            have hb := hBI i rfl
                            simp only [Option.isNone_some] at r3
                            have hb4 := lb4 hb.1.2.2.2.1
                            have hk1 := Nat.lt_of_lt_of_le hnm hb.2.2
                            have hi1 : i < (T1 4 0).length := hb.2.1
                            have e : rEv2 sl T m nm fl t = rFi sl (tln T1 (kj (fl m)) (nm m) (i * 8 + 1)) (m + 1) nm fl (i * 8 + 1) t2 := by unfold rEv2; rw [rCo_C, hC]; simp only; rw [if_neg (by decide), if_neg (by decide), if_pos (by decide)]; unfold rNc; rw [hN]
                            rw [e]
                            have hBl : BI (tln T1 (kj (fl m)) (nm m) (i * 8 + 1)) := BI_ln hb.1 (by have : tB = 14348907 := rfl; omega) (Or.inl ⟨by omega, by rw [show (i * 8 + 1) / 8 = i by omega]; exact hi1⟩) (fun _ => Or.inl (by omega)) hk1
                            refine wx_ist (L' := [_, _, _, _, some (.int _), _, _]) j137_111 (Nat.le_of_ble_eq_true rfl) rfl ?_
                            refine wx_aldn j137_113 rfl ?_
                            refine wx_get (v := .int _) j137_114 rfl (Nat.le_of_ble_eq_true rfl) rfl ?_
                            rw [r3.2]
                            refine wx_if 121 j137_117 (by decide) (fun c117 => ?_) (fun c117 => ?_)
                            · simp only [ax_cn, Classical.not_not] at c117
                              refine wx_ildn j137_121 rfl ?_
                              refine wx_if 171 j137_122 (by decide) (fun c122 => ?_) (fun c122 => ?_)
                              · simp only [ax_cn, Classical.not_not] at c122
                                all_goals first | exact absurd c122 (by decide) | exact absurd (by decide) c122 | exact absurd trivial c122
                              · simp only [ax_cn, Classical.not_not] at c122
                                refine wx_ildn j137_125 rfl ?_
                                refine wx_bpsh (v := (-9)) j137_126 (by decide) ?_
                                refine wx_cmp 171 j137_128 (by decide) (fun c128 => ?_) (fun c128 => ?_)
                                · simp only [ax_cn, Classical.not_not] at c128
                                  all_goals first | exact absurd c128 (by decide) | exact absurd (by decide) c128 | exact absurd trivial c128
                                · simp only [ax_cn, Classical.not_not] at c128
                                  refine wx_aldn j137_131 rfl ?_
                                  refine wx_ildn j137_132 rfl ?_
                                  refine wx_ildn j137_133 rfl ?_
                                  refine wx_if 141 j137_134 (by decide) (fun c134 => ?_) (fun c134 => ?_)
                                  · simp only [ax_cn, Classical.not_not] at c134
                                    refine wx_ildn j137_141 rfl ?_
                                    refine wx_icst (v := nI 3) j137_142 (by decide) ?_
                                    refine wx_cmp 150 j137_143 (by decide) (fun c143 => ?_) (fun c143 => ?_)
                                    · simp only [ax_cn, Classical.not_not] at c143
                                      refine wx_ildn j137_150 rfl ?_
                                      refine wx_icst (v := nI 2) j137_151 (by decide) ?_
                                      refine wx_cmp 163 j137_152 (by decide) (fun c152 => ?_) (fun c152 => ?_)
                                      · simp only [ax_cn, Classical.not_not] at c152
                                        all_goals first | exact absurd c152 (by decide) | exact absurd (by decide) c152 | exact absurd trivial c152
                                      · simp only [ax_cn, Classical.not_not] at c152
                                        refine wx_ild j137_155 rfl ?_
                                        refine wx_t1 j137_157 rfl rfl (Nat.le_of_ble_eq_true rfl) (sm_opening) ?_
                                        rintro _ d9 ⟨rfl, h9⟩
                                        obtain rfl := h9.symm
                                        rw [← mc_1]
                                        refine wx_goto 168 j137_160 (by decide) ?_
                                        refine wx_v2 j137_168 rfl rfl rfl (Nat.le_of_ble_eq_true rfl) rfl (sm_learn (c := 1) (j := j) (by decide) (h3 i rfl) hb.1.2.2.2.1 hk1 hj2 (by rw [← hkj]; exact row_1000 hb.1) (mc_lt (by omega)) (by rw [← hkj]; exact fi_mcT hb.1.2.2.2.2 vc1_1)) ?_
                                        rintro d4 ⟨t4, f4⟩
                                        rw [← hkj] at t4
                                        exact te_2 (mr_mq r3 f4) t4 hBl (me_rf (me_rf (me_tk he f2) f3) (mrf_mq f4)) hl (mg_mq (mg_rf (mg_tk hg f2) f3) f4) (by rw [tln_row (kj_4 (fl m)).symm]; exact hi1) (mre_tr (mre_tk f2) (mre_tr (mre_rq f3) (mre_rq (mrf_mq f4))))
                                    · simp only [ax_cn, Classical.not_not] at c143
                                      all_goals first | exact absurd c143 (by decide) | exact absurd (by decide) c143 | exact absurd trivial c143
                                  · simp only [ax_cn, Classical.not_not] at c134
                                    all_goals first | exact absurd c134 (by decide) | exact absurd (by decide) c134 | exact absurd trivial c134
                            · simp only [ax_cn, Classical.not_not] at c117
                              exact absurd rfl c117
                          
                  · simp only [ax_cn, Classical.not_not] at c79
                    all_goals first | exact absurd c79 (by decide) | exact absurd (by decide) c79 | exact absurd trivial c79
                · simp only [ax_cn, Classical.not_not] at c62
                  all_goals first | exact absurd c62 (by decide) | exact absurd (by decide) c62 | exact absurd trivial c62
              · simp only [ax_cn, Classical.not_not] at c54
                all_goals first | exact absurd c54 (by decide) | exact absurd (by decide) c54 | exact absurd trivial c54
            · simp only [ax_cn, Classical.not_not] at c45
              all_goals first | exact absurd c45 (by decide) | exact absurd (by decide) c45 | exact absurd trivial c45
        · simp only [ax_cn, Classical.not_not] at c34
          exact absurd rfl c34
      · rw [show cv (2, 2) = -2 by decide]
        refine wx_istn (L' := [_, _, some (.int _), _, _, _, _]) j137_29 (Nat.le_of_ble_eq_true rfl) rfl ?_
        refine wx_aldn j137_30 rfl ?_
        refine wx_get (v := .int _) j137_31 rfl (Nat.le_of_ble_eq_true rfl) rfl ?_
        rw [r2.2]
        refine wx_if 38 j137_34 (by decide) (fun c34 => ?_) (fun c34 => ?_)
        · simp only [ax_cn, Classical.not_not] at c34
          refine wx_ildn j137_38 rfl ?_
          refine wx_if 48 j137_39 (by decide) (fun c39 => ?_) (fun c39 => ?_)
          · simp only [ax_cn, Classical.not_not] at c39
            all_goals first | exact absurd c39 (by decide) | exact absurd (by decide) c39 | exact absurd trivial c39
          · simp only [ax_cn, Classical.not_not] at c39
            refine wx_ildn j137_42 rfl ?_
            refine wx_bpsh (v := (-9)) j137_43 (by decide) ?_
            refine wx_cmp 52 j137_45 (by decide) (fun c45 => ?_) (fun c45 => ?_)
            · simp only [ax_cn, Classical.not_not] at c45
              refine wx_ildn j137_52 rfl ?_
              refine wx_icst (v := nI 1) j137_53 (by decide) ?_
              refine wx_cmp 61 j137_54 (by decide) (fun c54 => ?_) (fun c54 => ?_)
              · simp only [ax_cn, Classical.not_not] at c54
                refine wx_ildn j137_61 rfl ?_
                refine wx_if 73 j137_62 (by decide) (fun c62 => ?_) (fun c62 => ?_)
                · simp only [ax_cn, Classical.not_not] at c62
                  refine wx_icst (v := (-1)) j137_73 (by decide) ?_
                  refine wx_ildn j137_74 rfl ?_
                  refine wx_isub j137_75 ?_
                  rw [show (-1 : Int32) - -2 = nI 1 by decide]
                  refine wx_istn (L' := [_, _, _, some (.int _), _, _, _]) j137_76 (Nat.le_of_ble_eq_true rfl) rfl ?_
                  refine wx_ildn j137_77 rfl ?_
                  refine wx_icst (v := nI 1) j137_78 (by decide) ?_
                  refine wx_cmp 90 j137_79 (by decide) (fun c79 => ?_) (fun c79 => ?_)
                  · simp only [ax_cn, Classical.not_not] at c79
                    refine wx_icst (v := (-1)) j137_90 (by decide) ?_
                    refine wx_ist (L' := [_, _, _, _, some (.int _), _, _]) j137_91 (Nat.le_of_ble_eq_true rfl) rfl ?_
                    refine wx_ildn j137_93 rfl ?_
                    refine wx_if 121 j137_94 (by decide) (fun c94 => ?_) (fun c94 => ?_)
                    · simp only [ax_cn, Classical.not_not] at c94
                      all_goals first | exact absurd c94 (by decide) | exact absurd (by decide) c94 | exact absurd trivial c94
                    · simp only [ax_cn, Classical.not_not] at c94
                      refine wx_ildn j137_97 rfl ?_
                      refine wx_icst (v := nI 1) j137_98 (by decide) ?_
                      refine wx_cmp 107 j137_99 (by decide) (fun c99 => ?_) (fun c99 => ?_)
                      · simp only [ax_cn, Classical.not_not] at c99
                        refine wx_aldn j137_107 rfl ?_
                        refine wx_i0 j137_108 rfl  (Nat.le_of_ble_eq_true rfl) rfl (sm_takeName (ms_tk hs f2) r2 tC (mt_tk h f2) hB) ?_
                        rintro _ d3 ⟨rfl, r3, h3, f3⟩
                        have hBI : ∀ i, (rNa sl T t1).1 = some i → BI (rNa sl T t1).2.1 ∧ i < ((rNa sl T t1).2.1 4 0).length ∧ (T 4 0).length ≤ ((rNa sl T t1).2.1 4 0).length := fun i hi => rNa_BI hB hi
                        have tN := rNa_t (sl := sl) (T := T) (t := t1) tC
                        cases hN : rNa sl T t1 with
                        | mk o r =>
                        obtain ⟨T1, t2⟩ := r
                        rw [hN] at r3 h3 hBI tN
                        cases o with
                        | none =>
                          have e : rEv2 sl T m nm fl t = (none, t2) := by unfold rEv2; rw [rCo_C, hC]; simp only; rw [if_neg (by decide), if_neg (by decide), if_pos (by decide)]; unfold rNc; rw [hN]
                          rw [e]
                          simp only [Option.isNone_none] at r3
                          refine wx_ist (L' := [_, _, _, _, some (.int _), _, _]) j137_111 (Nat.le_of_ble_eq_true rfl) rfl ?_
                          refine wx_aldn j137_113 rfl ?_
                          refine wx_get (v := .int _) j137_114 rfl (Nat.le_of_ble_eq_true rfl) rfl ?_
                          rw [r3.2]
                          refine wx_if 121 j137_117 (by decide) (fun c117 => ?_) (fun c117 => ?_)
                          · simp only [ax_cn, Classical.not_not] at c117
                            exact absurd c117 (by decide)
                          · simp only [ax_cn, Classical.not_not] at c117
                            refine wx_rv j137_120 rfl ?_
                            exact ⟨r3, fun q hq => (by cases hq), mre_tr (mre_tk f2) (mre_rq f3)⟩
                        | some i =>
                          have hb := hBI i rfl
                          simp only [Option.isNone_some] at r3
                          have hb4 := lb4 hb.1.2.2.2.1
                          have hk1 := Nat.lt_of_lt_of_le hnm hb.2.2
                          have hi1 : i < (T1 4 0).length := hb.2.1
                          have e : rEv2 sl T m nm fl t = rFi sl (tln T1 (kj (fl m)) (nm m) (i * 8 + 2)) (m + 1) nm fl (i * 8 + 2) t2 := by unfold rEv2; rw [rCo_C, hC]; simp only; rw [if_neg (by decide), if_neg (by decide), if_pos (by decide)]; unfold rNc; rw [hN]
                          rw [e]
                          have hBl : BI (tln T1 (kj (fl m)) (nm m) (i * 8 + 2)) := BI_ln hb.1 (by have : tB = 14348907 := rfl; omega) (Or.inl ⟨by omega, by rw [show (i * 8 + 2) / 8 = i by omega]; exact hi1⟩) (fun q => absurd (q.symm.trans hff) (by decide)) hk1
                          refine wx_ist (L' := [_, _, _, _, some (.int _), _, _]) j137_111 (Nat.le_of_ble_eq_true rfl) rfl ?_
                          refine wx_aldn j137_113 rfl ?_
                          refine wx_get (v := .int _) j137_114 rfl (Nat.le_of_ble_eq_true rfl) rfl ?_
                          rw [r3.2]
                          refine wx_if 121 j137_117 (by decide) (fun c117 => ?_) (fun c117 => ?_)
                          · simp only [ax_cn, Classical.not_not] at c117
                            refine wx_ildn j137_121 rfl ?_
                            refine wx_if 171 j137_122 (by decide) (fun c122 => ?_) (fun c122 => ?_)
                            · simp only [ax_cn, Classical.not_not] at c122
                              all_goals first | exact absurd c122 (by decide) | exact absurd (by decide) c122 | exact absurd trivial c122
                            · simp only [ax_cn, Classical.not_not] at c122
                              refine wx_ildn j137_125 rfl ?_
                              refine wx_bpsh (v := (-9)) j137_126 (by decide) ?_
                              refine wx_cmp 171 j137_128 (by decide) (fun c128 => ?_) (fun c128 => ?_)
                              · simp only [ax_cn, Classical.not_not] at c128
                                all_goals first | exact absurd c128 (by decide) | exact absurd (by decide) c128 | exact absurd trivial c128
                              · simp only [ax_cn, Classical.not_not] at c128
                                refine wx_aldn j137_131 rfl ?_
                                refine wx_ildn j137_132 rfl ?_
                                refine wx_ildn j137_133 rfl ?_
                                refine wx_if 141 j137_134 (by decide) (fun c134 => ?_) (fun c134 => ?_)
                                · simp only [ax_cn, Classical.not_not] at c134
                                  refine wx_ildn j137_141 rfl ?_
                                  refine wx_icst (v := nI 3) j137_142 (by decide) ?_
                                  refine wx_cmp 150 j137_143 (by decide) (fun c143 => ?_) (fun c143 => ?_)
                                  · simp only [ax_cn, Classical.not_not] at c143
                                    refine wx_ildn j137_150 rfl ?_
                                    refine wx_icst (v := nI 2) j137_151 (by decide) ?_
                                    refine wx_cmp 163 j137_152 (by decide) (fun c152 => ?_) (fun c152 => ?_)
                                    · simp only [ax_cn, Classical.not_not] at c152
                                      refine wx_ild j137_163 rfl ?_
                                      refine wx_t1 j137_165 rfl rfl (Nat.le_of_ble_eq_true rfl) (sm_attributing) ?_
                                      rintro _ d9 ⟨rfl, h9⟩
                                      obtain rfl := h9.symm
                                      rw [← mc_2]
                                      refine wx_v2 j137_168 rfl rfl rfl (Nat.le_of_ble_eq_true rfl) rfl (sm_learn (c := 1) (j := j) (by decide) (h3 i rfl) hb.1.2.2.2.1 hk1 hj2 (by rw [← hkj]; exact row_1000 hb.1) (mc_lt (by omega)) (by rw [← hkj]; exact fi_mcT hb.1.2.2.2.2 vc1_2)) ?_
                                      rintro d4 ⟨t4, f4⟩
                                      rw [← hkj] at t4
                                      exact te_1 (mr_mq r3 f4) t4 hBl (me_rf (me_rf (me_tk he f2) f3) (mrf_mq f4)) hl (mg_mq (mg_rf (mg_tk hg f2) f3) f4) (ms_mq (ms_rf (ms_tk hs f2) f3) f4) tN.2 (by rw [tln_row (kj_4 (fl m)).symm]; exact hi1) (mre_tr (mre_tk f2) (mre_tr (mre_rq f3) (mre_rq (mrf_mq f4))))
                                    · simp only [ax_cn, Classical.not_not] at c152
                                      all_goals first | exact absurd c152 (by decide) | exact absurd (by decide) c152 | exact absurd trivial c152
                                  · simp only [ax_cn, Classical.not_not] at c143
                                    all_goals first | exact absurd c143 (by decide) | exact absurd (by decide) c143 | exact absurd trivial c143
                                · simp only [ax_cn, Classical.not_not] at c134
                                  all_goals first | exact absurd c134 (by decide) | exact absurd (by decide) c134 | exact absurd trivial c134
                          · simp only [ax_cn, Classical.not_not] at c117
                            exact absurd rfl c117
                        
                      · simp only [ax_cn, Classical.not_not] at c99
                        all_goals first | exact absurd c99 (by decide) | exact absurd (by decide) c99 | exact absurd trivial c99
                  · simp only [ax_cn, Classical.not_not] at c79
                    all_goals first | exact absurd c79 (by decide) | exact absurd (by decide) c79 | exact absurd trivial c79
                · simp only [ax_cn, Classical.not_not] at c62
                  all_goals first | exact absurd c62 (by decide) | exact absurd (by decide) c62 | exact absurd trivial c62
              · simp only [ax_cn, Classical.not_not] at c54
                all_goals first | exact absurd c54 (by decide) | exact absurd (by decide) c54 | exact absurd trivial c54
            · simp only [ax_cn, Classical.not_not] at c45
              all_goals first | exact absurd c45 (by decide) | exact absurd (by decide) c45 | exact absurd trivial c45
        · simp only [ax_cn, Classical.not_not] at c34
          exact absurd rfl c34
      · have e : rEv2 sl T m nm fl t = rFi sl (tln T (kj (fl m)) (nm m) 3) (m + 1) nm fl 3 t1 := by unfold rEv2; rw [rCo_C, hC]; simp only; rw [if_neg (by decide), if_neg (by decide), if_neg (by decide)]
        rw [e, show cv (2, 3) = -4 by decide]
        have hBl : BI (tln T (kj (fl m)) (nm m) 3) := BI_ln hB (by decide) (Or.inr (by decide)) (fun _ => Or.inr rfl) hnm
        refine wx_istn (L' := [_, _, some (.int _), _, _, _, _]) j137_29 (Nat.le_of_ble_eq_true rfl) rfl ?_
        refine wx_aldn j137_30 rfl ?_
        refine wx_get (v := .int _) j137_31 rfl (Nat.le_of_ble_eq_true rfl) rfl ?_
        rw [r2.2]
        refine wx_if 38 j137_34 (by decide) (fun c34 => ?_) (fun c34 => ?_)
        · simp only [ax_cn, Classical.not_not] at c34
          refine wx_ildn j137_38 rfl ?_
          refine wx_if 48 j137_39 (by decide) (fun c39 => ?_) (fun c39 => ?_)
          · simp only [ax_cn, Classical.not_not] at c39
            all_goals first | exact absurd c39 (by decide) | exact absurd (by decide) c39 | exact absurd trivial c39
          · simp only [ax_cn, Classical.not_not] at c39
            refine wx_ildn j137_42 rfl ?_
            refine wx_bpsh (v := (-9)) j137_43 (by decide) ?_
            refine wx_cmp 52 j137_45 (by decide) (fun c45 => ?_) (fun c45 => ?_)
            · simp only [ax_cn, Classical.not_not] at c45
              refine wx_ildn j137_52 rfl ?_
              refine wx_icst (v := nI 1) j137_53 (by decide) ?_
              refine wx_cmp 61 j137_54 (by decide) (fun c54 => ?_) (fun c54 => ?_)
              · simp only [ax_cn, Classical.not_not] at c54
                refine wx_ildn j137_61 rfl ?_
                refine wx_if 73 j137_62 (by decide) (fun c62 => ?_) (fun c62 => ?_)
                · simp only [ax_cn, Classical.not_not] at c62
                  refine wx_icst (v := (-1)) j137_73 (by decide) ?_
                  refine wx_ildn j137_74 rfl ?_
                  refine wx_isub j137_75 ?_
                  rw [show (-1 : Int32) - -4 = nI 3 by decide]
                  refine wx_istn (L' := [_, _, _, some (.int _), _, _, _]) j137_76 (Nat.le_of_ble_eq_true rfl) rfl ?_
                  refine wx_ildn j137_77 rfl ?_
                  refine wx_icst (v := nI 1) j137_78 (by decide) ?_
                  refine wx_cmp 90 j137_79 (by decide) (fun c79 => ?_) (fun c79 => ?_)
                  · simp only [ax_cn, Classical.not_not] at c79
                    refine wx_icst (v := (-1)) j137_90 (by decide) ?_
                    refine wx_ist (L' := [_, _, _, _, some (.int _), _, _]) j137_91 (Nat.le_of_ble_eq_true rfl) rfl ?_
                    refine wx_ildn j137_93 rfl ?_
                    refine wx_if 121 j137_94 (by decide) (fun c94 => ?_) (fun c94 => ?_)
                    · simp only [ax_cn, Classical.not_not] at c94
                      all_goals first | exact absurd c94 (by decide) | exact absurd (by decide) c94 | exact absurd trivial c94
                    · simp only [ax_cn, Classical.not_not] at c94
                      refine wx_ildn j137_97 rfl ?_
                      refine wx_icst (v := nI 1) j137_98 (by decide) ?_
                      refine wx_cmp 107 j137_99 (by decide) (fun c99 => ?_) (fun c99 => ?_)
                      · simp only [ax_cn, Classical.not_not] at c99
                        all_goals first | exact absurd c99 (by decide) | exact absurd (by decide) c99 | exact absurd trivial c99
                      · simp only [ax_cn, Classical.not_not] at c99
                        refine wx_ildn j137_102 rfl ?_
                        refine wx_icst (v := nI 2) j137_103 (by decide) ?_
                        refine wx_cmp 121 j137_104 (by decide) (fun c104 => ?_) (fun c104 => ?_)
                        · simp only [ax_cn, Classical.not_not] at c104
                          refine wx_ildn j137_121 rfl ?_
                          refine wx_if 171 j137_122 (by decide) (fun c122 => ?_) (fun c122 => ?_)
                          · simp only [ax_cn, Classical.not_not] at c122
                            all_goals first | exact absurd c122 (by decide) | exact absurd (by decide) c122 | exact absurd trivial c122
                          · simp only [ax_cn, Classical.not_not] at c122
                            refine wx_ildn j137_125 rfl ?_
                            refine wx_bpsh (v := (-9)) j137_126 (by decide) ?_
                            refine wx_cmp 171 j137_128 (by decide) (fun c128 => ?_) (fun c128 => ?_)
                            · simp only [ax_cn, Classical.not_not] at c128
                              all_goals first | exact absurd c128 (by decide) | exact absurd (by decide) c128 | exact absurd trivial c128
                            · simp only [ax_cn, Classical.not_not] at c128
                              refine wx_aldn j137_131 rfl ?_
                              refine wx_ildn j137_132 rfl ?_
                              refine wx_ildn j137_133 rfl ?_
                              refine wx_if 141 j137_134 (by decide) (fun c134 => ?_) (fun c134 => ?_)
                              · simp only [ax_cn, Classical.not_not] at c134
                                refine wx_ildn j137_141 rfl ?_
                                refine wx_icst (v := nI 3) j137_142 (by decide) ?_
                                refine wx_cmp 150 j137_143 (by decide) (fun c143 => ?_) (fun c143 => ?_)
                                · simp only [ax_cn, Classical.not_not] at c143
                                  all_goals first | exact absurd c143 (by decide) | exact absurd (by decide) c143 | exact absurd trivial c143
                                · simp only [ax_cn, Classical.not_not] at c143
                                  refine wx_icst (v := nI 1) j137_146 (by decide) ?_
                                  refine wx_goto 168 j137_147 (by decide) ?_
                                  refine wx_v2 j137_168 rfl rfl rfl (Nat.le_of_ble_eq_true rfl) rfl (sm_learn (c := 1) (j := j) (code := 3) (by decide) (mt_tk h f2) hB.2.2.2.1 hnm hj2 (by rw [← hkj]; exact row_1000 hB) (by decide) (by rw [← hkj]; exact fi_mcT hB.2.2.2.2 (Or.inr (Or.inr (Or.inl rfl))))) ?_
                                  rintro d4 ⟨t4, f4⟩
                                  rw [← hkj] at t4
                                  exact te_3 (mr_mq r2 f4) t4 hBl (me_rf (me_tk he f2) (mrf_mq f4)) hl (mg_mq (mg_tk hg f2) f4) (ms_mq (ms_tk hs f2) f4) tC (by rw [tln_row (kj_4 (fl m)).symm]; exact hnm) (mre_tr (mre_tk f2) (mre_rq (mrf_mq f4)))
                              · simp only [ax_cn, Classical.not_not] at c134
                                all_goals first | exact absurd c134 (by decide) | exact absurd (by decide) c134 | exact absurd trivial c134
                        · simp only [ax_cn, Classical.not_not] at c104
                          all_goals first | exact absurd c104 (by decide) | exact absurd (by decide) c104 | exact absurd trivial c104
                  · simp only [ax_cn, Classical.not_not] at c79
                    all_goals first | exact absurd c79 (by decide) | exact absurd (by decide) c79 | exact absurd trivial c79
                · simp only [ax_cn, Classical.not_not] at c62
                  all_goals first | exact absurd c62 (by decide) | exact absurd (by decide) c62 | exact absurd trivial c62
              · simp only [ax_cn, Classical.not_not] at c54
                all_goals first | exact absurd c54 (by decide) | exact absurd (by decide) c54 | exact absurd trivial c54
            · simp only [ax_cn, Classical.not_not] at c45
              all_goals first | exact absurd c45 (by decide) | exact absurd (by decide) c45 | exact absurd trivial c45
        · simp only [ax_cn, Classical.not_not] at c34
          exact absurd rfl c34
      · have e : rEv2 sl T m nm fl t = rFi sl (tln T (kj (fl m)) (nm m) 4) (m + 1) nm fl 4 t1 := by unfold rEv2; rw [rCo_C, hC]; simp only; rw [if_neg (by decide), if_neg (by decide), if_neg (by decide)]
        rw [e, show cv (2, 4) = -1 by decide]
        have hBl : BI (tln T (kj (fl m)) (nm m) 4) := BI_ln hB (by decide) (Or.inr (by decide)) (fun q => absurd (q.symm.trans hff) (by decide)) hnm
        refine wx_istn (L' := [_, _, some (.int _), _, _, _, _]) j137_29 (Nat.le_of_ble_eq_true rfl) rfl ?_
        refine wx_aldn j137_30 rfl ?_
        refine wx_get (v := .int _) j137_31 rfl (Nat.le_of_ble_eq_true rfl) rfl ?_
        rw [r2.2]
        refine wx_if 38 j137_34 (by decide) (fun c34 => ?_) (fun c34 => ?_)
        · simp only [ax_cn, Classical.not_not] at c34
          refine wx_ildn j137_38 rfl ?_
          refine wx_if 48 j137_39 (by decide) (fun c39 => ?_) (fun c39 => ?_)
          · simp only [ax_cn, Classical.not_not] at c39
            all_goals first | exact absurd c39 (by decide) | exact absurd (by decide) c39 | exact absurd trivial c39
          · simp only [ax_cn, Classical.not_not] at c39
            refine wx_ildn j137_42 rfl ?_
            refine wx_bpsh (v := (-9)) j137_43 (by decide) ?_
            refine wx_cmp 52 j137_45 (by decide) (fun c45 => ?_) (fun c45 => ?_)
            · simp only [ax_cn, Classical.not_not] at c45
              refine wx_ildn j137_52 rfl ?_
              refine wx_icst (v := nI 1) j137_53 (by decide) ?_
              refine wx_cmp 61 j137_54 (by decide) (fun c54 => ?_) (fun c54 => ?_)
              · simp only [ax_cn, Classical.not_not] at c54
                refine wx_ildn j137_61 rfl ?_
                refine wx_if 73 j137_62 (by decide) (fun c62 => ?_) (fun c62 => ?_)
                · simp only [ax_cn, Classical.not_not] at c62
                  refine wx_icst (v := (-1)) j137_73 (by decide) ?_
                  refine wx_ildn j137_74 rfl ?_
                  refine wx_isub j137_75 ?_
                  rw [show (-1 : Int32) - -1 = nI 0 by decide]
                  refine wx_istn (L' := [_, _, _, some (.int _), _, _, _]) j137_76 (Nat.le_of_ble_eq_true rfl) rfl ?_
                  refine wx_ildn j137_77 rfl ?_
                  refine wx_icst (v := nI 1) j137_78 (by decide) ?_
                  refine wx_cmp 90 j137_79 (by decide) (fun c79 => ?_) (fun c79 => ?_)
                  · simp only [ax_cn, Classical.not_not] at c79
                    refine wx_icst (v := (-1)) j137_90 (by decide) ?_
                    refine wx_ist (L' := [_, _, _, _, some (.int _), _, _]) j137_91 (Nat.le_of_ble_eq_true rfl) rfl ?_
                    refine wx_ildn j137_93 rfl ?_
                    refine wx_if 121 j137_94 (by decide) (fun c94 => ?_) (fun c94 => ?_)
                    · simp only [ax_cn, Classical.not_not] at c94
                      all_goals first | exact absurd c94 (by decide) | exact absurd (by decide) c94 | exact absurd trivial c94
                    · simp only [ax_cn, Classical.not_not] at c94
                      refine wx_ildn j137_97 rfl ?_
                      refine wx_icst (v := nI 1) j137_98 (by decide) ?_
                      refine wx_cmp 107 j137_99 (by decide) (fun c99 => ?_) (fun c99 => ?_)
                      · simp only [ax_cn, Classical.not_not] at c99
                        all_goals first | exact absurd c99 (by decide) | exact absurd (by decide) c99 | exact absurd trivial c99
                      · simp only [ax_cn, Classical.not_not] at c99
                        refine wx_ildn j137_102 rfl ?_
                        refine wx_icst (v := nI 2) j137_103 (by decide) ?_
                        refine wx_cmp 121 j137_104 (by decide) (fun c104 => ?_) (fun c104 => ?_)
                        · simp only [ax_cn, Classical.not_not] at c104
                          refine wx_ildn j137_121 rfl ?_
                          refine wx_if 171 j137_122 (by decide) (fun c122 => ?_) (fun c122 => ?_)
                          · simp only [ax_cn, Classical.not_not] at c122
                            all_goals first | exact absurd c122 (by decide) | exact absurd (by decide) c122 | exact absurd trivial c122
                          · simp only [ax_cn, Classical.not_not] at c122
                            refine wx_ildn j137_125 rfl ?_
                            refine wx_bpsh (v := (-9)) j137_126 (by decide) ?_
                            refine wx_cmp 171 j137_128 (by decide) (fun c128 => ?_) (fun c128 => ?_)
                            · simp only [ax_cn, Classical.not_not] at c128
                              all_goals first | exact absurd c128 (by decide) | exact absurd (by decide) c128 | exact absurd trivial c128
                            · simp only [ax_cn, Classical.not_not] at c128
                              refine wx_aldn j137_131 rfl ?_
                              refine wx_ildn j137_132 rfl ?_
                              refine wx_ildn j137_133 rfl ?_
                              refine wx_if 141 j137_134 (by decide) (fun c134 => ?_) (fun c134 => ?_)
                              · simp only [ax_cn, Classical.not_not] at c134
                                all_goals first | exact absurd c134 (by decide) | exact absurd (by decide) c134 | exact absurd trivial c134
                              · simp only [ax_cn, Classical.not_not] at c134
                                refine wx_icst (v := nI 0) j137_137 (by decide) ?_
                                refine wx_goto 168 j137_138 (by decide) ?_
                                refine wx_v2 j137_168 rfl rfl rfl (Nat.le_of_ble_eq_true rfl) rfl (sm_learn (c := 1) (j := j) (code := 4) (by decide) (mt_tk h f2) hB.2.2.2.1 hnm hj2 (by rw [← hkj]; exact row_1000 hB) (by decide) (by rw [← hkj]; exact fi_mcT hB.2.2.2.2 (Or.inr (Or.inr (Or.inr rfl))))) ?_
                                rintro d4 ⟨t4, f4⟩
                                rw [← hkj] at t4
                                exact te_0 (c := 4) (mr_mq r2 f4) t4 hBl (me_rf (me_tk he f2) (mrf_mq f4)) hl (mg_mq (mg_tk hg f2) f4) (by decide) (mre_tr (mre_tk f2) (mre_rq (mrf_mq f4)))
                        · simp only [ax_cn, Classical.not_not] at c104
                          all_goals first | exact absurd c104 (by decide) | exact absurd (by decide) c104 | exact absurd trivial c104
                  · simp only [ax_cn, Classical.not_not] at c79
                    all_goals first | exact absurd c79 (by decide) | exact absurd (by decide) c79 | exact absurd trivial c79
                · simp only [ax_cn, Classical.not_not] at c62
                  all_goals first | exact absurd c62 (by decide) | exact absurd (by decide) c62 | exact absurd trivial c62
              · simp only [ax_cn, Classical.not_not] at c54
                all_goals first | exact absurd c54 (by decide) | exact absurd (by decide) c54 | exact absurd trivial c54
            · simp only [ax_cn, Classical.not_not] at c45
              all_goals first | exact absurd c45 (by decide) | exact absurd (by decide) c45 | exact absurd trivial c45
        · simp only [ax_cn, Classical.not_not] at c34
          exact absurd rfl c34
    
  · simp only [ax_cn, Classical.not_not] at c6
    exact absurd c6 (nI_ne0 (by omega) (by omega))
end MG
