/-! THE REFERENCE: writing numbers, letters, names, values. -/
def mwf (d d1 : ax_D) : Prop := ∀ id i, ¬ (542 ≤ id ∧ id ≤ 554 ∧ i / msz id = 0) → id ≠ 559 → ¬ (id = 540 ∧ i = 19) → d1 id i = d id i
theorem mwf_rf (d : ax_D) : mwf d d := fun _ _ _ _ _ => rfl
theorem mwf_tr {d d1 d2 : ax_D} (h : mwf d d1) (h2 : mwf d1 d2) : mwf d d2 := fun id i a b c => (h2 id i a b c).trans (h id i a b c)
theorem mwf_bf {d d1 : ax_D} (h : mbf d d1) : mwf d d1 := fun id i _ b c => h id i (fun q => q.elim b c)
theorem mwf_mq {d d1 : ax_D} (h : mq d d1 0) : mwf d d1 := fun id i a _ _ => h id i a
theorem mwf_id {d d1 : ax_D} {id : Nat} (h : mwf d d1) (h1 : id < 540 ∨ 554 < id) (h2 : id ≠ 559) : d1 id = d id := funext fun i => h id i (by omega) h2 (by omega)
theorem mg_wf {d d1 : ax_D} {c n : Nat} {nm : Nat → Nat} {fl : Nat → Bool} {b : Bool} (h : mg_is d c n nm fl b) (hf : mwf d d1) : mg_is d1 c n nm fl b := mg_id h (mwf_id hf (by decide) (by decide)) (mwf_id hf (by decide) (by decide)) (mwf_id hf (by decide) (by decide)) (mwf_id hf (by decide) (by decide))
theorem mb_mq {d d1 : ax_D} {c : Nat} {l : List Nat} (h : mb_is d l) (hf : mq d d1 c) : mb_is d1 l := mb_mo h (mq_mo hf)
theorem LB_st {T : TT} {j k : Nat} {l : List Nat} (h : LB T) (hl : l.length ≤ ax_rm j) : LB (tst T j k l) := by
  intro j' hj' k' hk'
  unfold tst
  split
  · rename_i q; rw [q.1]; exact hl
  · exact h j' hj' k' hk'
theorem mt0_lc {d : ax_D} {T : TT} {p : Nat} (h : mt_is d 0 T) (hp : p < 6) : d 544 p = nI (T 1 p).length := by
  have := (h.2.1 p hp).1
  rw [Nat.mul_zero, Nat.zero_add] at this
  exact this
theorem mt0_v {d : ax_D} {T : TT} {k : Nat} (h : mt_is d 0 T) (hk : k < (T 4 0).length) : d 549 k = nI (T 2 k).length ∧ sg d 550 (5 * k) (T 2 k) := by
  have := h.2.2.2.1 k hk
  rw [Nat.mul_zero, Nat.zero_add] at this
  exact this
theorem mt0_a {d : ax_D} {T : TT} (h : mt_is d 0 T) : d 551 0 = nI (T 3 0).length ∧ ∀ i, i < (T 3 0).length → d 552 i = nI ((T 3 0).getD i 0) := by
  have := h.2.2.2.2.1
  refine ⟨this.1, fun i hi => ?_⟩
  have h2 := this.2 i hi
  rw [Nat.mul_zero, Nat.zero_add] at h2
  exact h2
theorem oi_lt {o : Option Nat} (h : ¬ 0 ≤ oi o) (hb : ∀ i, o = some i → i < 2 ^ 31) : o = none := by
  cases o with
  | none => rfl
  | some i => exact absurd (nI_pos' (hb i rfl)) h
theorem oi_ge {o : Option Nat} (h : 0 ≤ oi o) : ∃ q, o = some q := by
  cases o with
  | none => exact absurd h (show ¬ (0 : Int32) ≤ -1 by decide)
  | some q => exact ⟨q, rfl⟩
theorem oi_ltL {o : Option Nat} (h : oi o < 0) (hb : ∀ i, o = some i → i < 2 ^ 31) : o = none := by
  cases o with
  | none => rfl
  | some i => exact absurd h (nI_pos (hb i rfl))
theorem oi_geL {o : Option Nat} (h : ¬ oi o < 0) : ∃ q, o = some q := by
  cases o with
  | none => exact absurd (show (-1 : Int32) < 0 by decide) h
  | some q => exact ⟨q, rfl⟩
theorem oi_s (o : Option Nat) (q : Nat) (h : o = some q) : oi o = nI q := by rw [h]; rfl
theorem oi_n (o : Option Nat) (h : o = none) : oi o = -1 := by rw [h]; rfl
section M6
variable {d : ax_D} {l : List Nat} {T : TT}
theorem pn_and : nI 7 = nI 7 := rfl
theorem and7 {v : Nat} (h : v < 2 ^ 31) : nI v &&& nI 7 = nI (v % 8) := pk_andN (by omega) 3 (by decide)
theorem shr3 {v : Nat} (h : v < 2 ^ 31) : nI v >>> (nI 3 &&& 31) = nI (v / 8) := pk_shrN h _ 3 (by decide)
theorem wd16 : wd 16 = 4 := rfl
theorem mpn_last {v : Nat} {x : Int32} {z : Option Value} {d0 : ax_D} (h : mb_is d l) (hv : v < 8) (hl : l.length + 5 ≤ 4000) (hf : mbf d0 d) : ax_W 104 4 [some (.ref 540), some (.int x), some (.int (nI v)), some (.int (nI 1)), z] [] d (ax_Pv fun d1 => mb_is d1 (l ++ pb 4 v) ∧ mbf d0 d1) := by
  refine wx_ildn j104_4 rfl ?_
  refine wx_if 50 j104_5 (by decide) (fun c5 => ?_) (fun c5 => ?_)
  · simp only [ax_cn, Classical.not_not] at c5
    exact absurd c5 (by decide)
  · simp only [ax_cn, Classical.not_not] at c5
    refine wx_ildn j104_8 rfl ?_
    refine wx_bpsh (v := nI 7) j104_9 (by decide) ?_
    refine wx_iand j104_11 ?_
    rw [and7 (by omega), Nat.mod_eq_of_lt hv]
    refine wx_ist (L' := [_, _, _, _, some (.int _)]) j104_12 (Nat.le_of_ble_eq_true rfl) rfl ?_
    refine wx_ildn j104_14 rfl ?_
    refine wx_icst (v := nI 3) j104_15 (by decide) ?_
    refine wx_ishr j104_16 ?_
    rw [shr3 (by omega), Nat.div_eq_of_lt hv]
    refine wx_istn (L' := [_, _, some (.int _), _, _]) j104_17 (Nat.le_of_ble_eq_true rfl) rfl ?_
    refine wx_ildn j104_18 rfl ?_
    refine wx_if 26 j104_19 (by decide) (fun c19 => ?_) (fun c19 => ?_)
    · simp only [ax_cn, Classical.not_not] at c19
      refine wx_icst (v := nI 0) j104_26 (by decide) ?_
      refine wx_istn (L' := [_, _, _, some (.int _), _]) j104_27 (Nat.le_of_ble_eq_true rfl) rfl ?_
      refine wx_aldn j104_28 rfl ?_
      refine wx_ildn j104_29 rfl ?_
      refine wx_if 38 j104_30 (by decide) (fun c30 => ?_) (fun c30 => ?_)
      · simp only [ax_cn, Classical.not_not] at c30
        refine wx_icst (v := nI 0) j104_38 (by decide) ?_
        refine wx_ild j104_39 rfl ?_
        refine wx_iadd j104_41 ?_
        rw [nI_add, Nat.zero_add]
        refine wx_bpsh (v := nI 16) j104_42 (by decide) ?_
        refine wx_v2 j104_44 rfl rfl rfl (Nat.le_of_ble_eq_true rfl) rfl (sm_putPlace (m := 16) h (by omega) (by decide) hl) ?_
        rintro d2 ⟨h2, f2⟩
        refine wx_goto 4 j104_47 (by decide) ?_
        refine wx_ildn j104_4 rfl ?_
        refine wx_if 50 j104_5 (by decide) (fun c5 => ?_) (fun c5 => ?_)
        · simp only [ax_cn, Classical.not_not] at c5
          refine wx_rv j104_50 rfl ?_
          exact ⟨h2, mbf_tr hf f2⟩
        · simp only [ax_cn, Classical.not_not] at c5
          exact absurd rfl c5
      · simp only [ax_cn, Classical.not_not] at c30
        exact absurd rfl c30
    · simp only [ax_cn, Classical.not_not] at c19
      exact absurd (show nI 0 ≤ 0 by decide) c19
theorem sm_putNumber {v : Nat} (h : mb_is d l) (hv : v < 64) (hl : l.length + 9 ≤ 4000) : ax_E 104 [.ref 540, .int (nI v)] d (ax_Pv fun d1 => mb_is d1 (l ++ nb v) ∧ mbf d d1) := by
  show ax_W 104 0 [some (.ref 540), some (.int (nI v)), none, none, none] [] d _
  refine wx_ildn j104_0 rfl ?_
  refine wx_istn (L' := [_, _, some (.int _), _, _]) j104_1 (Nat.le_of_ble_eq_true rfl) rfl ?_
  refine wx_icst (v := nI 1) j104_2 (by decide) ?_
  refine wx_istn (L' := [_, _, _, some (.int _), _]) j104_3 (Nat.le_of_ble_eq_true rfl) rfl ?_
  by_cases hv8 : v < 8
  · have e : nb v = pb 4 v := by unfold nb; rw [if_pos hv8]
    rw [e]
    exact mpn_last h hv8 (by omega) (mbf_rf d)
  · have e : nb v = pb 4 (8 + v % 8) ++ pb 4 (v / 8) := by unfold nb; rw [if_neg hv8]
    rw [e, ← List.append_assoc]
    refine wx_ildn j104_4 rfl ?_
    refine wx_if 50 j104_5 (by decide) (fun c5 => ?_) (fun c5 => ?_)
    · simp only [ax_cn, Classical.not_not] at c5
      exact absurd c5 (by decide)
    · simp only [ax_cn, Classical.not_not] at c5
      refine wx_ildn j104_8 rfl ?_
      refine wx_bpsh (v := nI 7) j104_9 (by decide) ?_
      refine wx_iand j104_11 ?_
      rw [and7 (by omega)]
      refine wx_ist (L' := [_, _, _, _, some (.int _)]) j104_12 (Nat.le_of_ble_eq_true rfl) rfl ?_
      refine wx_ildn j104_14 rfl ?_
      refine wx_icst (v := nI 3) j104_15 (by decide) ?_
      refine wx_ishr j104_16 ?_
      rw [shr3 (by omega)]
      refine wx_istn (L' := [_, _, some (.int _), _, _]) j104_17 (Nat.le_of_ble_eq_true rfl) rfl ?_
      refine wx_ildn j104_18 rfl ?_
      refine wx_if 26 j104_19 (by decide) (fun c19 => ?_) (fun c19 => ?_)
      · simp only [ax_cn, Classical.not_not] at c19
        exact absurd c19 (nI_nle (by omega) (by omega))
      · simp only [ax_cn, Classical.not_not] at c19
        refine wx_icst (v := nI 1) j104_22 (by decide) ?_
        refine wx_goto 27 j104_23 (by decide) ?_
        refine wx_istn (L' := [_, _, _, some (.int _), _]) j104_27 (Nat.le_of_ble_eq_true rfl) rfl ?_
        refine wx_aldn j104_28 rfl ?_
        refine wx_ildn j104_29 rfl ?_
        refine wx_if 38 j104_30 (by decide) (fun c30 => ?_) (fun c30 => ?_)
        · simp only [ax_cn, Classical.not_not] at c30
          exact absurd c30 (by decide)
        · simp only [ax_cn, Classical.not_not] at c30
          refine wx_bpsh (v := nI 8) j104_33 (by decide) ?_
          refine wx_goto 39 j104_35 (by decide) ?_
          refine wx_ild j104_39 rfl ?_
          refine wx_iadd j104_41 ?_
          rw [nI_add]
          refine wx_bpsh (v := nI 16) j104_42 (by decide) ?_
          refine wx_v2 j104_44 rfl rfl rfl (Nat.le_of_ble_eq_true rfl) rfl (sm_putPlace (m := 16) h (by omega) (by decide) (by omega)) ?_
          rintro d2 ⟨h2, f2⟩
          refine wx_goto 4 j104_47 (by decide) ?_
          exact mpn_last h2 (by omega) (by rw [List.length_append, pb_len]; omega) f2
theorem mpl_loop {x : Int32} : ∀ f t (l : List Nat) (d1 : ax_D), t < 27 ^ f → t < 2 ^ 31 → mb_is d1 l → l.length + 8 * f + 1 ≤ 4000 → mbf d d1 → ax_W 105 2 [some (.ref 540), some (.int x), some (.int (nI t))] [] d1 (ax_Pv fun d2 => mb_is d2 (l ++ ltr f t) ∧ mbf d d2) := by
  intro f
  induction f with
  | zero =>
    intro t l d1 ht h31 h hl hf
    have h0 : t = 0 := by rw [Nat.pow_zero] at ht; omega
    subst h0
    refine wx_ildn j105_2 rfl ?_
    refine wx_if 22 j105_3 (by decide) (fun c3 => ?_) (fun c3 => ?_)
    · simp only [ax_cn, Classical.not_not] at c3
      refine wx_rv j105_22 rfl ?_
      exact ⟨by rw [ltr, List.append_nil]; exact h, hf⟩
    · simp only [ax_cn, Classical.not_not] at c3
      exact absurd (show nI 0 ≤ 0 by decide) c3
  | succ f ih =>
    intro t l d1 ht h31 h hl hf
    refine wx_ildn j105_2 rfl ?_
    refine wx_if 22 j105_3 (by decide) (fun c3 => ?_) (fun c3 => ?_)
    · simp only [ax_cn, Classical.not_not] at c3
      have ht0 : t = 0 := Nat.eq_zero_of_not_pos (fun q => nI_nle q h31 c3)
      refine wx_rv j105_22 rfl ?_
      have e : ltr (f + 1) t = [] := by show (if t = 0 then [] else nb (t % 27) ++ ltr f (t / 27)) = _; rw [if_pos ht0]
      exact ⟨by rw [e, List.append_nil]; exact h, hf⟩
    · simp only [ax_cn, Classical.not_not] at c3
      have ht0 : ¬ t = 0 := fun q => c3 (by rw [q]; decide)
      refine wx_aldn j105_6 rfl ?_
      refine wx_ildn j105_7 rfl ?_
      refine wx_bpsh (v := nI 27) j105_8 (by decide) ?_
      refine wx_irem j105_10 (by decide) ?_
      rw [pk_rem h31 (by decide) (by decide)]
      refine wx_v1 j105_11 rfl rfl (Nat.le_of_ble_eq_true rfl) rfl (sm_putNumber h (by omega) (by omega)) ?_
      rintro d2 ⟨h2, hf2⟩
      refine wx_ildn j105_14 rfl ?_
      refine wx_bpsh (v := nI 27) j105_15 (by decide) ?_
      refine wx_idiv j105_17 (by decide) ?_
      rw [pk_div h31 (by decide) (by decide)]
      refine wx_istn (L' := [_, _, some (.int _)]) j105_18 (Nat.le_of_ble_eq_true rfl) rfl ?_
      refine wx_goto 2 j105_19 (by decide) ?_
      have hnl := nb_len (t % 27)
      have h3 := ih (t / 27) (l ++ nb (t % 27)) d2 (by rw [Nat.pow_succ] at ht; omega) (by omega) h2 (by rw [List.length_append]; omega) (mbf_tr hf hf2)
      have e : ltr (f + 1) t = nb (t % 27) ++ ltr f (t / 27) := by show (if t = 0 then [] else nb (t % 27) ++ ltr f (t / 27)) = _; rw [if_neg ht0]
      rw [e, ← List.append_assoc]
      exact h3
theorem sm_putLetters {t : Nat} (h : mb_is d l) (ht : t < tB) (hl : l.length + 41 ≤ 4000) : ax_E 105 [.ref 540, .int (nI t)] d (ax_Pv fun d1 => mb_is d1 (l ++ lts t) ∧ mbf d d1) := by
  show ax_W 105 0 [some (.ref 540), some (.int (nI t)), none] [] d _
  refine wx_ildn j105_0 rfl ?_
  refine wx_istn (L' := [_, _, some (.int _)]) j105_1 (Nat.le_of_ble_eq_true rfl) rfl ?_
  exact mpl_loop 5 t l d ht (tB_lt ht) h (by omega) (mbf_rf d)
theorem mpn3 {sp lo : Nat} {x3 x4 : Int32} {z : Option Value} {d0 : ax_D} (h : mt_is d 0 T) (hm : mb_is d l) (hL : LB T) (hb : TB T) (h45 : T45 T) (he : ∀ k, (T 4 0).length ≤ k → T 2 k = [] ∧ T 6 k = [] ∧ T 7 k = []) (hsp : sp < tB) (hlo : lo < tB) (hr : fn T sp lo = none → (T 4 0).length < 20) (hf : mwf d0 d) : ax_W 106 106 [some (.ref 540), some (.int (nI sp)), some (.int (nI lo)), some (.int x3), some (.int x4), z] [] d (ax_Pi fun y d1 => y = nI (sFo T sp lo).2 ∧ mt_is d1 0 (sFo T sp lo).1 ∧ mb_is d1 l ∧ mwf d0 d1) := by
  have l4 := lb4 hL
  refine wx_aldn j106_106 rfl ?_
  refine wx_icst (v := nI 0) j106_107 (by decide) ?_
  refine wx_ildn j106_108 rfl ?_
  refine wx_ildn j106_109 rfl ?_
  refine wx_i3 j106_110 rfl rfl rfl rfl (Nat.le_of_ble_eq_true rfl) rfl (sm_findName (c := 0) (by decide) h hL hb h45 hsp hlo) ?_
  rintro _ d9 ⟨rfl, h9⟩
  obtain rfl := h9.symm
  refine wx_ist (L' := [_, _, _, _, _, some (.int _)]) j106_113 (Nat.le_of_ble_eq_true rfl) rfl ?_
  refine wx_ild j106_115 rfl ?_
  refine wx_if 130 j106_117 (by decide) (fun c117 => ?_) (fun c117 => ?_)
  · simp only [ax_cn, Classical.not_not] at c117
    obtain ⟨q, hq⟩ := oi_ge c117
    rw [hq]
    simp only [oi]
    refine wx_ild j106_130 rfl ?_
    refine wx_ri j106_132 rfl rfl ?_
    have e : sFo T sp lo = (T, q) := by unfold sFo; rw [hq]
    rw [e]
    exact ⟨rfl, h, hm, hf⟩
  · simp only [ax_cn, Classical.not_not] at c117
    have hno := oi_lt c117 (fun i hi => by have := (fn_spec hi).1; omega)
    refine wx_aldn j106_120 rfl ?_
    refine wx_icst (v := nI 0) j106_121 (by decide) ?_
    refine wx_ildn j106_122 rfl ?_
    refine wx_ildn j106_123 rfl ?_
    refine wx_i3 j106_124 rfl rfl rfl rfl (Nat.le_of_ble_eq_true rfl) rfl (sm_newName (c := 0) (by decide) h hL h45 (hr hno) (he _ (Nat.le_refl _))) ?_
    rintro _ d2 ⟨rfl, h2, f2⟩
    refine wx_goto 132 j106_127 (by decide) ?_
    refine wx_ri j106_132 rfl rfl ?_
    have e : sFo T sp lo = (tnm T sp lo, (T 4 0).length) := by unfold sFo; rw [hno]
    rw [e]
    exact ⟨rfl, h2, mb_mq hm f2, mwf_tr hf (mwf_mq f2)⟩
theorem mpn2 {sp lo q0 : Nat} {z z5 : Option Value} {d0 : ax_D} (h : mt_is d 0 T) (hm : mb_is d l) (hL : LB T) (hb : TB T) (h45 : T45 T) (he : ∀ k, (T 4 0).length ≤ k → T 2 k = [] ∧ T 6 k = [] ∧ T 7 k = []) (hsp : sp < tB) (hlo : lo < tB) (hq0 : q0 < 6) (hroom : fi (T 1 q0) lo = none → (T 1 q0).length < 10) (hr : fn T sp lo = none → (T 4 0).length < 20) (hl : l.length + 60 ≤ 4000) (hf : mwf d0 d) : ax_W 106 52 [some (.ref 540), some (.int (nI sp)), some (.int (nI lo)), some (.int (nI q0)), z, z5] [] d (ax_Pi fun y d1 => y = nI (sFo (sLo T q0 lo).2 sp lo).2 ∧ mt_is d1 0 (sFo (sLo T q0 lo).2 sp lo).1 ∧ mb_is d1 (l ++ (sLo T q0 lo).1) ∧ mwf d0 d1) := by
  have l1 := lb1 hL hq0
  have hn8 := nb_len (cl lo)
  have hn0 := nb_len 0
  have hc5 := cl_le lo
  refine wx_aldn j106_52 rfl ?_
  refine wx_icst (v := nI 0) j106_53 (by decide) ?_
  refine wx_ildn j106_54 rfl ?_
  refine wx_ildn j106_55 rfl ?_
  refine wx_i3 j106_56 rfl rfl rfl rfl (Nat.le_of_ble_eq_true rfl) rfl (sm_findLocal hq0 (c := 0) (by decide) h hL hb hlo) ?_
  rintro _ d9 ⟨rfl, h9⟩
  obtain rfl := h9.symm
  refine wx_ist (L' := [_, _, _, _, some (.int _), _]) j106_59 (Nat.le_of_ble_eq_true rfl) rfl ?_
  refine wx_ild j106_61 rfl ?_
  refine wx_if 89 j106_63 (by decide) (fun c63 => ?_) (fun c63 => ?_)
  · simp only [ax_cn, Classical.not_not] at c63
    obtain ⟨q, hq⟩ := oi_ge c63
    rw [hq]
    simp only [oi]
    have hq1 := fi_lt hq
    have e : sLo T q0 lo = (nb 0 ++ pb (wd (T 1 q0).length) q, T) := by unfold sLo; rw [hq]
    rw [e]
    refine wx_aldn j106_89 rfl ?_
    refine wx_icst (v := nI 0) j106_90 (by decide) ?_
    refine wx_v1 j106_91 rfl rfl (Nat.le_of_ble_eq_true rfl) rfl (sm_putNumber hm (by decide) (by omega)) ?_
    rintro d1 ⟨b1, f1⟩
    have t1 := mt_bf h f1
    refine wx_aldn j106_94 rfl ?_
    refine wx_ild j106_95 rfl ?_
    refine wx_aldn j106_97 rfl ?_
    refine wx_get (v := .ref 544) j106_98 rfl (Nat.le_of_ble_eq_true rfl) rfl ?_
    refine wx_ildn j106_101 rfl ?_
    refine wx_ialx (q0) j106_102 rfl rfl (by omega) (by decide) ?_
    rw [mt0_lc t1 hq0]
    refine wx_v2 j106_103 rfl rfl rfl (Nat.le_of_ble_eq_true rfl) rfl (sm_putPlace b1 (by omega) (by omega) (by rw [List.length_append]; omega)) ?_
    rintro d2 ⟨b2, f2⟩
    rw [List.append_assoc] at b2
    exact mpn3 (mt_bf t1 f2) b2 hL hb h45 he hsp hlo hr (mwf_tr hf (mwf_tr (mwf_bf f1) (mwf_bf f2)))
  · simp only [ax_cn, Classical.not_not] at c63
    have hno := oi_lt c63 (fun i hi => by have := fi_lt hi; omega)
    have e : sLo T q0 lo = (nb (cl lo) ++ lts lo, tst T 1 q0 (T 1 q0 ++ [lo])) := by unfold sLo; rw [hno]
    rw [e]
    refine wx_aldn j106_66 rfl ?_
    refine wx_ildn j106_67 rfl ?_
    refine wx_t1 j106_68 rfl rfl (Nat.le_of_ble_eq_true rfl) (sm_lettersT hlo) ?_
    rintro _ d9 ⟨rfl, h9⟩
    obtain rfl := h9.symm
    refine wx_v1 j106_71 rfl rfl (Nat.le_of_ble_eq_true rfl) rfl (sm_putNumber hm (by omega) (by omega)) ?_
    rintro d1 ⟨b1, f1⟩
    refine wx_aldn j106_74 rfl ?_
    refine wx_ildn j106_75 rfl ?_
    refine wx_v1 j106_76 rfl rfl (Nat.le_of_ble_eq_true rfl) rfl (sm_putLetters b1 hlo (by rw [List.length_append]; omega)) ?_
    rintro d2 ⟨b2, f2⟩
    have t2 := mt_bf (mt_bf h f1) f2
    refine wx_aldn j106_79 rfl ?_
    refine wx_icst (v := nI 0) j106_80 (by decide) ?_
    refine wx_ildn j106_81 rfl ?_
    refine wx_ildn j106_82 rfl ?_
    refine wx_v3 j106_83 rfl rfl rfl rfl (Nat.le_of_ble_eq_true rfl) rfl (sm_addLocal (c := 0) (by decide) t2 hL hq0 (hroom hno)) ?_
    rintro d3 ⟨t3, f3⟩
    rw [List.append_assoc] at b2
    refine wx_goto 106 j106_86 (by decide) ?_
    refine mpn3 (T := tst T 1 q0 (T 1 q0 ++ [lo])) t3 (mb_mq b2 f3) (LB_st hL (by rw [List.length_append]; exact hroom hno)) (TB_st hb (mem_app1 (hb 1 q0) hlo)) (T45_st h45 (by decide) (by decide)) ?_ hsp hlo ?_ (mwf_tr hf (mwf_tr (mwf_tr (mwf_bf f1) (mwf_bf f2)) (mwf_mq f3)))
    · intro k hk
      rw [tst_ne (Or.inl (by decide))] at hk
      rw [tst_ne (Or.inl (by decide)), tst_ne (Or.inl (by decide)), tst_ne (Or.inl (by decide))]
      exact he k hk
    · rw [tst_ne (Or.inl (by decide)), fn_congr (T := T) (by rw [tst_ne (Or.inl (by decide))]) (by rw [tst_ne (Or.inl (by decide))])]
      exact hr
theorem sm_putName {sp lo : Nat} (h : mt_is d 0 T) (hm : mb_is d l) (hL : LB T) (hi : NI T) (hsp : sp < tB) (hlo : lo < tB) (hr : rm3 T sp lo) (hl : l.length + 120 ≤ 4000) : ax_E 106 [.ref 540, .int (nI sp), .int (nI lo)] d (ax_Pi fun y d1 => y = nI (sNa T sp lo).2.2 ∧ mt_is d1 0 (sNa T sp lo).2.1 ∧ mb_is d1 (l ++ (sNa T sp lo).1) ∧ mwf d d1) := by
  show ax_W 106 0 [some (.ref 540), some (.int (nI sp)), some (.int (nI lo)), none, none, none] [] d _
  obtain ⟨hb, h45, he1, -, -, he⟩ := hi
  obtain ⟨hr1, hr2, hr3⟩ := hr
  have l0 := lb0 hL
  have hn8 := nb_len (cl sp)
  have hc5 := cl_le sp
  have hle := lts_len sp
  unfold sNa
  refine wx_aldn j106_0 rfl ?_
  refine wx_icst (v := nI 0) j106_1 (by decide) ?_
  refine wx_ildn j106_2 rfl ?_
  refine wx_i2 j106_3 rfl rfl rfl (Nat.le_of_ble_eq_true rfl) rfl (sm_findSpace (c := 0) (by decide) h hL hb hsp) ?_
  rintro _ d9 ⟨rfl, h9⟩
  obtain rfl := h9.symm
  cases hq : fi (T 0 0) sp with
  | some q =>
    have hq1 := fi_lt hq
    have e : sSp T sp = (pb (wd ((T 0 0).length + 1)) (q + 1), T, q) := by unfold sSp; rw [hq]
    rw [e] at hr2 ⊢
    simp only [oi]
    refine wx_istn (L' := [_, _, _, some (.int _), _, _]) j106_6 (Nat.le_of_ble_eq_true rfl) rfl ?_
    refine wx_aldn j106_7 rfl ?_
    refine wx_ildn j106_8 rfl ?_
    refine wx_icst (v := nI 1) j106_9 (by decide) ?_
    refine wx_iadd j106_10 ?_
    rw [nI_add]
    refine wx_aldn j106_11 rfl ?_
    refine wx_get (v := .ref 542) j106_12 rfl (Nat.le_of_ble_eq_true rfl) rfl ?_
    refine wx_icst (v := nI 0) j106_15 (by decide) ?_
    refine wx_ialx (0) j106_16 rfl rfl (by decide) (by decide) ?_
    rw [h.1.1]
    refine wx_icst (v := nI 1) j106_17 (by decide) ?_
    refine wx_iadd j106_18 ?_
    rw [nI_add]
    refine wx_v2 j106_19 rfl rfl rfl (Nat.le_of_ble_eq_true rfl) rfl (sm_putPlace hm (by omega) (by omega) (by omega)) ?_
    rintro d1 ⟨b1, f1⟩
    have hp5 := pb_l5 ((T 0 0).length + 1) (q + 1)
    refine wx_ildn j106_22 rfl ?_
    refine wx_if 52 j106_23 (by decide) (fun c23 => ?_) (fun c23 => ?_)
    · simp only [ax_cn, Classical.not_not] at c23
      refine ax_W_mono (mpn2 (mt_bf h f1) b1 hL hb h45 he hsp hlo (by omega) hr2 hr3 (by rw [List.length_append]; omega) (mwf_bf f1)) ?_
      rintro o d2 ⟨y, e1, e2, e3, e4, e5⟩
      exact ⟨y, e1, e2, e3, by rw [List.append_assoc] at e4; exact e4, e5⟩
    · simp only [ax_cn, Classical.not_not] at c23
      exact absurd (nI_pos' (by omega)) c23
  | none =>
    have e : sSp T sp = (pb (wd ((T 0 0).length + 1)) 0 ++ (nb (cl sp) ++ lts sp), tst T 0 0 (T 0 0 ++ [sp]), (T 0 0).length) := by unfold sSp; rw [hq]
    rw [e] at hr2 ⊢
    simp only [oi]
    refine wx_istn (L' := [_, _, _, some (.int _), _, _]) j106_6 (Nat.le_of_ble_eq_true rfl) rfl ?_
    refine wx_aldn j106_7 rfl ?_
    refine wx_ildn j106_8 rfl ?_
    refine wx_icst (v := nI 1) j106_9 (by decide) ?_
    refine wx_iadd j106_10 ?_
    rw [show (-1 : Int32) + nI 1 = nI 0 by decide]
    refine wx_aldn j106_11 rfl ?_
    refine wx_get (v := .ref 542) j106_12 rfl (Nat.le_of_ble_eq_true rfl) rfl ?_
    refine wx_icst (v := nI 0) j106_15 (by decide) ?_
    refine wx_ialx (0) j106_16 rfl rfl (by decide) (by decide) ?_
    rw [h.1.1]
    refine wx_icst (v := nI 1) j106_17 (by decide) ?_
    refine wx_iadd j106_18 ?_
    rw [nI_add]
    refine wx_v2 j106_19 rfl rfl rfl (Nat.le_of_ble_eq_true rfl) rfl (sm_putPlace hm (by decide) (by omega) (by omega)) ?_
    rintro d1 ⟨b1, f1⟩
    have hp5 := pb_l5 ((T 0 0).length + 1) 0
    refine wx_ildn j106_22 rfl ?_
    refine wx_if 52 j106_23 (by decide) (fun c23 => ?_) (fun c23 => ?_)
    · simp only [ax_cn, Classical.not_not] at c23
      exact absurd c23 (by decide)
    · simp only [ax_cn, Classical.not_not] at c23
      refine wx_aldn j106_26 rfl ?_
      refine wx_ildn j106_27 rfl ?_
      refine wx_t1 j106_28 rfl rfl (Nat.le_of_ble_eq_true rfl) (sm_lettersT hsp) ?_
      rintro _ d9 ⟨rfl, h9⟩
      obtain rfl := h9.symm
      refine wx_v1 j106_31 rfl rfl (Nat.le_of_ble_eq_true rfl) rfl (sm_putNumber b1 (by omega) (by rw [List.length_append]; omega)) ?_
      rintro d2 ⟨b2, f2⟩
      refine wx_aldn j106_34 rfl ?_
      refine wx_ildn j106_35 rfl ?_
      refine wx_v1 j106_36 rfl rfl (Nat.le_of_ble_eq_true rfl) rfl (sm_putLetters b2 hsp (by rw [List.length_append, List.length_append]; omega)) ?_
      rintro d3 ⟨b3, f3⟩
      have t3 := mt_bf (mt_bf (mt_bf h f1) f2) f3
      refine wx_aldn j106_39 rfl ?_
      refine wx_get (v := .ref 542) j106_40 rfl (Nat.le_of_ble_eq_true rfl) rfl ?_
      refine wx_icst (v := nI 0) j106_43 (by decide) ?_
      refine wx_ialx (0) j106_44 rfl rfl (by decide) (by decide) ?_
      rw [t3.1.1]
      refine wx_istn (L' := [_, _, _, some (.int _), _, _]) j106_45 (Nat.le_of_ble_eq_true rfl) rfl ?_
      refine wx_aldn j106_46 rfl ?_
      refine wx_icst (v := nI 0) j106_47 (by decide) ?_
      refine wx_ildn j106_48 rfl ?_
      refine wx_v2 j106_49 rfl rfl rfl (Nat.le_of_ble_eq_true rfl) rfl (sm_addSpace (c := 0) (by decide) t3 hL (hr1 hq) (he1 _ (Nat.le_refl _))) ?_
      rintro d4 ⟨t4, f4⟩
      rw [List.append_assoc, List.append_assoc] at b3
      have he2 : ∀ k, (tst T 0 0 (T 0 0 ++ [sp]) 4 0).length ≤ k → tst T 0 0 (T 0 0 ++ [sp]) 2 k = [] ∧ tst T 0 0 (T 0 0 ++ [sp]) 6 k = [] ∧ tst T 0 0 (T 0 0 ++ [sp]) 7 k = [] := by
        intro k hk
        rw [tst_ne (Or.inl (by decide))] at hk
        rw [tst_ne (Or.inl (by decide)), tst_ne (Or.inl (by decide)), tst_ne (Or.inl (by decide))]
        exact he k hk
      have hr5 : fn (tst T 0 0 (T 0 0 ++ [sp])) sp lo = none → (tst T 0 0 (T 0 0 ++ [sp]) 4 0).length < 20 := by
        rw [tst_ne (Or.inl (by decide)), fn_congr (T := T) (by rw [tst_ne (Or.inl (by decide))]) (by rw [tst_ne (Or.inl (by decide))])]
        exact hr3
      have h06 := hr1 hq
      refine ax_W_mono (mpn2 t4 (mb_mq b3 f4) (LB_st hL (by rw [List.length_append]; exact h06)) (TB_st hb (mem_app1 (hb 0 0) hsp)) (T45_st h45 (by decide) (by decide)) he2 hsp hlo h06 hr2 hr5 (by rw [List.length_append, List.length_append, List.length_append]; omega) (mwf_tr (mwf_tr (mwf_tr (mwf_bf f1) (mwf_bf f2)) (mwf_bf f3)) (mwf_mq f4))) ?_
      rintro o d5 ⟨y, e1, e2, e3, e4, e5⟩
      exact ⟨y, e1, e2, e3, by rw [List.append_assoc] at e4; exact e4, e5⟩
end M6
