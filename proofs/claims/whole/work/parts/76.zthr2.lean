/-! push, bit, flip, cut, event of the class. -/
def oP (sl : List Nat) (b : Nat) : Nat × List Nat := if sl.length < 4000 then (0, sl ++ [b]) else (1, sl)
def oI (n : Nat) (x : Int32) : Nat := if ¬ x < 0 ∧ x < nI n then 0 else 1
def oF (sl : List Nat) (x : Int32) : Nat × List Nat := if ¬ x < 0 ∧ x < nI sl.length then (0, sl.set x.toNatClampNeg (1 - sl.getD x.toNatClampNeg 0)) else (1, sl)
def oK (sl : List Nat) (x : Int32) : Nat × List Nat := if ¬ x < 0 ∧ x ≤ nI sl.length then (0, sl.take x.toNatClampNeg) else (1, sl)
def oE (es : List Ev) (x y : Int32) : Nat := if ¬ x < 0 ∧ x < nI es.length then (if ¬ y < 0 ∧ y < nI 4 then 0 else 2) else 1
section ZS
variable {d : ax_D} {S : WS} {sl : List Nat} {t : Nat} {es : List Ev} {x y z : Int32} {b : Nat}
theorem ix_of {n : Nat} (hn : n < 2 ^ 31) (h1 : ¬ x < 0) (h2 : x < nI n) : ∃ j, j < n ∧ x = nI j := by
  rcases pk_ix x hn with q | q | q
  · exact absurd q h1
  · exact absurd h2 (Int32.not_lt.mpr q)
  · exact q
theorem pb_1 (hb : b < 2) : pb 1 b = [b] := by
  match b, hb with
  | 0, _ => rfl
  | 1, _ => rfl
theorem bt_set {o j a : Nat} (h : bt_is d o sl) (hj : j < sl.length) (ha : a < 2) : bt_is (ax_up d (o + 1) j (nI a)) o (sl.set j a) := by
  refine ⟨by rw [List.length_set]; exact h.1, by rw [List.length_set, ax_up_ne (by omega)]; exact h.2.1, fun i hi => ?_, fun e he => ?_⟩
  · rw [List.length_set] at hi
    rw [List.getD_eq_getElem?_getD]
    by_cases hij : i = j
    · subst hij
      rw [up_at, List.getElem?_set_self hj]
      rfl
    · rw [up_nk hij, List.getElem?_set_ne (Ne.symm hij), ← List.getD_eq_getElem?_getD]
      exact h.2.2.1 i hi
  · rcases List.mem_or_eq_of_mem_set he with q | q
    · exact h.2.2.2 e q
    · rw [q]; exact ha
theorem bt_cut {o j : Nat} (h : bt_is d o sl) (hj : j ≤ sl.length) : bt_is (ax_up d o 1 (nI j)) o (sl.take j) := by
  have hl : (sl.take j).length = j := by rw [List.length_take]; omega
  refine ⟨by rw [hl]; exact Nat.le_trans hj h.1, by rw [hl, up_at], fun i hi => ?_, fun e he => h.2.2.2 e (List.mem_of_mem_take he)⟩
  rw [hl] at hi
  rw [ax_up_ne (by omega), h.2.2.1 i (by omega), List.getD_eq_getElem?_getD, List.getD_eq_getElem?_getD, List.getElem?_take, if_pos hi]
theorem bt_up_fr {o k : Nat} {v : Int32} (ho : o = 517 ∨ o = 518) : bt_fr d (ax_up d o k v) 517 := fun id h1 h2 => ax_up_ne (by omega)
theorem zt_push {l : Launch} (hl : l.stackTraces = false) (h : cC d S sl t es) (hb : b < 2) : zE l zm_push [.ref 512, .int (nI b)] d (zI (oP sl b).1 (fun y => y = nI (oP sl b).2.length) (cX d S (oP sl b).2 t es)) (zO [xIS] (oP sl b).1 (cX d S (oP sl b).2 t es)) := by
  intro D ad ca p e s m args below meth c hK hT hex
  show zx _ 0 0 0 [some (.ref 512), some (.int (nI b))] [] d
  have hl40 := h.2.1.1
  refine zx_aldn hK.1 dX7_push_0 rfl ?_
  refine zx_get (v := .ref _) hK.1 dX7_push_1 (zF7_19 rfl) rfl (Nat.le_of_ble_eq_true rfl) rfl ?_
  refine zx_get (v := .ref _) hK.1 dX7_push_4 (zF7_88 rfl) rfl (Nat.le_of_ble_eq_true rfl) rfl ?_
  refine zx_i0 hK dX7_push_7 (zL7_95 rfl) rfl  (Nat.le_of_ble_eq_true rfl) rfl (sp_bfull (Or.inr rfl) h.2.1) ?_
  rintro _ d9 ⟨rfl, h9⟩
  obtain rfl := h9.symm
  by_cases hlt : sl.length < 4000
  · rw [if_pos hlt]
    have e0 : oP sl b = (0, sl ++ [b]) := by unfold oP; rw [if_pos hlt]
    refine zx_if 23 hK.1 dX7_push_10 (by decide) (fun c10 => ?_) (fun c10 => ?_)
    · simp only [ax_cn, Classical.not_not] at c10
      refine zx_aldn hK.1 dX7_push_23 rfl ?_
      refine zx_get (v := .ref _) hK.1 dX7_push_24 (zF7_19 rfl) rfl (Nat.le_of_ble_eq_true rfl) rfl ?_
      refine zx_get (v := .ref _) hK.1 dX7_push_27 (zF7_88 rfl) rfl (Nat.le_of_ble_eq_true rfl) rfl ?_
      refine zx_ildn hK.1 dX7_push_30 rfl ?_
      match b, hb with
      | 0, hb =>
        refine zx_if 38 hK.1 dX7_push_31 (by decide) (fun c31 => ?_) (fun c31 => ?_)
        · simp only [ax_cn, Classical.not_not] at c31
          refine zx_icst (v := nI 0) hK.1 dX7_push_38 (by decide) ?_
          refine zx_icst (v := nI 1) hK.1 dX7_push_39 (by decide) ?_
          refine zx_v2 hK dX7_push_40 (zL7_100 rfl) rfl rfl rfl (Nat.le_of_ble_eq_true rfl) rfl (sp_append (v := 0) (w := 1) (Or.inr rfl) h.2.1 (by decide) (by decide) (by omega)) ?_
          rintro d9 ⟨m1, f1⟩
          rw [pb_1 (by decide)] at m1
          refine zx_aldn hK.1 dX7_push_43 rfl ?_
          refine zx_get (v := .ref _) hK.1 dX7_push_44 (zF7_19 rfl) rfl (Nat.le_of_ble_eq_true rfl) rfl ?_
          refine zx_get (v := .ref _) hK.1 dX7_push_47 (zF7_88 rfl) rfl (Nat.le_of_ble_eq_true rfl) rfl ?_
          refine zx_get (v := .int _) hK.1 dX7_push_50 (zF7_82 rfl) rfl (Nat.le_of_ble_eq_true rfl) rfl ?_
          rw [m1.2.1]
          refine z7_ri hK.1 dX7_push_53 rfl rfl ?_
          rw [e0]
          exact ⟨_, rfl, rfl, by rw [← m1.2.1], cC_bt h m1 f1, cG_bt f1⟩
        · simp only [ax_cn, Classical.not_not] at c31
          exact absurd rfl c31
      | 1, hb =>
        refine zx_if 38 hK.1 dX7_push_31 (by decide) (fun c31 => ?_) (fun c31 => ?_)
        · simp only [ax_cn, Classical.not_not] at c31
          exact absurd c31 (by decide)
        · simp only [ax_cn, Classical.not_not] at c31
          refine zx_icst (v := nI 1) hK.1 dX7_push_34 (by decide) ?_
          refine zx_goto 39 hK.1 dX7_push_35 (by decide) ?_
          refine zx_icst (v := nI 1) hK.1 dX7_push_39 (by decide) ?_
          refine zx_v2 hK dX7_push_40 (zL7_100 rfl) rfl rfl rfl (Nat.le_of_ble_eq_true rfl) rfl (sp_append (v := 1) (w := 1) (Or.inr rfl) h.2.1 (by decide) (by decide) (by omega)) ?_
          rintro d9 ⟨m1, f1⟩
          rw [pb_1 (by decide)] at m1
          refine zx_aldn hK.1 dX7_push_43 rfl ?_
          refine zx_get (v := .ref _) hK.1 dX7_push_44 (zF7_19 rfl) rfl (Nat.le_of_ble_eq_true rfl) rfl ?_
          refine zx_get (v := .ref _) hK.1 dX7_push_47 (zF7_88 rfl) rfl (Nat.le_of_ble_eq_true rfl) rfl ?_
          refine zx_get (v := .int _) hK.1 dX7_push_50 (zF7_82 rfl) rfl (Nat.le_of_ble_eq_true rfl) rfl ?_
          rw [m1.2.1]
          refine z7_ri hK.1 dX7_push_53 rfl rfl ?_
          rw [e0]
          exact ⟨_, rfl, rfl, by rw [← m1.2.1], cC_bt h m1 f1, cG_bt f1⟩
      
    · simp only [ax_cn, Classical.not_not] at c10
      exact absurd rfl c10
  · rw [if_neg hlt]
    have e0 : oP sl b = (1, sl) := by unfold oP; rw [if_neg hlt]
    refine zx_if 23 hK.1 dX7_push_10 (by decide) (fun c10 => ?_) (fun c10 => ?_)
    · simp only [ax_cn, Classical.not_not] at c10
      exact absurd c10 (by decide)
    · simp only [ax_cn, Classical.not_not] at c10
      refine z7_throw hK.1 rfl hT hl hex zq_45 zk_41 zi_45 zs_98 (by decide +kernel) dX7_push_13 dX7_push_16 dX7_push_17 dX7_push_19 dX7_push_22 rfl ?_
      rw [e0]
      exact ⟨⟨0, rfl, rfl⟩, h, cG_rf⟩
theorem zt_bit {l : Launch} (hl : l.stackTraces = false) (h : cC d S sl t es) : zE l zm_bit [.ref 512, .int x] d (zI (oI sl.length x) (fun y => y = nI (sl.getD x.toNatClampNeg 0)) (cX d S sl t es)) (zO [xIB] (oI sl.length x) (cX d S sl t es)) := by
  intro D ad ca p e s m args below meth c hK hT hex
  show zx _ 0 0 0 [some (.ref 512), some (.int x)] [] d
  have hl40 := h.2.1.1
  refine zx_aldn hK.1 dX7_bit_0 rfl ?_
  refine zx_get (v := .ref _) hK.1 dX7_bit_1 (zF7_19 rfl) rfl (Nat.le_of_ble_eq_true rfl) rfl ?_
  refine zx_get (v := .ref _) hK.1 dX7_bit_4 (zF7_88 rfl) rfl (Nat.le_of_ble_eq_true rfl) rfl ?_
  refine zx_ildn hK.1 dX7_bit_7 rfl ?_
  refine zx_i1 hK dX7_bit_8 (zL7_104 rfl) rfl rfl (Nat.le_of_ble_eq_true rfl) rfl (sp_bhas (Or.inr rfl) h.2.1) ?_
  rintro _ d9 ⟨rfl, h9⟩
  obtain rfl := h9.symm
  by_cases hc : ¬ x < 0 ∧ x < nI sl.length
  · rw [if_pos hc]
    have e0 : oI sl.length x = 0 := by unfold oI; rw [if_pos hc]
    obtain ⟨j, hj, hx⟩ := ix_of (by omega) hc.1 hc.2
    refine zx_if 24 hK.1 dX7_bit_11 (by decide) (fun c11 => ?_) (fun c11 => ?_)
    · simp only [ax_cn, Classical.not_not] at c11
      refine zx_aldn hK.1 dX7_bit_24 rfl ?_
      refine zx_get (v := .ref _) hK.1 dX7_bit_25 (zF7_19 rfl) rfl (Nat.le_of_ble_eq_true rfl) rfl ?_
      refine zx_get (v := .ref _) hK.1 dX7_bit_28 (zF7_88 rfl) rfl (Nat.le_of_ble_eq_true rfl) rfl ?_
      refine zx_get (v := .ref _) hK.1 dX7_bit_31 (zF7_112 rfl) rfl (Nat.le_of_ble_eq_true rfl) rfl ?_
      refine zx_ildn hK.1 dX7_bit_34 rfl ?_
      refine zx_ialx (j) hK.1 dX7_bit_35 rfl hx (by omega) (by decide) ?_
      rw [h.2.1.2.2.1 j hj]
      refine z7_ri hK.1 dX7_bit_36 rfl rfl ?_
      rw [e0, hx, nI_clamp (by omega)]
      exact ⟨_, rfl, rfl, rfl, h, cG_rf⟩
    · simp only [ax_cn, Classical.not_not] at c11
      exact absurd c11 (by decide)
  · rw [if_neg hc]
    have e0 : oI sl.length x = 1 := by unfold oI; rw [if_neg hc]
    refine zx_if 24 hK.1 dX7_bit_11 (by decide) (fun c11 => ?_) (fun c11 => ?_)
    · simp only [ax_cn, Classical.not_not] at c11
      exact absurd rfl c11
    · simp only [ax_cn, Classical.not_not] at c11
      refine z7_throw hK.1 rfl hT hl hex zq_111 zk_107 zi_111 zs_109 (by decide +kernel) dX7_bit_14 dX7_bit_17 dX7_bit_18 dX7_bit_20 dX7_bit_23 rfl ?_
      rw [e0]
      exact ⟨⟨0, rfl, rfl⟩, h, cG_rf⟩
theorem zt_flip {l : Launch} (hl : l.stackTraces = false) (h : cC d S sl t es) : zE l zm_flip [.ref 512, .int x] d (zV (oF sl x).1 (cX d S (oF sl x).2 t es)) (zO [xIB] (oF sl x).1 (cX d S (oF sl x).2 t es)) := by
  intro D ad ca p e s m args below meth c hK hT hex
  show zx _ 0 0 0 [some (.ref 512), some (.int x)] [] d
  have hl40 := h.2.1.1
  refine zx_aldn hK.1 dX7_flip_0 rfl ?_
  refine zx_get (v := .ref _) hK.1 dX7_flip_1 (zF7_19 rfl) rfl (Nat.le_of_ble_eq_true rfl) rfl ?_
  refine zx_get (v := .ref _) hK.1 dX7_flip_4 (zF7_88 rfl) rfl (Nat.le_of_ble_eq_true rfl) rfl ?_
  refine zx_ildn hK.1 dX7_flip_7 rfl ?_
  refine zx_i1 hK dX7_flip_8 (zL7_104 rfl) rfl rfl (Nat.le_of_ble_eq_true rfl) rfl (sp_bhas (Or.inr rfl) h.2.1) ?_
  rintro _ d9 ⟨rfl, h9⟩
  obtain rfl := h9.symm
  by_cases hc : ¬ x < 0 ∧ x < nI sl.length
  · rw [if_pos hc]
    have e0 : oF sl x = (0, sl.set x.toNatClampNeg (1 - sl.getD x.toNatClampNeg 0)) := by unfold oF; rw [if_pos hc]
    obtain ⟨j, hj, hx⟩ := ix_of (by omega) hc.1 hc.2
    have h2 : sl.getD j 0 < 2 := h.2.1.2.2.2 _ (getD_mem hj)
    have e1 : nI 1 - nI (sl.getD j 0) = nI (1 - sl.getD j 0) := by
      match sl.getD j 0, h2 with
      | 0, _ => rfl
      | 1, _ => rfl
    refine zx_if 24 hK.1 dX7_flip_11 (by decide) (fun c11 => ?_) (fun c11 => ?_)
    · simp only [ax_cn, Classical.not_not] at c11
      refine zx_aldn hK.1 dX7_flip_24 rfl ?_
      refine zx_get (v := .ref _) hK.1 dX7_flip_25 (zF7_19 rfl) rfl (Nat.le_of_ble_eq_true rfl) rfl ?_
      refine zx_get (v := .ref _) hK.1 dX7_flip_28 (zF7_88 rfl) rfl (Nat.le_of_ble_eq_true rfl) rfl ?_
      refine zx_get (v := .ref _) hK.1 dX7_flip_31 (zF7_112 rfl) rfl (Nat.le_of_ble_eq_true rfl) rfl ?_
      refine zx_ildn hK.1 dX7_flip_34 rfl ?_
      refine zx_icst (v := nI 1) hK.1 dX7_flip_35 (by decide) ?_
      refine zx_aldn hK.1 dX7_flip_36 rfl ?_
      refine zx_get (v := .ref _) hK.1 dX7_flip_37 (zF7_19 rfl) rfl (Nat.le_of_ble_eq_true rfl) rfl ?_
      refine zx_get (v := .ref _) hK.1 dX7_flip_40 (zF7_88 rfl) rfl (Nat.le_of_ble_eq_true rfl) rfl ?_
      refine zx_get (v := .ref _) hK.1 dX7_flip_43 (zF7_112 rfl) rfl (Nat.le_of_ble_eq_true rfl) rfl ?_
      refine zx_ildn hK.1 dX7_flip_46 rfl ?_
      refine zx_ialx (j) hK.1 dX7_flip_47 rfl hx (by omega) (by decide) ?_
      rw [h.2.1.2.2.1 j hj]
      refine zx_isub hK.1 dX7_flip_48 ?_
      rw [e1]
      refine zx_iasx (j) hK.1 dX7_flip_49 rfl hx (by omega) (by decide) ?_
      refine z7_rv hK.1 dX7_flip_50 rfl ?_
      rw [e0, hx, nI_clamp (by omega)]
      exact ⟨rfl, rfl, cC_bt h (bt_set h.2.1 hj (by omega)) (bt_up_fr (Or.inr rfl)), cG_bt (bt_up_fr (Or.inr rfl))⟩
    · simp only [ax_cn, Classical.not_not] at c11
      exact absurd c11 (by decide)
  · rw [if_neg hc]
    have e0 : oF sl x = (1, sl) := by unfold oF; rw [if_neg hc]
    refine zx_if 24 hK.1 dX7_flip_11 (by decide) (fun c11 => ?_) (fun c11 => ?_)
    · simp only [ax_cn, Classical.not_not] at c11
      exact absurd rfl c11
    · simp only [ax_cn, Classical.not_not] at c11
      refine z7_throw hK.1 rfl hT hl hex zq_111 zk_107 zi_111 zs_109 (by decide +kernel) dX7_flip_14 dX7_flip_17 dX7_flip_18 dX7_flip_20 dX7_flip_23 rfl ?_
      rw [e0]
      exact ⟨⟨0, rfl, rfl⟩, h, cG_rf⟩
theorem zt_cut {l : Launch} (hl : l.stackTraces = false) (h : cC d S sl t es) : zE l zm_cut [.ref 512, .int x] d (zV (oK sl x).1 (cX d S (oK sl x).2 t es)) (zO [xIA] (oK sl x).1 (cX d S (oK sl x).2 t es)) := by
  intro D ad ca p e s m args below meth c hK hT hex
  show zx _ 0 0 0 [some (.ref 512), some (.int x)] [] d
  have hl40 := h.2.1.1
  refine zx_ildn hK.1 dX7_cut_0 rfl ?_
  refine zx_if 18 hK.1 dX7_cut_1 (by decide) (fun c1 => ?_) (fun c1 => ?_)
  · simp only [ax_cn, Classical.not_not] at c1
    have e0 : oK sl x = (1, sl) := by unfold oK; rw [if_neg (fun q => q.1 c1)]
    refine z7_throw hK.1 rfl hT hl hex zq_34 zk_30 zi_34 zs_116 (by decide +kernel) dX7_cut_18 dX7_cut_21 dX7_cut_22 dX7_cut_24 dX7_cut_27 rfl ?_
    rw [e0]
    exact ⟨⟨0, rfl, rfl⟩, h, cG_rf⟩
  · simp only [ax_cn, Classical.not_not] at c1
    refine zx_ildn hK.1 dX7_cut_4 rfl ?_
    refine zx_aldn hK.1 dX7_cut_5 rfl ?_
    refine zx_get (v := .ref _) hK.1 dX7_cut_6 (zF7_19 rfl) rfl (Nat.le_of_ble_eq_true rfl) rfl ?_
    refine zx_get (v := .ref _) hK.1 dX7_cut_9 (zF7_88 rfl) rfl (Nat.le_of_ble_eq_true rfl) rfl ?_
    refine zx_get (v := .int _) hK.1 dX7_cut_12 (zF7_82 rfl) rfl (Nat.le_of_ble_eq_true rfl) rfl ?_
    rw [h.2.1.2.1]
    refine zx_cmp 28 hK.1 dX7_cut_15 (by decide) (fun c15 => ?_) (fun c15 => ?_)
    · simp only [ax_cn, Classical.not_not] at c15
      have e0 : oK sl x = (0, sl.take x.toNatClampNeg) := by unfold oK; rw [if_pos ⟨c1, c15⟩]
      obtain ⟨j, hj, hx⟩ : ∃ j, j < sl.length + 1 ∧ x = nI j := by
        rcases pk_ix x (show sl.length + 1 < 2 ^ 31 by omega) with q | q | q
        · exact absurd q c1
        · exact absurd ((nI_leI (by omega) (by omega)).mp (Int32.le_trans q c15)) (by omega)
        · exact q
      refine zx_aldn hK.1 dX7_cut_28 rfl ?_
      refine zx_get (v := .ref _) hK.1 dX7_cut_29 (zF7_19 rfl) rfl (Nat.le_of_ble_eq_true rfl) rfl ?_
      refine zx_get (v := .ref _) hK.1 dX7_cut_32 (zF7_88 rfl) rfl (Nat.le_of_ble_eq_true rfl) rfl ?_
      refine zx_ildn hK.1 dX7_cut_35 rfl ?_
      refine zx_put hK.1 dX7_cut_36 (zF7_82 rfl) rfl rfl (Nat.le_of_ble_eq_true rfl) rfl rfl rfl ?_
      refine z7_rv hK.1 dX7_cut_39 rfl ?_
      rw [e0, hx, nI_clamp (by omega)]
      exact ⟨rfl, rfl, cC_bt h (bt_cut h.2.1 (by omega)) (bt_up_fr (Or.inl rfl)), cG_bt (bt_up_fr (Or.inl rfl))⟩
    · simp only [ax_cn, Classical.not_not] at c15
      have e0 : oK sl x = (1, sl) := by unfold oK; rw [if_neg (fun q => c15 q.2)]
      refine z7_throw hK.1 rfl hT hl hex zq_34 zk_30 zi_34 zs_116 (by decide +kernel) dX7_cut_18 dX7_cut_21 dX7_cut_22 dX7_cut_24 dX7_cut_27 rfl ?_
      rw [e0]
      exact ⟨⟨0, rfl, rfl⟩, h, cG_rf⟩
theorem zt_event {l : Launch} (hl : l.stackTraces = false) (h : cC d S sl t es) : zE l zm_event [.ref 512, .int x, .int y] d (zI (oE es x y) (fun v => v = nI (evp (es.getD x.toNatClampNeg (0, 0, 0, 0)) y.toNatClampNeg)) (cX d S sl t es)) (zO [xIB, xIA] (oE es x y) (cX d S sl t es)) := by
  intro D ad ca p e s m args below meth c hK hT hex
  show zx _ 0 0 0 [some (.ref 512), some (.int x), some (.int y)] [] d
  have hl2 := h.2.2.2.1
  refine zx_ildn hK.1 dX7_event_0 rfl ?_
  refine zx_if 18 hK.1 dX7_event_1 (by decide) (fun c1 => ?_) (fun c1 => ?_)
  · simp only [ax_cn, Classical.not_not] at c1
    have e0 : oE es x y = 1 := by unfold oE; rw [if_neg (fun q => q.1 c1)]
    refine z7_throw hK.1 rfl hT hl hex zq_111 zk_107 zi_111 zs_140 (by decide +kernel) dX7_event_18 dX7_event_21 dX7_event_22 dX7_event_24 dX7_event_27 rfl ?_
    rw [e0]
    exact ⟨⟨0, rfl, rfl⟩, h, cG_rf⟩
  · simp only [ax_cn, Classical.not_not] at c1
    refine zx_ildn hK.1 dX7_event_4 rfl ?_
    refine zx_aldn hK.1 dX7_event_5 rfl ?_
    refine zx_get (v := .ref _) hK.1 dX7_event_6 (zF7_19 rfl) rfl (Nat.le_of_ble_eq_true rfl) rfl ?_
    refine zx_get (v := .ref _) hK.1 dX7_event_9 (zF7_122 rfl) rfl (Nat.le_of_ble_eq_true rfl) rfl ?_
    refine zx_get (v := .int _) hK.1 dX7_event_12 (zF7_139 rfl) rfl (Nat.le_of_ble_eq_true rfl) rfl ?_
    rw [h.2.2.2.2.1]
    refine zx_cmp 28 hK.1 dX7_event_15 (by decide) (fun c15 => ?_) (fun c15 => ?_)
    · simp only [ax_cn, Classical.not_not] at c15
      refine zx_ildn hK.1 dX7_event_28 rfl ?_
      refine zx_if 37 hK.1 dX7_event_29 (by decide) (fun c29 => ?_) (fun c29 => ?_)
      · simp only [ax_cn, Classical.not_not] at c29
        have e0 : oE es x y = 2 := by unfold oE; rw [if_pos ⟨c1, c15⟩, if_neg (fun q => q.1 c29)]
        refine z7_throw hK.1 rfl hT hl hex zq_34 zk_30 zi_34 zs_142 (by decide +kernel) dX7_event_37 dX7_event_40 dX7_event_41 dX7_event_43 dX7_event_46 rfl ?_
        rw [e0]
        exact ⟨⟨1, rfl, rfl⟩, h, cG_rf⟩
      · simp only [ax_cn, Classical.not_not] at c29
        refine zx_ildn hK.1 dX7_event_32 rfl ?_
        refine zx_icst (v := nI 4) hK.1 dX7_event_33 (by decide) ?_
        refine zx_cmp 47 hK.1 dX7_event_34 (by decide) (fun c34 => ?_) (fun c34 => ?_)
        · simp only [ax_cn, Classical.not_not] at c34
          have e0 : oE es x y = 0 := by unfold oE; rw [if_pos ⟨c1, c15⟩, if_pos ⟨c29, c34⟩]
          obtain ⟨i, hi, hx⟩ := ix_of (by omega) c1 c15
          obtain ⟨k, hk, hy⟩ := ix_of (by decide) c29 c34
          have hP := sp_part h.2.2.2 hi hk
          rw [← hx, ← hy] at hP
          refine zx_aldn hK.1 dX7_event_47 rfl ?_
          refine zx_get (v := .ref _) hK.1 dX7_event_48 (zF7_19 rfl) rfl (Nat.le_of_ble_eq_true rfl) rfl ?_
          refine zx_get (v := .ref _) hK.1 dX7_event_51 (zF7_122 rfl) rfl (Nat.le_of_ble_eq_true rfl) rfl ?_
          refine zx_ildn hK.1 dX7_event_54 rfl ?_
          refine zx_ildn hK.1 dX7_event_55 rfl ?_
          refine zx_i2 hK dX7_event_56 (zL7_144 rfl) rfl rfl rfl (Nat.le_of_ble_eq_true rfl) rfl (hP) ?_
          rintro _ d9 ⟨rfl, h9⟩
          obtain rfl := h9.symm
          refine z7_ri hK.1 dX7_event_59 rfl rfl ?_
          rw [e0, hx, hy, nI_clamp (by omega), nI_clamp (by omega)]
          exact ⟨_, rfl, rfl, rfl, h, cG_rf⟩
        · simp only [ax_cn, Classical.not_not] at c34
          have e0 : oE es x y = 2 := by unfold oE; rw [if_pos ⟨c1, c15⟩, if_neg (fun q => c34 q.2)]
          refine z7_throw hK.1 rfl hT hl hex zq_34 zk_30 zi_34 zs_142 (by decide +kernel) dX7_event_37 dX7_event_40 dX7_event_41 dX7_event_43 dX7_event_46 rfl ?_
          rw [e0]
          exact ⟨⟨1, rfl, rfl⟩, h, cG_rf⟩
    · simp only [ax_cn, Classical.not_not] at c15
      have e0 : oE es x y = 1 := by unfold oE; rw [if_neg (fun q => c15 q.2)]
      refine z7_throw hK.1 rfl hT hl hex zq_111 zk_107 zi_111 zs_140 (by decide +kernel) dX7_event_18 dX7_event_21 dX7_event_22 dX7_event_24 dX7_event_27 rfl ?_
      rw [e0]
      exact ⟨⟨0, rfl, rfl⟩, h, cG_rf⟩
end ZS
