/-! read and again of the class. -/
section ZQ
variable {sl : List Nat}
theorem step_OK {T : TT} {n : Nat} {nm : Nat → Nat} {fl : Nat → Bool} {b : Bool} {t : Nat} (hB : BI T) (hnm : ∀ i, i < n → nm i < (T 4 0).length) (ht : t ≤ sl.length) (h : (b = false ∧ n = 0) ∨ (b = true ∧ 0 < n)) : rOK sl n fl b (rStep sl T n nm fl b t) := by
  rcases h with ⟨hb, hn⟩ | ⟨hb, hn⟩
  · subst hb; subst hn; exact rEv1_OK hB ht
  · subst hb
    obtain ⟨m, rfl⟩ : ∃ m, n = m + 1 := ⟨n - 1, by omega⟩
    exact rEv2_OK hB hnm ht
theorem rAll_s {T : TT} {n g : Nat} {nm : Nat → Nat} {fl : Nat → Bool} {b : Bool} {t : Nat} {es : List Ev} : rAll sl (g + 1) T n nm fl b t es = (match (rStep sl T n nm fl b t).1 with
      | none => (1, [], (rStep sl T n nm fl b t).2)
      | some q => if q.2.1 = 0 ∧ es.length < 200 then (0, es ++ [q.2.2.2.2], (rStep sl T n nm fl b t).2) else rAll sl g q.1 q.2.1 q.2.2.1 q.2.2.2.1 true (rStep sl T n nm fl b t).2 (es ++ [q.2.2.2.2])) := rfl
/-- what a reading gives -/
def RG (sl : List Nat) (r : Nat × List Ev × Nat) : Prop := ELg 0 (fun _ => false) false r.2.1 ∧ r.2.1.length ≤ 200 ∧ r.2.2 ≤ sl.length ∧ (r.1 = 0 ∨ r.1 = 1 ∨ r.1 = 2)
theorem rAll_G : ∀ g (T : TT) n nm fl b t (es : List Ev), BI T → (∀ i, i < n → nm i < (T 4 0).length) → t ≤ sl.length → (0 < g → (b = false ∧ n = 0) ∨ (b = true ∧ 0 < n)) → ELg 0 (fun _ => false) false es → shR 0 (fun _ => false) false es = (n, fl, b) → es.length + g = 201 → RG sl (rAll sl g T n nm fl b t es) := by
  intro g
  induction g with
  | zero =>
    intro T n nm fl b t es hB hnm ht hbn hE hs hl
    exact ⟨trivial, Nat.zero_le _, ht, Or.inr (Or.inr rfl)⟩
  | succ g ih =>
    intro T n nm fl b t es hB hnm ht hbn hE hs hl
    have hOK : rOK sl n fl b (rStep sl T n nm fl b t) := step_OK hB hnm ht (hbn (Nat.succ_pos g))
    rw [rAll_s]
    generalize rStep sl T n nm fl b t = r at *
    obtain ⟨o, t1⟩ := r
    have ht1 : t1 ≤ sl.length := hOK.1
    cases o with
    | none => exact ⟨trivial, Nat.zero_le _, ht1, Or.inr (Or.inl rfl)⟩
    | some q =>
      obtain ⟨b1, b2, b3, b4, b5⟩ := hOK.2 q rfl
      have hE2 : ELg 0 (fun _ => false) false (es ++ [q.2.2.2.2]) := ELg_app es _ _ _ _ hE (by rw [hs]; exact b4) b3
      have hs2 : shR 0 (fun _ => false) false (es ++ [q.2.2.2.2]) = (q.2.1, q.2.2.2.1, true) := by
        rw [shR_app, hs]
        have b6 : shk q.2.2.2.2.1 n fl = (q.2.1, q.2.2.2.1) := b5.symm
        show ((shk q.2.2.2.2.1 n fl).1, (shk q.2.2.2.2.1 n fl).2, true) = _
        rw [b6]
      show RG sl (if q.2.1 = 0 ∧ es.length < 200 then (0, es ++ [q.2.2.2.2], t1) else rAll sl g q.1 q.2.1 q.2.2.1 q.2.2.2.1 true t1 (es ++ [q.2.2.2.2]))
      by_cases hq : q.2.1 = 0 ∧ es.length < 200
      · rw [if_pos hq]
        exact ⟨hE2, by show (es ++ [q.2.2.2.2]).length ≤ 200; rw [List.length_append]; exact hq.2, ht1, Or.inl rfl⟩
      · rw [if_neg hq]
        refine ih q.1 q.2.1 q.2.2.1 q.2.2.2.1 true t1 (es ++ [q.2.2.2.2]) b1 b2 ht1 (fun hg0 => Or.inr ⟨rfl, ?_⟩) hE2 hs2 (by rw [List.length_append]; show es.length + 1 + g = 201; omega)
        have : ¬ q.2.1 = 0 := fun z => hq ⟨z, by omega⟩
        omega
theorem rD_G : RG sl (rD sl) := rAll_G 201 t00 0 _ _ false 0 [] BI_00 (fun i hi => absurd hi (Nat.not_lt_zero i)) (Nat.zero_le _) (fun _ => Or.inl ⟨rfl, rfl⟩) trivial rfl rfl
theorem ELg_ev : ∀ (es : List Ev) n fl b, ELg n fl b es → ∀ e, e ∈ es → EVk e
  | [], _, _, _, _, e, he => by cases he
  | x :: es, n, fl, b, h, e, he => by
    rcases List.mem_cons.mp he with rfl | he
    · exact h.2.1
    · exact ELg_ev es _ _ _ h.2.2 e he
theorem wEv_sh {S : WS} {k sp lo v : Nat} (hI : WI S) (hL : wL S k = true) (hk : k = 1 ∨ k = 2 ∨ k = 3 ∨ k = 4) : (wEv S k sp lo v).2.1 = (shk k S.2.1 S.2.2.2.1).1 ∧ (wEv S k sp lo v).2.2.2.1 = (shk k S.2.1 S.2.2.2.1).2 ∧ (wEv S k sp lo v).2.2.2.2.1 = true := by
  obtain ⟨T, n, nm, fl, b, l⟩ := S
  obtain ⟨hB, hN, hnm, hb⟩ := hI
  match n, hL, hnm, hb with
  | 0, hL, hnm, hb =>
    rcases hk with rfl | rfl | rfl | rfl
    · exact ⟨rfl, rfl, rfl⟩
    · exact absurd (show false = true from hL) Bool.false_ne_true
    · exact absurd (show false = true from hL) Bool.false_ne_true
    · exact absurd (show false = true from hL) Bool.false_ne_true
  | m + 1, hL, hnm, hb =>
    have hbt : b = true := by
      cases b with
      | true => rfl
      | false => exact absurd (hb rfl) (Nat.succ_ne_zero m)
    subst hbt
    rcases hk with rfl | rfl | rfl | rfl <;> exact ⟨rfl, rfl, rfl⟩
end ZQ
section ZU
variable {p : Program} {l : Launch} {e : Env} {s : State} {m : MethodId} {args : Array Value} {below : List Frame} {meth : Method} {c : Code} {D : va_G} {ad : Nat → Nat} {ca : Nat → ClassId} {d d0 : ax_D} {S : WS} {sl : List Nat} {t : Nat} {es : List Ev}
abbrev qRd (d0 : ax_D) (S : WS) (sl : List Nat) : ax_Po := zI (rD sl).1 (fun y => y = nI (rD sl).2.1.length) (cX d0 S sl (rD sl).2.2 (rD sl).2.1)
abbrev xRd (d0 : ax_D) (S : WS) (sl : List Nat) : String → ax_D → Prop := zO [xIA, xUO] (rD sl).1 (cX d0 S sl (rD sl).2.2 (rD sl).2.1)
theorem cC_fg {d1 : ax_D} (hw : CW d S) (hs : bt_is d 517 sl) (h4 : d 514 4 = nI t) (he : ev_is d1 []) (hf : ∀ id, id ≠ 527 → d1 id = d id) : cC d1 S sl t [] := ⟨CW_k hw (fun id hi => hf id (by omega)), bt_keep hs (hf _ (by decide)) (hf _ (by decide)), by rw [hf 514 (by decide)]; exact h4, he⟩
theorem cG_fg {d1 : ax_D} (hf : ∀ id, id ≠ 527 → d1 id = d id) : cG d d1 := fun id h _ => hf id (by omega)
theorem zrd_loop (hl : l.stackTraces = false) (hK : zK (z7 p l e s m args below meth c D ad ca zm_read (qRd d0 S sl) (xRd d0 S sl)) 0 0) (hT : zTh (ax_A ad s.heap.size) s) (hex : ∀ x ∈ c.exceptionTable.toList, False) : ∀ g (T : TT) n nm fl b t (es : List Ev) (d : ax_D), rD sl = rAll sl g T n nm fl b t es → CW d S → bt_is d 517 sl → d 514 4 = nI t → t ≤ sl.length → tb_is d 1 T → BI T → (∀ i, i < n → nm i < (T 4 0).length) → gr_is d 1 n nm fl b → (0 < g → ev_is d es) → es.length + g = 201 → (0 < g → (b = false ∧ n = 0) ∨ (b = true ∧ 0 < n)) → cG d0 d → zx (z7 p l e s m args below meth c D ad ca zm_read (qRd d0 S sl) (xRd d0 S sl)) 0 0 9 [some (.ref 512), some (.int (nI (es.length + 1)))] [] d := by
  intro g
  induction g with
  | zero =>
    intro T n nm fl b t es d hR hw hs h4 ht h hB hnm hg he hln hbn hf0
    have e0 : rD sl = (2, [], t) := hR
    refine zx_ildn hK.1 dX7_read_9 rfl ?_
    refine zx_spsh (v := nI 201) hK.1 dX7_read_10 (by decide) ?_
    refine zx_cmp 71 hK.1 dX7_read_13 (by decide) (fun c13 => ?_) (fun c13 => ?_)
    · simp only [ax_cn, Classical.not_not] at c13
      refine zx_aldn hK.1 dX7_read_71 rfl ?_
      refine zx_get (v := .ref _) hK.1 dX7_read_72 (zF7_19 rfl) rfl (Nat.le_of_ble_eq_true rfl) rfl ?_
      refine zx_get (v := .ref _) hK.1 dX7_read_75 (zF7_122 rfl) rfl (Nat.le_of_ble_eq_true rfl) rfl ?_
      refine zx_v0 hK dX7_read_78 (zL7_126 rfl) rfl  (Nat.le_of_ble_eq_true rfl) rfl (sp_evForget) ?_
      rintro d9 ⟨m9, f9⟩
      refine z7_throw hK.1 rfl hT hl hex zq_54 zk_50 zi_54 zs_134 (by decide +kernel) dX7_read_81 dX7_read_84 dX7_read_85 dX7_read_87 dX7_read_90 rfl ?_
      unfold xRd
      rw [e0]
      exact ⟨⟨1, rfl, rfl⟩, cC_fg hw hs h4 m9 f9, cG_tr hf0 (cG_fg f9)⟩
    · simp only [ax_cn, Classical.not_not] at c13
      exact absurd ((nI_ltI (by decide) (by omega)).mpr (show 201 < es.length + 1 by omega)) c13
  | succ g ih =>
    intro T n nm fl b t es d hR hw hs h4 ht h hB hnm hg he hln hbn hf0
    have he := he (Nat.succ_pos g)
    have hOK : rOK sl n fl b (rStep sl T n nm fl b t) := step_OK hB hnm ht (hbn (Nat.succ_pos g))
    have hE : ax_E 24 [.ref 514] d (ax_Pi fun y d1 => y = bB (rStep sl T n nm fl b t).1.isSome ∧ d1 514 4 = nI (rStep sl T n nm fl b t).2 ∧ (∀ q, (rStep sl T n nm fl b t).1 = some q → tb_is d1 1 q.1 ∧ gr_is d1 1 q.2.1 q.2.2.1 q.2.2.2.1 true ∧ ev_is d1 (eadd es q.2.2.2.2)) ∧ re d d1) := by
      rcases hbn (Nat.succ_pos g) with ⟨hb, hn⟩ | ⟨hb, hn⟩
      · subst hb; subst hn; exact sp_readEv1 hg h hs h4 ht hB.1 hB.2.1 he
      · subst hb
        obtain ⟨m, rfl⟩ : ∃ m, n = m + 1 := ⟨n - 1, by omega⟩
        exact sp_readEv2 hg h hs h4 ht hB.1 hB.2.1 he (fun c hc => rCo_vc hB (hnm m (Nat.lt_succ_self m)) ht hc)
    rw [rAll_s] at hR
    refine zx_ildn hK.1 dX7_read_9 rfl ?_
    refine zx_spsh (v := nI 201) hK.1 dX7_read_10 (by decide) ?_
    refine zx_cmp 71 hK.1 dX7_read_13 (by decide) (fun c13 => ?_) (fun c13 => ?_)
    · simp only [ax_cn, Classical.not_not] at c13
      exact absurd ((nI_ltI (by decide) (by omega)).mp c13) (by omega)
    · simp only [ax_cn, Classical.not_not] at c13
      refine zx_aldn hK.1 dX7_read_16 rfl ?_
      refine zx_get (v := .ref _) hK.1 dX7_read_17 (zF7_19 rfl) rfl (Nat.le_of_ble_eq_true rfl) rfl ?_
      refine zx_i0 hK dX7_read_20 (zL7_119 rfl) rfl  (Nat.le_of_ble_eq_true rfl) rfl (hE) ?_
      rintro _ d2 ⟨rfl, r2, q2, f2⟩
      generalize rStep sl T n nm fl b t = r at *
      obtain ⟨o, t1⟩ := r
      have ht1 : t1 ≤ sl.length := hOK.1
      replace r2 : d2 514 4 = nI t1 := r2
      cases o with
      | none =>
        have e0 : rD sl = (1, [], t1) := hR
        refine zx_if 46 hK.1 dX7_read_23 (by decide) (fun c23 => ?_) (fun c23 => ?_)
        · simp only [ax_cn, Classical.not_not] at c23
          exact absurd rfl c23
        · simp only [ax_cn, Classical.not_not] at c23
          refine zx_aldn hK.1 dX7_read_26 rfl ?_
          refine zx_get (v := .ref _) hK.1 dX7_read_27 (zF7_19 rfl) rfl (Nat.le_of_ble_eq_true rfl) rfl ?_
          refine zx_get (v := .ref _) hK.1 dX7_read_30 (zF7_122 rfl) rfl (Nat.le_of_ble_eq_true rfl) rfl ?_
          refine zx_v0 hK dX7_read_33 (zL7_126 rfl) rfl  (Nat.le_of_ble_eq_true rfl) rfl (sp_evForget) ?_
          rintro d9 ⟨m9, f9⟩
          refine z7_throw hK.1 rfl hT hl hex zq_34 zk_30 zi_34 zs_131 (by decide +kernel) dX7_read_36 dX7_read_39 dX7_read_40 dX7_read_42 dX7_read_45 rfl ?_
          unfold xRd
          rw [e0]
          exact ⟨⟨0, rfl, rfl⟩, cC_fg (CW_re hw f2) (bt_re hs f2) r2 m9 f9, cG_tr hf0 (cG_tr (cG_re f2) (cG_fg f9))⟩
      | some q =>
        obtain ⟨t2, g2, v2⟩ := q2 q rfl
        obtain ⟨b1, b2, b3, b4, b5⟩ := hOK.2 q rfl
        replace hR : rD sl = (if q.2.1 = 0 ∧ es.length < 200 then (0, es ++ [q.2.2.2.2], t1) else rAll sl g q.1 q.2.1 q.2.2.1 q.2.2.2.1 true t1 (es ++ [q.2.2.2.2])) := hR
        refine zx_if 46 hK.1 dX7_read_23 (by decide) (fun c23 => ?_) (fun c23 => ?_)
        · simp only [ax_cn, Classical.not_not] at c23
          refine zx_aldn hK.1 dX7_read_46 rfl ?_
          refine zx_get (v := .ref _) hK.1 dX7_read_47 (zF7_19 rfl) rfl (Nat.le_of_ble_eq_true rfl) rfl ?_
          refine zx_i0 hK dX7_read_50 (zL7_133 rfl) rfl  (Nat.le_of_ble_eq_true rfl) rfl (sp_rWhole g2) ?_
          rintro _ d9 ⟨rfl, h9⟩
          obtain rfl := h9.symm
          refine zx_if 65 hK.1 dX7_read_53 (by decide) (fun c53 => ?_) (fun c53 => ?_)
          · simp only [ax_cn, Classical.not_not] at c53
            have hq : ¬ (q.2.1 = 0 ∧ es.length < 200) := fun z => by
              have := bB_0.mp c53
              rw [z.1] at this
              exact absurd this (by decide)
            refine zx_iinc (v := nI (es.length + 1 + 1)) (L' := [_, some (.int _)]) hK.1 dX7_read_65 rfl (nI_1 (es.length + 1)) rfl ?_
            refine zx_goto 9 hK.1 dX7_read_68 (by decide) ?_
            have e2 : es.length + 1 + 1 = (es ++ [q.2.2.2.2]).length + 1 := by rw [List.length_append]; rfl
            rw [e2]
            refine ih q.1 q.2.1 q.2.2.1 q.2.2.2.1 true t1 (es ++ [q.2.2.2.2]) _ (hR.trans (if_neg hq)) (CW_re hw f2) (bt_re hs f2) r2 ht1 t2 b1 b2 g2 (fun hg0 => ?_) (by rw [List.length_append]; show es.length + 1 + g = 201; omega) (fun hg0 => Or.inr ⟨rfl, ?_⟩) (cG_tr hf0 (cG_re f2))
            · have e3 : eadd es q.2.2.2.2 = es ++ [q.2.2.2.2] := by unfold eadd; rw [if_pos (by omega)]
              rw [← e3]; exact v2
            · have : ¬ q.2.1 = 0 := fun z => hq ⟨z, by omega⟩
              omega
          · simp only [ax_cn, Classical.not_not] at c53
            refine zx_ildn hK.1 dX7_read_56 rfl ?_
            refine zx_spsh (v := nI 200) hK.1 dX7_read_57 (by decide) ?_
            refine zx_cmp 65 hK.1 dX7_read_60 (by decide) (fun c60 => ?_) (fun c60 => ?_)
            · simp only [ax_cn, Classical.not_not] at c60
              have hq : ¬ (q.2.1 = 0 ∧ es.length < 200) := fun z => absurd ((nI_ltI (by decide) (by omega)).mp c60) (by omega)
              refine zx_iinc (v := nI (es.length + 1 + 1)) (L' := [_, some (.int _)]) hK.1 dX7_read_65 rfl (nI_1 (es.length + 1)) rfl ?_
              refine zx_goto 9 hK.1 dX7_read_68 (by decide) ?_
              have e2 : es.length + 1 + 1 = (es ++ [q.2.2.2.2]).length + 1 := by rw [List.length_append]; rfl
              rw [e2]
              refine ih q.1 q.2.1 q.2.2.1 q.2.2.2.1 true t1 (es ++ [q.2.2.2.2]) _ (hR.trans (if_neg hq)) (CW_re hw f2) (bt_re hs f2) r2 ht1 t2 b1 b2 g2 (fun hg0 => ?_) (by rw [List.length_append]; show es.length + 1 + g = 201; omega) (fun hg0 => Or.inr ⟨rfl, ?_⟩) (cG_tr hf0 (cG_re f2))
              · have e3 : eadd es q.2.2.2.2 = es ++ [q.2.2.2.2] := by unfold eadd; rw [if_pos (by omega)]
                rw [← e3]; exact v2
              · have : ¬ q.2.1 = 0 := fun z => hq ⟨z, by omega⟩
                omega
            · simp only [ax_cn, Classical.not_not] at c60
              have hn0 : q.2.1 = 0 := of_decide_eq_true ((Bool.and_eq_true _ _ ▸ (bB_1.mp c53)).2)
              have hlt : es.length < 200 := by
                refine Nat.lt_of_not_le (fun z => c60 ((nI_ltI (by decide) (by omega)).mpr ?_))
                omega
              have e0 : rD sl = (0, es ++ [q.2.2.2.2], t1) := hR.trans (if_pos ⟨hn0, hlt⟩)
              have e3 : eadd es q.2.2.2.2 = es ++ [q.2.2.2.2] := by unfold eadd; rw [if_pos hlt]
              rw [e3] at v2
              refine zx_ildn hK.1 dX7_read_63 rfl ?_
              refine z7_ri hK.1 dX7_read_64 rfl rfl ?_
              unfold qRd
              rw [e0]
              exact ⟨_, rfl, rfl, by show nI (es.length + 1) = nI (es ++ [q.2.2.2.2]).length; rw [List.length_append]; rfl, ⟨CW_re hw f2, bt_re hs f2, r2, v2⟩, cG_tr hf0 (cG_re f2)⟩
        · simp only [ax_cn, Classical.not_not] at c23
          exact absurd c23 (show ¬ bB true = 0 by decide)
end ZU
section ZV
variable {d : ax_D} {S : WS} {sl : List Nat} {t : Nat} {es : List Ev}
theorem zt_read {l : Launch} (hl : l.stackTraces = false) (h : cC d S sl t es) : zE l zm_read [.ref 512] d (qRd d S sl) (xRd d S sl) := by
  intro D ad ca p e s m args below meth c hK hT hex
  show zx _ 0 0 0 [some (.ref 512), none] [] d
  refine zx_aldn hK.1 dX7_read_0 rfl ?_
  refine zx_get (v := .ref _) hK.1 dX7_read_1 (zF7_19 rfl) rfl (Nat.le_of_ble_eq_true rfl) rfl ?_
  refine zx_v0 hK dX7_read_4 (zL7_118 rfl) rfl  (Nat.le_of_ble_eq_true rfl) rfl (sp_rbegin) ?_
  rintro d1 ⟨a1, a2, a3, a4, f1⟩
  refine zx_icst (v := nI 1) hK.1 dX7_read_7 (by decide) ?_
  refine zx_istn (L' := [_, some (.int _)]) hK.1 dX7_read_8 (Nat.le_of_ble_eq_true rfl) rfl ?_
  exact zrd_loop hl hK hT hex 201 t00 0 (fun _ => 0) (fun _ => false) false 0 [] d1 rfl (CW_re h.1 f1) (bt_re h.2.1 f1) a1 (Nat.zero_le _) a2 BI_00 (fun i hi => absurd hi (Nat.not_lt_zero i)) (a3 _ _) (fun _ => a4) rfl (fun _ => Or.inl ⟨rfl, rfl⟩) (cG_re f1)
end ZV
def oZ (S : WS) (es : List Ev) : Nat × WS := if es.length = 0 then (1, S) else oA es
theorem CW_b {d1 : ax_D} (h1 : tb_is d1 0 t00) (h2 : ∀ nm fl, gr_is d1 0 0 nm fl false) (h3 : bt_is d1 515 []) : CW d1 wS0 := ⟨h1, h2 _ _, h3⟩
section ZA
variable {p : Program} {l : Launch} {e : Env} {s : State} {m : MethodId} {args : Array Value} {below : List Frame} {meth : Method} {c : Code} {D : va_G} {ad : Nat → Nat} {ca : Nat → ClassId} {d d0 : ax_D} {S0 S : WS} {sl : List Nat} {t : Nat} {es : List Ev}
abbrev qAg (d0 : ax_D) (S0 : WS) (sl : List Nat) (t : Nat) (es : List Ev) : ax_Po := zI (oZ S0 es).1 (fun y => y = nI (oZ S0 es).2.2.2.2.2.2.length) (cX d0 (oZ S0 es).2 sl t es)
abbrev xAg (d0 : ax_D) (S0 : WS) (sl : List Nat) (t : Nat) (es : List Ev) : String → ax_D → Prop := zO [xIS, xUO] (oZ S0 es).1 (cX d0 (oZ S0 es).2 sl t es)
theorem zag_loop (hl : l.stackTraces = false) (hK : zK (z7 p l e s m args below meth c D ad ca zm_again (qAg d0 S0 sl t es) (xAg d0 S0 sl t es)) 0 0) (hT : zTh (ax_A ad s.heap.size) s) (hex : ∀ x ∈ c.exceptionTable.toList, False) (hl2 : es.length ≤ 200) (hl0 : 0 < es.length) : ∀ n i S (d : ax_D) (z3 : Option Value), es.length - i < n → i ≤ es.length → wAll wS0 es = wAll S (es.drop i) → cC d S sl t es → WI S → ELg S.2.1 S.2.2.2.1 S.2.2.2.2.1 (es.drop i) → cG d0 d → zx (z7 p l e s m args below meth c D ad ca zm_again (qAg d0 S0 sl t es) (xAg d0 S0 sl t es)) 0 0 40 [some (.ref 512), some (.ref 527), some (.int (nI i)), z3] [] d := by
  have eZ : oZ S0 es = oA es := by unfold oZ; rw [if_neg (by omega)]
  intro n
  induction n with
  | zero => intro i S d z3 h0; omega
  | succ n ih =>
    intro i S d z3 h0 hi hA h hI hE hf0
    refine zx_ildn hK.1 dX7_again_40 rfl ?_
    refine zx_aldn hK.1 dX7_again_41 rfl ?_
    refine zx_get (v := .int _) hK.1 dX7_again_42 (zF7_139 rfl) rfl (Nat.le_of_ble_eq_true rfl) rfl ?_
    rw [h.2.2.2.2.1]
    refine zx_cmp 107 hK.1 dX7_again_45 (by decide) (fun c45 => ?_) (fun c45 => ?_)
    · simp only [ax_cn, Classical.not_not] at c45
      have hil : i = es.length := Nat.le_antisymm hi ((nI_leI (by omega) (by omega)).mp c45)
      rw [hil, List.drop_length] at hA
      have e0 : oZ S0 es = (0, S) := by
        rw [eZ]
        unfold oA
        rw [hA]
        rfl
      refine zx_aldn hK.1 dX7_again_107 rfl ?_
      refine zx_get (v := .ref _) hK.1 dX7_again_108 (zF7_10 rfl) rfl (Nat.le_of_ble_eq_true rfl) rfl ?_
      refine zx_get (v := .ref _) hK.1 dX7_again_111 (zF7_78 rfl) rfl (Nat.le_of_ble_eq_true rfl) rfl ?_
      refine zx_get (v := .int _) hK.1 dX7_again_114 (zF7_82 rfl) rfl (Nat.le_of_ble_eq_true rfl) rfl ?_
      rw [h.1.2.2.2.1]
      refine z7_ri hK.1 dX7_again_117 rfl rfl ?_
      unfold qAg
      rw [e0]
      exact ⟨_, rfl, rfl, rfl, h, hf0⟩
    · simp only [ax_cn, Classical.not_not] at c45
      have hil : i < es.length := Nat.not_le.mp (fun q => c45 ((nI_leI (by omega) (by omega)).mpr q))
      have hdc := drop_c (z := ((0, 0, 0, 0) : Ev)) hil
      rw [hdc] at hA hE
      refine zx_aldn hK.1 dX7_again_48 rfl ?_
      refine zx_get (v := .ref _) hK.1 dX7_again_49 (zF7_10 rfl) rfl (Nat.le_of_ble_eq_true rfl) rfl ?_
      refine zx_aldn hK.1 dX7_again_52 rfl ?_
      refine zx_ildn hK.1 dX7_again_53 rfl ?_
      refine zx_icst (v := nI 0) hK.1 dX7_again_54 (by decide) ?_
      refine zx_i2 hK dX7_again_55 (zL7_144 rfl) rfl rfl rfl (Nat.le_of_ble_eq_true rfl) rfl (sp_part h.2.2.2 hil (show 0 < 4 by decide)) ?_
      rintro _ d9 ⟨rfl, h9⟩
      obtain rfl := h9.symm
      refine zx_aldn hK.1 dX7_again_58 rfl ?_
      refine zx_ildn hK.1 dX7_again_59 rfl ?_
      refine zx_icst (v := nI 1) hK.1 dX7_again_60 (by decide) ?_
      refine zx_i2 hK dX7_again_61 (zL7_144 rfl) rfl rfl rfl (Nat.le_of_ble_eq_true rfl) rfl (sp_part h.2.2.2 hil (show 1 < 4 by decide)) ?_
      rintro _ d9 ⟨rfl, h9⟩
      obtain rfl := h9.symm
      refine zx_aldn hK.1 dX7_again_64 rfl ?_
      refine zx_ildn hK.1 dX7_again_65 rfl ?_
      refine zx_icst (v := nI 2) hK.1 dX7_again_66 (by decide) ?_
      refine zx_i2 hK dX7_again_67 (zL7_144 rfl) rfl rfl rfl (Nat.le_of_ble_eq_true rfl) rfl (sp_part h.2.2.2 hil (show 2 < 4 by decide)) ?_
      rintro _ d9 ⟨rfl, h9⟩
      obtain rfl := h9.symm
      refine zx_aldn hK.1 dX7_again_70 rfl ?_
      refine zx_ildn hK.1 dX7_again_71 rfl ?_
      refine zx_icst (v := nI 3) hK.1 dX7_again_72 (by decide) ?_
      refine zx_i2 hK dX7_again_73 (zL7_144 rfl) rfl rfl rfl (Nat.le_of_ble_eq_true rfl) rfl (sp_part h.2.2.2 hil (show 3 < 4 by decide)) ?_
      rintro _ d9 ⟨rfl, h9⟩
      obtain rfl := h9.symm
      generalize es.getD i (0, 0, 0, 0) = e at hA hE ⊢
      obtain ⟨hE1, hE2, hE3⟩ := hE
      have hk14 := EVk_k hE2
      have hL : wL S e.1 = true := hE1
      have eA : wAll S (e :: es.drop (i + 1)) = if (oW S e.1 e.2.1 e.2.2.1 e.2.2.2).1 = 0 then wAll (oW S e.1 e.2.1 e.2.2.1 e.2.2.2).2 (es.drop (i + 1)) else none := rfl
      rw [eA] at hA
      refine zx_i4 hK dX7_again_76 (zL7_46 rfl) rfl rfl rfl rfl rfl (Nat.le_of_ble_eq_true rfl) rfl (sp_wev h.1 hI hL hk14 hE2.2.1 hE2.2.2.1 hE2.2.2.2) ?_
      rintro y1 d2 ⟨q0, q1⟩
      cases hQ : wQ S e.1 e.2.1 e.2.2.1 with
      | false =>
        obtain ⟨rfl, rfl⟩ := q0 hQ
        rw [oW_3 hL hQ, if_neg (show ¬ (3 : Nat) = 0 by decide)] at hA
        have e0 : oZ S0 es = (2, wS0) := by
          rw [eZ]
          unfold oA
          rw [hA]
        refine zx_istn (L' := [_, _, _, some (.int _)]) hK.1 dX7_again_79 (Nat.le_of_ble_eq_true rfl) rfl ?_
        refine zx_ildn hK.1 dX7_again_80 rfl ?_
        refine zx_if 101 hK.1 dX7_again_81 (by decide) (fun c81 => ?_) (fun c81 => ?_)
        · simp only [ax_cn, Classical.not_not] at c81
          exact absurd rfl c81
        · simp only [ax_cn, Classical.not_not] at c81
          refine zx_aldn hK.1 dX7_again_84 rfl ?_
          refine zx_get (v := .ref _) hK.1 dX7_again_85 (zF7_10 rfl) rfl (Nat.le_of_ble_eq_true rfl) rfl ?_
          refine zx_v0 hK dX7_again_88 (zL7_23 rfl) rfl  (Nat.le_of_ble_eq_true rfl) rfl (sp_wbegin) ?_
          rintro d9 ⟨a1, a2, a3, f9⟩
          refine z7_throw hK.1 rfl hT hl hex zq_54 zk_50 zi_54 zs_150 (by decide +kernel) dX7_again_91 dX7_again_94 dX7_again_95 dX7_again_97 dX7_again_100 rfl ?_
          unfold xAg
          rw [e0]
          exact ⟨⟨1, rfl, rfl⟩, cC_we h (CW_b a1 a2 a3) f9, cG_tr hf0 (cG_we f9)⟩
      | true =>
        obtain ⟨rfl, m1, f1⟩ := q1 hQ
        rw [oW_0 hL hQ, if_pos rfl] at hA
        have hsh := wEv_sh (sp := e.2.1) (lo := e.2.2.1) (v := e.2.2.2) hI hL hk14
        refine zx_istn (L' := [_, _, _, some (.int _)]) hK.1 dX7_again_79 (Nat.le_of_ble_eq_true rfl) rfl ?_
        refine zx_ildn hK.1 dX7_again_80 rfl ?_
        refine zx_if 101 hK.1 dX7_again_81 (by decide) (fun c81 => ?_) (fun c81 => ?_)
        · simp only [ax_cn, Classical.not_not] at c81
          refine zx_iinc (v := nI (i + 1)) (L' := [_, _, some (.int _), _]) hK.1 dX7_again_101 rfl (nI_1 i) rfl ?_
          refine zx_goto 40 hK.1 dX7_again_104 (by decide) ?_
          exact ih (i + 1) _ d2 _ (by omega) hil hA (cC_we h m1 f1) (WI_wEv hI hL hQ hk14 hE2.2.1 hE2.2.2.1 hE2.2.2.2) (by rw [hsh.1, hsh.2.1, hsh.2.2]; exact hE3) (cG_tr hf0 (cG_we f1))
        · simp only [ax_cn, Classical.not_not] at c81
          exact absurd c81 (by decide)
end ZA
section ZB2
variable {d : ax_D} {S : WS} {sl : List Nat} {t : Nat} {es : List Ev}
theorem zt_again {l : Launch} (hl : l.stackTraces = false) (h : cC d S sl t es) (hE : ELg 0 (fun _ => false) false es) : zE l zm_again [.ref 512] d (qAg d S sl t es) (xAg d S sl t es) := by
  intro D ad ca p e s m args below meth c hK hT hex
  show zx _ 0 0 0 [some (.ref 512), none, none, none] [] d
  have hl2 := h.2.2.2.1
  refine zx_aldn hK.1 dX7_again_0 rfl ?_
  refine zx_get (v := .ref _) hK.1 dX7_again_1 (zF7_19 rfl) rfl (Nat.le_of_ble_eq_true rfl) rfl ?_
  refine zx_get (v := .ref _) hK.1 dX7_again_4 (zF7_122 rfl) rfl (Nat.le_of_ble_eq_true rfl) rfl ?_
  refine zx_get (v := .int _) hK.1 dX7_again_7 (zF7_139 rfl) rfl (Nat.le_of_ble_eq_true rfl) rfl ?_
  rw [h.2.2.2.2.1]
  refine zx_if 23 hK.1 dX7_again_10 (by decide) (fun c10 => ?_) (fun c10 => ?_)
  · simp only [ax_cn, Classical.not_not] at c10
    have hl0 : 0 < es.length := Nat.pos_of_ne_zero (fun q => c10 (by rw [q]; rfl))
    refine zx_aldn hK.1 dX7_again_23 rfl ?_
    refine zx_get (v := .ref _) hK.1 dX7_again_24 (zF7_19 rfl) rfl (Nat.le_of_ble_eq_true rfl) rfl ?_
    refine zx_get (v := .ref _) hK.1 dX7_again_27 (zF7_122 rfl) rfl (Nat.le_of_ble_eq_true rfl) rfl ?_
    refine zx_astn (L' := [_, some (.ref _), _, _]) hK.1 dX7_again_30 (Nat.le_of_ble_eq_true rfl) rfl ?_
    refine zx_aldn hK.1 dX7_again_31 rfl ?_
    refine zx_get (v := .ref _) hK.1 dX7_again_32 (zF7_10 rfl) rfl (Nat.le_of_ble_eq_true rfl) rfl ?_
    refine zx_v0 hK dX7_again_35 (zL7_23 rfl) rfl  (Nat.le_of_ble_eq_true rfl) rfl (sp_wbegin) ?_
    rintro d9 ⟨a1, a2, a3, f9⟩
    refine zx_icst (v := nI 0) hK.1 dX7_again_38 (by decide) ?_
    refine zx_istn (L' := [_, _, some (.int _), _]) hK.1 dX7_again_39 (Nat.le_of_ble_eq_true rfl) rfl ?_
    exact zag_loop hl hK hT hex hl2 hl0 (es.length + 1) 0 wS0 d9 _ (by omega) (Nat.zero_le _) rfl (cC_we h (CW_b a1 a2 a3) f9) WI_0 hE (cG_we f9)
  · simp only [ax_cn, Classical.not_not] at c10
    have hn0 : es.length = 0 := (nI_eq (by omega) (by decide)).mp (c10.trans nI_0.symm)
    have e0 : oZ S es = (1, S) := by unfold oZ; rw [if_pos hn0]
    refine z7_throw hK.1 rfl hT hl hex zq_45 zk_41 zi_45 zs_148 (by decide +kernel) dX7_again_13 dX7_again_16 dX7_again_17 dX7_again_19 dX7_again_22 rfl ?_
    unfold xAg
    rw [e0]
    exact ⟨⟨0, rfl, rfl⟩, h, cG_rf⟩
end ZB2
