/-! THE CLASS'S CALLS that may throw: what each asks and leaves. -/
def zPc (D : va_G) (ad : Nat → Nat) (ca : Nat → ClassId) (as : List Value) (d : ax_D) (sz : Nat) : Array Value → State → Prop :=
  va_Pc (as.map (ax_cv ad)) (fun U => U.heap.size = sz ∧ va_P D vwCl (ax_w ad ca d) U.heap ∧ va_K D vwCl (ax_ts ca) U ∧ va_D (fun _ => True) (ax_w ad ca d) ∧ (∀ w ∈ ax_NW, va_Nw w U) ∧ zTh (ax_A ad sz) U)
theorem z_blind {D : va_G} {ad : Nat → Nat} {ca : Nat → ClassId} {as : List Value} {d : ax_D} {sz : Nat} : FrameBlind (zPc D ad ca as d sz) := fun a U g mk q => by
  obtain ⟨q0, q1, qP, qK, qD, qN, qT⟩ := q
  exact ⟨q0, q1, qP, va_K.moved (u := U) (U := U.calling g mk a) (Vm.Alike.refl U.vm) qK, qD, ax_NW_same (u := U) rfl qN, zTh_warm (U := U.calling g mk a) (H := U.heap) qT (State.WarmedH.refl U) rfl (fun _ _ _ => rfl) (fun _ h => h)⟩
/-- at the entry of a method that may throw -/
def zE (l : Launch) (q : ax_M) (as : List Value) (d : ax_D) (Q : ax_Po) (QX : String → ax_D → Prop) : Prop :=
  ∀ (D : va_G) (ad : Nat → Nat) (ca : Nat → ClassId) (p : Program) (e : Env) (s : State) (m : MethodId) (args : Array Value) (below : List Frame) (meth : Method) (c : Code), zK (z7 p l e s m args below meth c D ad ca q Q QX) 0 0 → zTh (ax_A ad s.heap.size) s → (∀ x ∈ c.exceptionTable.toList, False) →
    zx (z7 p l e s m args below meth c D ad ca q Q QX) 0 0 0 (as.map some ++ List.replicate (ax_n q - as.length) none) [] d
theorem z7_met {l : Launch} {D : va_G} {ad : Nat → Nat} {ca : Nat → ClassId} {q : ax_M} {as : List Value} {d : ax_D} {Q : ax_Po} {QX : String → ax_D → Prop} (hpl : plainName (ax_y q).cls = true) (hn : as.length ≤ ax_n q) (hc : ∀ v ∈ as, v.category = 1) (hJ : zE l q as d Q QX) (sz : Nat) :
    vx_Met l (ax_y q) (ax_ws q) R7 (zPc D ad ca as d sz) (ax_Qc D ad ca Q sz) (zXC D ad ca QX sz) 1 6 (ax_A ad sz) := by
  refine vx_ofW (cc := ax_c q) (maxL := ax_n q) (ret := ax_r q) hpl rfl ?_
  intro p e s m args below meth c s₁ B hml hex hv
  obtain ⟨rfl, rfl, hP, hK, hD, hN, hT⟩ := hv
  have hts := atoms_spec (ws := ax_ws q) B.pre
  have hown : s.vm.findClass (ax_y q).cls = some m.cls := findClass_of_methodNamed B.named
  rw [lg_entry_eq]
  exact hJ D ad ca p e s m _ below meth c ⟨⟨B.exec, B.bytes, B.returns, hml, hown, fun w h => hts w (List.mem_cons_of_mem _ h), B.notSynchronized, hK, hN⟩, Nat.le_of_ble_eq_true rfl, Nat.le_of_ble_eq_true rfl, Nat.zero_le _, Nat.zero_le _⟩ hT hex s.heap [] _ hP (ax_A_D hD) va_S.rf (by rw [List.length_append, List.length_map, List.length_replicate]; show _ = ax_n q; omega) (ax_entry hc hn)
/-! the class's whole state: the writer, the stream, the bits taken, the events -/
def cC (d : ax_D) (S : WS) (sl : List Nat) (t : Nat) (es : List Ev) : Prop := CW d S ∧ bt_is d 517 sl ∧ d 514 4 = nI t ∧ ev_is d es
/-- the reference's cells stay -/
def cG (d d1 : ax_D) : Prop := ∀ id, 540 ≤ id → id ≠ 580 → d1 id = d id
section CS
variable {d d1 d2 : ax_D} {S S1 : WS} {sl sl1 : List Nat} {t t1 : Nat} {es es1 : List Ev}
theorem cG_rf : cG d d := fun _ _ _ => rfl
theorem cG_tr (h : cG d d1) (h2 : cG d1 d2) : cG d d2 := fun id a b => (h2 id a b).trans (h id a b)
theorem cG_we (h : we d d1) : cG d d1 := fun id a _ => h id (by omega) (by omega) (by omega) (by omega) (by omega) (by omega)
theorem cG_re (h : re d d1) : cG d d1 := fun id a _ => h id (by omega) (by omega) (by omega) (by omega) (by omega) (by omega) (by omega) (by omega) (by omega) (by omega)
theorem cG_bt (h : bt_fr d d1 517) : cG d d1 := fun id a _ => h id (by omega) (by omega)
theorem tb_0 {T : TT} (h : tb_is d 0 T) (hf : ∀ id, id < 256 → d1 id = d id) : tb_is d1 0 T := by
  intro j hj k hk
  have h20 := nr_le (8 * 0 + j)
  obtain ⟨h1, h2, h3⟩ := h j hj k hk
  refine ⟨h1, ?_, fun i hi => ?_⟩
  · rw [hf (32 * (8 * 0 + j) + 2) (by omega)]; exact h2
  · rw [hf (32 * (8 * 0 + j) + 3 + k) (by omega)]; exact h3 i hi
theorem CW_k (h : CW d S) (hf : ∀ id, id < 256 ∨ id = 515 ∨ id = 516 ∨ id = 521 ∨ id = 523 ∨ id = 525 → d1 id = d id) : CW d1 S := ⟨tb_0 h.1 (fun id hi => hf id (Or.inl hi)), gr_keep h.2.1 (hf 521 (by decide)) (hf 523 (by decide)) (hf 525 (by decide)), bt_keep h.2.2 (hf 515 (by decide)) (hf 516 (by decide))⟩
theorem ev_we (h : ev_is d es) (hf : we d d1) : ev_is d1 es := ev_keep h (hf _ (by decide) (by decide) (by decide) (by decide) (by decide) (by decide)) (hf _ (by decide) (by decide) (by decide) (by decide) (by decide) (by decide)) (hf _ (by decide) (by decide) (by decide) (by decide) (by decide) (by decide)) (hf _ (by decide) (by decide) (by decide) (by decide) (by decide) (by decide)) (hf _ (by decide) (by decide) (by decide) (by decide) (by decide) (by decide))
theorem cC_we (h : cC d S sl t es) (h1 : CW d1 S1) (hf : we d d1) : cC d1 S1 sl t es := ⟨h1, bt_keep h.2.1 (hf 517 (by decide) (by decide) (by decide) (by decide) (by decide) (by decide)) (hf 518 (by decide) (by decide) (by decide) (by decide) (by decide) (by decide)), by rw [hf 514 (by decide) (by decide) (by decide) (by decide) (by decide) (by decide)]; exact h.2.2.1, ev_we h.2.2.2 hf⟩
theorem cC_bt (h : cC d S sl t es) (h1 : bt_is d1 517 sl1) (hf : bt_fr d d1 517) : cC d1 S sl1 t es := ⟨CW_k h.1 (fun id hi => hf id (by omega) (by omega)), h1, by rw [hf 514 (by decide) (by decide)]; exact h.2.2.1, ev_keep h.2.2.2 (hf _ (by decide) (by decide)) (hf _ (by decide) (by decide)) (hf _ (by decide) (by decide)) (hf _ (by decide) (by decide)) (hf _ (by decide) (by decide))⟩
theorem CW_re (h : CW d S) (hf : re d d1) : CW d1 S := CW_k h (fun id hi => hf id (by omega) (by omega) (by omega) (by omega) (by omega) (by omega) (by omega) (by omega) (by omega) (by omega))
theorem bt_re (h : bt_is d 517 sl) (hf : re d d1) : bt_is d1 517 sl := bt_keep h (hf 517 (by decide) (by decide) (by decide) (by decide) (by decide) (by decide) (by decide) (by decide) (by decide) (by decide)) (hf 518 (by decide) (by decide) (by decide) (by decide) (by decide) (by decide) (by decide) (by decide) (by decide) (by decide))
theorem cC_same (h : cC d S sl t es) (hf : ∀ id, id < 540 → d1 id = d id) : cC d1 S sl t es := ⟨CW_k h.1 (fun id hi => hf id (by omega)), bt_keep h.2.1 (hf _ (by decide)) (hf _ (by decide)), by rw [hf 514 (by decide)]; exact h.2.2.1, ev_keep h.2.2.2 (hf _ (by decide)) (hf _ (by decide)) (hf _ (by decide)) (hf _ (by decide)) (hf _ (by decide))⟩
end CS
/-! how a call ends: r = 0 where it returns, k + 1 where it throws the k-th of cs -/
def zO (cs : List String) (r : Nat) (X : ax_D → Prop) : String → ax_D → Prop := fun E d1 => (∃ k, cs[k]? = some E ∧ r = k + 1) ∧ X d1
def zV (r : Nat) (X : ax_D → Prop) : ax_Po := ax_Pv fun d1 => r = 0 ∧ X d1
def zI (r : Nat) (V : Int32 → Prop) (X : ax_D → Prop) : ax_Po := ax_Pi fun y d1 => r = 0 ∧ V y ∧ X d1
def xIA : String := "java/lang/IllegalArgumentException"
def xIS : String := "java/lang/IllegalStateException"
def xUO : String := "java/lang/UnsupportedOperationException"
def xIB : String := "java/lang/IndexOutOfBoundsException"
def cX (d : ax_D) (S : WS) (sl : List Nat) (t : Nat) (es : List Ev) : ax_D → Prop := fun d1 => cC d1 S sl t es ∧ cG d d1
def zm_open : ax_M := (yX7_open, cX7_open, 3, none, 0, 3, 7, 0, [])
def zm_attribute : ax_M := (yX7_attribute, cX7_attribute, 4, none, 0, 4, 7, 0, [])
def zm_text : ax_M := (yX7_text, cX7_text, 2, none, 0, 2, 7, 0, [])
def zm_close : ax_M := (yX7_close, cX7_close, 1, (some .int), 0, 1, 7, 0, [])
def zm_push : ax_M := (yX7_push, cX7_push, 2, (some .int), 0, 2, 7, 0, [])
def zm_bit : ax_M := (yX7_bit, cX7_bit, 2, (some .int), 0, 2, 7, 0, [])
def zm_flip : ax_M := (yX7_flip, cX7_flip, 2, none, 0, 2, 7, 0, [])
def zm_cut : ax_M := (yX7_cut, cX7_cut, 2, none, 0, 2, 7, 0, [])
def zm_read : ax_M := (yX7_read, cX7_read, 2, (some .int), 0, 1, 7, 0, [])
def zm_event : ax_M := (yX7_event, cX7_event, 3, (some .int), 0, 3, 7, 0, [])
def zm_again : ax_M := (yX7_again, cX7_again, 4, (some .int), 0, 1, 7, 0, [])
section ZT
variable {d : ax_D} {S : WS} {sl : List Nat} {t : Nat} {es : List Ev} {x y z : Int32}
theorem oN_f {S : WS} {r : Nat × WS} : oN false r S = (1, S) := rfl
theorem oN_t {S : WS} {r : Nat × WS} : oN true r S = r := rfl
theorem okN_l {x y : Int32} (h : okN x y = true) : tx x = true ∧ tx y = true := by
  unfold okN at h
  rw [Bool.and_eq_true, Bool.and_eq_true] at h
  exact ⟨h.1, h.2.1⟩
theorem tx_n {x : Int32} (h : tx x = true) : nI x.toNatClampNeg = x ∧ x.toNatClampNeg < tB := by
  obtain ⟨t, ht, rfl, -⟩ := tx_of h
  have h31 : t < 2 ^ 31 := Nat.lt_trans ht (by decide)
  rw [nI_clamp h31]
  exact ⟨rfl, ht⟩
theorem wl_1 {S : WS} {v : Bool} (h : (S.2.2.2.2.1 && decide (S.2.1 = 0)) = v) : wL S 1 = !v := by
  have e : wL S 1 = !(S.2.2.2.2.1 && decide (S.2.1 = 0)) := rfl
  rw [e, h]
theorem wl_2 {S : WS} {v : Bool} (h : (decide (0 < S.2.1) && !S.2.2.2.1 (S.2.1 - 1)) = v) : wL S 2 = v := h
theorem wl_34 {S : WS} {k : Nat} (hk : k = 3 ∨ k = 4) : wL S k = decide (0 < S.2.1) := by
  rcases hk with rfl | rfl <;> rfl
theorem zt_open {l : Launch} (hl : l.stackTraces = false) (h : cC d S sl t es) (hI : WI S) : zE l zm_open [.ref 512, .int x, .int y] d (zV (oN (okN x y) (oW S 1 x.toNatClampNeg y.toNatClampNeg 0) S).1 (cX d (oN (okN x y) (oW S 1 x.toNatClampNeg y.toNatClampNeg 0) S).2 sl t es)) (zO [xIA, xIS, xUO] (oN (okN x y) (oW S 1 x.toNatClampNeg y.toNatClampNeg 0) S).1 (cX d (oN (okN x y) (oW S 1 x.toNatClampNeg y.toNatClampNeg 0) S).2 sl t es)) := by
  intro D ad ca p e s m args below meth c hK hT hex
  show zx _ 0 0 0 [some (.ref 512), some (.int x), some (.int y)] [] d
  refine zx_ildn hK.1 dX7_open_0 rfl ?_
  refine zx_ildn hK.1 dX7_open_1 rfl ?_
  refine zx_t2 hK dX7_open_2 (zL7_26 rfl) rfl rfl rfl (Nat.le_of_ble_eq_true rfl) (sp_isName) ?_
  rintro _ d9 ⟨rfl, h9⟩
  obtain rfl := h9.symm
  refine zx_if 18 hK.1 dX7_open_5 (by decide) (fun c5 => ?_) (fun c5 => ?_)
  · simp only [ax_cn, Classical.not_not] at c5
    have hok : okN x y = true := bB_1.mp c5
    have ht := okN_l hok
    refine zx_aldn hK.1 dX7_open_18 rfl ?_
    refine zx_get (v := .ref _) hK.1 dX7_open_19 (zF7_10 rfl) rfl (Nat.le_of_ble_eq_true rfl) rfl ?_
    refine zx_i0 hK dX7_open_22 (zL7_37 rfl) rfl  (Nat.le_of_ble_eq_true rfl) rfl (sp_wWhole h.1.2.1) ?_
    rintro _ d9 ⟨rfl, h9⟩
    obtain rfl := h9.symm
    refine zx_if 38 hK.1 dX7_open_25 (by decide) (fun c25 => ?_) (fun c25 => ?_)
    · simp only [ax_cn, Classical.not_not] at c25
      have hL : wL S 1 = true := wl_1 (bB_0.mp c25)
      have hW := sp_wev h.1 hI hL (Or.inl rfl) (tx_n ht.1).2 (tx_n ht.2).2 (show 0 < tB by decide)
      rw [(tx_n ht.1).1, (tx_n ht.2).1] at hW
      refine zx_aldn hK.1 dX7_open_38 rfl ?_
      refine zx_get (v := .ref _) hK.1 dX7_open_39 (zF7_10 rfl) rfl (Nat.le_of_ble_eq_true rfl) rfl ?_
      refine zx_icst (v := nI 1) hK.1 dX7_open_42 (by decide) ?_
      refine zx_ildn hK.1 dX7_open_43 rfl ?_
      refine zx_ildn hK.1 dX7_open_44 rfl ?_
      refine zx_icst (v := nI 0) hK.1 dX7_open_45 (by decide) ?_
      refine zx_i4 hK dX7_open_46 (zL7_46 rfl) rfl rfl rfl rfl rfl (Nat.le_of_ble_eq_true rfl) rfl (hW) ?_
      rintro y1 d9 ⟨q0, q1⟩
      cases hQ : wQ S 1 x.toNatClampNeg y.toNatClampNeg with
      | false =>
        obtain ⟨rfl, rfl⟩ := q0 hQ
        refine zx_if 62 hK.1 dX7_open_49 (by decide) (fun c49 => ?_) (fun c49 => ?_)
        · simp only [ax_cn, Classical.not_not] at c49
          exact absurd rfl c49
        · simp only [ax_cn, Classical.not_not] at c49
          refine z7_throw hK.1 rfl hT hl hex zq_54 zk_50 zi_54 zs_52 (by decide +kernel) dX7_open_52 dX7_open_55 dX7_open_56 dX7_open_58 dX7_open_61 rfl ?_
          rw [hok, oN_t, oW_3 hL hQ]
          exact ⟨⟨2, rfl, rfl⟩, h, cG_rf⟩
      | true =>
        obtain ⟨rfl, m1, f1⟩ := q1 hQ
        refine zx_if 62 hK.1 dX7_open_49 (by decide) (fun c49 => ?_) (fun c49 => ?_)
        · simp only [ax_cn, Classical.not_not] at c49
          refine z7_rv hK.1 dX7_open_62 rfl ?_
          rw [hok, oN_t, oW_0 hL hQ]
          exact ⟨rfl, rfl, cC_we h m1 f1, cG_we f1⟩
        · simp only [ax_cn, Classical.not_not] at c49
          exact absurd c49 (by decide)
      
    · simp only [ax_cn, Classical.not_not] at c25
      have hL : wL S 1 = false := wl_1 (bB_1.mp c25)
      refine z7_throw hK.1 rfl hT hl hex zq_45 zk_41 zi_45 zs_43 (by decide +kernel) dX7_open_28 dX7_open_31 dX7_open_32 dX7_open_34 dX7_open_37 rfl ?_
      rw [hok, oN_t, oW_2 hL]
      exact ⟨⟨1, rfl, rfl⟩, h, cG_rf⟩
  · simp only [ax_cn, Classical.not_not] at c5
    have hok : okN x y = false := bB_0.mp c5
    refine z7_throw hK.1 rfl hT hl hex zq_34 zk_30 zi_34 zs_32 (by decide +kernel) dX7_open_8 dX7_open_11 dX7_open_12 dX7_open_14 dX7_open_17 rfl ?_
    rw [hok]
    exact ⟨⟨0, rfl, rfl⟩, h, cG_rf⟩
theorem zt_attribute {l : Launch} (hl : l.stackTraces = false) (h : cC d S sl t es) (hI : WI S) : zE l zm_attribute [.ref 512, .int x, .int y, .int z] d (zV (oN (okN x y && tx z) (oW S 2 x.toNatClampNeg y.toNatClampNeg z.toNatClampNeg) S).1 (cX d (oN (okN x y && tx z) (oW S 2 x.toNatClampNeg y.toNatClampNeg z.toNatClampNeg) S).2 sl t es)) (zO [xIA, xIS, xUO] (oN (okN x y && tx z) (oW S 2 x.toNatClampNeg y.toNatClampNeg z.toNatClampNeg) S).1 (cX d (oN (okN x y && tx z) (oW S 2 x.toNatClampNeg y.toNatClampNeg z.toNatClampNeg) S).2 sl t es)) := by
  intro D ad ca p e s m args below meth c hK hT hex
  show zx _ 0 0 0 [some (.ref 512), some (.int x), some (.int y), some (.int z)] [] d
  refine zx_ildn hK.1 dX7_attribute_0 rfl ?_
  refine zx_ildn hK.1 dX7_attribute_1 rfl ?_
  refine zx_t2 hK dX7_attribute_2 (zL7_26 rfl) rfl rfl rfl (Nat.le_of_ble_eq_true rfl) (sp_isName) ?_
  rintro _ d9 ⟨rfl, h9⟩
  obtain rfl := h9.symm
  refine zx_if 15 hK.1 dX7_attribute_5 (by decide) (fun c5 => ?_) (fun c5 => ?_)
  · simp only [ax_cn, Classical.not_not] at c5
    have hok : (okN x y && tx z) = false := by
      have : okN x y = false := bB_0.mp c5
      rw [this]; rfl
    refine z7_throw hK.1 rfl hT hl hex zq_34 zk_30 zi_34 zs_59 (by decide +kernel) dX7_attribute_15 dX7_attribute_18 dX7_attribute_19 dX7_attribute_21 dX7_attribute_24 rfl ?_
    rw [hok]
    exact ⟨⟨0, rfl, rfl⟩, h, cG_rf⟩
  · simp only [ax_cn, Classical.not_not] at c5
    have hxy : okN x y = true := bB_1.mp c5
    have ht := okN_l hxy
    refine zx_ildn hK.1 dX7_attribute_8 rfl ?_
    refine zx_t1 hK dX7_attribute_9 (zL7_55 rfl) rfl rfl (Nat.le_of_ble_eq_true rfl) (sp_isText) ?_
    rintro _ d9 ⟨rfl, h9⟩
    obtain rfl := h9.symm
    refine zx_if 25 hK.1 dX7_attribute_12 (by decide) (fun c12 => ?_) (fun c12 => ?_)
    · simp only [ax_cn, Classical.not_not] at c12
      have hz := bB_1.mp c12
      have hok : (okN x y && tx z) = true := by rw [hxy, hz]; rfl
      refine zx_aldn hK.1 dX7_attribute_25 rfl ?_
      refine zx_get (v := .ref _) hK.1 dX7_attribute_26 (zF7_10 rfl) rfl (Nat.le_of_ble_eq_true rfl) rfl ?_
      refine zx_i0 hK dX7_attribute_29 (zL7_61 rfl) rfl  (Nat.le_of_ble_eq_true rfl) rfl (sp_wTakes h.1.2.1) ?_
      rintro _ d9 ⟨rfl, h9⟩
      obtain rfl := h9.symm
      refine zx_if 45 hK.1 dX7_attribute_32 (by decide) (fun c32 => ?_) (fun c32 => ?_)
      · simp only [ax_cn, Classical.not_not] at c32
        have hL : wL S 2 = true := wl_2 (bB_1.mp c32)
        have hW := sp_wev h.1 hI hL (Or.inr (Or.inl rfl)) (tx_n ht.1).2 (tx_n ht.2).2 (tx_n hz).2
        rw [(tx_n ht.1).1, (tx_n ht.2).1, (tx_n hz).1] at hW
        refine zx_aldn hK.1 dX7_attribute_45 rfl ?_
        refine zx_get (v := .ref _) hK.1 dX7_attribute_46 (zF7_10 rfl) rfl (Nat.le_of_ble_eq_true rfl) rfl ?_
        refine zx_icst (v := nI 2) hK.1 dX7_attribute_49 (by decide) ?_
        refine zx_ildn hK.1 dX7_attribute_50 rfl ?_
        refine zx_ildn hK.1 dX7_attribute_51 rfl ?_
        refine zx_ildn hK.1 dX7_attribute_52 rfl ?_
        refine zx_i4 hK dX7_attribute_53 (zL7_46 rfl) rfl rfl rfl rfl rfl (Nat.le_of_ble_eq_true rfl) rfl (hW) ?_
        rintro y1 d9 ⟨q0, q1⟩
        cases hQ : wQ S 2 x.toNatClampNeg y.toNatClampNeg with
        | false =>
          obtain ⟨rfl, rfl⟩ := q0 hQ
          refine zx_if 69 hK.1 dX7_attribute_56 (by decide) (fun c56 => ?_) (fun c56 => ?_)
          · simp only [ax_cn, Classical.not_not] at c56
            exact absurd rfl c56
          · simp only [ax_cn, Classical.not_not] at c56
            refine z7_throw hK.1 rfl hT hl hex zq_54 zk_50 zi_54 zs_66 (by decide +kernel) dX7_attribute_59 dX7_attribute_62 dX7_attribute_63 dX7_attribute_65 dX7_attribute_68 rfl ?_
            rw [hok, oN_t, oW_3 hL hQ]
            exact ⟨⟨2, rfl, rfl⟩, h, cG_rf⟩
        | true =>
          obtain ⟨rfl, m1, f1⟩ := q1 hQ
          refine zx_if 69 hK.1 dX7_attribute_56 (by decide) (fun c56 => ?_) (fun c56 => ?_)
          · simp only [ax_cn, Classical.not_not] at c56
            refine z7_rv hK.1 dX7_attribute_69 rfl ?_
            rw [hok, oN_t, oW_0 hL hQ]
            exact ⟨rfl, rfl, cC_we h m1 f1, cG_we f1⟩
          · simp only [ax_cn, Classical.not_not] at c56
            exact absurd c56 (by decide)
        
      · simp only [ax_cn, Classical.not_not] at c32
        have hL : wL S 2 = false := wl_2 (bB_0.mp c32)
        refine z7_throw hK.1 rfl hT hl hex zq_45 zk_41 zi_45 zs_64 (by decide +kernel) dX7_attribute_35 dX7_attribute_38 dX7_attribute_39 dX7_attribute_41 dX7_attribute_44 rfl ?_
        rw [hok, oN_t, oW_2 hL]
        exact ⟨⟨1, rfl, rfl⟩, h, cG_rf⟩
    · simp only [ax_cn, Classical.not_not] at c12
      have hok : (okN x y && tx z) = false := by rw [hxy, bB_0.mp c12]; rfl
      refine z7_throw hK.1 rfl hT hl hex zq_34 zk_30 zi_34 zs_59 (by decide +kernel) dX7_attribute_15 dX7_attribute_18 dX7_attribute_19 dX7_attribute_21 dX7_attribute_24 rfl ?_
      rw [hok]
      exact ⟨⟨0, rfl, rfl⟩, h, cG_rf⟩
theorem zt_text {l : Launch} (hl : l.stackTraces = false) (h : cC d S sl t es) (hI : WI S) : zE l zm_text [.ref 512, .int z] d (zV (oN (tx z) (oW S 3 0 0 z.toNatClampNeg) S).1 (cX d (oN (tx z) (oW S 3 0 0 z.toNatClampNeg) S).2 sl t es)) (zO [xIA, xIS, xUO] (oN (tx z) (oW S 3 0 0 z.toNatClampNeg) S).1 (cX d (oN (tx z) (oW S 3 0 0 z.toNatClampNeg) S).2 sl t es)) := by
  intro D ad ca p e s m args below meth c hK hT hex
  show zx _ 0 0 0 [some (.ref 512), some (.int z)] [] d
  have hn8 := h.1.2.1.1
  refine zx_ildn hK.1 dX7_text_0 rfl ?_
  refine zx_t1 hK dX7_text_1 (zL7_55 rfl) rfl rfl (Nat.le_of_ble_eq_true rfl) (sp_isText) ?_
  rintro _ d9 ⟨rfl, h9⟩
  obtain rfl := h9.symm
  refine zx_if 17 hK.1 dX7_text_4 (by decide) (fun c4 => ?_) (fun c4 => ?_)
  · simp only [ax_cn, Classical.not_not] at c4
    have hok := bB_1.mp c4
    refine zx_aldn hK.1 dX7_text_17 rfl ?_
    refine zx_get (v := .ref _) hK.1 dX7_text_18 (zF7_10 rfl) rfl (Nat.le_of_ble_eq_true rfl) rfl ?_
    refine zx_i0 hK dX7_text_21 (zL7_70 rfl) rfl  (Nat.le_of_ble_eq_true rfl) rfl (sp_wOpenE h.1.2.1) ?_
    rintro _ d9 ⟨rfl, h9⟩
    obtain rfl := h9.symm
    refine zx_if 37 hK.1 dX7_text_24 (by decide) (fun c24 => ?_) (fun c24 => ?_)
    · simp only [ax_cn, Classical.not_not] at c24
      have hL : wL S 3 = true := (wl_34 (Or.inl rfl)).trans (decide_eq_true (Nat.pos_of_ne_zero (fun q => c24 (by rw [q]; rfl))))
      have hW := sp_wev h.1 hI hL (Or.inr (Or.inr (Or.inl rfl))) (show 0 < tB by decide) (show 0 < tB by decide) (tx_n hok).2
      rw [(tx_n hok).1] at hW
      refine zx_aldn hK.1 dX7_text_37 rfl ?_
      refine zx_get (v := .ref _) hK.1 dX7_text_38 (zF7_10 rfl) rfl (Nat.le_of_ble_eq_true rfl) rfl ?_
      refine zx_icst (v := nI 3) hK.1 dX7_text_41 (by decide) ?_
      refine zx_icst (v := nI 0) hK.1 dX7_text_42 (by decide) ?_
      refine zx_icst (v := nI 0) hK.1 dX7_text_43 (by decide) ?_
      refine zx_ildn hK.1 dX7_text_44 rfl ?_
      refine zx_i4 hK dX7_text_45 (zL7_46 rfl) rfl rfl rfl rfl rfl (Nat.le_of_ble_eq_true rfl) rfl (hW) ?_
      rintro y1 d9 ⟨q0, q1⟩
      cases hQ : wQ S 3 0 0 with
      | false =>
        obtain ⟨rfl, rfl⟩ := q0 hQ
        refine zx_if 61 hK.1 dX7_text_48 (by decide) (fun c48 => ?_) (fun c48 => ?_)
        · simp only [ax_cn, Classical.not_not] at c48
          exact absurd rfl c48
        · simp only [ax_cn, Classical.not_not] at c48
          refine z7_throw hK.1 rfl hT hl hex zq_54 zk_50 zi_54 zs_76 (by decide +kernel) dX7_text_51 dX7_text_54 dX7_text_55 dX7_text_57 dX7_text_60 rfl ?_
          rw [hok, oN_t, oW_3 hL hQ]
          exact ⟨⟨2, rfl, rfl⟩, h, cG_rf⟩
      | true =>
        obtain ⟨rfl, m1, f1⟩ := q1 hQ
        refine zx_if 61 hK.1 dX7_text_48 (by decide) (fun c48 => ?_) (fun c48 => ?_)
        · simp only [ax_cn, Classical.not_not] at c48
          refine z7_rv hK.1 dX7_text_61 rfl ?_
          rw [hok, oN_t, oW_0 hL hQ]
          exact ⟨rfl, rfl, cC_we h m1 f1, cG_we f1⟩
        · simp only [ax_cn, Classical.not_not] at c48
          exact absurd c48 (by decide)
      
    · simp only [ax_cn, Classical.not_not] at c24
      have hL : wL S 3 = false := (wl_34 (Or.inl rfl)).trans (decide_eq_false (by rw [show S.2.1 = 0 from (nI_eq (by omega) (by decide)).mp (c24.trans nI_0.symm)]; decide))
      refine z7_throw hK.1 rfl hT hl hex zq_45 zk_41 zi_45 zs_74 (by decide +kernel) dX7_text_27 dX7_text_30 dX7_text_31 dX7_text_33 dX7_text_36 rfl ?_
      rw [hok, oN_t, oW_2 hL]
      exact ⟨⟨1, rfl, rfl⟩, h, cG_rf⟩
  · simp only [ax_cn, Classical.not_not] at c4
    have hok := bB_0.mp c4
    refine z7_throw hK.1 rfl hT hl hex zq_34 zk_30 zi_34 zs_68 (by decide +kernel) dX7_text_7 dX7_text_10 dX7_text_11 dX7_text_13 dX7_text_16 rfl ?_
    rw [hok]
    exact ⟨⟨0, rfl, rfl⟩, h, cG_rf⟩
theorem oC_0 {S S1 : WS} (h : oW S 4 0 0 0 = (0, S1)) : oC S = (0, S1) := by unfold oC; rw [h]; rfl
theorem oC_k {S S1 : WS} {k : Nat} (h : oW S 4 0 0 0 = (k + 1, S1)) : oC S = (k, S1) := by unfold oC; rw [h, if_neg (Nat.succ_ne_zero k)]; rfl
theorem zt_close {l : Launch} (hl : l.stackTraces = false) (h : cC d S sl t es) (hI : WI S) : zE l zm_close [.ref 512] d (zI (oC S).1 (fun y => y = nI (oC S).2.2.1) (cX d (oC S).2 sl t es)) (zO [xIS, xUO] (oC S).1 (cX d (oC S).2 sl t es)) := by
  intro D ad ca p e s m args below meth c hK hT hex
  show zx _ 0 0 0 [some (.ref 512)] [] d
  have hn8 := h.1.2.1.1
  refine zx_aldn hK.1 dX7_close_0 rfl ?_
  refine zx_get (v := .ref _) hK.1 dX7_close_1 (zF7_10 rfl) rfl (Nat.le_of_ble_eq_true rfl) rfl ?_
  refine zx_i0 hK dX7_close_4 (zL7_70 rfl) rfl  (Nat.le_of_ble_eq_true rfl) rfl (sp_wOpenE h.1.2.1) ?_
  rintro _ d9 ⟨rfl, h9⟩
  obtain rfl := h9.symm
  refine zx_if 20 hK.1 dX7_close_7 (by decide) (fun c7 => ?_) (fun c7 => ?_)
  · simp only [ax_cn, Classical.not_not] at c7
    have hL : wL S 4 = true := (wl_34 (Or.inr rfl)).trans (decide_eq_true (Nat.pos_of_ne_zero (fun q => c7 (by rw [q]; rfl))))
    have hW := sp_wev h.1 hI hL (Or.inr (Or.inr (Or.inr rfl))) (show 0 < tB by decide) (show 0 < tB by decide) (show 0 < tB by decide)
    refine zx_aldn hK.1 dX7_close_20 rfl ?_
    refine zx_get (v := .ref _) hK.1 dX7_close_21 (zF7_10 rfl) rfl (Nat.le_of_ble_eq_true rfl) rfl ?_
    refine zx_icst (v := nI 4) hK.1 dX7_close_24 (by decide) ?_
    refine zx_icst (v := nI 0) hK.1 dX7_close_25 (by decide) ?_
    refine zx_icst (v := nI 0) hK.1 dX7_close_26 (by decide) ?_
    refine zx_icst (v := nI 0) hK.1 dX7_close_27 (by decide) ?_
    refine zx_i4 hK dX7_close_28 (zL7_46 rfl) rfl rfl rfl rfl rfl (Nat.le_of_ble_eq_true rfl) rfl (hW) ?_
    rintro y1 d9 ⟨q0, q1⟩
    cases hQ : wQ S 4 0 0 with
    | false =>
      obtain ⟨rfl, rfl⟩ := q0 hQ
      refine zx_if 44 hK.1 dX7_close_31 (by decide) (fun c31 => ?_) (fun c31 => ?_)
      · simp only [ax_cn, Classical.not_not] at c31
        exact absurd rfl c31
      · simp only [ax_cn, Classical.not_not] at c31
        refine z7_throw hK.1 rfl hT hl hex zq_54 zk_50 zi_54 zs_76 (by decide +kernel) dX7_close_34 dX7_close_37 dX7_close_38 dX7_close_40 dX7_close_43 rfl ?_
        rw [oC_k (oW_3 hL hQ)]
        exact ⟨⟨1, rfl, rfl⟩, h, cG_rf⟩
    | true =>
      obtain ⟨rfl, m1, f1⟩ := q1 hQ
      refine zx_if 44 hK.1 dX7_close_31 (by decide) (fun c31 => ?_) (fun c31 => ?_)
      · simp only [ax_cn, Classical.not_not] at c31
        refine zx_aldn hK.1 dX7_close_44 rfl ?_
        refine zx_get (v := .ref _) hK.1 dX7_close_45 (zF7_10 rfl) rfl (Nat.le_of_ble_eq_true rfl) rfl ?_
        refine zx_i0 hK dX7_close_48 (zL7_70 rfl) rfl  (Nat.le_of_ble_eq_true rfl) rfl (sp_wOpenE m1.2.1) ?_
        rintro _ d9 ⟨rfl, h9⟩
        obtain rfl := h9.symm
        refine z7_ri hK.1 dX7_close_51 rfl rfl ?_
        rw [oC_0 (oW_0 hL hQ)]
        exact ⟨_, rfl, rfl, rfl, cC_we h m1 f1, cG_we f1⟩
      · simp only [ax_cn, Classical.not_not] at c31
        exact absurd c31 (by decide)
    
  · simp only [ax_cn, Classical.not_not] at c7
    have hL : wL S 4 = false := (wl_34 (Or.inr rfl)).trans (decide_eq_false (by rw [show S.2.1 = 0 from (nI_eq (by omega) (by decide)).mp (c7.trans nI_0.symm)]; decide))
    refine z7_throw hK.1 rfl hT hl hex zq_45 zk_41 zi_45 zs_74 (by decide +kernel) dX7_close_10 dX7_close_13 dX7_close_14 dX7_close_16 dX7_close_19 rfl ?_
    rw [oC_k (oW_2 hL)]
    exact ⟨⟨0, rfl, rfl⟩, h, cG_rf⟩
end ZT
