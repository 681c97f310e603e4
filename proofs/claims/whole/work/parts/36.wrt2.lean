/-! WRITING, names and values. -/
def sSp (T : TT) (sp : Nat) : List Nat × TT × Nat := match fi (T 0 0) sp with
  | some p => (pb (wd ((T 0 0).length + 1)) (p + 1), T, p)
  | none => (pb (wd ((T 0 0).length + 1)) 0 ++ (nb (cl sp) ++ lts sp), tst T 0 0 (T 0 0 ++ [sp]), (T 0 0).length)
def sLo (T : TT) (p lo : Nat) : List Nat × TT := match fi (T 1 p) lo with
  | some q => (nb 0 ++ pb (wd (T 1 p).length) q, T)
  | none => (nb (cl lo) ++ lts lo, tst T 1 p (T 1 p ++ [lo]))
def sFo (T : TT) (sp lo : Nat) : TT × Nat := match fn T sp lo with
  | some i => (T, i)
  | none => (tnm T sp lo, (T 4 0).length)
def sNa (T : TT) (sp lo : Nat) : List Nat × TT × Nat :=
  ((sSp T sp).1 ++ (sLo (sSp T sp).2.1 (sSp T sp).2.2 lo).1, (sFo (sLo (sSp T sp).2.1 (sSp T sp).2.2 lo).2 sp lo).1, (sFo (sLo (sSp T sp).2.1 (sSp T sp).2.2 lo).2 sp lo).2)
def sVa (T : TT) (n v : Nat) : List Nat × TT := match fi (T 2 n) v with
  | some p => (nb 0 ++ pb (wd (T 2 n).length) p, T)
  | none => match fi (T 3 0) v with
    | some p => (nb 1 ++ pb (wd (T 3 0).length) p, T)
    | none => (nb (cl v + 2) ++ lts v, tav T n v)
theorem pb_l5 (m v : Nat) : (pb (wd m) v).length ≤ 5 := by rw [pb_len]; exact wd_5 m
theorem sSp_len (T : TT) (sp : Nat) : (sSp T sp).1.length ≤ 53 := by
  have h1 := pb_l5 ((T 0 0).length + 1)
  have h2 := nb_len (cl sp)
  have h3 := lts_len sp
  unfold sSp
  split
  · rename_i q _; have := h1 (q + 1); simp only; omega
  · have := h1 0; simp only [List.length_append]; omega
theorem sLo_len (T : TT) (p lo : Nat) : (sLo T p lo).1.length ≤ 48 := by
  have h1 := pb_l5 (T 1 p).length
  have h2 := nb_len (cl lo)
  have h3 := lts_len lo
  have h4 := nb_len 0
  unfold sLo
  split
  · rename_i q _; have := h1 q; simp only [List.length_append]; omega
  · simp only [List.length_append]; omega
theorem sNa_len (T : TT) (sp lo : Nat) : (sNa T sp lo).1.length ≤ 101 := by
  have h1 := sSp_len T sp
  have h2 := sLo_len (sSp T sp).2.1 (sSp T sp).2.2 lo
  unfold sNa
  simp only [List.length_append]
  omega
theorem sVa_len (T : TT) (n v : Nat) : (sVa T n v).1.length ≤ 48 := by
  have h2 := nb_len (cl v + 2)
  have h3 := lts_len v
  have h4 := nb_len 0
  have h5 := nb_len 1
  unfold sVa
  split
  · have := pb_l5 (T 2 n).length; rename_i q _; have := this q; simp only [List.length_append]; omega
  · split
    · have := pb_l5 (T 3 0).length; rename_i q _; have := this q; simp only [List.length_append]; omega
    · simp only [List.length_append]; omega
theorem mem_app1 {l : List Nat} {x B : Nat} (h : ∀ e, e ∈ l → e < B) (hx : x < B) : ∀ e, e ∈ l ++ [x] → e < B := fun e he => (List.mem_append.mp he).elim (h e) (fun h2 => by rw [List.mem_singleton.mp h2]; exact hx)
theorem sSp_TB {T : TT} {sp : Nat} (h : TB T) (hs : sp < tB) : TB (sSp T sp).2.1 := by
  unfold sSp
  split
  · exact h
  · exact TB_st h (mem_app1 (h 0 0) hs)
theorem sLo_TB {T : TT} {p lo : Nat} (h : TB T) (hs : lo < tB) : TB (sLo T p lo).2 := by
  unfold sLo
  split
  · exact h
  · exact TB_st h (mem_app1 (h 1 p) hs)
theorem tnm_TB {T : TT} {sp lo : Nat} (h : TB T) (hs : sp < tB) (hl : lo < tB) : TB (tnm T sp lo) := TB_st (TB_st h (mem_app1 (h 4 0) hs)) (mem_app1 (h 5 0) hl)
theorem sFo_TB {T : TT} {sp lo : Nat} (h : TB T) (hs : sp < tB) (hl : lo < tB) : TB (sFo T sp lo).1 := by
  unfold sFo
  split
  · exact h
  · exact tnm_TB h hs hl
theorem sNa_TB {T : TT} {sp lo : Nat} (h : TB T) (hs : sp < tB) (hl : lo < tB) : TB (sNa T sp lo).2.1 := sFo_TB (sLo_TB (sSp_TB h hs) hl) hs hl
theorem tav_TB {T : TT} {n v : Nat} (h : TB T) (hv : v < tB) : TB (tav T n v) := by
  unfold tav
  split
  · exact h
  · refine TB_st (TB_st h ?_) ?_
    · split
      · exact mem_app1 (h 2 n) hv
      · exact h 2 n
    · split
      · exact mem_app1 (h 3 0) hv
      · exact h 3 0
theorem sVa_TB {T : TT} {n v : Nat} (h : TB T) (hv : v < tB) : TB (sVa T n v).2 := by
  unfold sVa
  split
  · exact h
  · split
    · exact h
    · exact tav_TB h hv
/-- the names' spaces and local parts are as many -/
def T45 (T : TT) : Prop := (T 4 0).length = (T 5 0).length
theorem T45_st {T : TT} {j k : Nat} {l : List Nat} (h : T45 T) (hj : j ≠ 4) (hj5 : j ≠ 5) : T45 (tst T j k l) := by
  unfold T45
  rw [tst_ne (Or.inl (Ne.symm hj)), tst_ne (Or.inl (Ne.symm hj5))]
  exact h
theorem tnm_45 {T : TT} {sp lo : Nat} (h : T45 T) : T45 (tnm T sp lo) := by
  unfold T45 tnm
  rw [tst_at, tst_ne (Or.inl (by decide)), tst_at, List.length_append, List.length_append, show (T 4 0).length = (T 5 0).length from h]
  rfl
theorem sSp_45 {T : TT} {sp : Nat} (h : T45 T) : T45 (sSp T sp).2.1 := by
  unfold sSp
  split
  · exact h
  · exact T45_st h (by decide) (by decide)
theorem sLo_45 {T : TT} {p lo : Nat} (h : T45 T) : T45 (sLo T p lo).2 := by
  unfold sLo
  split
  · exact h
  · exact T45_st h (by decide) (by decide)
theorem sFo_45 {T : TT} {sp lo : Nat} (h : T45 T) : T45 (sFo T sp lo).1 := by
  unfold sFo
  split
  · exact h
  · exact tnm_45 h
theorem sNa_45 {T : TT} {sp lo : Nat} (h : T45 T) : T45 (sNa T sp lo).2.1 := sFo_45 (sLo_45 (sSp_45 h))
theorem tav_45 {T : TT} {n v : Nat} (h : T45 T) : T45 (tav T n v) := by
  unfold tav
  split
  · exact h
  · exact T45_st (T45_st h (by decide) (by decide)) (by decide) (by decide)
theorem sVa_45 {T : TT} {n v : Nat} (h : T45 T) : T45 (sVa T n v).2 := by
  unfold sVa
  split
  · exact h
  · split
    · exact h
    · exact tav_45 h
/-- what writing may change beside the open elements: the writer's tables and bits -/
def wf (d d1 : ax_D) : Prop := ∀ id, 256 ≤ id → id ≠ 515 → id ≠ 516 → d1 id = d id
theorem wf_rf (d : ax_D) : wf d d := fun _ _ _ _ => rfl
theorem wf_tr {d d1 d2 : ax_D} (h : wf d d1) (h2 : wf d1 d2) : wf d d2 := fun id a b c => (h2 id a b c).trans (h id a b c)
theorem wf_bt {d d1 : ax_D} (h : bt_fr d d1 515) : wf d d1 := fun id _ b c => h id b c
theorem wf_tb {d d1 : ax_D} (h : tb_fr d d1 0) : wf d d1 := fun id a _ _ => h id (Or.inr a)
section WB
variable {d d1 : ax_D} {l : List Nat} {T : TT} {n : Nat} {nm : Nat → Nat} {fl : Nat → Bool} {b : Bool}
theorem tb_bt (h : tb_is d 0 T) (hf : bt_fr d d1 515) : tb_is d1 0 T := tb_same h (fun id hi => hf id (by omega) (by omega)) (by decide)
theorem bt_tb (h : bt_is d 515 l) (hf : tb_fr d d1 0) : bt_is d1 515 l := bt_keep h (hf 515 (by decide)) (hf 516 (by decide))
theorem gr_wf (h : gr_is d 0 n nm fl b) (hf : wf d d1) : gr_is d1 0 n nm fl b := gr_keep h (hf 521 (by decide) (by decide) (by decide)) (hf 523 (by decide) (by decide) (by decide)) (hf 525 (by decide) (by decide) (by decide))
end WB
section WW
variable {d : ax_D} {l : List Nat} {T : TT}
theorem sp_tPlace {q m : Nat} (h : bt_is d 515 l) (hq : q < 2 ^ 31) (hm : m ≤ 32) (hl : l.length + 5 ≤ 4000) : ax_E 72 [.ref 513, .int (nI q), .int (nI m)] d (ax_Pv fun d1 => bt_is d1 515 (l ++ pb (wd m) q) ∧ bt_fr d d1 515) := by
  show ax_W 72 0 [some (.ref 513), some (.int (nI q)), some (.int (nI m))] [] d _
  refine wx_aldn j72_0 rfl ?_
  refine wx_get (v := .ref _) j72_1 rfl (Nat.le_of_ble_eq_true rfl) rfl ?_
  refine wx_ildn j72_4 rfl ?_
  refine wx_ildn j72_5 rfl ?_
  refine wx_t1 j72_6 rfl rfl (Nat.le_of_ble_eq_true rfl) (sp_placeBits hm) ?_
  rintro _ d9 ⟨rfl, h9⟩
  obtain rfl := h9.symm
  refine wx_v2 j72_9 rfl rfl rfl (Nat.le_of_ble_eq_true rfl) rfl (sp_append (Or.inl rfl) h hq (Nat.lt_of_le_of_lt (wd_5 m) (by decide)) (by have := wd_5 m; omega)) ?_
  rintro d1 h1
  refine wx_rv j72_12 rfl ?_
  exact h1
theorem tn_last {x : Int32} {v g : Nat} {d0 : ax_D} (h : bt_is d 515 l) (hl : l.length + 4 ≤ 4000) (hv : v < 8) (hg : g < 4) (hf : bt_fr d0 d 515) : ax_W 71 4 [some (.ref 513), some (.int x), some (.int (nI v)), some (.int (nI g))] [] d (ax_Pv fun d1 => bt_is d1 515 (l ++ pb 4 v) ∧ bt_fr d0 d1 515) := by
  refine wx_ildn j71_4 rfl ?_
  refine wx_icst (v := nI 4) j71_5 (by decide) ?_
  refine wx_cmp 41 j71_6 (by decide) (fun c6 => ?_) (fun c6 => ?_)
  · simp only [ax_cn, Classical.not_not] at c6
    exact absurd c6 (nI_ge hg (by decide))
  · simp only [ax_cn, Classical.not_not] at c6
    refine wx_ildn j71_9 rfl ?_
    refine wx_bpsh (v := nI 8) j71_10 (by decide) ?_
    refine wx_cmp 41 j71_12 (by decide) (fun c12 => ?_) (fun c12 => ?_)
    · simp only [ax_cn, Classical.not_not] at c12
      refine wx_aldn j71_41 rfl ?_
      refine wx_get (v := .ref _) j71_42 rfl (Nat.le_of_ble_eq_true rfl) rfl ?_
      refine wx_ildn j71_45 rfl ?_
      refine wx_icst (v := nI 4) j71_46 (by decide) ?_
      refine wx_v2 j71_47 rfl rfl rfl (Nat.le_of_ble_eq_true rfl) rfl (sp_append (w := 4) (Or.inl rfl) h (by omega) (by decide) (by omega)) ?_
      rintro d1 ⟨h1, hf1⟩
      refine wx_rv j71_50 rfl ?_
      exact ⟨h1, fun id a1 a2 => (hf1 id a1 a2).trans (hf id a1 a2)⟩
    · simp only [ax_cn, Classical.not_not] at c12
      exact absurd (nI_lt hv (by decide)) c12
theorem sp_tNumber {v : Nat} (h : bt_is d 515 l) (hv : v < 64) (hl : l.length + 8 ≤ 4000) : ax_E 71 [.ref 513, .int (nI v)] d (ax_Pv fun d1 => bt_is d1 515 (l ++ nb v) ∧ bt_fr d d1 515) := by
  show ax_W 71 0 [some (.ref 513), some (.int (nI v)), none, none] [] d _
  by_cases h8 : v < 8
  · have e : nb v = pb 4 v := by unfold nb; rw [if_pos h8]
    rw [e]
    refine wx_ildn j71_0 rfl ?_
    refine wx_istn (L' := [_, _, some (.int _), _]) j71_1 (Nat.le_of_ble_eq_true rfl) rfl ?_
    refine wx_icst (v := nI 1) j71_2 (by decide) ?_
    refine wx_istn (L' := [_, _, _, some (.int _)]) j71_3 (Nat.le_of_ble_eq_true rfl) rfl ?_
    exact tn_last h (by omega) h8 (by decide) (bt_fr_rf d 515)
  · have e : nb v = pb 4 (8 + v % 8) ++ pb 4 (v / 8) := by unfold nb; rw [if_neg h8]
    rw [e, ← List.append_assoc]
    refine wx_ildn j71_0 rfl ?_
    refine wx_istn (L' := [_, _, some (.int _), _]) j71_1 (Nat.le_of_ble_eq_true rfl) rfl ?_
    refine wx_icst (v := nI 1) j71_2 (by decide) ?_
    refine wx_istn (L' := [_, _, _, some (.int _)]) j71_3 (Nat.le_of_ble_eq_true rfl) rfl ?_
    refine wx_ildn j71_4 rfl ?_
    refine wx_icst (v := nI 4) j71_5 (by decide) ?_
    refine wx_cmp 41 j71_6 (by decide) (fun c6 => ?_) (fun c6 => ?_)
    · simp only [ax_cn, Classical.not_not] at c6
      exact absurd c6 (by decide)
    · simp only [ax_cn, Classical.not_not] at c6
      refine wx_ildn j71_9 rfl ?_
      refine wx_bpsh (v := nI 8) j71_10 (by decide) ?_
      refine wx_cmp 41 j71_12 (by decide) (fun c12 => ?_) (fun c12 => ?_)
      · simp only [ax_cn, Classical.not_not] at c12
        exact absurd ((nI_ltI (by omega) (by decide)).mp c12) h8
      · simp only [ax_cn, Classical.not_not] at c12
        refine wx_aldn j71_15 rfl ?_
        refine wx_get (v := .ref _) j71_16 rfl (Nat.le_of_ble_eq_true rfl) rfl ?_
        refine wx_bpsh (v := nI 8) j71_19 (by decide) ?_
        refine wx_ildn j71_21 rfl ?_
        refine wx_bpsh (v := nI 8) j71_22 (by decide) ?_
        refine wx_irem j71_24 (by decide) ?_
        rw [pk_rem (by omega) (by decide) (by decide)]
        refine wx_iadd j71_25 ?_
        rw [nI_add]
        refine wx_icst (v := nI 4) j71_26 (by decide) ?_
        refine wx_v2 j71_27 rfl rfl rfl (Nat.le_of_ble_eq_true rfl) rfl (sp_append (v := 8 + v % 8) (w := 4) (Or.inl rfl) h (by omega) (by decide) (by omega)) ?_
        rintro d1 ⟨h1, hf1⟩
        refine wx_ildn j71_30 rfl ?_
        refine wx_bpsh (v := nI 8) j71_31 (by decide) ?_
        refine wx_idiv j71_33 (by decide) ?_
        rw [pk_div (by omega) (by decide) (by decide)]
        refine wx_istn (L' := [_, _, some (.int _), _]) j71_34 (Nat.le_of_ble_eq_true rfl) rfl ?_
        refine wx_iinc (v := nI 2) (L' := [_, _, _, some (.int _)]) j71_35 rfl (by decide) rfl ?_
        refine wx_goto 4 j71_38 (by decide) ?_
        exact tn_last h1 (by rw [List.length_append, pb_len]; omega) (by omega) (by decide) hf1
theorem tl_loop {x : Int32} : ∀ f c t (l : List Nat) (d1 : ax_D), c + f = 5 → t < 2 ^ 31 → bt_is d1 515 l → l.length + 8 * f ≤ 4000 → bt_fr d d1 515 → ax_W 70 4 [some (.ref 513), some (.int x), some (.int (nI t)), some (.int (nI c))] [] d1 (ax_Pv fun d2 => bt_is d2 515 (l ++ ltr f t) ∧ bt_fr d d2 515) := by
  intro f
  induction f with
  | zero =>
    intro c t l d1 hc ht h hl hf
    obtain rfl : c = 5 := by omega
    refine wx_ildn j70_4 rfl ?_
    refine wx_icst (v := nI 5) j70_5 (by decide) ?_
    refine wx_cmp 32 j70_6 (by decide) (fun c6 => ?_) (fun c6 => ?_)
    · simp only [ax_cn, Classical.not_not] at c6
      refine wx_rv j70_32 rfl ?_
      exact ⟨by rw [ltr, List.append_nil]; exact h, hf⟩
    · simp only [ax_cn, Classical.not_not] at c6
      exact absurd (show nI 5 ≤ nI 5 by decide) c6
  | succ f ih =>
    intro c t l d1 hc ht h hl hf
    refine wx_ildn j70_4 rfl ?_
    refine wx_icst (v := nI 5) j70_5 (by decide) ?_
    refine wx_cmp 32 j70_6 (by decide) (fun c6 => ?_) (fun c6 => ?_)
    · simp only [ax_cn, Classical.not_not] at c6
      exact absurd c6 (nI_ge (by omega) (by decide))
    · simp only [ax_cn, Classical.not_not] at c6
      refine wx_ildn j70_9 rfl ?_
      refine wx_if 32 j70_10 (by decide) (fun c10 => ?_) (fun c10 => ?_)
      · simp only [ax_cn, Classical.not_not] at c10
        have ht0 : t = 0 := Nat.eq_zero_of_not_pos (fun q => nI_nle q ht c10)
        refine wx_rv j70_32 rfl ?_
        have e : ltr (f + 1) t = [] := by show (if t = 0 then [] else nb (t % 27) ++ ltr f (t / 27)) = _; rw [if_pos ht0]
        exact ⟨by rw [e, List.append_nil]; exact h, hf⟩
      · simp only [ax_cn, Classical.not_not] at c10
        have ht0 : ¬ t = 0 := fun q => c10 (by rw [q]; decide)
        refine wx_aldn j70_13 rfl ?_
        refine wx_ildn j70_14 rfl ?_
        refine wx_bpsh (v := nI 27) j70_15 (by decide) ?_
        refine wx_irem j70_17 (by decide) ?_
        rw [pk_rem ht (by decide) (by decide)]
        refine wx_v1 j70_18 rfl rfl (Nat.le_of_ble_eq_true rfl) rfl (sp_tNumber h (by omega) (by omega)) ?_
        rintro d2 ⟨h2, hf2⟩
        refine wx_ildn j70_21 rfl ?_
        refine wx_bpsh (v := nI 27) j70_22 (by decide) ?_
        refine wx_idiv j70_24 (by decide) ?_
        rw [pk_div ht (by decide) (by decide)]
        refine wx_istn (L' := [_, _, some (.int _), _]) j70_25 (Nat.le_of_ble_eq_true rfl) rfl ?_
        refine wx_iinc (v := nI (c + 1)) (L' := [_, _, _, some (.int _)]) j70_26 rfl (nI_1 c) rfl ?_
        refine wx_goto 4 j70_29 (by decide) ?_
        have hnl := nb_len (t % 27)
        have h3 := ih (c + 1) (t / 27) (l ++ nb (t % 27)) d2 (by omega) (Nat.lt_of_le_of_lt (Nat.div_le_self _ _) ht) h2 (by rw [List.length_append]; omega) (fun id a1 a2 => (hf2 id a1 a2).trans (hf id a1 a2))
        have e : ltr (f + 1) t = nb (t % 27) ++ ltr f (t / 27) := by show (if t = 0 then [] else nb (t % 27) ++ ltr f (t / 27)) = _; rw [if_neg ht0]
        rw [e, ← List.append_assoc]
        exact h3
theorem sp_tLetters {t : Nat} (h : bt_is d 515 l) (ht : t < tB) (hl : l.length + 40 ≤ 4000) : ax_E 70 [.ref 513, .int (nI t)] d (ax_Pv fun d1 => bt_is d1 515 (l ++ lts t) ∧ bt_fr d d1 515) := by
  show ax_W 70 0 [some (.ref 513), some (.int (nI t)), none, none] [] d _
  refine wx_ildn j70_0 rfl ?_
  refine wx_istn (L' := [_, _, some (.int _), _]) j70_1 (Nat.le_of_ble_eq_true rfl) rfl ?_
  refine wx_icst (v := nI 0) j70_2 (by decide) ?_
  refine wx_istn (L' := [_, _, _, some (.int _)]) j70_3 (Nat.le_of_ble_eq_true rfl) rfl ?_
  exact tl_loop 5 0 t l d rfl (tB_lt ht) h (by omega) (bt_fr_rf d 515)
theorem bl_app {m : List Nat} {k C : Nat} (h1 : m.length ≤ k) (h : l.length + (k + C) ≤ 4000) : (l ++ m).length + C ≤ 4000 := by rw [List.length_append]; omega
theorem oi_some {o : Option Nat} (h : ¬ oi o = -1) : ∃ q, o = some q := by
  cases o with
  | none => exact absurd rfl h
  | some q => exact ⟨q, rfl⟩
theorem sp_tSpace {sp : Nat} (ht : tb_is d 0 T) (h : bt_is d 515 l) (hb : TB T) (hsp : sp < tB) (hroom : fi (T 0 0) sp = none → (T 0 0).length < 6) (hl : l.length + 60 ≤ 4000) : ax_E 67 [.ref 513, .int (nI sp)] d (ax_Pi fun y d1 => y = nI (sSp T sp).2.2 ∧ tb_is d1 0 (sSp T sp).2.1 ∧ bt_is d1 515 (l ++ (sSp T sp).1) ∧ wf d d1) := by
  show ax_W 67 0 [some (.ref 513), some (.int (nI sp)), none, none] [] d _
  refine wx_aldn j67_0 rfl ?_
  refine wx_get (v := .ref _) j67_1 rfl (Nat.le_of_ble_eq_true rfl) rfl ?_
  refine wx_get (v := .ref _) j67_4 rfl (Nat.le_of_ble_eq_true rfl) rfl ?_
  refine wx_icst (v := nI 0) j67_7 (by decide) ?_
  refine wx_i1 j67_8 rfl rfl (Nat.le_of_ble_eq_true rfl) rfl (tp_cnt (s := 0) (j := 0) (k := 0) (by decide) (by decide) (by decide) ht) ?_
  rintro _ d9 ⟨rfl, h9⟩
  obtain rfl := h9.symm
  refine wx_istn (L' := [_, _, some (.int _), _]) j67_11 (Nat.le_of_ble_eq_true rfl) rfl ?_
  refine wx_aldn j67_12 rfl ?_
  refine wx_get (v := .ref _) j67_13 rfl (Nat.le_of_ble_eq_true rfl) rfl ?_
  refine wx_get (v := .ref _) j67_16 rfl (Nat.le_of_ble_eq_true rfl) rfl ?_
  refine wx_icst (v := nI 0) j67_19 (by decide) ?_
  refine wx_ildn j67_20 rfl ?_
  refine wx_i2 j67_21 rfl rfl rfl (Nat.le_of_ble_eq_true rfl) rfl (tp_find (s := 0) (j := 0) (k := 0) (by decide) (by decide) (by decide) ht hb hsp) ?_
  rintro _ d9 ⟨rfl, h9⟩
  obtain rfl := h9.symm
  refine wx_istn (L' := [_, _, _, some (.int _)]) j67_24 (Nat.le_of_ble_eq_true rfl) rfl ?_
  refine wx_ildn j67_25 rfl ?_
  refine wx_icst (v := (-1)) j67_26 (by decide) ?_
  refine wx_cmp 42 j67_27 (by decide) (fun c27 => ?_) (fun c27 => ?_)
  · simp only [ax_cn, Classical.not_not] at c27
    have hno : fi (T 0 0) sp = none := (oi_neg (fi_31 ht (by decide) (by decide))).mp c27
    refine wx_aldn j67_42 rfl ?_
    refine wx_icst (v := nI 0) j67_43 (by decide) ?_
    refine wx_ildn j67_44 rfl ?_
    refine wx_icst (v := nI 1) j67_45 (by decide) ?_
    refine wx_iadd j67_46 ?_
    rw [nI_add]
    have h6 := hroom hno
    refine wx_v2 j67_47 rfl rfl rfl (Nat.le_of_ble_eq_true rfl) rfl (sp_tPlace h (by decide) (by omega) (by omega)) ?_
    rintro d1 ⟨h1, hf1⟩
    have hp5 := pb_l5 ((T 0 0).length + 1) 0
    refine wx_aldn j67_50 rfl ?_
    refine wx_ildn j67_51 rfl ?_
    refine wx_t1 j67_52 rfl rfl (Nat.le_of_ble_eq_true rfl) (sp_countL hsp) ?_
    rintro _ d9 ⟨rfl, h9⟩
    obtain rfl := h9.symm
    have hc5 := cl_le sp
    refine wx_v1 j67_55 rfl rfl (Nat.le_of_ble_eq_true rfl) rfl (sp_tNumber h1 (by omega) (by rw [List.length_append]; omega)) ?_
    rintro d2 ⟨h2, hf2⟩
    have hn8 := nb_len (cl sp)
    refine wx_aldn j67_58 rfl ?_
    refine wx_ildn j67_59 rfl ?_
    refine wx_v1 j67_60 rfl rfl (Nat.le_of_ble_eq_true rfl) rfl (sp_tLetters h2 hsp (by rw [List.length_append, List.length_append]; omega)) ?_
    rintro d3 ⟨h3, hf3⟩
    have ht3 := tb_bt (tb_bt (tb_bt ht hf1) hf2) hf3
    refine wx_aldn j67_63 rfl ?_
    refine wx_get (v := .ref _) j67_64 rfl (Nat.le_of_ble_eq_true rfl) rfl ?_
    refine wx_ildn j67_67 rfl ?_
    refine wx_i1 j67_68 rfl rfl (Nat.le_of_ble_eq_true rfl) rfl (sp_addSpace (s := 0) (by decide) ht3) ?_
    rintro y d4 ⟨h4, -, hf4⟩
    obtain ⟨rfl, h5⟩ := h4 h6
    refine wx_ri j67_71 rfl rfl ?_
    have e : sSp T sp = (pb (wd ((T 0 0).length + 1)) 0 ++ (nb (cl sp) ++ lts sp), tst T 0 0 (T 0 0 ++ [sp]), (T 0 0).length) := by unfold sSp; rw [hno]
    rw [e]
    refine ⟨rfl, h5, ?_, wf_tr (wf_tr (wf_tr (wf_bt hf1) (wf_bt hf2)) (wf_bt hf3)) (wf_tb hf4)⟩
    have h6 := bt_tb h3 hf4
    rw [List.append_assoc, List.append_assoc] at h6
    exact h6
  · simp only [ax_cn, Classical.not_not] at c27
    obtain ⟨q, hq⟩ := oi_some c27
    rw [hq]
    simp only [oi]
    refine wx_aldn j67_30 rfl ?_
    refine wx_ildn j67_31 rfl ?_
    refine wx_icst (v := nI 1) j67_32 (by decide) ?_
    refine wx_iadd j67_33 ?_
    rw [nI_add]
    refine wx_ildn j67_34 rfl ?_
    refine wx_icst (v := nI 1) j67_35 (by decide) ?_
    refine wx_iadd j67_36 ?_
    rw [nI_add]
    have hq20 := Nat.lt_of_lt_of_le (fi_lt hq) (tb_l20 ht (j := 0) (k := 0) (by decide) (by decide))
    have h20 := tb_l20 ht (j := 0) (k := 0) (by decide) (by decide)
    refine wx_v2 j67_37 rfl rfl rfl (Nat.le_of_ble_eq_true rfl) rfl (sp_tPlace h (by omega) (by omega) (by omega)) ?_
    rintro d1 ⟨h1, hf1⟩
    refine wx_ildn j67_40 rfl ?_
    refine wx_ri j67_41 rfl rfl ?_
    have e : sSp T sp = (pb (wd ((T 0 0).length + 1)) (q + 1), T, q) := by unfold sSp; rw [hq]
    rw [e]
    exact ⟨rfl, tb_bt ht hf1, h1, wf_bt hf1⟩
theorem sp_tLocal {q0 lo : Nat} (ht : tb_is d 0 T) (h : bt_is d 515 l) (hb : TB T) (hlo : lo < tB) (hq0 : q0 < 6) (hroom : fi (T 1 q0) lo = none → (T 1 q0).length < 10) (hl : l.length + 60 ≤ 4000) : ax_E 68 [.ref 513, .int (nI q0), .int (nI lo)] d (ax_Pv fun d1 => tb_is d1 0 (sLo T q0 lo).2 ∧ bt_is d1 515 (l ++ (sLo T q0 lo).1) ∧ wf d d1) := by
  show ax_W 68 0 [some (.ref 513), some (.int (nI q0)), some (.int (nI lo)), none] [] d _
  refine wx_aldn j68_0 rfl ?_
  refine wx_get (v := .ref _) j68_1 rfl (Nat.le_of_ble_eq_true rfl) rfl ?_
  refine wx_get (v := .ref _) j68_4 rfl (Nat.le_of_ble_eq_true rfl) rfl ?_
  refine wx_ildn j68_7 rfl ?_
  refine wx_ildn j68_8 rfl ?_
  refine wx_i2 j68_9 rfl rfl rfl (Nat.le_of_ble_eq_true rfl) rfl (tp_find (s := 0) (j := 1) (by decide) (by decide) hq0 ht hb hlo) ?_
  rintro _ d9 ⟨rfl, h9⟩
  obtain rfl := h9.symm
  refine wx_istn (L' := [_, _, _, some (.int _)]) j68_12 (Nat.le_of_ble_eq_true rfl) rfl ?_
  refine wx_ildn j68_13 rfl ?_
  refine wx_icst (v := (-1)) j68_14 (by decide) ?_
  refine wx_cmp 40 j68_15 (by decide) (fun c15 => ?_) (fun c15 => ?_)
  · simp only [ax_cn, Classical.not_not] at c15
    have hno : fi (T 1 q0) lo = none := (oi_neg (fi_31 ht (by decide) hq0)).mp c15
    refine wx_aldn j68_40 rfl ?_
    refine wx_ildn j68_41 rfl ?_
    refine wx_t1 j68_42 rfl rfl (Nat.le_of_ble_eq_true rfl) (sp_countL hlo) ?_
    rintro _ d9 ⟨rfl, h9⟩
    obtain rfl := h9.symm
    have hc5 := cl_le lo
    refine wx_v1 j68_45 rfl rfl (Nat.le_of_ble_eq_true rfl) rfl (sp_tNumber h (by omega) (by omega)) ?_
    rintro d1 ⟨h1, hf1⟩
    have hn8 := nb_len (cl lo)
    refine wx_aldn j68_48 rfl ?_
    refine wx_ildn j68_49 rfl ?_
    refine wx_v1 j68_50 rfl rfl (Nat.le_of_ble_eq_true rfl) rfl (sp_tLetters h1 hlo (by rw [List.length_append]; omega)) ?_
    rintro d2 ⟨h2, hf2⟩
    have ht2 := tb_bt (tb_bt ht hf1) hf2
    refine wx_aldn j68_53 rfl ?_
    refine wx_get (v := .ref _) j68_54 rfl (Nat.le_of_ble_eq_true rfl) rfl ?_
    refine wx_get (v := .ref _) j68_57 rfl (Nat.le_of_ble_eq_true rfl) rfl ?_
    refine wx_ildn j68_60 rfl ?_
    refine wx_ildn j68_61 rfl ?_
    refine wx_v2 j68_62 rfl rfl rfl (Nat.le_of_ble_eq_true rfl) rfl (tp_last (s := 0) (j := 1) (by decide) (by decide) hq0 ht2) ?_
    rintro d3 ⟨h3, hf3⟩
    rw [if_pos (show (T 1 q0).length < ax_rm 1 from hroom hno)] at h3
    refine wx_rv j68_65 rfl ?_
    have e : sLo T q0 lo = (nb (cl lo) ++ lts lo, tst T 1 q0 (T 1 q0 ++ [lo])) := by unfold sLo; rw [hno]
    rw [e]
    rw [List.append_assoc] at h2
    have hft := rw_tb (s := 0) (j := 1) hf3 (by decide)
    exact ⟨h3, bt_tb h2 hft, wf_tr (wf_tr (wf_bt hf1) (wf_bt hf2)) (wf_tb hft)⟩
  · simp only [ax_cn, Classical.not_not] at c15
    obtain ⟨q, hq⟩ := oi_some c15
    rw [hq]
    simp only [oi]
    refine wx_aldn j68_18 rfl ?_
    refine wx_icst (v := nI 0) j68_19 (by decide) ?_
    refine wx_v1 j68_20 rfl rfl (Nat.le_of_ble_eq_true rfl) rfl (sp_tNumber h (by decide) (by omega)) ?_
    rintro d1 ⟨h1, hf1⟩
    have hn8 := nb_len 0
    have ht1 := tb_bt ht hf1
    refine wx_aldn j68_23 rfl ?_
    refine wx_ildn j68_24 rfl ?_
    refine wx_aldn j68_25 rfl ?_
    refine wx_get (v := .ref _) j68_26 rfl (Nat.le_of_ble_eq_true rfl) rfl ?_
    refine wx_get (v := .ref _) j68_29 rfl (Nat.le_of_ble_eq_true rfl) rfl ?_
    refine wx_ildn j68_32 rfl ?_
    refine wx_i1 j68_33 rfl rfl (Nat.le_of_ble_eq_true rfl) rfl (tp_cnt (s := 0) (j := 1) (by decide) (by decide) hq0 ht1) ?_
    rintro _ d9 ⟨rfl, h9⟩
    obtain rfl := h9.symm
    have hq20 := Nat.lt_of_lt_of_le (fi_lt hq) (tb_l20 ht (j := 1) (by decide) hq0)
    have h20 := tb_l20 ht (j := 1) (by decide) hq0
    refine wx_v2 j68_36 rfl rfl rfl (Nat.le_of_ble_eq_true rfl) rfl (sp_tPlace h1 (by omega) (by omega) (by rw [List.length_append]; omega)) ?_
    rintro d2 ⟨h2, hf2⟩
    refine wx_rv j68_39 rfl ?_
    have e : sLo T q0 lo = (nb 0 ++ pb (wd (T 1 q0).length) q, T) := by unfold sLo; rw [hq]
    rw [e]
    rw [List.append_assoc] at h2
    exact ⟨tb_bt ht1 hf2, h2, wf_tr (wf_bt hf1) (wf_bt hf2)⟩
theorem sp_tValue {n v : Nat} (ht : tb_is d 0 T) (h : bt_is d 515 l) (hb : TB T) (hn : n < 20) (hv : v < tB) (hl : l.length + 60 ≤ 4000) : ax_E 69 [.ref 513, .int (nI n), .int (nI v)] d (ax_Pv fun d1 => tb_is d1 0 (sVa T n v).2 ∧ bt_is d1 515 (l ++ (sVa T n v).1) ∧ wf d d1) := by
  show ax_W 69 0 [some (.ref 513), some (.int (nI n)), some (.int (nI v)), none] [] d _
  refine wx_aldn j69_0 rfl ?_
  refine wx_get (v := .ref _) j69_1 rfl (Nat.le_of_ble_eq_true rfl) rfl ?_
  refine wx_get (v := .ref _) j69_4 rfl (Nat.le_of_ble_eq_true rfl) rfl ?_
  refine wx_ildn j69_7 rfl ?_
  refine wx_ildn j69_8 rfl ?_
  refine wx_i2 j69_9 rfl rfl rfl (Nat.le_of_ble_eq_true rfl) rfl (tp_find (s := 0) (j := 2) (by decide) (by decide) hn ht hb hv) ?_
  rintro _ d9 ⟨rfl, h9⟩
  obtain rfl := h9.symm
  refine wx_istn (L' := [_, _, _, some (.int _)]) j69_12 (Nat.le_of_ble_eq_true rfl) rfl ?_
  refine wx_ildn j69_13 rfl ?_
  refine wx_icst (v := (-1)) j69_14 (by decide) ?_
  refine wx_cmp 40 j69_15 (by decide) (fun c15 => ?_) (fun c15 => ?_)
  · simp only [ax_cn, Classical.not_not] at c15
    have hno : fi (T 2 n) v = none := (oi_neg (fi_31 ht (by decide) hn)).mp c15
    refine wx_aldn j69_40 rfl ?_
    refine wx_get (v := .ref _) j69_41 rfl (Nat.le_of_ble_eq_true rfl) rfl ?_
    refine wx_get (v := .ref _) j69_44 rfl (Nat.le_of_ble_eq_true rfl) rfl ?_
    refine wx_icst (v := nI 0) j69_47 (by decide) ?_
    refine wx_ildn j69_48 rfl ?_
    refine wx_i2 j69_49 rfl rfl rfl (Nat.le_of_ble_eq_true rfl) rfl (tp_find (s := 0) (j := 3) (k := 0) (by decide) (by decide) (by decide) ht hb hv) ?_
    rintro _ d9 ⟨rfl, h9⟩
    obtain rfl := h9.symm
    refine wx_istn (L' := [_, _, _, some (.int _)]) j69_52 (Nat.le_of_ble_eq_true rfl) rfl ?_
    refine wx_ildn j69_53 rfl ?_
    refine wx_icst (v := (-1)) j69_54 (by decide) ?_
    refine wx_cmp 80 j69_55 (by decide) (fun c55 => ?_) (fun c55 => ?_)
    · simp only [ax_cn, Classical.not_not] at c55
      have hno2 : fi (T 3 0) v = none := (oi_neg (fi_31 ht (by decide) (by decide))).mp c55
      refine wx_aldn j69_80 rfl ?_
      refine wx_ildn j69_81 rfl ?_
      refine wx_t1 j69_82 rfl rfl (Nat.le_of_ble_eq_true rfl) (sp_countL hv) ?_
      rintro _ d9 ⟨rfl, h9⟩
      obtain rfl := h9.symm
      refine wx_icst (v := nI 2) j69_85 (by decide) ?_
      refine wx_iadd j69_86 ?_
      rw [nI_add]
      have hc5 := cl_le v
      refine wx_v1 j69_87 rfl rfl (Nat.le_of_ble_eq_true rfl) rfl (sp_tNumber h (by omega) (by omega)) ?_
      rintro d1 ⟨h1, hf1⟩
      have hn8 := nb_len (cl v + 2)
      refine wx_aldn j69_90 rfl ?_
      refine wx_ildn j69_91 rfl ?_
      refine wx_v1 j69_92 rfl rfl (Nat.le_of_ble_eq_true rfl) rfl (sp_tLetters h1 hv (by rw [List.length_append]; omega)) ?_
      rintro d2 ⟨h2, hf2⟩
      have ht2 := tb_bt (tb_bt ht hf1) hf2
      refine wx_aldn j69_95 rfl ?_
      refine wx_get (v := .ref _) j69_96 rfl (Nat.le_of_ble_eq_true rfl) rfl ?_
      refine wx_ildn j69_99 rfl ?_
      refine wx_ildn j69_100 rfl ?_
      refine wx_v2 j69_101 rfl rfl rfl (Nat.le_of_ble_eq_true rfl) rfl (sp_addValue (s := 0) (by decide) ht2 hn hv) ?_
      rintro d3 ⟨h3, hf3⟩
      refine wx_rv j69_104 rfl ?_
      have e : sVa T n v = (nb (cl v + 2) ++ lts v, tav T n v) := by unfold sVa; rw [hno, hno2]
      rw [e]
      rw [List.append_assoc] at h2
      exact ⟨h3, bt_tb h2 hf3, wf_tr (wf_tr (wf_bt hf1) (wf_bt hf2)) (wf_tb hf3)⟩
    · simp only [ax_cn, Classical.not_not] at c55
      obtain ⟨q, hq⟩ := oi_some c55
      rw [hq]
      simp only [oi]
      refine wx_aldn j69_58 rfl ?_
      refine wx_icst (v := nI 1) j69_59 (by decide) ?_
      refine wx_v1 j69_60 rfl rfl (Nat.le_of_ble_eq_true rfl) rfl (sp_tNumber h (by decide) (by omega)) ?_
      rintro d1 ⟨h1, hf1⟩
      have hn8 := nb_len 1
      have ht1 := tb_bt ht hf1
      refine wx_aldn j69_63 rfl ?_
      refine wx_ildn j69_64 rfl ?_
      refine wx_aldn j69_65 rfl ?_
      refine wx_get (v := .ref _) j69_66 rfl (Nat.le_of_ble_eq_true rfl) rfl ?_
      refine wx_get (v := .ref _) j69_69 rfl (Nat.le_of_ble_eq_true rfl) rfl ?_
      refine wx_icst (v := nI 0) j69_72 (by decide) ?_
      refine wx_i1 j69_73 rfl rfl (Nat.le_of_ble_eq_true rfl) rfl (tp_cnt (s := 0) (j := 3) (k := 0) (by decide) (by decide) (by decide) ht1) ?_
      rintro _ d9 ⟨rfl, h9⟩
      obtain rfl := h9.symm
      have hq20 := Nat.lt_of_lt_of_le (fi_lt hq) (tb_l20 ht (j := 3) (k := 0) (by decide) (by decide))
      have h20 := tb_l20 ht (j := 3) (k := 0) (by decide) (by decide)
      refine wx_v2 j69_76 rfl rfl rfl (Nat.le_of_ble_eq_true rfl) rfl (sp_tPlace h1 (by omega) (by omega) (by rw [List.length_append]; omega)) ?_
      rintro d2 ⟨h2, hf2⟩
      refine wx_rv j69_79 rfl ?_
      have e : sVa T n v = (nb 1 ++ pb (wd (T 3 0).length) q, T) := by unfold sVa; rw [hno, hq]
      rw [e]
      rw [List.append_assoc] at h2
      exact ⟨tb_bt ht1 hf2, h2, wf_tr (wf_bt hf1) (wf_bt hf2)⟩
  · simp only [ax_cn, Classical.not_not] at c15
    obtain ⟨q, hq⟩ := oi_some c15
    rw [hq]
    simp only [oi]
    refine wx_aldn j69_18 rfl ?_
    refine wx_icst (v := nI 0) j69_19 (by decide) ?_
    refine wx_v1 j69_20 rfl rfl (Nat.le_of_ble_eq_true rfl) rfl (sp_tNumber h (by decide) (by omega)) ?_
    rintro d1 ⟨h1, hf1⟩
    have hn8 := nb_len 0
    have ht1 := tb_bt ht hf1
    refine wx_aldn j69_23 rfl ?_
    refine wx_ildn j69_24 rfl ?_
    refine wx_aldn j69_25 rfl ?_
    refine wx_get (v := .ref _) j69_26 rfl (Nat.le_of_ble_eq_true rfl) rfl ?_
    refine wx_get (v := .ref _) j69_29 rfl (Nat.le_of_ble_eq_true rfl) rfl ?_
    refine wx_ildn j69_32 rfl ?_
    refine wx_i1 j69_33 rfl rfl (Nat.le_of_ble_eq_true rfl) rfl (tp_cnt (s := 0) (j := 2) (by decide) (by decide) hn ht1) ?_
    rintro _ d9 ⟨rfl, h9⟩
    obtain rfl := h9.symm
    have hq20 := Nat.lt_of_lt_of_le (fi_lt hq) (tb_l20 ht (j := 2) (by decide) hn)
    have h20 := tb_l20 ht (j := 2) (by decide) hn
    refine wx_v2 j69_36 rfl rfl rfl (Nat.le_of_ble_eq_true rfl) rfl (sp_tPlace h1 (by omega) (by omega) (by rw [List.length_append]; omega)) ?_
    rintro d2 ⟨h2, hf2⟩
    refine wx_rv j69_39 rfl ?_
    have e : sVa T n v = (nb 0 ++ pb (wd (T 2 n).length) q, T) := by unfold sVa; rw [hq]
    rw [e]
    rw [List.append_assoc] at h2
    exact ⟨tb_bt ht1 hf2, h2, wf_tr (wf_bt hf1) (wf_bt hf2)⟩
/-- a name that has room: what the steps need -/
theorem rfn_room {sp lo : Nat} (h : rfn T sp lo = true) (hk : fn T sp lo = none) : (T 4 0).length < 20 ∧ (fi (T 0 0) sp = none → (T 0 0).length < 6) ∧ ∀ p, fi (T 0 0) sp = some p → (T 1 p).length < 10 := by
  unfold rfn at h
  rw [hk] at h
  simp only [Option.isSome_none, Bool.false_or, Bool.and_eq_true, decide_eq_true_eq] at h
  refine ⟨h.1, fun q => ?_, fun p q => ?_⟩
  · rw [q] at h; exact of_decide_eq_true h.2
  · rw [q] at h; exact of_decide_eq_true h.2
end WW
