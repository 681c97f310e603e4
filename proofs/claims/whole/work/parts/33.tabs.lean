/-! TABLES: the class's names and values of side s. -/
theorem sh_tb {s : Nat} (h : s < 2) : ax_sh (519 + s) = some (9, 6, ax_of [.inl (32 * (8 * s + 0)), .inl (32 * (8 * s + 1)), .inl (32 * (8 * s + 2)), .inl (32 * (8 * s + 3)), .inl (32 * (8 * s + 4)), .inl (32 * (8 * s + 5))]) := by
  match s, h with
  | 0, _ => rfl
  | 1, _ => rfl
/-- the name of a space and a local part -/
def fn (T : TT) (sp lo : Nat) : Option Nat := (List.range (T 4 0).length).find? (fun i => (T 4 0).getD i 0 == sp && (T 5 0).getD i 0 == lo)
theorem fn_some {T : TT} {sp lo i : Nat} (hi : i < (T 4 0).length) (h1 : (T 4 0).getD i 0 = sp) (h2 : (T 5 0).getD i 0 = lo) (hno : ∀ j, j < i → ¬ ((T 4 0).getD j 0 = sp ∧ (T 5 0).getD j 0 = lo)) : fn T sp lo = some i := by
  unfold fn
  rw [List.find?_range_eq_some]
  refine ⟨by rw [h1, h2]; simp, List.mem_range.mpr hi, fun j hj => ?_⟩
  have h3 := hno j hj
  simp only [Bool.not_eq_true', Bool.and_eq_false_iff, beq_eq_false_iff_ne]
  by_cases h4 : (T 4 0).getD j 0 = sp
  · exact Or.inr (fun q => h3 ⟨h4, q⟩)
  · exact Or.inl h4
theorem fn_none {T : TT} {sp lo : Nat} (hno : ∀ j, j < (T 4 0).length → ¬ ((T 4 0).getD j 0 = sp ∧ (T 5 0).getD j 0 = lo)) : fn T sp lo = none := by
  unfold fn
  rw [List.find?_eq_none]
  intro j hj
  have h3 := hno j (List.mem_range.mp hj)
  simp only [Bool.and_eq_true, beq_iff_eq]
  exact h3
theorem fn_spec {T : TT} {sp lo i : Nat} (h : fn T sp lo = some i) : i < (T 4 0).length ∧ (T 4 0).getD i 0 = sp ∧ (T 5 0).getD i 0 = lo := by
  unfold fn at h
  have h1 := List.find?_some h
  have h2 := List.mem_range.mp (List.mem_of_find?_eq_some h)
  simp only [Bool.and_eq_true, beq_iff_eq] at h1
  exact ⟨h2, h1.1, h1.2⟩
theorem fn_no {T : TT} {sp lo : Nat} (h : fn T sp lo = none) : ∀ j, j < (T 4 0).length → ¬ ((T 4 0).getD j 0 = sp ∧ (T 5 0).getD j 0 = lo) := by
  unfold fn at h
  intro j hj q
  have h1 := List.find?_eq_none.mp h j (List.mem_range.mpr hj)
  rw [q.1, q.2] at h1
  simp at h1
theorem getD_mem {l : List Nat} {i : Nat} (h : i < l.length) : l.getD i 0 ∈ l := by
  rw [List.getD_eq_getElem?_getD, List.getElem?_eq_getElem h]
  exact List.getElem_mem h
/-- the tables with one name more -/
def tnm (T : TT) (sp lo : Nat) : TT := tst (tst T 4 0 (T 4 0 ++ [sp])) 5 0 (T 5 0 ++ [lo])
/-- a value comes into both tables (into one that is full it does not; the empty one into none) -/
def tav (T : TT) (n v : Nat) : TT := if v = 0 then T else tst (tst T 2 n (if (T 2 n).length < 5 then T 2 n ++ [v] else T 2 n)) 3 0 (if (T 3 0).length < 20 then T 3 0 ++ [v] else T 3 0)
section TA
variable {d : ax_D} {s k x : Nat} {T : TT}
theorem sp_spaceOf (hs : s < 2) (h : tb_is d s T) (hx : x < (T 4 0).length) : ax_E 49 [.ref (519 + s), .int (nI x)] d (ax_Pi fun y d1 => y = nI ((T 4 0).getD x 0) ∧ d1 = d) := by
  show ax_W 49 0 [some (.ref (519 + s)), some (.int (nI x))] [] d _
  refine wx_aldn j49_0 rfl ?_
  refine wx_get (v := .ref _) j49_1 (sh_tb hs) (Nat.le_of_ble_eq_true rfl) rfl ?_
  refine wx_icst (v := nI 0) j49_4 (by decide) ?_
  refine wx_ildn j49_5 rfl ?_
  refine wx_i2 j49_6 rfl rfl rfl (Nat.le_of_ble_eq_true rfl) (sh_ro (by omega)) (tp_get hs (j := 4) (by decide) (by decide) h hx) ?_
  rintro _ d9 ⟨rfl, h9⟩
  obtain rfl := h9.symm
  refine wx_ri j49_9 rfl rfl ?_
  exact ⟨rfl, rfl⟩
theorem sp_localOf (hs : s < 2) (h : tb_is d s T) (hx : x < (T 5 0).length) : ax_E 50 [.ref (519 + s), .int (nI x)] d (ax_Pi fun y d1 => y = nI ((T 5 0).getD x 0) ∧ d1 = d) := by
  show ax_W 50 0 [some (.ref (519 + s)), some (.int (nI x))] [] d _
  refine wx_aldn j50_0 rfl ?_
  refine wx_get (v := .ref _) j50_1 (sh_tb hs) (Nat.le_of_ble_eq_true rfl) rfl ?_
  refine wx_icst (v := nI 0) j50_4 (by decide) ?_
  refine wx_ildn j50_5 rfl ?_
  refine wx_i2 j50_6 rfl rfl rfl (Nat.le_of_ble_eq_true rfl) (sh_ro (by omega)) (tp_get hs (j := 5) (by decide) (by decide) h hx) ?_
  rintro _ d9 ⟨rfl, h9⟩
  obtain rfl := h9.symm
  refine wx_ri j50_9 rfl rfl ?_
  exact ⟨rfl, rfl⟩
theorem ta_find_loop {sp lo : Nat} (hs : s < 2) (h : tb_is d s T) (hb : TB T) (h45 : (T 4 0).length = (T 5 0).length) (hsp : sp < tB) (hlo : lo < tB) : ∀ n i, (T 4 0).length - i < n → i ≤ (T 4 0).length → (∀ j, j < i → ¬ ((T 4 0).getD j 0 = sp ∧ (T 5 0).getD j 0 = lo)) → ax_W 51 12 [some (.ref (519 + s)), some (.int (nI sp)), some (.int (nI lo)), some (.int (nI (T 4 0).length)), some (.int (nI i))] [] d (ax_Pi fun y d1 => y = oi (fn T sp lo) ∧ d1 = d) := by
  have hl := tb_l20 h (j := 4) (k := 0) (by decide) (by decide)
  intro n
  induction n with
  | zero => intro i h0; omega
  | succ n ih =>
    intro i h0 hi hno
    refine wx_ild j51_12 rfl ?_
    refine wx_ildn j51_14 rfl ?_
    refine wx_cmp 55 j51_15 (by decide) (fun c15 => ?_) (fun c15 => ?_)
    · simp only [ax_cn, Classical.not_not] at c15
      have hil : i = (T 4 0).length := Nat.le_antisymm hi ((nI_leI (by omega) (by omega)).mp c15)
      refine wx_icst (v := (-1)) j51_55 (by decide) ?_
      refine wx_ri j51_56 rfl rfl ?_
      exact ⟨by rw [fn_none (by rw [← hil]; exact hno)]; rfl, rfl⟩
    · simp only [ax_cn, Classical.not_not] at c15
      have hil : i < (T 4 0).length := Nat.not_le.mp (fun q => c15 ((nI_leI (by omega) (by omega)).mpr q))
      have t4 := tB_lt (hb 4 0 _ (getD_mem hil))
      have t5 := tB_lt (hb 5 0 _ (getD_mem (show i < (T 5 0).length by omega)))
      refine wx_aldn j51_18 rfl ?_
      refine wx_get (v := .ref _) j51_19 (sh_tb hs) (Nat.le_of_ble_eq_true rfl) rfl ?_
      refine wx_icst (v := nI 0) j51_22 (by decide) ?_
      refine wx_ild j51_23 rfl ?_
      refine wx_i2 j51_25 rfl rfl rfl (Nat.le_of_ble_eq_true rfl) (sh_ro (by omega)) (tp_get hs (j := 4) (by decide) (by decide) h hil) ?_
      rintro _ d9 ⟨rfl, h9⟩
      obtain rfl := h9.symm
      refine wx_ildn j51_28 rfl ?_
      refine wx_cmp 49 j51_29 (by decide) (fun c29 => ?_) (fun c29 => ?_)
      · simp only [ax_cn, Classical.not_not] at c29
        have hnx : ¬ ((T 4 0).getD i 0 = sp ∧ (T 5 0).getD i 0 = lo) := fun q => c29 (by rw [q.1])
        refine wx_iinc (v := nI (i + 1)) (L' := [_, _, _, _, some (.int _)]) j51_49 rfl (nI_1 i) rfl ?_
        refine wx_goto 12 j51_52 (by decide) ?_
        exact ih (i + 1) (by omega) (by omega) (lt_s hno hnx)
      · simp only [ax_cn, Classical.not_not] at c29
        have h4 := (nI_eq t4 (tB_lt hsp)).mp c29
        refine wx_aldn j51_32 rfl ?_
        refine wx_get (v := .ref _) j51_33 (sh_tb hs) (Nat.le_of_ble_eq_true rfl) rfl ?_
        refine wx_icst (v := nI 0) j51_36 (by decide) ?_
        refine wx_ild j51_37 rfl ?_
        refine wx_i2 j51_39 rfl rfl rfl (Nat.le_of_ble_eq_true rfl) (sh_ro (by omega)) (tp_get hs (j := 5) (by decide) (by decide) h (show i < (T 5 0).length by omega)) ?_
        rintro _ d9 ⟨rfl, h9⟩
        obtain rfl := h9.symm
        refine wx_ildn j51_42 rfl ?_
        refine wx_cmp 49 j51_43 (by decide) (fun c43 => ?_) (fun c43 => ?_)
        · simp only [ax_cn, Classical.not_not] at c43
          have hnx : ¬ ((T 4 0).getD i 0 = sp ∧ (T 5 0).getD i 0 = lo) := fun q => c43 (by rw [q.2])
          refine wx_iinc (v := nI (i + 1)) (L' := [_, _, _, _, some (.int _)]) j51_49 rfl (nI_1 i) rfl ?_
          refine wx_goto 12 j51_52 (by decide) ?_
          exact ih (i + 1) (by omega) (by omega) (lt_s hno hnx)
        · simp only [ax_cn, Classical.not_not] at c43
          have h5 := (nI_eq t5 (tB_lt hlo)).mp c43
          refine wx_ild j51_46 rfl ?_
          refine wx_ri j51_48 rfl rfl ?_
          exact ⟨by rw [fn_some hil h4 h5 hno]; rfl, rfl⟩
theorem sp_findName {sp lo : Nat} (hs : s < 2) (h : tb_is d s T) (hb : TB T) (h45 : (T 4 0).length = (T 5 0).length) (hsp : sp < tB) (hlo : lo < tB) : ax_E 51 [.ref (519 + s), .int (nI sp), .int (nI lo)] d (ax_Pi fun y d1 => y = oi (fn T sp lo) ∧ d1 = d) := by
  show ax_W 51 0 [some (.ref (519 + s)), some (.int (nI sp)), some (.int (nI lo)), none, none] [] d _
  refine wx_aldn j51_0 rfl ?_
  refine wx_get (v := .ref _) j51_1 (sh_tb hs) (Nat.le_of_ble_eq_true rfl) rfl ?_
  refine wx_icst (v := nI 0) j51_4 (by decide) ?_
  refine wx_i1 j51_5 rfl rfl (Nat.le_of_ble_eq_true rfl) (sh_ro (by omega)) (tp_cnt hs (j := 4) (by decide) (by decide) h) ?_
  rintro _ d9 ⟨rfl, h9⟩
  obtain rfl := h9.symm
  refine wx_istn (L' := [_, _, _, some (.int _), _]) j51_8 (Nat.le_of_ble_eq_true rfl) rfl ?_
  refine wx_icst (v := nI 0) j51_9 (by decide) ?_
  refine wx_ist (L' := [_, _, _, _, some (.int _)]) j51_10 (Nat.le_of_ble_eq_true rfl) rfl ?_
  exact ta_find_loop hs h hb h45 hsp hlo ((T 4 0).length + 1) 0 (by omega) (Nat.zero_le _) (fun j hj => absurd hj (Nat.not_lt_zero j))
theorem sp_addSpace {sp : Nat} (hs : s < 2) (h : tb_is d s T) : ax_E 52 [.ref (519 + s), .int (nI sp)] d (ax_Pi fun y d1 => ((T 0 0).length < 6 → y = nI (T 0 0).length ∧ tb_is d1 s (tst T 0 0 (T 0 0 ++ [sp]))) ∧ (¬ (T 0 0).length < 6 → y = -1 ∧ d1 = d) ∧ tb_fr d d1 s) := by
  show ax_W 52 0 [some (.ref (519 + s)), some (.int (nI sp))] [] d _
  refine wx_aldn j52_0 rfl ?_
  refine wx_get (v := .ref _) j52_1 (sh_tb hs) (Nat.le_of_ble_eq_true rfl) rfl ?_
  refine wx_icst (v := nI 0) j52_4 (by decide) ?_
  refine wx_i1 j52_5 rfl rfl (Nat.le_of_ble_eq_true rfl) (sh_ro (by omega)) (tp_full hs (j := 0) (by decide) (by decide) h) ?_
  rintro _ d9 ⟨rfl, h9⟩
  obtain rfl := h9.symm
  refine wx_if 13 j52_8 (by decide) (fun c8 => ?_) (fun c8 => ?_)
  · simp only [ax_cn, Classical.not_not] at c8
    have hroom : (T 0 0).length < 6 := by have := of_decide_eq_false (bB_0.mp c8); exact Nat.not_le.mp this
    refine wx_aldn j52_13 rfl ?_
    refine wx_get (v := .ref _) j52_14 (sh_tb hs) (Nat.le_of_ble_eq_true rfl) rfl ?_
    refine wx_icst (v := nI 0) j52_17 (by decide) ?_
    refine wx_ildn j52_18 rfl ?_
    refine wx_v2 j52_19 rfl rfl rfl (Nat.le_of_ble_eq_true rfl) (sh_ro (by omega)) (tp_last hs (j := 0) (by decide) (by decide) h) ?_
    rintro d1 ⟨h1, hf⟩
    rw [if_pos (show (T 0 0).length < ax_rm 0 from hroom)] at h1
    refine wx_aldn j52_22 rfl ?_
    refine wx_get (v := .ref _) j52_23 (sh_tb hs) (Nat.le_of_ble_eq_true rfl) rfl ?_
    refine wx_icst (v := nI 0) j52_26 (by decide) ?_
    refine wx_i1 j52_27 rfl rfl (Nat.le_of_ble_eq_true rfl) (sh_ro (by omega)) (tp_cnt hs (j := 0) (by decide) (by decide) h1) ?_
    rintro _ d9 ⟨rfl, h9⟩
    obtain rfl := h9.symm
    rw [tst_at, List.length_append]
    refine wx_icst (v := nI 1) j52_30 (by decide) ?_
    refine wx_isub j52_31 ?_
    rw [show nI ((T 0 0).length + [sp].length) - nI 1 = nI (T 0 0).length from nI_pred _]
    refine wx_ri j52_32 rfl rfl ?_
    exact ⟨fun _ => ⟨rfl, h1⟩, fun q => absurd hroom q, rw_tb hf (by decide)⟩
  · simp only [ax_cn, Classical.not_not] at c8
    have hfull : ¬ (T 0 0).length < 6 := by have := of_decide_eq_true (bB_1.mp c8); exact Nat.not_lt.mpr this
    refine wx_icst (v := (-1)) j52_11 (by decide) ?_
    refine wx_ri j52_12 rfl rfl ?_
    exact ⟨fun q => absurd q hfull, fun _ => ⟨rfl, rfl⟩, tb_fr_rf d s⟩
theorem fn_31 {sp lo : Nat} (h : tb_is d s T) : ∀ i, fn T sp lo = some i → i < 2 ^ 31 := fun i hi => by
  have h1 := (fn_spec hi).1
  have h2 := tb_l20 h (j := 4) (k := 0) (by decide) (by decide)
  omega
theorem sp_foan {sp lo : Nat} (hs : s < 2) (h : tb_is d s T) (hb : TB T) (h45 : (T 4 0).length = (T 5 0).length) (hsp : sp < tB) (hlo : lo < tB) : ax_E 53 [.ref (519 + s), .int (nI sp), .int (nI lo)] d (ax_Pi fun y d1 => (∀ i, fn T sp lo = some i → y = nI i ∧ d1 = d) ∧ (fn T sp lo = none → ((T 4 0).length < 20 → y = nI (T 4 0).length ∧ tb_is d1 s (tnm T sp lo)) ∧ (¬ (T 4 0).length < 20 → y = -1 ∧ d1 = d)) ∧ tb_fr d d1 s) := by
  show ax_W 53 0 [some (.ref (519 + s)), some (.int (nI sp)), some (.int (nI lo)), none] [] d _
  refine wx_aldn j53_0 rfl ?_
  refine wx_ildn j53_1 rfl ?_
  refine wx_ildn j53_2 rfl ?_
  refine wx_i2 j53_3 rfl rfl rfl (Nat.le_of_ble_eq_true rfl) (sh_tb hs) (sp_findName hs h hb h45 hsp hlo) ?_
  rintro _ d9 ⟨rfl, h9⟩
  obtain rfl := h9.symm
  refine wx_istn (L' := [_, _, _, some (.int _)]) j53_6 (Nat.le_of_ble_eq_true rfl) rfl ?_
  refine wx_ildn j53_7 rfl ?_
  refine wx_icst (v := (-1)) j53_8 (by decide) ?_
  refine wx_cmp 23 j53_9 (by decide) (fun c9 => ?_) (fun c9 => ?_)
  · simp only [ax_cn, Classical.not_not] at c9
    have hk : ¬ fn T sp lo = none := fun q => c9 ((oi_neg (fn_31 h)).mpr q)
    cases hfn : fn T sp lo with
    | none => exact absurd hfn hk
    | some i =>
      refine wx_ildn j53_23 rfl ?_
      refine wx_ri j53_24 rfl rfl ?_
      exact ⟨fun i2 e => ⟨by cases e; rfl, rfl⟩, fun e => (by cases e), tb_fr_rf d s⟩
  · simp only [ax_cn, Classical.not_not] at c9
    have hk : fn T sp lo = none := (oi_neg (fn_31 h)).mp c9
    refine wx_aldn j53_12 rfl ?_
    refine wx_get (v := .ref _) j53_13 (sh_tb hs) (Nat.le_of_ble_eq_true rfl) rfl ?_
    refine wx_icst (v := nI 0) j53_16 (by decide) ?_
    refine wx_i1 j53_17 rfl rfl (Nat.le_of_ble_eq_true rfl) (sh_ro (by omega)) (tp_full hs (j := 4) (by decide) (by decide) h) ?_
    rintro _ d9 ⟨rfl, h9⟩
    obtain rfl := h9.symm
    refine wx_if 25 j53_20 (by decide) (fun c20 => ?_) (fun c20 => ?_)
    · simp only [ax_cn, Classical.not_not] at c20
      have hroom : (T 4 0).length < 20 := by have := of_decide_eq_false (bB_0.mp c20); exact Nat.not_le.mp this
      refine wx_aldn j53_25 rfl ?_
      refine wx_get (v := .ref _) j53_26 (sh_tb hs) (Nat.le_of_ble_eq_true rfl) rfl ?_
      refine wx_icst (v := nI 0) j53_29 (by decide) ?_
      refine wx_ildn j53_30 rfl ?_
      refine wx_v2 j53_31 rfl rfl rfl (Nat.le_of_ble_eq_true rfl) (sh_ro (by omega)) (tp_last hs (j := 4) (by decide) (by decide) h) ?_
      rintro d1 ⟨h1, hf1⟩
      rw [if_pos (show (T 4 0).length < ax_rm 4 from hroom)] at h1
      refine wx_aldn j53_34 rfl ?_
      refine wx_get (v := .ref _) j53_35 (sh_tb hs) (Nat.le_of_ble_eq_true rfl) rfl ?_
      refine wx_icst (v := nI 0) j53_38 (by decide) ?_
      refine wx_ildn j53_39 rfl ?_
      refine wx_v2 j53_40 rfl rfl rfl (Nat.le_of_ble_eq_true rfl) (sh_ro (by omega)) (tp_last hs (j := 5) (by decide) (by decide) h1) ?_
      rintro d2 ⟨h2, hf2⟩
      rw [tst_ne (Or.inl (by decide)), if_pos (show (T 5 0).length < ax_rm 5 by rw [← h45]; exact hroom)] at h2
      refine wx_aldn j53_43 rfl ?_
      refine wx_get (v := .ref _) j53_44 (sh_tb hs) (Nat.le_of_ble_eq_true rfl) rfl ?_
      refine wx_icst (v := nI 0) j53_47 (by decide) ?_
      refine wx_i1 j53_48 rfl rfl (Nat.le_of_ble_eq_true rfl) (sh_ro (by omega)) (tp_cnt hs (j := 4) (by decide) (by decide) h2) ?_
      rintro _ d9 ⟨rfl, h9⟩
      obtain rfl := h9.symm
      rw [tst_ne (Or.inl (by decide)), tst_at, List.length_append]
      refine wx_icst (v := nI 1) j53_51 (by decide) ?_
      refine wx_isub j53_52 ?_
      rw [show nI ((T 4 0).length + [sp].length) - nI 1 = nI (T 4 0).length from nI_pred _]
      refine wx_ri j53_53 rfl rfl ?_
      exact ⟨fun i e => (by rw [hk] at e; cases e), fun _ => ⟨fun _ => ⟨rfl, h2⟩, fun q => absurd hroom q⟩, tb_fr_tr (rw_tb hf1 (by decide)) (rw_tb hf2 (by decide))⟩
    · simp only [ax_cn, Classical.not_not] at c20
      have hfull : ¬ (T 4 0).length < 20 := by have := of_decide_eq_true (bB_1.mp c20); exact Nat.not_lt.mpr this
      refine wx_ildn j53_23 rfl ?_
      refine wx_ri j53_24 rfl rfl ?_
      rw [hk]
      exact ⟨fun i e => (by cases e), fun _ => ⟨fun q => absurd q hfull, fun _ => ⟨rfl, rfl⟩⟩, tb_fr_rf d s⟩
/-- whether a name has room, as a writer tells it -/
def rfn (T : TT) (sp lo : Nat) : Bool := (fn T sp lo).isSome || (decide ((T 4 0).length < 20) && (match fi (T 0 0) sp with
  | none => decide ((T 0 0).length < 6)
  | some p => decide ((T 1 p).length < 10)))
theorem sp_rfn {sp lo : Nat} (hs : s < 2) (h : tb_is d s T) (hb : TB T) (h45 : (T 4 0).length = (T 5 0).length) (hsp : sp < tB) (hlo : lo < tB) : ax_E 54 [.ref (519 + s), .int (nI sp), .int (nI lo)] d (ax_Pi fun y d1 => y = bB (rfn T sp lo) ∧ d1 = d) := by
  show ax_W 54 0 [some (.ref (519 + s)), some (.int (nI sp)), some (.int (nI lo)), none] [] d _
  refine wx_aldn j54_0 rfl ?_
  refine wx_ildn j54_1 rfl ?_
  refine wx_ildn j54_2 rfl ?_
  refine wx_i2 j54_3 rfl rfl rfl (Nat.le_of_ble_eq_true rfl) (sh_tb hs) (sp_findName hs h hb h45 hsp hlo) ?_
  rintro _ d9 ⟨rfl, h9⟩
  obtain rfl := h9.symm
  refine wx_icst (v := (-1)) j54_6 (by decide) ?_
  refine wx_cmp 12 j54_7 (by decide) (fun c7 => ?_) (fun c7 => ?_)
  · simp only [ax_cn, Classical.not_not] at c7
    have hk : fn T sp lo = none := (oi_neg (fn_31 h)).mp c7
    refine wx_aldn j54_12 rfl ?_
    refine wx_get (v := .ref _) j54_13 (sh_tb hs) (Nat.le_of_ble_eq_true rfl) rfl ?_
    refine wx_icst (v := nI 0) j54_16 (by decide) ?_
    refine wx_i1 j54_17 rfl rfl (Nat.le_of_ble_eq_true rfl) (sh_ro (by omega)) (tp_full hs (j := 4) (by decide) (by decide) h) ?_
    rintro _ d9 ⟨rfl, h9⟩
    obtain rfl := h9.symm
    refine wx_if 25 j54_20 (by decide) (fun c20 => ?_) (fun c20 => ?_)
    · simp only [ax_cn, Classical.not_not] at c20
      have hroom : (T 4 0).length < 20 := by have := of_decide_eq_false (bB_0.mp c20); exact Nat.not_le.mp this
      refine wx_aldn j54_25 rfl ?_
      refine wx_get (v := .ref _) j54_26 (sh_tb hs) (Nat.le_of_ble_eq_true rfl) rfl ?_
      refine wx_icst (v := nI 0) j54_29 (by decide) ?_
      refine wx_ildn j54_30 rfl ?_
      refine wx_i2 j54_31 rfl rfl rfl (Nat.le_of_ble_eq_true rfl) (sh_ro (by omega)) (tp_find hs (j := 0) (by decide) (by decide) h hb hsp) ?_
      rintro _ d9 ⟨rfl, h9⟩
      obtain rfl := h9.symm
      refine wx_istn (L' := [_, _, _, some (.int _)]) j54_34 (Nat.le_of_ble_eq_true rfl) rfl ?_
      refine wx_ildn j54_35 rfl ?_
      refine wx_icst (v := (-1)) j54_36 (by decide) ?_
      have hf31 : ∀ i, fi (T 0 0) sp = some i → i < 2 ^ 31 := fun i hi => by
        have h1 := fi_lt hi
        have h2 := tb_l20 h (j := 0) (k := 0) (by decide) (by decide)
        omega
      refine wx_cmp 59 j54_37 (by decide) (fun c37 => ?_) (fun c37 => ?_)
      · simp only [ax_cn, Classical.not_not] at c37
        obtain ⟨q, hq⟩ : ∃ q, fi (T 0 0) sp = some q := by
          cases hfi : fi (T 0 0) sp with
          | none => exact absurd ((oi_neg hf31).mpr hfi) c37
          | some q => exact ⟨q, rfl⟩
        rw [hq]
        have hq6 : q < ax_nr 1 := Nat.lt_of_lt_of_le (fi_lt hq) (tb_len h (j := 0) (k := 0) (by decide) (by decide))
        show ax_W 54 59 [_, _, _, some (.int (nI q))] [] d _
        refine wx_aldn j54_59 rfl ?_
        refine wx_get (v := .ref _) j54_60 (sh_tb hs) (Nat.le_of_ble_eq_true rfl) rfl ?_
        refine wx_ildn j54_63 rfl ?_
        refine wx_i1 j54_64 rfl rfl (Nat.le_of_ble_eq_true rfl) (sh_ro (by omega)) (tp_full hs (j := 1) (by decide) hq6 h) ?_
        rintro _ d9 ⟨rfl, h9⟩
        obtain rfl := h9.symm
        refine wx_if 74 j54_67 (by decide) (fun c67 => ?_) (fun c67 => ?_)
        · simp only [ax_cn, Classical.not_not] at c67
          have e1 : decide ((T 1 q).length < 10) = false := by have := of_decide_eq_true (bB_1.mp c67); exact decide_eq_false (Nat.not_lt.mpr this)
          refine wx_icst (v := nI 0) j54_74 (by decide) ?_
          refine wx_ri j54_75 rfl rfl ?_
          exact ⟨by unfold rfn; rw [hk, hq, decide_eq_true hroom]; simp only [e1]; rfl, rfl⟩
        · simp only [ax_cn, Classical.not_not] at c67
          have e1 : decide ((T 1 q).length < 10) = true := by have := of_decide_eq_false (bB_0.mp c67); exact decide_eq_true (Nat.not_le.mp this)
          refine wx_icst (v := nI 1) j54_70 (by decide) ?_
          refine wx_goto 75 j54_71 (by decide) ?_
          refine wx_ri j54_75 rfl rfl ?_
          exact ⟨by unfold rfn; rw [hk, hq, decide_eq_true hroom]; simp only [e1]; rfl, rfl⟩
      · simp only [ax_cn, Classical.not_not] at c37
        have hp : fi (T 0 0) sp = none := (oi_neg hf31).mp c37
        refine wx_aldn j54_40 rfl ?_
        refine wx_get (v := .ref _) j54_41 (sh_tb hs) (Nat.le_of_ble_eq_true rfl) rfl ?_
        refine wx_icst (v := nI 0) j54_44 (by decide) ?_
        refine wx_i1 j54_45 rfl rfl (Nat.le_of_ble_eq_true rfl) (sh_ro (by omega)) (tp_full hs (j := 0) (by decide) (by decide) h) ?_
        rintro _ d9 ⟨rfl, h9⟩
        obtain rfl := h9.symm
        refine wx_if 55 j54_48 (by decide) (fun c48 => ?_) (fun c48 => ?_)
        · simp only [ax_cn, Classical.not_not] at c48
          have e1 : decide ((T 0 0).length < 6) = false := by have := of_decide_eq_true (bB_1.mp c48); exact decide_eq_false (Nat.not_lt.mpr this)
          refine wx_icst (v := nI 0) j54_55 (by decide) ?_
          refine wx_goto 75 j54_56 (by decide) ?_
          refine wx_ri j54_75 rfl rfl ?_
          exact ⟨by unfold rfn; rw [hk, hp, decide_eq_true hroom]; simp only [e1]; rfl, rfl⟩
        · simp only [ax_cn, Classical.not_not] at c48
          have e1 : decide ((T 0 0).length < 6) = true := by have := of_decide_eq_false (bB_0.mp c48); exact decide_eq_true (Nat.not_le.mp this)
          refine wx_icst (v := nI 1) j54_51 (by decide) ?_
          refine wx_goto 75 j54_52 (by decide) ?_
          refine wx_ri j54_75 rfl rfl ?_
          exact ⟨by unfold rfn; rw [hk, hp, decide_eq_true hroom]; simp only [e1]; rfl, rfl⟩
    · simp only [ax_cn, Classical.not_not] at c20
      have hfull : ¬ (T 4 0).length < 20 := by have := of_decide_eq_true (bB_1.mp c20); exact Nat.not_lt.mpr this
      refine wx_icst (v := nI 0) j54_23 (by decide) ?_
      refine wx_ri j54_24 rfl rfl ?_
      exact ⟨by unfold rfn; rw [hk, decide_eq_false hfull]; rfl, rfl⟩
  · simp only [ax_cn, Classical.not_not] at c7
    have hk : (fn T sp lo).isSome = true := by
      cases hfn : fn T sp lo with
      | none => exact absurd ((oi_neg (fn_31 h)).mpr hfn) c7
      | some i => rfl
    refine wx_icst (v := nI 1) j54_10 (by decide) ?_
    refine wx_ri j54_11 rfl rfl ?_
    exact ⟨by unfold rfn; rw [hk]; rfl, rfl⟩
theorem sp_addValue {n v : Nat} (hs : s < 2) (h : tb_is d s T) (hn : n < 20) (hv : v < tB) : ax_E 55 [.ref (519 + s), .int (nI n), .int (nI v)] d (ax_Pv fun d1 => tb_is d1 s (tav T n v) ∧ tb_fr d d1 s) := by
  show ax_W 55 0 [some (.ref (519 + s)), some (.int (nI n)), some (.int (nI v))] [] d _
  refine wx_ildn j55_0 rfl ?_
  refine wx_if 22 j55_1 (by decide) (fun c1 => ?_) (fun c1 => ?_)
  · simp only [ax_cn, Classical.not_not] at c1
    have hv0 : v = 0 := (nI_eq (tB_lt hv) (by decide)).mp (c1.trans nI_0.symm)
    refine wx_rv j55_22 rfl ?_
    exact ⟨by unfold tav; rw [if_pos hv0]; exact h, tb_fr_rf d s⟩
  · simp only [ax_cn, Classical.not_not] at c1
    have hv0 : ¬ v = 0 := fun q => c1 (by rw [q]; rfl)
    refine wx_aldn j55_4 rfl ?_
    refine wx_get (v := .ref _) j55_5 (sh_tb hs) (Nat.le_of_ble_eq_true rfl) rfl ?_
    refine wx_ildn j55_8 rfl ?_
    refine wx_ildn j55_9 rfl ?_
    refine wx_v2 j55_10 rfl rfl rfl (Nat.le_of_ble_eq_true rfl) (sh_ro (by omega)) (tp_last hs (j := 2) (by decide) hn h) ?_
    rintro d1 ⟨h1, hf1⟩
    refine wx_aldn j55_13 rfl ?_
    refine wx_get (v := .ref _) j55_14 (sh_tb hs) (Nat.le_of_ble_eq_true rfl) rfl ?_
    refine wx_icst (v := nI 0) j55_17 (by decide) ?_
    refine wx_ildn j55_18 rfl ?_
    refine wx_v2 j55_19 rfl rfl rfl (Nat.le_of_ble_eq_true rfl) (sh_ro (by omega)) (tp_last hs (j := 3) (by decide) (by decide) h1) ?_
    rintro d2 ⟨h2, hf2⟩
    rw [tst_ne (Or.inl (by decide))] at h2
    refine wx_rv j55_22 rfl ?_
    exact ⟨by unfold tav; rw [if_neg hv0]; exact h2, tb_fr_tr (rw_tb hf1 (by decide)) (rw_tb hf2 (by decide))⟩
end TA
