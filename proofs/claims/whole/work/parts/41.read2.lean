/-! READING, names, values, codes. -/
def rFr (sl : List Nat) (l : List Nat) (t : Nat) : Option Nat × Nat := match (rP sl l.length t).1 with
  | some p => (some (l.getD p 0), (rP sl l.length t).2)
  | none => (none, (rP sl l.length t).2)
def rSn (sl : List Nat) (T : TT) (t : Nat) : Option Nat × TT × Nat := match (rNum sl t).1 with
  | none => (none, T, (rNum sl t).2)
  | some n => match (rL sl n (rNum sl t).2).1 with
    | none => (none, T, (rL sl n (rNum sl t).2).2)
    | some x => if (T 0 0).length < 6 then (some (T 0 0).length, tst T 0 0 (T 0 0 ++ [x]), (rL sl n (rNum sl t).2).2) else (none, T, (rL sl n (rNum sl t).2).2)
def rSp (sl : List Nat) (T : TT) (t : Nat) : Option Nat × TT × Nat := match (rP sl ((T 0 0).length + 1) t).1 with
  | none => (none, T, (rP sl ((T 0 0).length + 1) t).2)
  | some 0 => rSn sl T (rP sl ((T 0 0).length + 1) t).2
  | some (p + 1) => (some p, T, (rP sl ((T 0 0).length + 1) t).2)
def rLx (sl : List Nat) (T : TT) (p n t : Nat) : Option Nat × TT × Nat := match (rL sl n t).1 with
  | none => (none, T, (rL sl n t).2)
  | some x => if (T 1 p).length < 10 then (some x, tst T 1 p (T 1 p ++ [x]), (rL sl n t).2) else (none, T, (rL sl n t).2)
def rLo (sl : List Nat) (T : TT) (p t : Nat) : Option Nat × TT × Nat := match (rNum sl t).1 with
  | none => (none, T, (rNum sl t).2)
  | some 0 => ((rFr sl (T 1 p) (rNum sl t).2).1, T, (rFr sl (T 1 p) (rNum sl t).2).2)
  | some (n + 1) => rLx sl T p (n + 1) (rNum sl t).2
/-- a name, new or known; none if it is the 21st -/
def rFo (T : TT) (sp lo : Nat) : Option Nat × TT := match fn T sp lo with
  | some i => (some i, T)
  | none => if (T 4 0).length < 20 then (some (T 4 0).length, tnm T sp lo) else (none, T)
def rNx (sl : List Nat) (T : TT) (p t : Nat) : Option Nat × TT × Nat := match (rLo sl T p t).1 with
  | none => (none, T, (rLo sl T p t).2.2)
  | some lo => ((rFo (rLo sl T p t).2.1 (((rLo sl T p t).2.1 0 0).getD p 0) lo).1, (rFo (rLo sl T p t).2.1 (((rLo sl T p t).2.1 0 0).getD p 0) lo).2, (rLo sl T p t).2.2)
def rNa (sl : List Nat) (T : TT) (t : Nat) : Option Nat × TT × Nat := match (rSp sl T t).1 with
  | none => (none, T, (rSp sl T t).2.2)
  | some p => rNx sl (rSp sl T t).2.1 p (rSp sl T t).2.2
def rVa (sl : List Nat) (T : TT) (n t : Nat) : Option Nat × TT × Nat := match (rNum sl t).1 with
  | none => (none, T, (rNum sl t).2)
  | some 0 => ((rFr sl (T 2 n) (rNum sl t).2).1, T, (rFr sl (T 2 n) (rNum sl t).2).2)
  | some 1 => ((rFr sl (T 3 0) (rNum sl t).2).1, T, (rFr sl (T 3 0) (rNum sl t).2).2)
  | some (k + 2) => match (rL sl k (rNum sl t).2).1 with
    | none => (none, T, (rL sl k (rNum sl t).2).2)
    | some v => (some v, tav T n v, (rL sl k (rNum sl t).2).2)
theorem rFr_t {sl l : List Nat} {t : Nat} (h : t ≤ sl.length) : t ≤ (rFr sl l t).2 ∧ (rFr sl l t).2 ≤ sl.length := by
  have h1 := rP_t (m := l.length) h
  unfold rFr
  split <;> exact h1
theorem rSn_t {sl : List Nat} {T : TT} {t : Nat} (h : t ≤ sl.length) : t ≤ (rSn sl T t).2.2 ∧ (rSn sl T t).2.2 ≤ sl.length := by
  have h1 := rNum_t h
  unfold rSn
  split
  · exact h1
  · rename_i n _
    have h2 := rL_t (n := n) h1.2
    split
    · exact ⟨Nat.le_trans h1.1 h2.1, h2.2⟩
    · split <;> exact ⟨Nat.le_trans h1.1 h2.1, h2.2⟩
theorem rSp_t {sl : List Nat} {T : TT} {t : Nat} (h : t ≤ sl.length) : t ≤ (rSp sl T t).2.2 ∧ (rSp sl T t).2.2 ≤ sl.length := by
  have h1 := rP_t (m := (T 0 0).length + 1) h
  unfold rSp
  split
  · exact h1
  · have h2 := rSn_t (T := T) h1.2
    exact ⟨Nat.le_trans h1.1 h2.1, h2.2⟩
  · exact h1
theorem rLx_t {sl : List Nat} {T : TT} {p n t : Nat} (h : t ≤ sl.length) : t ≤ (rLx sl T p n t).2.2 ∧ (rLx sl T p n t).2.2 ≤ sl.length := by
  have h1 := rL_t (n := n) h
  unfold rLx
  split
  · exact h1
  · split <;> exact h1
theorem rLo_t {sl : List Nat} {T : TT} {p t : Nat} (h : t ≤ sl.length) : t ≤ (rLo sl T p t).2.2 ∧ (rLo sl T p t).2.2 ≤ sl.length := by
  have h1 := rNum_t h
  unfold rLo
  split
  · exact h1
  · have h2 := rFr_t (l := T 1 p) h1.2
    exact ⟨Nat.le_trans h1.1 h2.1, h2.2⟩
  · rename_i n _
    have h2 := rLx_t (T := T) (p := p) (n := n + 1) h1.2
    exact ⟨Nat.le_trans h1.1 h2.1, h2.2⟩
theorem rNx_t {sl : List Nat} {T : TT} {p t : Nat} (h : t ≤ sl.length) : t ≤ (rNx sl T p t).2.2 ∧ (rNx sl T p t).2.2 ≤ sl.length := by
  have h1 := rLo_t (T := T) (p := p) h
  unfold rNx
  split <;> exact h1
theorem rNa_t {sl : List Nat} {T : TT} {t : Nat} (h : t ≤ sl.length) : t ≤ (rNa sl T t).2.2 ∧ (rNa sl T t).2.2 ≤ sl.length := by
  have h1 := rSp_t (T := T) h
  unfold rNa
  split
  · exact h1
  · rename_i p _
    have h2 := rNx_t (T := (rSp sl T t).2.1) (p := p) h1.2
    exact ⟨Nat.le_trans h1.1 h2.1, h2.2⟩
theorem rVa_t {sl : List Nat} {T : TT} {n t : Nat} (h : t ≤ sl.length) : t ≤ (rVa sl T n t).2.2 ∧ (rVa sl T n t).2.2 ≤ sl.length := by
  have h1 := rNum_t h
  unfold rVa
  split
  · exact h1
  · have h2 := rFr_t (l := T 2 n) h1.2
    exact ⟨Nat.le_trans h1.1 h2.1, h2.2⟩
  · have h2 := rFr_t (l := T 3 0) h1.2
    exact ⟨Nat.le_trans h1.1 h2.1, h2.2⟩
  · rename_i k _
    have h2 := rL_t (n := k) h1.2
    split <;> exact ⟨Nat.le_trans h1.1 h2.1, h2.2⟩
/-- what reading may change beside the open elements and the events -/
def rf (d d1 : ax_D) : Prop := ∀ id, (id < 256 ∨ 512 ≤ id) → id ≠ 514 → d1 id = d id
theorem rf_rf (d : ax_D) : rf d d := fun _ _ _ => rfl
theorem rf_tr {d d1 d2 : ax_D} (h : rf d d1) (h2 : rf d1 d2) : rf d d2 := fun id a b => (h2 id a b).trans (h id a b)
theorem rf_tk {d d1 : ax_D} (h : tk d d1) : rf d d1 := fun id _ b => h id b
theorem rf_tb {d d1 : ax_D} (h : tb_fr d d1 1) : rf d d1 := fun id a _ => h id (by omega)
section R2
variable {d d1 : ax_D} {sl : List Nat} {t n : Nat} {T : TT} {nm : Nat → Nat} {fl : Nat → Bool} {b : Bool}
theorem bt_rf (h : bt_is d 517 sl) (hf : rf d d1) : bt_is d1 517 sl := bt_keep h (hf 517 (by decide) (by decide)) (hf 518 (by decide) (by decide))
theorem gr_rf (h : gr_is d 1 n nm fl b) (hf : rf d d1) : gr_is d1 1 n nm fl b := gr_keep h (hf 522 (by decide) (by decide)) (hf 524 (by decide) (by decide)) (hf 526 (by decide) (by decide))
theorem tk_tb1 (hf : tb_fr d d1 1) : d1 514 = d 514 := hf 514 (by decide)
theorem sp_takeFrom {j k : Nat} (hj : j < 8) (hk : k < ax_nr j) (ht : tb_is d 1 T) (hs : bt_is d 517 sl) (h4 : d 514 4 = nI t) (hts : t ≤ sl.length) : ax_E 36 [.ref 514, .ref (32 * (8 * 1 + j)), .int (nI k)] d (ax_Pi fun y d1 => y = oi (rFr sl (T j k) t).1 ∧ d1 514 4 = nI (rFr sl (T j k) t).2 ∧ tk d d1) := by
  show ax_W 36 0 [some (.ref 514), some (.ref (32 * (8 * 1 + j))), some (.int (nI k))] [] d _
  refine wx_aldn j36_0 rfl ?_
  refine wx_ildn j36_1 rfl ?_
  refine wx_aldn j36_2 rfl ?_
  refine wx_aldn j36_3 rfl ?_
  refine wx_ildn j36_4 rfl ?_
  refine wx_i1 j36_5 rfl rfl (Nat.le_of_ble_eq_true rfl) (sh_ro (by omega)) (tp_cnt (by decide) hj hk ht) ?_
  rintro _ d9 ⟨rfl, h9⟩
  obtain rfl := h9.symm
  refine wx_i1 j36_8 rfl rfl (Nat.le_of_ble_eq_true rfl) rfl (sp_takePlace hs h4 hts (by have := tb_l20 ht hj hk; omega)) ?_
  rintro _ d1 ⟨rfl, h41, hf1⟩
  cases hr : (rP sl (T j k).length t).1 with
  | none =>
    have e : rFr sl (T j k) t = (none, (rP sl (T j k).length t).2) := by unfold rFr; rw [hr]
    rw [e]
    simp only [oi]
    refine wx_i2 j36_11 rfl rfl rfl (Nat.le_of_ble_eq_true rfl) (sh_ro (by omega)) (tp_getN (by decide) hj hk (tb_tk ht hf1)) ?_
    rintro _ d9 ⟨rfl, h9⟩
    obtain rfl := h9.symm
    refine wx_ri j36_14 rfl rfl ?_
    exact ⟨rfl, h41, hf1⟩
  | some q =>
    have e : rFr sl (T j k) t = (some ((T j k).getD q 0), (rP sl (T j k).length t).2) := by unfold rFr; rw [hr]
    rw [e]
    simp only [oi]
    refine wx_i2 j36_11 rfl rfl rfl (Nat.le_of_ble_eq_true rfl) (sh_ro (by omega)) (tp_get (by decide) hj hk (tb_tk ht hf1) (rP_v hr)) ?_
    rintro _ d9 ⟨rfl, h9⟩
    obtain rfl := h9.symm
    refine wx_ri j36_14 rfl rfl ?_
    exact ⟨rfl, h41, hf1⟩
  -- 
theorem ts_new {x : Int32} (ht : tb_is d 1 T) (hs : bt_is d 517 sl) (h4 : d 514 4 = nI t) (hts : t ≤ sl.length) : ax_W 33 35 [some (.ref 514), some (.int x), none] [] d (ax_Pi fun y d1 => y = oi (rSn sl T t).1 ∧ d1 514 4 = nI (rSn sl T t).2.2 ∧ (∀ q, (rSn sl T t).1 = some q → tb_is d1 1 (rSn sl T t).2.1) ∧ rf d d1) := by
  refine wx_aldn j33_35 rfl ?_
  refine wx_aldn j33_36 rfl ?_
  refine wx_i0 j33_37 rfl  (Nat.le_of_ble_eq_true rfl) rfl (sp_takeNumber hs h4 hts) ?_
  rintro _ d1 ⟨rfl, h41, hf1⟩
  have ht1 := rNum_t (sl := sl) hts
  cases hr : (rNum sl t).1 with
  | none =>
    have e : rSn sl T t = (none, T, (rNum sl t).2) := by unfold rSn; rw [hr]
    rw [e]
    simp only [oi]
    refine wx_i1 j33_40 rfl rfl (Nat.le_of_ble_eq_true rfl) rfl (sp_takeLettersN) ?_
    rintro _ d9 ⟨rfl, h9⟩
    obtain rfl := h9.symm
    refine wx_istn (L' := [_, _, some (.int _)]) j33_43 (Nat.le_of_ble_eq_true rfl) rfl ?_
    refine wx_ildn j33_44 rfl ?_
    refine wx_icst (v := (-1)) j33_45 (by decide) ?_
    refine wx_cmp 53 j33_46 (by decide) (fun c46 => ?_) (fun c46 => ?_)
    · simp only [ax_cn, Classical.not_not] at c46
      exact absurd trivial c46
    · simp only [ax_cn, Classical.not_not] at c46
      refine wx_icst (v := (-1)) j33_49 (by decide) ?_
      refine wx_goto 61 j33_50 (by decide) ?_
      refine wx_ri j33_61 rfl rfl ?_
      exact ⟨rfl, h41, fun q e => (by cases e), rf_tk hf1⟩
  | some n =>
    simp only [oi]
    refine wx_i1 j33_40 rfl rfl (Nat.le_of_ble_eq_true rfl) rfl (sp_takeLetters (bt_tk hs hf1) h41 ht1.2 (Nat.lt_trans (rNum_v hr) (by decide))) ?_
    rintro _ d2 ⟨rfl, h42, hf2⟩
    have hr0 := hr
    cases hr : (rL sl n (rNum sl t).2).1 with
    | none =>
      have e : rSn sl T t = (none, T, (rL sl n (rNum sl t).2).2) := by unfold rSn; rw [hr0]; simp only [hr]
      rw [e]
      simp only [oi]
      refine wx_istn (L' := [_, _, some (.int _)]) j33_43 (Nat.le_of_ble_eq_true rfl) rfl ?_
      refine wx_ildn j33_44 rfl ?_
      refine wx_icst (v := (-1)) j33_45 (by decide) ?_
      refine wx_cmp 53 j33_46 (by decide) (fun c46 => ?_) (fun c46 => ?_)
      · simp only [ax_cn, Classical.not_not] at c46
        exact absurd trivial c46
      · simp only [ax_cn, Classical.not_not] at c46
        refine wx_icst (v := (-1)) j33_49 (by decide) ?_
        refine wx_goto 61 j33_50 (by decide) ?_
        refine wx_ri j33_61 rfl rfl ?_
        exact ⟨rfl, h42, fun q e => (by cases e), rf_tk (tk_tr hf1 hf2)⟩
    | some x =>
      have e : rSn sl T t = (if (T 0 0).length < 6 then (some (T 0 0).length, tst T 0 0 (T 0 0 ++ [x]), (rL sl n (rNum sl t).2).2) else (none, T, (rL sl n (rNum sl t).2).2)) := by unfold rSn; rw [hr0]; simp only [hr]
      rw [e]
      simp only [oi]
      refine wx_istn (L' := [_, _, some (.int _)]) j33_43 (Nat.le_of_ble_eq_true rfl) rfl ?_
      refine wx_ildn j33_44 rfl ?_
      refine wx_icst (v := (-1)) j33_45 (by decide) ?_
      refine wx_cmp 53 j33_46 (by decide) (fun c46 => ?_) (fun c46 => ?_)
      · simp only [ax_cn, Classical.not_not] at c46
        refine wx_aldn j33_53 rfl ?_
        refine wx_get (v := .ref _) j33_54 rfl (Nat.le_of_ble_eq_true rfl) rfl ?_
        refine wx_ildn j33_57 rfl ?_
        refine wx_i1 j33_58 rfl rfl (Nat.le_of_ble_eq_true rfl) rfl (sp_addSpace (s := 1) (by decide) (tb_tk ht (tk_tr hf1 hf2))) ?_
        rintro y d3 ⟨h31, h32, hf3⟩
        refine wx_ri j33_61 rfl rfl ?_
        have h43 : d3 514 4 = nI (rL sl n (rNum sl t).2).2 := by rw [tk_tb1 hf3]; exact h42
        have hw := rf_tr (rf_tk (tk_tr hf1 hf2)) (rf_tb hf3)
        by_cases h6 : (T 0 0).length < 6
        · obtain ⟨e1, e2⟩ := h31 h6
          rw [if_pos h6]
          exact ⟨e1, h43, fun q e => (by cases e; exact e2), hw⟩
        · obtain ⟨e1, e2⟩ := h32 h6
          rw [if_neg h6]
          exact ⟨e1, h43, fun q e => (by cases e), hw⟩
      · simp only [ax_cn, Classical.not_not] at c46
        exact absurd (show oi (some x) = -1 from c46) (fun q2 => by have := (oi_neg (o := some x) (fun i2 e2 => by cases e2; exact tB_lt (rL_v hr))).mp q2; cases this)
    -- 
  -- 
theorem sp_takeSpace (ht : tb_is d 1 T) (hs : bt_is d 517 sl) (h4 : d 514 4 = nI t) (hts : t ≤ sl.length) : ax_E 33 [.ref 514] d (ax_Pi fun y d1 => y = oi (rSp sl T t).1 ∧ d1 514 4 = nI (rSp sl T t).2.2 ∧ (∀ q, (rSp sl T t).1 = some q → tb_is d1 1 (rSp sl T t).2.1) ∧ rf d d1) := by
  show ax_W 33 0 [some (.ref 514), none, none] [] d _
  refine wx_aldn j33_0 rfl ?_
  refine wx_aldn j33_1 rfl ?_
  refine wx_get (v := .ref _) j33_2 rfl (Nat.le_of_ble_eq_true rfl) rfl ?_
  refine wx_get (v := .ref _) j33_5 rfl (Nat.le_of_ble_eq_true rfl) rfl ?_
  refine wx_icst (v := nI 0) j33_8 (by decide) ?_
  refine wx_i1 j33_9 rfl rfl (Nat.le_of_ble_eq_true rfl) rfl (tp_cnt (s := 1) (j := 0) (k := 0) (by decide) (by decide) (by decide) ht) ?_
  rintro _ d9 ⟨rfl, h9⟩
  obtain rfl := h9.symm
  refine wx_icst (v := nI 1) j33_12 (by decide) ?_
  refine wx_iadd j33_13 ?_
  rw [nI_add]
  refine wx_i1 j33_14 rfl rfl (Nat.le_of_ble_eq_true rfl) rfl (sp_takePlace hs h4 hts (by have := tb_l20 ht (j := 0) (k := 0) (by decide) (by decide); omega)) ?_
  rintro _ d1 ⟨rfl, h41, hf1⟩
  have htt := rP_t (sl := sl) (m := (T 0 0).length + 1) hts
  cases hr : (rP sl ((T 0 0).length + 1) t).1 with
  | none =>
    have e : rSp sl T t = (none, T, (rP sl ((T 0 0).length + 1) t).2) := by unfold rSp; rw [hr]
    rw [e]
    simp only [oi]
    refine wx_istn (L' := [_, some (.int _), _]) j33_17 (Nat.le_of_ble_eq_true rfl) rfl ?_
    refine wx_ildn j33_18 rfl ?_
    refine wx_if 35 j33_19 (by decide) (fun c19 => ?_) (fun c19 => ?_)
    · simp only [ax_cn, Classical.not_not] at c19
      exact absurd c19 (by decide)
    · simp only [ax_cn, Classical.not_not] at c19
      refine wx_ildn j33_22 rfl ?_
      refine wx_icst (v := (-1)) j33_23 (by decide) ?_
      refine wx_cmp 31 j33_24 (by decide) (fun c24 => ?_) (fun c24 => ?_)
      · simp only [ax_cn, Classical.not_not] at c24
        exact absurd trivial c24
      · simp only [ax_cn, Classical.not_not] at c24
        refine wx_icst (v := (-1)) j33_27 (by decide) ?_
        refine wx_goto 34 j33_28 (by decide) ?_
        refine wx_ri j33_34 rfl rfl ?_
        exact ⟨rfl, h41, fun q e => (by cases e), rf_tk hf1⟩
  | some q =>
    simp only [oi]
    have hq21 := rP_v hr
    have h20 := tb_l20 ht (j := 0) (k := 0) (by decide) (by decide)
    refine wx_istn (L' := [_, some (.int _), _]) j33_17 (Nat.le_of_ble_eq_true rfl) rfl ?_
    refine wx_ildn j33_18 rfl ?_
    refine wx_if 35 j33_19 (by decide) (fun c19 => ?_) (fun c19 => ?_)
    · simp only [ax_cn, Classical.not_not] at c19
      have hq0 : q = 0 := (nI_eq (by omega) (by decide)).mp (c19.trans nI_0.symm)
      have e : rSp sl T t = rSn sl T (rP sl ((T 0 0).length + 1) t).2 := by unfold rSp; rw [hr, hq0]
      rw [e]
      have := ts_new (x := nI q) (tb_tk ht hf1) (bt_tk hs hf1) h41 htt.2
      refine ax_W_mono this ?_
      rintro o d2 ⟨y, e1, e2, e3, e4, e5⟩
      exact ⟨y, e1, e2, e3, e4, rf_tr (rf_tk hf1) e5⟩
    · simp only [ax_cn, Classical.not_not] at c19
      obtain ⟨q, rfl⟩ : ∃ q2, q = q2 + 1 := ⟨q - 1, by
        rcases Nat.eq_zero_or_pos q with h0 | h0
        · rw [h0] at c19; exact absurd rfl c19
        · omega⟩
      have e : rSp sl T t = (some q, T, (rP sl ((T 0 0).length + 1) t).2) := by unfold rSp; rw [hr]
      rw [e]
      refine wx_ildn j33_22 rfl ?_
      refine wx_icst (v := (-1)) j33_23 (by decide) ?_
      refine wx_cmp 31 j33_24 (by decide) (fun c24 => ?_) (fun c24 => ?_)
      · simp only [ax_cn, Classical.not_not] at c24
        refine wx_ildn j33_31 rfl ?_
        refine wx_icst (v := nI 1) j33_32 (by decide) ?_
        refine wx_isub j33_33 ?_
        rw [nI_s1]
        refine wx_ri j33_34 rfl rfl ?_
        exact ⟨rfl, h41, fun q e => (by cases e; exact tb_tk ht hf1), rf_tk hf1⟩
      · simp only [ax_cn, Classical.not_not] at c24
        exact absurd (show oi (some (q + 1)) = -1 from c24) (fun q2 => by have := (oi_neg (o := some (q + 1)) (fun i2 e2 => by cases e2; omega)).mp q2; cases this)
  -- 
theorem rFr_v {sl l : List Nat} {t v : Nat} (h : (rFr sl l t).1 = some v) : v ∈ l := by
  unfold rFr at h
  split at h
  · rename_i q hq
    cases h
    exact getD_mem (rP_v hq)
  · cases h
theorem rSp_TB (hb : TB T) : TB (rSp sl T t).2.1 := by
  unfold rSp rSn
  split
  · exact hb
  · split
    · exact hb
    · split
      · exact hb
      · rename_i x hx
        split
        · exact TB_st hb (mem_app1 (hb 0 0) (rL_v hx))
        · exact hb
  · exact hb
theorem rSp_45 (h : T45 T) : T45 (rSp sl T t).2.1 := by
  unfold rSp rSn
  split
  · exact h
  · split
    · exact h
    · split
      · exact h
      · split
        · exact T45_st h (by decide) (by decide)
        · exact h
  · exact h
theorem rSp_p {q : Nat} (h : (rSp sl T t).1 = some q) : q < ((rSp sl T t).2.1 0 0).length := by
  unfold rSp at h ⊢
  split at h
  · cases h
  · rename_i h0
    unfold rSn at h ⊢
    split at h
    · cases h
    · rename_i n hn
      try rw [hn]
      try simp only
      split at h
      · cases h
      · rename_i x hx
        try rw [hx]
        try simp only
        split at h
        · rename_i h6
          cases h
          try rw [if_pos h6]
          try simp only
          rw [tst_at, List.length_append]
          simp
        · cases h
  · rename_i p2 hp
    cases h
    have := rP_v hp
    try simp only
    omega
theorem rLo_TB {p : Nat} (hb : TB T) : TB (rLo sl T p t).2.1 := by
  unfold rLo rLx
  split
  · exact hb
  · exact hb
  · split
    · exact hb
    · rename_i x hx
      split
      · exact TB_st hb (mem_app1 (hb 1 p) (rL_v hx))
      · exact hb
theorem rLo_45 {p : Nat} (h : T45 T) : T45 (rLo sl T p t).2.1 := by
  unfold rLo rLx
  split
  · exact h
  · exact h
  · split
    · exact h
    · split
      · exact T45_st h (by decide) (by decide)
      · exact h
theorem rLo_v {p v : Nat} (hb : TB T) (h : (rLo sl T p t).1 = some v) : v < tB := by
  unfold rLo rLx at h
  split at h
  · cases h
  · exact hb 1 p v (rFr_v h)
  · split at h
    · cases h
    · rename_i x hx
      split at h
      · cases h; exact rL_v hx
      · cases h
theorem rLo_00 (p : Nat) : (rLo sl T p t).2.1 0 0 = T 0 0 := by
  unfold rLo rLx
  split
  · rfl
  · rfl
  · split
    · rfl
    · split
      · simp only; rw [tst_ne (Or.inl (by decide))]
      · rfl
theorem rVa_TB {n : Nat} (hb : TB T) : TB (rVa sl T n t).2.1 := by
  unfold rVa
  split
  · exact hb
  · exact hb
  · exact hb
  · split
    · exact hb
    · rename_i x hx
      exact tav_TB hb (rL_v hx)
theorem rVa_45 {n : Nat} (h : T45 T) : T45 (rVa sl T n t).2.1 := by
  unfold rVa
  split
  · exact h
  · exact h
  · exact h
  · split
    · exact h
    · exact tav_45 h
theorem rVa_v {n v : Nat} (hb : TB T) (h : (rVa sl T n t).1 = some v) : v < tB := by
  unfold rVa at h
  split at h
  · cases h
  · exact hb 2 n v (rFr_v h)
  · exact hb 3 0 v (rFr_v h)
  · split at h
    · cases h
    · rename_i x hx
      cases h
      exact rL_v hx
theorem tl_new {p n : Nat} (hp : p < 6) (ht : tb_is d 1 T) (hs : bt_is d 517 sl) (h4 : d 514 4 = nI t) (hts : t ≤ sl.length) (hn : n < 2 ^ 31) : ax_W 34 22 [some (.ref 514), some (.int (nI p)), some (.int (nI n)), none] [] d (ax_Pi fun y d1 => y = oi (rLx sl T p n t).1 ∧ d1 514 4 = nI (rLx sl T p n t).2.2 ∧ (∀ q, (rLx sl T p n t).1 = some q → tb_is d1 1 (rLx sl T p n t).2.1) ∧ rf d d1) := by
  refine wx_aldn j34_22 rfl ?_
  refine wx_ildn j34_23 rfl ?_
  refine wx_i1 j34_24 rfl rfl (Nat.le_of_ble_eq_true rfl) rfl (sp_takeLetters hs h4 hts hn) ?_
  rintro _ d2 ⟨rfl, h42, hf2⟩
  have ht2 := tb_tk ht hf2
  cases hr : (rL sl n t).1 with
  | none =>
    have e : rLx sl T p n t = (none, T, (rL sl n t).2) := by unfold rLx; rw [hr]
    rw [e]
    simp only [oi]
    refine wx_istn (L' := [_, _, _, some (.int _)]) j34_27 (Nat.le_of_ble_eq_true rfl) rfl ?_
    refine wx_ildn j34_28 rfl ?_
    refine wx_icst (v := (-1)) j34_29 (by decide) ?_
    refine wx_cmp 47 j34_30 (by decide) (fun c30 => ?_) (fun c30 => ?_)
    · simp only [ax_cn, Classical.not_not] at c30
      refine wx_icst (v := (-1)) j34_47 (by decide) ?_
      refine wx_ri j34_48 rfl rfl ?_
      exact ⟨rfl, h42, fun q e => (by cases e), rf_tk hf2⟩
    · simp only [ax_cn, Classical.not_not] at c30
      exact absurd trivial c30
  | some x =>
    have e : rLx sl T p n t = (if (T 1 p).length < 10 then (some x, tst T 1 p (T 1 p ++ [x]), (rL sl n t).2) else (none, T, (rL sl n t).2)) := by unfold rLx; rw [hr]
    rw [e]
    simp only [oi]
    refine wx_istn (L' := [_, _, _, some (.int _)]) j34_27 (Nat.le_of_ble_eq_true rfl) rfl ?_
    refine wx_ildn j34_28 rfl ?_
    refine wx_icst (v := (-1)) j34_29 (by decide) ?_
    refine wx_cmp 47 j34_30 (by decide) (fun c30 => ?_) (fun c30 => ?_)
    · simp only [ax_cn, Classical.not_not] at c30
      exact absurd (show oi (some x) = -1 from c30) (fun q2 => by have := (oi_neg (o := some x) (fun i2 e2 => by cases e2; exact tB_lt (rL_v hr))).mp q2; cases this)
    · simp only [ax_cn, Classical.not_not] at c30
      refine wx_aldn j34_33 rfl ?_
      refine wx_get (v := .ref _) j34_34 rfl (Nat.le_of_ble_eq_true rfl) rfl ?_
      refine wx_get (v := .ref _) j34_37 rfl (Nat.le_of_ble_eq_true rfl) rfl ?_
      refine wx_ildn j34_40 rfl ?_
      refine wx_i1 j34_41 rfl rfl (Nat.le_of_ble_eq_true rfl) rfl (tp_full (s := 1) (j := 1) (by decide) (by decide) hp ht2) ?_
      rintro _ d9 ⟨rfl, h9⟩
      obtain rfl := h9.symm
      refine wx_if 49 j34_44 (by decide) (fun c44 => ?_) (fun c44 => ?_)
      · simp only [ax_cn, Classical.not_not] at c44
        have hroom : (T 1 p).length < 10 := by have := of_decide_eq_false (bB_0.mp c44); exact Nat.not_le.mp this
        rw [if_pos hroom]
        refine wx_aldn j34_49 rfl ?_
        refine wx_get (v := .ref _) j34_50 rfl (Nat.le_of_ble_eq_true rfl) rfl ?_
        refine wx_get (v := .ref _) j34_53 rfl (Nat.le_of_ble_eq_true rfl) rfl ?_
        refine wx_ildn j34_56 rfl ?_
        refine wx_ildn j34_57 rfl ?_
        refine wx_v2 j34_58 rfl rfl rfl (Nat.le_of_ble_eq_true rfl) rfl (tp_last (s := 1) (j := 1) (by decide) (by decide) hp ht2) ?_
        rintro d3 ⟨h3, hf3⟩
        rw [if_pos (show (T 1 p).length < ax_rm 1 from hroom)] at h3
        have hft := rw_tb (s := 1) (j := 1) hf3 (by decide)
        refine wx_ildn j34_61 rfl ?_
        refine wx_ri j34_62 rfl rfl ?_
        exact ⟨rfl, by rw [tk_tb1 hft]; exact h42, fun q e => (by cases e; exact h3), rf_tr (rf_tk hf2) (rf_tb hft)⟩
      · simp only [ax_cn, Classical.not_not] at c44
        have hfull : ¬ (T 1 p).length < 10 := by have := of_decide_eq_true (bB_1.mp c44); exact Nat.not_lt.mpr this
        rw [if_neg hfull]
        refine wx_icst (v := (-1)) j34_47 (by decide) ?_
        refine wx_ri j34_48 rfl rfl ?_
        exact ⟨rfl, h42, fun q e => (by cases e), rf_tk hf2⟩
  -- 
theorem sp_takeLocal {p : Nat} (hp : p < 6) (ht : tb_is d 1 T) (hs : bt_is d 517 sl) (h4 : d 514 4 = nI t) (hts : t ≤ sl.length) : ax_E 34 [.ref 514, .int (nI p)] d (ax_Pi fun y d1 => y = oi (rLo sl T p t).1 ∧ d1 514 4 = nI (rLo sl T p t).2.2 ∧ (∀ q, (rLo sl T p t).1 = some q → tb_is d1 1 (rLo sl T p t).2.1) ∧ rf d d1) := by
  show ax_W 34 0 [some (.ref 514), some (.int (nI p)), none, none] [] d _
  refine wx_aldn j34_0 rfl ?_
  refine wx_i0 j34_1 rfl  (Nat.le_of_ble_eq_true rfl) rfl (sp_takeNumber hs h4 hts) ?_
  rintro _ d1 ⟨rfl, h41, hf1⟩
  have htt := rNum_t (sl := sl) hts
  cases hr : (rNum sl t).1 with
  | none =>
    have e : rLo sl T p t = (none, T, (rNum sl t).2) := by unfold rLo; rw [hr]
    rw [e]
    simp only [oi]
    refine wx_istn (L' := [_, _, some (.int _), _]) j34_4 (Nat.le_of_ble_eq_true rfl) rfl ?_
    refine wx_ildn j34_5 rfl ?_
    refine wx_if 22 j34_6 (by decide) (fun c6 => ?_) (fun c6 => ?_)
    · simp only [ax_cn, Classical.not_not] at c6
      refine wx_aldn j34_22 rfl ?_
      refine wx_ildn j34_23 rfl ?_
      refine wx_i1 j34_24 rfl rfl (Nat.le_of_ble_eq_true rfl) rfl (sp_takeLettersN) ?_
      rintro _ d9 ⟨rfl, h9⟩
      obtain rfl := h9.symm
      refine wx_istn (L' := [_, _, _, some (.int _)]) j34_27 (Nat.le_of_ble_eq_true rfl) rfl ?_
      refine wx_ildn j34_28 rfl ?_
      refine wx_icst (v := (-1)) j34_29 (by decide) ?_
      refine wx_cmp 47 j34_30 (by decide) (fun c30 => ?_) (fun c30 => ?_)
      · simp only [ax_cn, Classical.not_not] at c30
        refine wx_icst (v := (-1)) j34_47 (by decide) ?_
        refine wx_ri j34_48 rfl rfl ?_
        exact ⟨rfl, h41, fun q e => (by cases e), rf_tk hf1⟩
      · simp only [ax_cn, Classical.not_not] at c30
        exact absurd trivial c30
    · simp only [ax_cn, Classical.not_not] at c6
      exact absurd c6 (by decide)
  | some n =>
    simp only [oi]
    have hn := rNum_v hr
    refine wx_istn (L' := [_, _, some (.int _), _]) j34_4 (Nat.le_of_ble_eq_true rfl) rfl ?_
    refine wx_ildn j34_5 rfl ?_
    refine wx_if 22 j34_6 (by decide) (fun c6 => ?_) (fun c6 => ?_)
    · simp only [ax_cn, Classical.not_not] at c6
      obtain ⟨n, rfl⟩ : ∃ q2, n = q2 + 1 := ⟨n - 1, by
        rcases Nat.eq_zero_or_pos n with h0 | h0
        · rw [h0] at c6; exact absurd rfl c6
        · omega⟩
      have e : rLo sl T p t = rLx sl T p (n + 1) (rNum sl t).2 := by unfold rLo; rw [hr]
      rw [e]
      refine ax_W_mono (tl_new hp (tb_tk ht hf1) (bt_tk hs hf1) h41 htt.2 (by omega)) ?_
      rintro o d2 ⟨y, e1, e2, e3, e4, e5⟩
      exact ⟨y, e1, e2, e3, e4, rf_tr (rf_tk hf1) e5⟩
    · simp only [ax_cn, Classical.not_not] at c6
      have hn0 : n = 0 := (nI_eq (by omega) (by decide)).mp (c6.trans nI_0.symm)
      have e : rLo sl T p t = ((rFr sl (T 1 p) (rNum sl t).2).1, T, (rFr sl (T 1 p) (rNum sl t).2).2) := by unfold rLo; rw [hr, hn0]
      rw [e]
      refine wx_aldn j34_9 rfl ?_
      refine wx_aldn j34_10 rfl ?_
      refine wx_get (v := .ref _) j34_11 rfl (Nat.le_of_ble_eq_true rfl) rfl ?_
      refine wx_get (v := .ref _) j34_14 rfl (Nat.le_of_ble_eq_true rfl) rfl ?_
      refine wx_ildn j34_17 rfl ?_
      refine wx_i2 j34_18 rfl rfl rfl (Nat.le_of_ble_eq_true rfl) rfl (sp_takeFrom (j := 1) (k := p) (by decide) hp (tb_tk ht hf1) (bt_tk hs hf1) h41 htt.2) ?_
      rintro _ d2 ⟨rfl, h42, hf2⟩
      refine wx_ri j34_21 rfl rfl ?_
      exact ⟨rfl, h42, fun q e => tb_tk ht (tk_tr hf1 hf2), rf_tk (tk_tr hf1 hf2)⟩
  -- 
theorem tn_new {p : Nat} (ht : tb_is d 1 T) (hs : bt_is d 517 sl) (h4 : d 514 4 = nI t) (hts : t ≤ sl.length) (hb : TB T) (h45 : T45 T) (hp : p < (T 0 0).length) : ax_W 32 12 [some (.ref 514), some (.int (nI p)), none] [] d (ax_Pi fun y d1 => y = oi (rNx sl T p t).1 ∧ d1 514 4 = nI (rNx sl T p t).2.2 ∧ (∀ q, (rNx sl T p t).1 = some q → tb_is d1 1 (rNx sl T p t).2.1) ∧ rf d d1) := by
  have hp6 : p < 6 := Nat.lt_of_lt_of_le hp (tb_len ht (j := 0) (k := 0) (by decide) (by decide))
  refine wx_aldn j32_12 rfl ?_
  refine wx_ildn j32_13 rfl ?_
  refine wx_i1 j32_14 rfl rfl (Nat.le_of_ble_eq_true rfl) rfl (sp_takeLocal hp6 ht hs h4 hts) ?_
  rintro _ d1 ⟨rfl, h41, ht1, hf1⟩
  cases hr : (rLo sl T p t).1 with
  | none =>
    have e : rNx sl T p t = (none, T, (rLo sl T p t).2.2) := by unfold rNx; rw [hr]
    rw [e]
    simp only [oi]
    refine wx_istn (L' := [_, _, some (.int _)]) j32_17 (Nat.le_of_ble_eq_true rfl) rfl ?_
    refine wx_ildn j32_18 rfl ?_
    refine wx_icst (v := (-1)) j32_19 (by decide) ?_
    refine wx_cmp 25 j32_20 (by decide) (fun c20 => ?_) (fun c20 => ?_)
    · simp only [ax_cn, Classical.not_not] at c20
      exact absurd trivial c20
    · simp only [ax_cn, Classical.not_not] at c20
      refine wx_icst (v := (-1)) j32_23 (by decide) ?_
      refine wx_ri j32_24 rfl rfl ?_
      exact ⟨rfl, h41, fun q e => (by cases e), hf1⟩
  | some lo =>
    have ht1 := ht1 lo hr
    have hlo := rLo_v hb hr
    have e : rNx sl T p t = ((rFo (rLo sl T p t).2.1 (((rLo sl T p t).2.1 0 0).getD p 0) lo).1, (rFo (rLo sl T p t).2.1 (((rLo sl T p t).2.1 0 0).getD p 0) lo).2, (rLo sl T p t).2.2) := by unfold rNx; rw [hr]
    rw [e]
    simp only [oi]
    have hb1 := rLo_TB (sl := sl) (t := t) (p := p) hb
    have hp1 : p < ((rLo sl T p t).2.1 0 0).length := by rw [rLo_00]; exact hp
    refine wx_istn (L' := [_, _, some (.int _)]) j32_17 (Nat.le_of_ble_eq_true rfl) rfl ?_
    refine wx_ildn j32_18 rfl ?_
    refine wx_icst (v := (-1)) j32_19 (by decide) ?_
    refine wx_cmp 25 j32_20 (by decide) (fun c20 => ?_) (fun c20 => ?_)
    · simp only [ax_cn, Classical.not_not] at c20
      refine wx_aldn j32_25 rfl ?_
      refine wx_get (v := .ref _) j32_26 rfl (Nat.le_of_ble_eq_true rfl) rfl ?_
      refine wx_aldn j32_29 rfl ?_
      refine wx_get (v := .ref _) j32_30 rfl (Nat.le_of_ble_eq_true rfl) rfl ?_
      refine wx_get (v := .ref _) j32_33 rfl (Nat.le_of_ble_eq_true rfl) rfl ?_
      refine wx_icst (v := nI 0) j32_36 (by decide) ?_
      refine wx_ildn j32_37 rfl ?_
      refine wx_i2 j32_38 rfl rfl rfl (Nat.le_of_ble_eq_true rfl) rfl (tp_get (s := 1) (j := 0) (k := 0) (by decide) (by decide) (by decide) ht1 hp1) ?_
      rintro _ d9 ⟨rfl, h9⟩
      obtain rfl := h9.symm
      refine wx_ildn j32_41 rfl ?_
      refine wx_i2 j32_42 rfl rfl rfl (Nat.le_of_ble_eq_true rfl) rfl (sp_foan (s := 1) (by decide) ht1 hb1 (rLo_45 h45) (hb1 0 0 _ (getD_mem hp1)) hlo) ?_
      rintro y d2 ⟨h21, h22, hf2⟩
      refine wx_ri j32_45 rfl rfl ?_
      have h42 : d2 514 4 = nI (rLo sl T p t).2.2 := by rw [tk_tb1 hf2]; exact h41
      have hw := rf_tr hf1 (rf_tb hf2)
      cases hf : fn (rLo sl T p t).2.1 (((rLo sl T p t).2.1 0 0).getD p 0) lo with
      | some i =>
        obtain ⟨e1, e2⟩ := h21 i hf
        have e3 : rFo (rLo sl T p t).2.1 (((rLo sl T p t).2.1 0 0).getD p 0) lo = (some i, (rLo sl T p t).2.1) := by unfold rFo; rw [hf]
        rw [e3]
        exact ⟨e1, h42, fun q e => (by rw [e2]; exact ht1), hw⟩
      | none =>
        by_cases h20 : ((rLo sl T p t).2.1 4 0).length < 20
        · obtain ⟨e1, e2⟩ := (h22 hf).1 h20
          have e3 : rFo (rLo sl T p t).2.1 (((rLo sl T p t).2.1 0 0).getD p 0) lo = (some ((rLo sl T p t).2.1 4 0).length, tnm (rLo sl T p t).2.1 (((rLo sl T p t).2.1 0 0).getD p 0) lo) := by unfold rFo; rw [hf]; simp only [if_pos h20]
          rw [e3]
          exact ⟨e1, h42, fun q e => e2, hw⟩
        · obtain ⟨e1, e2⟩ := (h22 hf).2 h20
          have e3 : rFo (rLo sl T p t).2.1 (((rLo sl T p t).2.1 0 0).getD p 0) lo = (none, (rLo sl T p t).2.1) := by unfold rFo; rw [hf]; simp only [if_neg h20]
          rw [e3]
          exact ⟨e1, h42, fun q e => (by cases e), hw⟩
    · simp only [ax_cn, Classical.not_not] at c20
      exact absurd (show oi (some lo) = -1 from c20) (fun q2 => by have := (oi_neg (o := some lo) (fun i2 e2 => by cases e2; exact tB_lt hlo)).mp q2; cases this)
  -- 
theorem sp_takeName (ht : tb_is d 1 T) (hs : bt_is d 517 sl) (h4 : d 514 4 = nI t) (hts : t ≤ sl.length) (hb : TB T) (h45 : T45 T) : ax_E 32 [.ref 514] d (ax_Pi fun y d1 => y = oi (rNa sl T t).1 ∧ d1 514 4 = nI (rNa sl T t).2.2 ∧ (∀ q, (rNa sl T t).1 = some q → tb_is d1 1 (rNa sl T t).2.1) ∧ rf d d1) := by
  show ax_W 32 0 [some (.ref 514), none, none] [] d _
  refine wx_aldn j32_0 rfl ?_
  refine wx_i0 j32_1 rfl  (Nat.le_of_ble_eq_true rfl) rfl (sp_takeSpace ht hs h4 hts) ?_
  rintro _ d1 ⟨rfl, h41, ht1, hf1⟩
  have htt := rSp_t (sl := sl) (T := T) hts
  cases hr : (rSp sl T t).1 with
  | none =>
    have e : rNa sl T t = (none, T, (rSp sl T t).2.2) := by unfold rNa; rw [hr]
    rw [e]
    simp only [oi]
    refine wx_istn (L' := [_, some (.int _), _]) j32_4 (Nat.le_of_ble_eq_true rfl) rfl ?_
    refine wx_ildn j32_5 rfl ?_
    refine wx_icst (v := (-1)) j32_6 (by decide) ?_
    refine wx_cmp 12 j32_7 (by decide) (fun c7 => ?_) (fun c7 => ?_)
    · simp only [ax_cn, Classical.not_not] at c7
      exact absurd trivial c7
    · simp only [ax_cn, Classical.not_not] at c7
      refine wx_icst (v := (-1)) j32_10 (by decide) ?_
      refine wx_ri j32_11 rfl rfl ?_
      exact ⟨rfl, h41, fun q e => (by cases e), hf1⟩
  | some p =>
    have ht1 := ht1 p hr
    have hp := rSp_p hr
    have hp20 := tb_l20 ht1 (j := 0) (k := 0) (by decide) (by decide)
    have e : rNa sl T t = rNx sl (rSp sl T t).2.1 p (rSp sl T t).2.2 := by unfold rNa; rw [hr]
    rw [e]
    simp only [oi]
    refine wx_istn (L' := [_, some (.int _), _]) j32_4 (Nat.le_of_ble_eq_true rfl) rfl ?_
    refine wx_ildn j32_5 rfl ?_
    refine wx_icst (v := (-1)) j32_6 (by decide) ?_
    refine wx_cmp 12 j32_7 (by decide) (fun c7 => ?_) (fun c7 => ?_)
    · simp only [ax_cn, Classical.not_not] at c7
      refine ax_W_mono (tn_new ht1 (bt_rf hs hf1) h41 htt.2 (rSp_TB hb) (rSp_45 h45) hp) ?_
      rintro o d2 ⟨y, e1, e2, e3, e4, e5⟩
      exact ⟨y, e1, e2, e3, e4, rf_tr hf1 e5⟩
    · simp only [ax_cn, Classical.not_not] at c7
      exact absurd (show oi (some p) = -1 from c7) (fun q2 => by have := (oi_neg (o := some p) (fun i2 e2 => by cases e2; exact (by omega))).mp q2; cases this)
  -- 
theorem sp_takeValue (hn : n < 20) (ht : tb_is d 1 T) (hs : bt_is d 517 sl) (h4 : d 514 4 = nI t) (hts : t ≤ sl.length) : ax_E 35 [.ref 514, .int (nI n)] d (ax_Pi fun y d1 => y = oi (rVa sl T n t).1 ∧ d1 514 4 = nI (rVa sl T n t).2.2 ∧ (∀ q, (rVa sl T n t).1 = some q → tb_is d1 1 (rVa sl T n t).2.1) ∧ rf d d1) := by
  show ax_W 35 0 [some (.ref 514), some (.int (nI n)), none, none] [] d _
  refine wx_aldn j35_0 rfl ?_
  refine wx_i0 j35_1 rfl  (Nat.le_of_ble_eq_true rfl) rfl (sp_takeNumber hs h4 hts) ?_
  rintro _ d1 ⟨rfl, h41, hf1⟩
  have htt := rNum_t (sl := sl) hts
  have ht1 := tb_tk ht hf1
  have hs1 := bt_tk hs hf1
  cases hr : (rNum sl t).1 with
  | none =>
    have e : rVa sl T n t = (none, T, (rNum sl t).2) := by unfold rVa; rw [hr]
    rw [e]
    simp only [oi]
    refine wx_istn (L' := [_, _, some (.int _), _]) j35_4 (Nat.le_of_ble_eq_true rfl) rfl ?_
    refine wx_ildn j35_5 rfl ?_
    refine wx_icst (v := (-1)) j35_6 (by decide) ?_
    refine wx_cmp 12 j35_7 (by decide) (fun c7 => ?_) (fun c7 => ?_)
    · simp only [ax_cn, Classical.not_not] at c7
      exact absurd trivial c7
    · simp only [ax_cn, Classical.not_not] at c7
      refine wx_icst (v := (-1)) j35_10 (by decide) ?_
      refine wx_ri j35_11 rfl rfl ?_
      exact ⟨rfl, h41, fun q e => (by cases e), rf_tk hf1⟩
  | some k =>
    simp only [oi]
    have hk := rNum_v hr
    refine wx_istn (L' := [_, _, some (.int _), _]) j35_4 (Nat.le_of_ble_eq_true rfl) rfl ?_
    refine wx_ildn j35_5 rfl ?_
    refine wx_icst (v := (-1)) j35_6 (by decide) ?_
    refine wx_cmp 12 j35_7 (by decide) (fun c7 => ?_) (fun c7 => ?_)
    · simp only [ax_cn, Classical.not_not] at c7
      refine wx_ildn j35_12 rfl ?_
      refine wx_if 29 j35_13 (by decide) (fun c13 => ?_) (fun c13 => ?_)
      · simp only [ax_cn, Classical.not_not] at c13
        have hk0 : ¬ k = 0 := fun q => c13 (by rw [q]; rfl)
        refine wx_ildn j35_29 rfl ?_
        refine wx_icst (v := nI 1) j35_30 (by decide) ?_
        refine wx_cmp 47 j35_31 (by decide) (fun c31 => ?_) (fun c31 => ?_)
        · simp only [ax_cn, Classical.not_not] at c31
          have hk1 : ¬ k = 1 := fun q => c31 (by rw [q])
          obtain ⟨k, rfl⟩ : ∃ q2, k = q2 + 2 := ⟨k - 2, by omega⟩
          refine wx_aldn j35_47 rfl ?_
          refine wx_ildn j35_48 rfl ?_
          refine wx_icst (v := nI 2) j35_49 (by decide) ?_
          refine wx_isub j35_50 ?_
          rw [pk_sub (by omega), show k + 2 - 2 = k by omega]
          refine wx_i1 j35_51 rfl rfl (Nat.le_of_ble_eq_true rfl) rfl (sp_takeLetters hs1 h41 htt.2 (by omega)) ?_
          rintro _ d2 ⟨rfl, h42, hf2⟩
          have hr0 := hr
          cases hr : (rL sl k (rNum sl t).2).1 with
          | none =>
            have e : rVa sl T n t = (none, T, (rL sl k (rNum sl t).2).2) := by unfold rVa; rw [hr0]; simp only [hr]
            rw [e]
            simp only [oi]
            refine wx_istn (L' := [_, _, _, some (.int _)]) j35_54 (Nat.le_of_ble_eq_true rfl) rfl ?_
            refine wx_ildn j35_55 rfl ?_
            refine wx_icst (v := (-1)) j35_56 (by decide) ?_
            refine wx_cmp 69 j35_57 (by decide) (fun c57 => ?_) (fun c57 => ?_)
            · simp only [ax_cn, Classical.not_not] at c57
              refine wx_ildn j35_69 rfl ?_
              refine wx_ri j35_70 rfl rfl ?_
              exact ⟨rfl, h42, fun q e => (by cases e), rf_tk (tk_tr hf1 hf2)⟩
            · simp only [ax_cn, Classical.not_not] at c57
              exact absurd trivial c57
          | some v =>
            have e : rVa sl T n t = (some v, tav T n v, (rL sl k (rNum sl t).2).2) := by unfold rVa; rw [hr0]; simp only [hr]
            rw [e]
            simp only [oi]
            have hv := rL_v hr
            refine wx_istn (L' := [_, _, _, some (.int _)]) j35_54 (Nat.le_of_ble_eq_true rfl) rfl ?_
            refine wx_ildn j35_55 rfl ?_
            refine wx_icst (v := (-1)) j35_56 (by decide) ?_
            refine wx_cmp 69 j35_57 (by decide) (fun c57 => ?_) (fun c57 => ?_)
            · simp only [ax_cn, Classical.not_not] at c57
              exact absurd (show oi (some v) = -1 from c57) (fun q2 => by have := (oi_neg (o := some v) (fun i2 e2 => by cases e2; exact tB_lt hv)).mp q2; cases this)
            · simp only [ax_cn, Classical.not_not] at c57
              refine wx_aldn j35_60 rfl ?_
              refine wx_get (v := .ref _) j35_61 rfl (Nat.le_of_ble_eq_true rfl) rfl ?_
              refine wx_ildn j35_64 rfl ?_
              refine wx_ildn j35_65 rfl ?_
              refine wx_v2 j35_66 rfl rfl rfl (Nat.le_of_ble_eq_true rfl) rfl (sp_addValue (s := 1) (by decide) (tb_tk ht1 hf2) hn hv) ?_
              rintro d3 ⟨h3, hf3⟩
              refine wx_ildn j35_69 rfl ?_
              refine wx_ri j35_70 rfl rfl ?_
              exact ⟨rfl, by rw [tk_tb1 hf3]; exact h42, fun q e => h3, rf_tr (rf_tk (tk_tr hf1 hf2)) (rf_tb hf3)⟩
          -- 
        · simp only [ax_cn, Classical.not_not] at c31
          have hk1 : k = 1 := (nI_eq (by omega) (by decide)).mp c31
          have e : rVa sl T n t = ((rFr sl (T 3 0) (rNum sl t).2).1, T, (rFr sl (T 3 0) (rNum sl t).2).2) := by unfold rVa; rw [hr, hk1]
          rw [e]
          refine wx_aldn j35_34 rfl ?_
          refine wx_aldn j35_35 rfl ?_
          refine wx_get (v := .ref _) j35_36 rfl (Nat.le_of_ble_eq_true rfl) rfl ?_
          refine wx_get (v := .ref _) j35_39 rfl (Nat.le_of_ble_eq_true rfl) rfl ?_
          refine wx_icst (v := nI 0) j35_42 (by decide) ?_
          refine wx_i2 j35_43 rfl rfl rfl (Nat.le_of_ble_eq_true rfl) rfl (sp_takeFrom (j := 3) (k := 0) (by decide) (by decide) ht1 hs1 h41 htt.2) ?_
          rintro _ d2 ⟨rfl, h42, hf2⟩
          refine wx_ri j35_46 rfl rfl ?_
          exact ⟨rfl, h42, fun q e => tb_tk ht1 hf2, rf_tk (tk_tr hf1 hf2)⟩
      · simp only [ax_cn, Classical.not_not] at c13
        have hk0 : k = 0 := (nI_eq (by omega) (by decide)).mp (c13.trans nI_0.symm)
        have e : rVa sl T n t = ((rFr sl (T 2 n) (rNum sl t).2).1, T, (rFr sl (T 2 n) (rNum sl t).2).2) := by unfold rVa; rw [hr, hk0]
        rw [e]
        refine wx_aldn j35_16 rfl ?_
        refine wx_aldn j35_17 rfl ?_
        refine wx_get (v := .ref _) j35_18 rfl (Nat.le_of_ble_eq_true rfl) rfl ?_
        refine wx_get (v := .ref _) j35_21 rfl (Nat.le_of_ble_eq_true rfl) rfl ?_
        refine wx_ildn j35_24 rfl ?_
        refine wx_i2 j35_25 rfl rfl rfl (Nat.le_of_ble_eq_true rfl) rfl (sp_takeFrom (j := 2) (k := n) (by decide) hn ht1 hs1 h41 htt.2) ?_
        rintro _ d2 ⟨rfl, h42, hf2⟩
        refine wx_ri j35_28 rfl rfl ?_
        exact ⟨rfl, h42, fun q e => tb_tk ht1 hf2, rf_tk (tk_tr hf1 hf2)⟩
    · simp only [ax_cn, Classical.not_not] at c7
      exact absurd (show oi (some k) = -1 from c7) (fun q2 => by have := (oi_neg (o := some k) (fun i2 e2 => by cases e2; exact (by omega))).mp q2; cases this)
  -- 
end R2
