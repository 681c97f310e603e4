/-! ROWS: the class's rows of numbers. 'rw_is d r LL': Rows r holds the lists LL (a list a row). -/
def rw_is (d : ax_D) (r : Nat) (LL : Nat → List Int32) : Prop := ∀ k, k < ax_nr r → (LL k).length ≤ ax_rm r ∧ d (32 * r + 2) k = nI (LL k).length ∧ ∀ i, i < (LL k).length → d (32 * r + 3 + k) i = (LL k).getD i 0
/-- nothing but Rows r has changed -/
def rw_fr (d d1 : ax_D) (r : Nat) : Prop := ∀ id, (id < 32 * r ∨ 32 * r + 32 ≤ id) → d1 id = d id
def rw_up (LL : Nat → List Int32) (k : Nat) (l : List Int32) : Nat → List Int32 := fun j => if j = k then l else LL j
theorem rw_fr_rf (d : ax_D) (r : Nat) : rw_fr d d r := fun _ _ => rfl
theorem rw_fr_tr {d d1 d2 : ax_D} {r : Nat} (h : rw_fr d d1 r) (h2 : rw_fr d1 d2 r) : rw_fr d d2 r := fun id hi => (h2 id hi).trans (h id hi)
theorem rw_keep {d d1 : ax_D} {r r' : Nat} {LL : Nat → List Int32} (h : rw_is d r LL) (hf : rw_fr d d1 r') (hr : r ≠ r') : rw_is d1 r LL := by
  intro k hk
  have h20 := nr_le r
  obtain ⟨h1, h2, h3⟩ := h k hk
  refine ⟨h1, ?_, fun i hi => ?_⟩
  · rw [hf (32 * r + 2) (by omega)]; exact h2
  · rw [hf (32 * r + 3 + k) (by omega)]; exact h3 i hi
theorem rw_len_lt {d : ax_D} {r k : Nat} {LL : Nat → List Int32} (h : rw_is d r LL) (hk : k < ax_nr r) : (LL k).length < 2 ^ 31 := Nat.lt_of_le_of_lt (Nat.le_trans (h k hk).1 (rm_le r)) (by decide)
/-- the first place of an item, or -1 -/
def rw_fi (l : List Int32) (x : Int32) : Int32 := match l.findIdx? (· == x) with
  | some i => nI i
  | none => -1
def rw_gt (l : List Int32) (p : Int32) : Int32 := if p < 0 then -1 else l.getD p.toNatClampNeg (-1)
section RW
variable {d : ax_D} {r k : Nat} {LL : Nat → List Int32} {x : Int32}
theorem nI_p {n : Nat} (h : n < 2 ^ 31) : ¬ nI n < 0 := nI_pos h
theorem sp_count (hr : r < 16) (hk : k < ax_nr r) : ax_E 42 [.ref (32 * r), .int (nI k)] d (ax_Pi fun x d1 => x = d (32 * r + 2) k ∧ d1 = d) := by
  show ax_W 42 0 [some (.ref (32 * r)), some (.int (nI k))] [] d _
  refine wx_ildn j42_0 rfl ?_
  refine wx_if 22 j42_1 (by decide) (fun c1 => ?_) (fun c1 => ?_)
  · simp only [ax_cn, Classical.not_not] at c1
    exact absurd c1 (nI_p (Nat.lt_trans hk (nr_lt r)))
  · simp only [ax_cn, Classical.not_not] at c1
    refine wx_ildn j42_4 rfl ?_
    refine wx_aldn j42_5 rfl ?_
    refine wx_get (v := .ref _) j42_6 (sh_ro hr) (Nat.le_of_ble_eq_true rfl) rfl ?_
    refine wx_alen j42_9 (sh_rs hr) (Nat.le_of_ble_eq_true rfl) ?_
    refine wx_cmp 22 j42_10 (by decide) (fun c10 => ?_) (fun c10 => ?_)
    · simp only [ax_cn, Classical.not_not] at c10
      exact absurd c10 (nI_ge hk (nr_lt r))
    · simp only [ax_cn, Classical.not_not] at c10
      refine wx_aldn j42_13 rfl ?_
      refine wx_get (v := .ref _) j42_14 (sh_ro hr) (Nat.le_of_ble_eq_true rfl) rfl ?_
      refine wx_ildn j42_17 rfl ?_
      refine wx_ialx (k) j42_18 (sh_rs hr) rfl (hk) (nr_lt r) ?_
      refine wx_goto 23 j42_19 (by decide) ?_
      refine wx_ri j42_23 rfl rfl ?_
      exact ⟨rfl, rfl⟩
theorem sp_cnt (hr : r < 16) (hk : k < ax_nr r) (h : rw_is d r LL) : ax_E 42 [.ref (32 * r), .int (nI k)] d (ax_Pi fun x d1 => x = nI (LL k).length ∧ d1 = d) := by
  show ax_W 42 0 [some (.ref (32 * r)), some (.int (nI k))] [] d _
  exact ax_E_i (sp_count hr hk) (fun x d1 ⟨h1, h2⟩ => ⟨h1.trans (h k hk).2.1, h2⟩)
theorem sp_isFull (hr : r < 16) (hk : k < ax_nr r) (h : rw_is d r LL) : ax_E 43 [.ref (32 * r), .int (nI k)] d (ax_Pi fun x d1 => x = (if (LL k).length < ax_rm r then nI 0 else nI 1) ∧ d1 = d) := by
  show ax_W 43 0 [some (.ref (32 * r)), some (.int (nI k))] [] d _
  refine wx_aldn j43_0 rfl ?_
  refine wx_ildn j43_1 rfl ?_
  refine wx_i1 j43_2 rfl rfl (Nat.le_of_ble_eq_true rfl) (sh_ro hr) (sp_cnt hr hk h) ?_
  rintro _ _ ⟨rfl, rfl⟩
  refine wx_aldn j43_5 rfl ?_
  refine wx_get (v := .int _) j43_6 (sh_ro hr) (Nat.le_of_ble_eq_true rfl) rfl ?_
  refine wx_cmp 16 j43_9 (by decide) (fun c9 => ?_) (fun c9 => ?_)
  · simp only [ax_cn, Classical.not_not] at c9
    refine wx_icst (v := nI 0) j43_16 (by decide) ?_
    refine wx_ri j43_17 rfl rfl ?_
    exact ⟨by rw [if_pos ((nI_ltI (rw_len_lt h hk) (rm_lt r)).mp c9)], rfl⟩
  · simp only [ax_cn, Classical.not_not] at c9
    refine wx_icst (v := nI 1) j43_12 (by decide) ?_
    refine wx_goto 17 j43_13 (by decide) ?_
    refine wx_ri j43_17 rfl rfl ?_
    exact ⟨by rw [if_neg (fun q => c9 (nI_lt q (rm_lt r)))], rfl⟩
theorem sp_get (hr : r < 16) (hk : k < ax_nr r) (h : rw_is d r LL) : ax_E 44 [.ref (32 * r), .int (nI k), .int x] d (ax_Pi fun y d1 => y = rw_gt (LL k) x ∧ d1 = d) := by
  show ax_W 44 0 [some (.ref (32 * r)), some (.int (nI k)), some (.int x)] [] d _
  refine wx_ildn j44_0 rfl ?_
  refine wx_if 24 j44_1 (by decide) (fun c1 => ?_) (fun c1 => ?_)
  · simp only [ax_cn, Classical.not_not] at c1
    have hx : rw_gt (LL k) x = -1 := by unfold rw_gt; rw [if_pos c1]
    refine wx_icst (v := (-1)) j44_24 (by decide) ?_
    refine wx_ri j44_25 rfl rfl ?_
    exact ⟨hx.symm, rfl⟩
  · simp only [ax_cn, Classical.not_not] at c1
    obtain ⟨p, hp, rfl⟩ := nI_of c1
    refine wx_ildn j44_4 rfl ?_
    refine wx_aldn j44_5 rfl ?_
    refine wx_ildn j44_6 rfl ?_
    refine wx_i1 j44_7 rfl rfl (Nat.le_of_ble_eq_true rfl) (sh_ro hr) (sp_cnt hr hk h) ?_
    rintro _ _ ⟨rfl, rfl⟩
    refine wx_cmp 24 j44_10 (by decide) (fun c10 => ?_) (fun c10 => ?_)
    · simp only [ax_cn, Classical.not_not] at c10
      have hx : rw_gt (LL k) (nI p) = -1 := by
        unfold rw_gt
        rw [if_neg (nI_p hp), nI_clamp hp, List.getD_eq_getElem?_getD, List.getElem?_eq_none ((nI_leI (rw_len_lt h hk) hp).mp c10)]
        rfl
      refine wx_icst (v := (-1)) j44_24 (by decide) ?_
      refine wx_ri j44_25 rfl rfl ?_
      exact ⟨hx.symm, rfl⟩
    · simp only [ax_cn, Classical.not_not] at c10
      have hpl : p < (LL k).length := Nat.not_le.mp (fun q => c10 ((nI_leI (rw_len_lt h hk) hp).mpr q))
      have hx : rw_gt (LL k) (nI p) = (LL k).getD p 0 := by
        unfold rw_gt
        rw [if_neg (nI_p hp), nI_clamp hp, List.getD_eq_getElem?_getD, List.getD_eq_getElem?_getD, List.getElem?_eq_getElem hpl]
        rfl
      refine wx_aldn j44_13 rfl ?_
      refine wx_get (v := .ref _) j44_14 (sh_ro hr) (Nat.le_of_ble_eq_true rfl) rfl ?_
      refine wx_ildn j44_17 rfl ?_
      refine wx_aalx (k) j44_18 (sh_ri hr) rfl (hk) (nr_lt r) rfl ?_
      refine wx_ildn j44_19 rfl ?_
      refine wx_ialx (p) j44_20 (sh_rr hr hk) rfl (Nat.lt_of_lt_of_le hpl (h k hk).1) (rm_lt r) ?_
      refine wx_goto 25 j44_21 (by decide) ?_
      refine wx_ri j44_25 rfl rfl ?_
      exact ⟨((h k hk).2.2 p hpl).trans hx.symm, rfl⟩
theorem rw_fi_none {l : List Int32} {x : Int32} (h : ∀ j, j < l.length → l.getD j 0 ≠ x) : rw_fi l x = -1 := by
  have h1 : l.findIdx? (· == x) = none := by
    rw [List.findIdx?_eq_none_iff]
    intro y hy
    obtain ⟨j, hj, rfl⟩ := List.mem_iff_getElem.mp hy
    have h2 := h j hj
    rw [List.getD_eq_getElem?_getD, List.getElem?_eq_getElem hj] at h2
    simpa using h2
  unfold rw_fi
  rw [h1]
theorem rw_fi_some {l : List Int32} {x : Int32} {i : Nat} (hi : i < l.length) (he : l.getD i 0 = x) (h : ∀ j, j < i → l.getD j 0 ≠ x) : rw_fi l x = nI i := by
  have h1 : l.findIdx? (· == x) = some i := by
    rw [List.findIdx?_eq_some_iff_getElem]
    refine ⟨hi, ?_, fun j hj => ?_⟩
    · rw [List.getD_eq_getElem?_getD, List.getElem?_eq_getElem hi] at he
      simpa using he
    · have h2 := h j hj
      rw [List.getD_eq_getElem?_getD, List.getElem?_eq_getElem (Nat.lt_trans hj hi)] at h2
      simpa using h2
  unfold rw_fi
  rw [h1]
theorem rw_fi_cases (l : List Int32) (x : Int32) : (∃ i, i < l.length ∧ l.getD i 0 = x ∧ (∀ j, j < i → l.getD j 0 ≠ x) ∧ rw_fi l x = nI i) ∨ ((∀ j, j < l.length → l.getD j 0 ≠ x) ∧ rw_fi l x = -1) := by
  by_cases h : ∀ j, j < l.length → l.getD j 0 ≠ x
  · exact Or.inr ⟨h, rw_fi_none h⟩
  · have h1 : ∃ j, j < l.length ∧ l.getD j 0 = x := by
      simp only [Classical.not_forall, not_imp, Classical.not_not] at h
      obtain ⟨j, hj, he⟩ := h
      exact ⟨j, hj, he⟩
    obtain ⟨i, ⟨hi, he⟩, hm⟩ := pk_least (fun j => j < l.length ∧ l.getD j 0 = x) h1
    have h2 : ∀ j, j < i → l.getD j 0 ≠ x := fun j hj e => hm j hj ⟨Nat.lt_trans hj hi, e⟩
    exact Or.inl ⟨i, hi, he, h2, rw_fi_some hi he h2⟩
theorem rw_put {d1 : ax_D} {l : List Int32} (h : rw_is d r LL) (hk : k < ax_nr r) (hl : l.length ≤ ax_rm r) (h2 : d1 (32 * r + 2) k = nI l.length) (h3 : ∀ i, i < l.length → d1 (32 * r + 3 + k) i = l.getD i 0) (h4 : ∀ j, j ≠ k → d1 (32 * r + 2) j = d (32 * r + 2) j) (h5 : ∀ id, id ≠ 32 * r + 2 → id ≠ 32 * r + 3 + k → d1 id = d id) : rw_is d1 r (rw_up LL k l) ∧ rw_fr d d1 r := by
  have h20 := nr_le r
  refine ⟨fun j hj => ?_, fun id hid => h5 id (by omega) (by omega)⟩
  unfold rw_up
  by_cases hjk : j = k
  · subst hjk
    rw [if_pos rfl]
    exact ⟨hl, h2, h3⟩
  · rw [if_neg hjk]
    obtain ⟨a1, a2, a3⟩ := h j hj
    refine ⟨a1, ?_, fun i hi => ?_⟩
    · rw [h4 j hjk]; exact a2
    · rw [h5 _ (by omega) (by omega)]; exact a3 i hi
theorem rw_find_loop (hr : r < 16) (hk : k < ax_nr r) (h : rw_is d r LL) : ∀ n i, (LL k).length - i < n → i ≤ (LL k).length → (∀ j, j < i → (LL k).getD j 0 ≠ x) → ax_W 45 9 [some (.ref (32 * r)), some (.int (nI k)), some (.int x), some (.int (nI (LL k).length)), some (.int (nI i))] [] d (ax_Pi fun y d1 => y = rw_fi (LL k) x ∧ d1 = d) := by
  have hlen := rw_len_lt h hk
  have hrm := (h k hk).1
  intro n
  induction n with
  | zero => intro i h0; omega
  | succ n ih =>
    intro i h0 hi hno
    refine wx_ild j45_9 rfl ?_
    refine wx_ildn j45_11 rfl ?_
    refine wx_cmp 37 j45_12 (by decide) (fun c12 => ?_) (fun c12 => ?_)
    · simp only [ax_cn, Classical.not_not] at c12
      have hil : i = (LL k).length := Nat.le_antisymm hi ((nI_leI hlen (by omega)).mp c12)
      refine wx_icst (v := (-1)) j45_37 (by decide) ?_
      refine wx_ri j45_38 rfl rfl ?_
      exact ⟨(rw_fi_none (by rw [← hil]; exact hno)).symm, rfl⟩
    · simp only [ax_cn, Classical.not_not] at c12
      have hil : i < (LL k).length := Nat.not_le.mp (fun q => c12 ((nI_leI hlen (by omega)).mpr q))
      refine wx_aldn j45_15 rfl ?_
      refine wx_get (v := .ref _) j45_16 (sh_ro hr) (Nat.le_of_ble_eq_true rfl) rfl ?_
      refine wx_ildn j45_19 rfl ?_
      refine wx_aalx (k) j45_20 (sh_ri hr) rfl (hk) (nr_lt r) rfl ?_
      refine wx_ild j45_21 rfl ?_
      refine wx_ialx (i) j45_23 (sh_rr hr hk) rfl (by omega) (rm_lt r) ?_
      refine wx_ildn j45_24 rfl ?_
      refine wx_cmp 31 j45_25 (by decide) (fun c25 => ?_) (fun c25 => ?_)
      · simp only [ax_cn, Classical.not_not] at c25
        refine wx_iinc (v := nI (i + 1)) (L' := [_, _, _, _, some (.int _)]) j45_31 rfl (nI_1 i) rfl ?_
        refine wx_goto 9 j45_34 (by decide) ?_
        exact ih (i + 1) (by omega) (by omega) (lt_s hno (by rw [← (h k hk).2.2 i hil]; exact c25))
      · simp only [ax_cn, Classical.not_not] at c25
        refine wx_ild j45_28 rfl ?_
        refine wx_ri j45_30 rfl rfl ?_
        exact ⟨(rw_fi_some hil (((h k hk).2.2 i hil).symm.trans c25) hno).symm, rfl⟩
theorem sp_find (hr : r < 16) (hk : k < ax_nr r) (h : rw_is d r LL) : ax_E 45 [.ref (32 * r), .int (nI k), .int x] d (ax_Pi fun y d1 => y = rw_fi (LL k) x ∧ d1 = d) := by
  show ax_W 45 0 [some (.ref (32 * r)), some (.int (nI k)), some (.int x), none, none] [] d _
  refine wx_aldn j45_0 rfl ?_
  refine wx_ildn j45_1 rfl ?_
  refine wx_i1 j45_2 rfl rfl (Nat.le_of_ble_eq_true rfl) (sh_ro hr) (sp_cnt hr hk h) ?_
  rintro _ _ ⟨rfl, rfl⟩
  refine wx_istn (L' := [_, _, _, some (.int _), _]) j45_5 (Nat.le_of_ble_eq_true rfl) rfl ?_
  refine wx_icst (v := nI 0) j45_6 (by decide) ?_
  refine wx_ist (L' := [_, _, _, _, some (.int _)]) j45_7 (Nat.le_of_ble_eq_true rfl) rfl ?_
  exact rw_find_loop hr hk h ((LL k).length + 1) 0 (by omega) (Nat.zero_le _) (fun j hj => absurd hj (Nat.not_lt_zero j))
theorem rw_len_up {l : List Int32} (d : ax_D) (id k i : Nat) (x : Int32) (h : id ≠ i) (j : Nat) (e : d i j = nI l.length) : ax_up d id k x i j = nI l.length := by rw [up_ni (Ne.symm h)]; exact e
theorem sp_addLast (hr : r < 16) (hk : k < ax_nr r) (h : rw_is d r LL) : ax_E 46 [.ref (32 * r), .int (nI k), .int x] d (ax_Pv fun d1 => rw_is d1 r (rw_up LL k (if (LL k).length < ax_rm r then LL k ++ [x] else LL k)) ∧ rw_fr d d1 r) := by
  show ax_W 46 0 [some (.ref (32 * r)), some (.int (nI k)), some (.int x)] [] d _
  refine wx_ildn j46_0 rfl ?_
  refine wx_if 50 j46_1 (by decide) (fun c1 => ?_) (fun c1 => ?_)
  · simp only [ax_cn, Classical.not_not] at c1
    exact absurd c1 (nI_p (Nat.lt_trans hk (nr_lt r)))
  · simp only [ax_cn, Classical.not_not] at c1
    refine wx_ildn j46_4 rfl ?_
    refine wx_aldn j46_5 rfl ?_
    refine wx_get (v := .ref _) j46_6 (sh_ro hr) (Nat.le_of_ble_eq_true rfl) rfl ?_
    refine wx_alen j46_9 (sh_rs hr) (Nat.le_of_ble_eq_true rfl) ?_
    refine wx_cmp 50 j46_10 (by decide) (fun c10 => ?_) (fun c10 => ?_)
    · simp only [ax_cn, Classical.not_not] at c10
      exact absurd c10 (nI_ge hk (nr_lt r))
    · simp only [ax_cn, Classical.not_not] at c10
      refine wx_aldn j46_13 rfl ?_
      refine wx_get (v := .ref _) j46_14 (sh_ro hr) (Nat.le_of_ble_eq_true rfl) rfl ?_
      refine wx_ildn j46_17 rfl ?_
      refine wx_ialx (k) j46_18 (sh_rs hr) rfl (hk) (nr_lt r) ?_
      rw [(h k hk).2.1]
      refine wx_aldn j46_19 rfl ?_
      refine wx_get (v := .int _) j46_20 (sh_ro hr) (Nat.le_of_ble_eq_true rfl) rfl ?_
      refine wx_cmp 50 j46_23 (by decide) (fun c23 => ?_) (fun c23 => ?_)
      · simp only [ax_cn, Classical.not_not] at c23
        have hfull : ¬ (LL k).length < ax_rm r := fun q => absurd c23 (nI_ge q (rm_lt r))
        refine wx_rv j46_50 rfl ?_
        rw [if_neg hfull]
        exact rw_put h hk (h k hk).1 (h k hk).2.1 (h k hk).2.2 (fun _ _ => rfl) (fun _ _ _ => rfl)
      · simp only [ax_cn, Classical.not_not] at c23
        have hroom : (LL k).length < ax_rm r := Nat.not_le.mp (fun q => c23 (nI_le q (rw_len_lt h hk)))
        refine wx_aldn j46_26 rfl ?_
        refine wx_get (v := .ref _) j46_27 (sh_ro hr) (Nat.le_of_ble_eq_true rfl) rfl ?_
        refine wx_ildn j46_30 rfl ?_
        refine wx_aalx (k) j46_31 (sh_ri hr) rfl (hk) (nr_lt r) rfl ?_
        refine wx_aldn j46_32 rfl ?_
        refine wx_get (v := .ref _) j46_33 (sh_ro hr) (Nat.le_of_ble_eq_true rfl) rfl ?_
        refine wx_ildn j46_36 rfl ?_
        refine wx_ialx (k) j46_37 (sh_rs hr) rfl (hk) (nr_lt r) ?_
        rw [(h k hk).2.1]
        refine wx_ildn j46_38 rfl ?_
        refine wx_iasx ((LL k).length) j46_39 (sh_rr hr hk) rfl (hroom) (rm_lt r) ?_
        refine wx_aldn j46_40 rfl ?_
        refine wx_get (v := .ref _) j46_41 (sh_ro hr) (Nat.le_of_ble_eq_true rfl) rfl ?_
        refine wx_ildn j46_44 rfl ?_
        refine wx_dup2 j46_45 ?_
        refine wx_ialx (k) j46_46 (sh_rs hr) rfl (hk) (nr_lt r) ?_
        rw [up_ni (show 32 * r + 2 ≠ 32 * r + 3 + k by omega), (h k hk).2.1]
        refine wx_icst (v := nI 1) j46_47 (by decide) ?_
        refine wx_iadd j46_48 ?_
        refine wx_iasx (k) j46_49 (sh_rs hr) rfl (hk) (nr_lt r) ?_
        refine wx_rv j46_50 rfl ?_
        rw [if_pos hroom]
        refine rw_put h hk (by rw [List.length_append]; exact hroom) ?_ (fun i hi => ?_) (fun j hj => ?_) (fun id h1 h2 => ?_)
        · rw [up_at, nI_add, List.length_append]; rfl
        · rw [up_ni (by omega), up_ap]
          by_cases hi2 : i = (LL k).length
          · subst hi2
            rw [if_pos ⟨rfl, rfl⟩]
            simp
          · rw [if_neg (fun q => hi2 q.2)]
            have hi3 : i < (LL k).length := by rw [List.length_append] at hi; simp at hi; omega
            rw [(h k hk).2.2 i hi3, List.getD_eq_getElem?_getD, List.getD_eq_getElem?_getD, List.getElem?_append_left hi3]
        · rw [up_nk hj, up_ni (by omega)]
        · rw [ax_up_ne h1, ax_up_ne h2]
theorem rw_forget_loop (hr : r < 16) : ∀ n i (d1 : ax_D), ax_nr r - i < n → i ≤ ax_nr r → (∀ j, j < i → d1 (32 * r + 2) j = nI 0) → (∀ id, id ≠ 32 * r + 2 → d1 id = d id) → ax_W 41 2 [some (.ref (32 * r)), some (.int (nI i))] [] d1 (ax_Pv fun d1 => rw_is d1 r (fun _ => []) ∧ rw_fr d d1 r) := by
  have hnr := nr_lt r
  intro n
  induction n with
  | zero => intro i d1 h0; omega
  | succ n ih =>
    intro i d1 h0 hi hz hf
    refine wx_ildn j41_2 rfl ?_
    refine wx_aldn j41_3 rfl ?_
    refine wx_get (v := .ref _) j41_4 (sh_ro hr) (Nat.le_of_ble_eq_true rfl) rfl ?_
    refine wx_alen j41_7 (sh_rs hr) (Nat.le_of_ble_eq_true rfl) ?_
    refine wx_cmp 24 j41_8 (by decide) (fun c8 => ?_) (fun c8 => ?_)
    · simp only [ax_cn, Classical.not_not] at c8
      have hil : i = ax_nr r := Nat.le_antisymm hi ((nI_leI hnr (by omega)).mp c8)
      refine wx_rv j41_24 rfl ?_
      exact ⟨fun j hj => ⟨Nat.zero_le _, hz j (by omega), fun i hi => absurd hi (Nat.not_lt_zero i)⟩, fun id hid => hf id (by omega)⟩
    · simp only [ax_cn, Classical.not_not] at c8
      have hil : i < ax_nr r := Nat.not_le.mp (fun q => c8 ((nI_leI hnr (by omega)).mpr q))
      refine wx_aldn j41_11 rfl ?_
      refine wx_get (v := .ref _) j41_12 (sh_ro hr) (Nat.le_of_ble_eq_true rfl) rfl ?_
      refine wx_ildn j41_15 rfl ?_
      refine wx_icst (v := nI 0) j41_16 (by decide) ?_
      refine wx_iasx (i) j41_17 (sh_rs hr) rfl (hil) hnr ?_
      refine wx_iinc (v := nI (i + 1)) (L' := [_, some (.int _)]) j41_18 rfl (nI_1 i) rfl ?_
      refine wx_goto 2 j41_21 (by decide) ?_
      refine ih (i + 1) _ (by omega) (by omega) (fun j hj => ?_) (fun id hid => by rw [ax_up_ne hid]; exact hf id hid)
      rw [up_ap]
      by_cases hj2 : j = i
      · rw [if_pos ⟨rfl, hj2⟩]
      · rw [if_neg (fun q => hj2 q.2)]; exact hz j (by omega)
theorem sp_forget (hr : r < 16) : ax_E 41 [.ref (32 * r)] d (ax_Pv fun d1 => rw_is d1 r (fun _ => []) ∧ rw_fr d d1 r) := by
  show ax_W 41 0 [some (.ref (32 * r)), none] [] d _
  refine wx_icst (v := nI 0) j41_0 (by decide) ?_
  refine wx_istn (L' := [_, some (.int _)]) j41_1 (Nat.le_of_ble_eq_true rfl) rfl ?_
  exact rw_forget_loop hr (ax_nr r + 1) 0 d (by omega) (Nat.zero_le _) (fun j hj => absurd hj (Nat.not_lt_zero j)) (fun _ _ => rfl)
theorem rw_first_loop (hr : r < 16) (hk : k < ax_nr r) (h : rw_is d r LL) (hroom : (LL k).length < ax_rm r) : ∀ p (d1 : ax_D), p ≤ (LL k).length → (∀ i, p < i → i ≤ (LL k).length → d1 (32 * r + 3 + k) i = (LL k).getD (i - 1) 0) → (∀ i, i ≤ p → i < (LL k).length → d1 (32 * r + 3 + k) i = (LL k).getD i 0) → (∀ id, id ≠ 32 * r + 3 + k → d1 id = d id) → ax_W 47 33 [some (.ref (32 * r)), some (.int (nI k)), some (.int x), some (.int (nI p))] [] d1 (ax_Pv fun d1 => rw_is d1 r (rw_up LL k (x :: LL k)) ∧ rw_fr d d1 r) := by
  have hrm := rm_lt r
  intro p
  induction p with
  | zero =>
    intro d1 hp hs hu hf
    refine wx_ildn j47_33 rfl ?_
    refine wx_if 61 j47_34 (by decide) (fun c34 => ?_) (fun c34 => ?_)
    · simp only [ax_cn, Classical.not_not] at c34
      refine wx_aldn j47_61 rfl ?_
      refine wx_get (v := .ref _) j47_62 (sh_ro hr) (Nat.le_of_ble_eq_true rfl) rfl ?_
      refine wx_ildn j47_65 rfl ?_
      refine wx_aalx (k) j47_66 (sh_ri hr) rfl (hk) (nr_lt r) rfl ?_
      refine wx_icst (v := nI 0) j47_67 (by decide) ?_
      refine wx_ildn j47_68 rfl ?_
      refine wx_iasx (0) j47_69 (sh_rr hr hk) rfl (by omega) hrm ?_
      refine wx_aldn j47_70 rfl ?_
      refine wx_get (v := .ref _) j47_71 (sh_ro hr) (Nat.le_of_ble_eq_true rfl) rfl ?_
      refine wx_ildn j47_74 rfl ?_
      refine wx_dup2 j47_75 ?_
      refine wx_ialx (k) j47_76 (sh_rs hr) rfl (hk) (nr_lt r) ?_
      rw [up_ni (show 32 * r + 2 ≠ 32 * r + 3 + k by omega), hf _ (show 32 * r + 2 ≠ 32 * r + 3 + k by omega), (h k hk).2.1]
      refine wx_icst (v := nI 1) j47_77 (by decide) ?_
      refine wx_iadd j47_78 ?_
      refine wx_iasx (k) j47_79 (sh_rs hr) rfl (hk) (nr_lt r) ?_
      refine wx_rv j47_80 rfl ?_
      refine rw_put h hk hroom ?_ (fun i hi => ?_) (fun j hj => ?_) (fun id h1 h2 => ?_)
      · rw [up_at, nI_add]; rfl
      · rw [up_ni (by omega), up_ap]
        match i, hi with
        | 0, _ => rw [if_pos ⟨rfl, rfl⟩]; rfl
        | i + 1, hi =>
          rw [if_neg (fun q => by omega), hs (i + 1) (by omega) (by simp at hi; omega)]
          rfl
      · rw [up_nk hj, up_ni (by omega), hf _ (by omega)]
      · rw [ax_up_ne h1, ax_up_ne h2, hf id h2]
    · simp only [ax_cn, Classical.not_not] at c34
      exact absurd (show nI 0 ≤ 0 by decide) c34
  | succ p ih =>
    intro d1 hp hs hu hf
    refine wx_ildn j47_33 rfl ?_
    refine wx_if 61 j47_34 (by decide) (fun c34 => ?_) (fun c34 => ?_)
    · simp only [ax_cn, Classical.not_not] at c34
      exact absurd c34 (nI_nle (Nat.succ_pos p) (by omega))
    · simp only [ax_cn, Classical.not_not] at c34
      refine wx_aldn j47_37 rfl ?_
      refine wx_get (v := .ref _) j47_38 (sh_ro hr) (Nat.le_of_ble_eq_true rfl) rfl ?_
      refine wx_ildn j47_41 rfl ?_
      refine wx_aalx (k) j47_42 (sh_ri hr) rfl (hk) (nr_lt r) rfl ?_
      refine wx_ildn j47_43 rfl ?_
      refine wx_aldn j47_44 rfl ?_
      refine wx_get (v := .ref _) j47_45 (sh_ro hr) (Nat.le_of_ble_eq_true rfl) rfl ?_
      refine wx_ildn j47_48 rfl ?_
      refine wx_aalx (k) j47_49 (sh_ri hr) rfl (hk) (nr_lt r) rfl ?_
      refine wx_ildn j47_50 rfl ?_
      refine wx_icst (v := nI 1) j47_51 (by decide) ?_
      refine wx_isub j47_52 ?_
      rw [show nI (p + 1) - nI 1 = nI p from nI_pred p]
      refine wx_ialx (p) j47_53 (sh_rr hr hk) rfl (by omega) hrm ?_
      refine wx_iasx (p + 1) j47_54 (sh_rr hr hk) rfl (by omega) hrm ?_
      refine wx_iinc (v := nI p) (L' := [_, _, _, some (.int _)]) j47_55 rfl (pk_m1 p) rfl ?_
      refine wx_goto 33 j47_58 (by decide) ?_
      refine ih _ (by omega) (fun i h1 h2 => ?_) (fun i h1 h2 => ?_) (fun id hid => by rw [ax_up_ne hid]; exact hf id hid)
      · by_cases hip : i = p + 1
        · subst hip
          rw [up_at, hu p (by omega) (by omega)]
          rfl
        · rw [up_nk hip]; exact hs i (by omega) h2
      · rw [up_nk (by omega)]; exact hu i (by omega) h2
theorem sp_addFirst (hr : r < 16) (hk : k < ax_nr r) (h : rw_is d r LL) : ax_E 47 [.ref (32 * r), .int (nI k), .int x] d (ax_Pv fun d1 => rw_is d1 r (rw_up LL k (if (LL k).length < ax_rm r then x :: LL k else LL k)) ∧ rw_fr d d1 r) := by
  show ax_W 47 0 [some (.ref (32 * r)), some (.int (nI k)), some (.int x), none] [] d _
  refine wx_ildn j47_0 rfl ?_
  refine wx_if 80 j47_1 (by decide) (fun c1 => ?_) (fun c1 => ?_)
  · simp only [ax_cn, Classical.not_not] at c1
    exact absurd c1 (nI_p (Nat.lt_trans hk (nr_lt r)))
  · simp only [ax_cn, Classical.not_not] at c1
    refine wx_ildn j47_4 rfl ?_
    refine wx_aldn j47_5 rfl ?_
    refine wx_get (v := .ref _) j47_6 (sh_ro hr) (Nat.le_of_ble_eq_true rfl) rfl ?_
    refine wx_alen j47_9 (sh_rs hr) (Nat.le_of_ble_eq_true rfl) ?_
    refine wx_cmp 80 j47_10 (by decide) (fun c10 => ?_) (fun c10 => ?_)
    · simp only [ax_cn, Classical.not_not] at c10
      exact absurd c10 (nI_ge hk (nr_lt r))
    · simp only [ax_cn, Classical.not_not] at c10
      refine wx_aldn j47_13 rfl ?_
      refine wx_get (v := .ref _) j47_14 (sh_ro hr) (Nat.le_of_ble_eq_true rfl) rfl ?_
      refine wx_ildn j47_17 rfl ?_
      refine wx_ialx (k) j47_18 (sh_rs hr) rfl (hk) (nr_lt r) ?_
      rw [(h k hk).2.1]
      refine wx_aldn j47_19 rfl ?_
      refine wx_get (v := .int _) j47_20 (sh_ro hr) (Nat.le_of_ble_eq_true rfl) rfl ?_
      refine wx_cmp 80 j47_23 (by decide) (fun c23 => ?_) (fun c23 => ?_)
      · simp only [ax_cn, Classical.not_not] at c23
        have hfull : ¬ (LL k).length < ax_rm r := fun q => absurd c23 (nI_ge q (rm_lt r))
        refine wx_rv j47_80 rfl ?_
        rw [if_neg hfull]
        exact rw_put h hk (h k hk).1 (h k hk).2.1 (h k hk).2.2 (fun _ _ => rfl) (fun _ _ _ => rfl)
      · simp only [ax_cn, Classical.not_not] at c23
        have hroom : (LL k).length < ax_rm r := Nat.not_le.mp (fun q => c23 (nI_le q (rw_len_lt h hk)))
        refine wx_aldn j47_26 rfl ?_
        refine wx_get (v := .ref _) j47_27 (sh_ro hr) (Nat.le_of_ble_eq_true rfl) rfl ?_
        refine wx_ildn j47_30 rfl ?_
        refine wx_ialx (k) j47_31 (sh_rs hr) rfl (hk) (nr_lt r) ?_
        rw [(h k hk).2.1, if_pos hroom]
        refine wx_istn (L' := [_, _, _, some (.int _)]) j47_32 (Nat.le_of_ble_eq_true rfl) rfl ?_
        exact rw_first_loop hr hk h hroom (LL k).length d (Nat.le_refl _) (fun i h1 h2 => by omega) (fun i _ h2 => (h k hk).2.2 i h2) (fun _ _ => rfl)
end RW
