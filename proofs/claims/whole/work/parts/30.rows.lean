/-! ROWS: the class's rows of numbers. 'rw_is d r LL': Rows r holds the lists LL (a list a row). -/
def rw_is (d : ax_D) (r : Nat) (LL : Nat → List Int32) : Prop := ∀ k, k < ax_nr r → (LL k).length ≤ ax_rm r ∧ d (32 * r + 2) k = nI (LL k).length ∧ ∀ i, i < (LL k).length → d (32 * r + 3 + k) i = (LL k).getD i 0
/-- nothing but Rows r has changed -/
def rw_fr (d d1 : ax_D) (r : Nat) : Prop := ∀ id, (id < 32 * r ∨ 32 * r + 32 ≤ id) → d1 id = d id
def rw_up (LL : Nat → List Int32) (k : Nat) (l : List Int32) : Nat → List Int32 := fun j => if j = k then l else LL j
theorem rw_fr_rf (d : ax_D) (r : Nat) : rw_fr d d r := fun _ _ => rfl
theorem rw_fr_tr {d d1 d2 : ax_D} {r : Nat} (h : rw_fr d d1 r) (h2 : rw_fr d1 d2 r) : rw_fr d d2 r := fun id hi => (h2 id hi).trans (h id hi)
theorem rw_keep {d d1 : ax_D} {r r' : Nat} {LL : Nat → List Int32} (h : rw_is d r LL) (hf : rw_fr d d1 r') (hr : r ≠ r') : rw_is d1 r LL := by
  intro k hk
  have h20 := nr_le r
  obtain ⟨h1, h2, h3⟩ := h k hk
  refine ⟨h1, ?_, fun i hi => ?_⟩
  · rw [hf (32 * r + 2) (by omega)]; exact h2
  · rw [hf (32 * r + 3 + k) (by omega)]; exact h3 i hi
theorem rw_len_lt {d : ax_D} {r k : Nat} {LL : Nat → List Int32} (h : rw_is d r LL) (hk : k < ax_nr r) : (LL k).length < 2 ^ 31 := Nat.lt_of_le_of_lt (Nat.le_trans (h k hk).1 (rm_le r)) (by decide)
/-- the first place of an item, or -1 -/
def rw_fi (l : List Int32) (x : Int32) : Int32 := match l.findIdx? (· == x) with
  | some i => nI i
  | none => -1
def rw_gt (l : List Int32) (p : Int32) : Int32 := if p < 0 then -1 else l.getD p.toNatClampNeg (-1)
section RW
variable {d : ax_D} {r k : Nat} {LL : Nat → List Int32} {x : Int32}
theorem nI_p {n : Nat} (h : n < 2 ^ 31) : ¬ nI n < 0 := nI_pos h
theorem sp_count (hr : r < 16) (hk : k < ax_nr r) : ax_E 42 [.ref (32 * r), .int (nI k)] d (ax_Pi fun x d1 => x = d (32 * r + 2) k ∧ d1 = d) := by
  show ax_W 42 0 [some (.ref (32 * r)), some (.int (nI k))] [] d _
  refine wx_ildn j42_0 rfl ?_
  refine wx_if 22 j42_1 (by decide) (fun c1 => ?_) (fun c1 => ?_)
  · simp only [ax_cn, Classical.not_not] at c1
    exact absurd c1 (nI_p (Nat.lt_trans hk (nr_lt r)))
  · simp only [ax_cn, Classical.not_not] at c1
    refine wx_ildn j42_4 rfl ?_
    refine wx_aldn j42_5 rfl ?_
    refine wx_get (v := .ref _) j42_6 (sh_ro hr) (Nat.le_of_ble_eq_true rfl) rfl ?_
    refine wx_alen j42_9 (sh_rs hr) (Nat.le_of_ble_eq_true rfl) ?_
    refine wx_cmp 22 j42_10 (by decide) (fun c10 => ?_) (fun c10 => ?_)
    · simp only [ax_cn, Classical.not_not] at c10
      exact absurd c10 (nI_ge hk (nr_lt r))
    · simp only [ax_cn, Classical.not_not] at c10
      refine wx_aldn j42_13 rfl ?_
      refine wx_get (v := .ref _) j42_14 (sh_ro hr) (Nat.le_of_ble_eq_true rfl) rfl ?_
      refine wx_ildn j42_17 rfl ?_
      refine wx_ialx (k) j42_18 (sh_rs hr) rfl (hk) (nr_lt r) ?_
      refine wx_goto 23 j42_19 (by decide) ?_
      refine wx_ri j42_23 rfl rfl ?_
      exact ⟨rfl, rfl⟩
theorem sp_cnt (hr : r < 16) (hk : k < ax_nr r) (h : rw_is d r LL) : ax_E 42 [.ref (32 * r), .int (nI k)] d (ax_Pi fun x d1 => x = nI (LL k).length ∧ d1 = d) := by
  show ax_W 42 0 [some (.ref (32 * r)), some (.int (nI k))] [] d _
  exact ax_E_i (sp_count hr hk) (fun x d1 ⟨h1, h2⟩ => ⟨h1.trans (h k hk).2.1, h2⟩)
theorem sp_isFull (hr : r < 16) (hk : k < ax_nr r) (h : rw_is d r LL) : ax_E 43 [.ref (32 * r), .int (nI k)] d (ax_Pi fun x d1 => x = (if (LL k).length < ax_rm r then nI 0 else nI 1) ∧ d1 = d) := by
  show ax_W 43 0 [some (.ref (32 * r)), some (.int (nI k))] [] d _
  refine wx_aldn j43_0 rfl ?_
  refine wx_ildn j43_1 rfl ?_
  refine wx_i1 j43_2 rfl rfl (Nat.le_of_ble_eq_true rfl) (sh_ro hr) (sp_cnt hr hk h) ?_
  rintro _ _ ⟨rfl, rfl⟩
  refine wx_aldn j43_5 rfl ?_
  refine wx_get (v := .int _) j43_6 (sh_ro hr) (Nat.le_of_ble_eq_true rfl) rfl ?_
  refine wx_cmp 16 j43_9 (by decide) (fun c9 => ?_) (fun c9 => ?_)
  · simp only [ax_cn, Classical.not_not] at c9
    refine wx_icst (v := nI 0) j43_16 (by decide) ?_
    refine wx_ri j43_17 rfl rfl ?_
    exact ⟨by rw [if_pos ((nI_ltI (rw_len_lt h hk) (rm_lt r)).mp c9)], rfl⟩
  · simp only [ax_cn, Classical.not_not] at c9
    refine wx_icst (v := nI 1) j43_12 (by decide) ?_
    refine wx_goto 17 j43_13 (by decide) ?_
    refine wx_ri j43_17 rfl rfl ?_
    exact ⟨by rw [if_neg (fun q => c9 (nI_lt q (rm_lt r)))], rfl⟩
theorem sp_get (hr : r < 16) (hk : k < ax_nr r) (h : rw_is d r LL) : ax_E 44 [.ref (32 * r), .int (nI k), .int x] d (ax_Pi fun y d1 => y = rw_gt (LL k) x ∧ d1 = d) := by
  show ax_W 44 0 [some (.ref (32 * r)), some (.int (nI k)), some (.int x)] [] d _
  refine wx_ildn j44_0 rfl ?_
  refine wx_if 24 j44_1 (by decide) (fun c1 => ?_) (fun c1 => ?_)
  · simp only [ax_cn, Classical.not_not] at c1
    have hx : rw_gt (LL k) x = -1 := by unfold rw_gt; rw [if_pos c1]
    refine wx_icst (v := (-1)) j44_24 (by decide) ?_
    refine wx_ri j44_25 rfl rfl ?_
    exact ⟨hx.symm, rfl⟩
  · simp only [ax_cn, Classical.not_not] at c1
    obtain ⟨p, hp, rfl⟩ := nI_of c1
    refine wx_ildn j44_4 rfl ?_
    refine wx_aldn j44_5 rfl ?_
    refine wx_ildn j44_6 rfl ?_
    refine wx_i1 j44_7 rfl rfl (Nat.le_of_ble_eq_true rfl) (sh_ro hr) (sp_cnt hr hk h) ?_
    rintro _ _ ⟨rfl, rfl⟩
    refine wx_cmp 24 j44_10 (by decide) (fun c10 => ?_) (fun c10 => ?_)
    · simp only [ax_cn, Classical.not_not] at c10
      have hx : rw_gt (LL k) (nI p) = -1 := by
        unfold rw_gt
        rw [if_neg (nI_p hp), nI_clamp hp, List.getD_eq_getElem?_getD, List.getElem?_eq_none ((nI_leI (rw_len_lt h hk) hp).mp c10)]
        rfl
      refine wx_icst (v := (-1)) j44_24 (by decide) ?_
      refine wx_ri j44_25 rfl rfl ?_
      exact ⟨hx.symm, rfl⟩
    · simp only [ax_cn, Classical.not_not] at c10
      have hpl : p < (LL k).length := Nat.not_le.mp (fun q => c10 ((nI_leI (rw_len_lt h hk) hp).mpr q))
      have hx : rw_gt (LL k) (nI p) = (LL k).getD p 0 := by
        unfold rw_gt
        rw [if_neg (nI_p hp), nI_clamp hp, List.getD_eq_getElem?_getD, List.getD_eq_getElem?_getD, List.getElem?_eq_getElem hpl]
        rfl
      refine wx_aldn j44_13 rfl ?_
      refine wx_get (v := .ref _) j44_14 (sh_ro hr) (Nat.le_of_ble_eq_true rfl) rfl ?_
      refine wx_ildn j44_17 rfl ?_
      refine wx_aalx (k) j44_18 (sh_ri hr) rfl (hk) (nr_lt r) rfl ?_
      refine wx_ildn j44_19 rfl ?_
      refine wx_ialx (p) j44_20 (sh_rr hr hk) rfl (Nat.lt_of_lt_of_le hpl (h k hk).1) (rm_lt r) ?_
      refine wx_goto 25 j44_21 (by decide) ?_
      refine wx_ri j44_25 rfl rfl ?_
      exact ⟨((h k hk).2.2 p hpl).trans hx.symm, rfl⟩
end RW
