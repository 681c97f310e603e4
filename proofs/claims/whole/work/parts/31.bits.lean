/-! BITS: a row of bits of the class (515 what is written, 517 the stream; their items one further). 'pb w v': v in w bits, the highest one first. -/
def pb : Nat → Nat → List Nat
  | 0, _ => []
  | w + 1, v => (v / 2 ^ w % 2) :: pb w v
theorem pb_len : ∀ w v, (pb w v).length = w
  | 0, _ => rfl
  | w + 1, v => by rw [pb, List.length_cons, pb_len w v]
theorem pb_lt : ∀ w v e, e ∈ pb w v → e < 2
  | 0, _, _, h => by cases h
  | w + 1, v, e, h => by
    rcases List.mem_cons.mp h with rfl | h
    · exact Nat.mod_lt _ (by decide)
    · exact pb_lt w v e h
def bt_is (d : ax_D) (o : Nat) (l : List Nat) : Prop := l.length ≤ 4000 ∧ d o 1 = nI l.length ∧ (∀ i, i < l.length → d (o + 1) i = nI (l.getD i 0)) ∧ ∀ e, e ∈ l → e < 2
def bt_fr (d d1 : ax_D) (o : Nat) : Prop := ∀ id, id ≠ o → id ≠ o + 1 → d1 id = d id
theorem bt_fr_rf (d : ax_D) (o : Nat) : bt_fr d d o := fun _ _ _ => rfl
theorem bt_keep {d d1 : ax_D} {o : Nat} {l : List Nat} (h : bt_is d o l) (h1 : d1 o = d o) (h2 : d1 (o + 1) = d (o + 1)) : bt_is d1 o l := by
  obtain ⟨a, b, c, e⟩ := h
  exact ⟨a, by rw [h1]; exact b, fun i hi => by rw [h2]; exact c i hi, e⟩
theorem sh_bo {o : Nat} (h : o = 515 ∨ o = 517) : ax_sh o = some (4, 2, ax_of [.inl (o + 1), .inr none]) := by rcases h with rfl | rfl <;> rfl
theorem sh_bi {o : Nat} (h : o = 515 ∨ o = 517) : ax_sh (o + 1) = some (0, 4000, ax_dt) := by rcases h with rfl | rfl <;> rfl
theorem getD_app_l {α : Type} {l m : List α} {i : Nat} {z : α} (h : i < l.length) : (l ++ m).getD i z = l.getD i z := by
  rw [List.getD_eq_getElem?_getD, List.getD_eq_getElem?_getD, List.getElem?_append_left h]
theorem getD_app_1 {α : Type} {l : List α} {x z : α} : (l ++ [x]).getD l.length z = x := by
  rw [List.getD_eq_getElem?_getD, List.getElem?_append_right (Nat.le_refl _)]
  simp
theorem sh_amt : ∀ n, n < 32 → ((nI n &&& 31).toBitVec.smod 32).toNat = n := by decide +kernel
/-- bit i of a small number -/
theorem bit_at {v i : Nat} (hv : v < 2 ^ 31) (hi : i < 32) : nI v >>> (nI i &&& 31) &&& nI 1 = nI (v / 2 ^ i % 2) := by
  rw [pk_shrN hv (nI i &&& 31) i (sh_amt i hi), pk_andN (Nat.lt_of_le_of_lt (Nat.div_le_self _ _) (by omega)) 1 (by decide)]
/-- one bit more -/
theorem bt_push {d : ax_D} {o x : Nat} {l : List Nat} (h : bt_is d o l) (hl : l.length < 4000) (hx : x < 2) : bt_is (ax_up (ax_up d (o + 1) l.length (nI x)) o 1 (nI (l.length + 1))) o (l ++ [x]) := by
  obtain ⟨h1, h2, h3, h4⟩ := h
  refine ⟨by rw [List.length_append]; exact hl, by rw [up_at, List.length_append]; rfl, fun i hi => ?_, fun e he => ?_⟩
  · rw [up_ni (by omega), up_ap]
    by_cases hi2 : i = l.length
    · subst hi2
      rw [if_pos ⟨rfl, rfl⟩, getD_app_1]
    · have hi3 : i < l.length := by rw [List.length_append] at hi; simp at hi; omega
      rw [if_neg (fun q => hi2 q.2), h3 i hi3, getD_app_l hi3]
  · rcases List.mem_append.mp he with he | he
    · exact h4 e he
    · rw [List.mem_singleton.mp he]; exact hx
section BT
variable {d : ax_D} {o : Nat} {l : List Nat} {x : Int32}
theorem sp_bfull (ho : o = 515 ∨ o = 517) (h : bt_is d o l) : ax_E 0 [.ref o] d (ax_Pi fun x d1 => x = (if l.length < 4000 then nI 0 else nI 1) ∧ d1 = d) := by
  show ax_W 0 0 [some (.ref o)] [] d _
  refine wx_aldn j0_0 rfl ?_
  refine wx_get (v := .int _) j0_1 (sh_bo ho) (Nat.le_of_ble_eq_true rfl) rfl ?_
  rw [h.2.1]
  refine wx_aldn j0_4 rfl ?_
  refine wx_get (v := .ref _) j0_5 (sh_bo ho) (Nat.le_of_ble_eq_true rfl) rfl ?_
  refine wx_alen j0_8 (sh_bi ho) (Nat.le_of_ble_eq_true rfl) ?_
  refine wx_cmp 16 j0_9 (by decide) (fun c9 => ?_) (fun c9 => ?_)
  · simp only [ax_cn, Classical.not_not] at c9
    refine wx_icst (v := nI 0) j0_16 (by decide) ?_
    refine wx_ri j0_17 rfl rfl ?_
    exact ⟨by rw [if_pos ((nI_ltI (Nat.lt_of_le_of_lt h.1 (by decide)) (by decide)).mp c9)], rfl⟩
  · simp only [ax_cn, Classical.not_not] at c9
    refine wx_icst (v := nI 1) j0_12 (by decide) ?_
    refine wx_goto 17 j0_13 (by decide) ?_
    refine wx_ri j0_17 rfl rfl ?_
    exact ⟨by rw [if_neg (fun q => c9 (nI_lt q (by decide)))], rfl⟩
theorem sp_bhas (ho : o = 515 ∨ o = 517) (h : bt_is d o l) : ax_E 1 [.ref o, .int x] d (ax_Pi fun y d1 => y = (if ¬ x < 0 ∧ x < nI l.length then nI 1 else nI 0) ∧ d1 = d) := by
  show ax_W 1 0 [some (.ref o), some (.int x)] [] d _
  refine wx_ildn j1_0 rfl ?_
  refine wx_if 25 j1_1 (by decide) (fun c1 => ?_) (fun c1 => ?_)
  · simp only [ax_cn, Classical.not_not] at c1
    refine wx_icst (v := nI 0) j1_25 (by decide) ?_
    refine wx_ri j1_26 rfl rfl ?_
    exact ⟨by rw [if_neg (fun q => q.1 c1)], rfl⟩
  · simp only [ax_cn, Classical.not_not] at c1
    refine wx_ildn j1_4 rfl ?_
    refine wx_aldn j1_5 rfl ?_
    refine wx_get (v := .int _) j1_6 (sh_bo ho) (Nat.le_of_ble_eq_true rfl) rfl ?_
    rw [h.2.1]
    refine wx_cmp 25 j1_9 (by decide) (fun c9 => ?_) (fun c9 => ?_)
    · simp only [ax_cn, Classical.not_not] at c9
      refine wx_icst (v := nI 0) j1_25 (by decide) ?_
      refine wx_ri j1_26 rfl rfl ?_
      exact ⟨by rw [if_neg (fun q => Int32.not_lt.mpr c9 q.2)], rfl⟩
    · simp only [ax_cn, Classical.not_not] at c9
      refine wx_ildn j1_12 rfl ?_
      refine wx_aldn j1_13 rfl ?_
      refine wx_get (v := .ref _) j1_14 (sh_bo ho) (Nat.le_of_ble_eq_true rfl) rfl ?_
      refine wx_alen j1_17 (sh_bi ho) (Nat.le_of_ble_eq_true rfl) ?_
      refine wx_cmp 25 j1_18 (by decide) (fun c18 => ?_) (fun c18 => ?_)
      · simp only [ax_cn, Classical.not_not] at c18
        exact absurd c18 (fun q => c9 (Int32.le_trans (nI_le h.1 (by decide)) q))
      · simp only [ax_cn, Classical.not_not] at c18
        refine wx_icst (v := nI 1) j1_21 (by decide) ?_
        refine wx_goto 26 j1_22 (by decide) ?_
        refine wx_ri j1_26 rfl rfl ?_
        exact ⟨by rw [if_pos ⟨c1, Int32.not_le.mp c9⟩], rfl⟩
theorem bt_app_loop {v : Nat} {x2 : Int32} (ho : o = 515 ∨ o = 517) (hv : v < 2 ^ 31) : ∀ w (l : List Nat) (d1 : ax_D), w < 32 → bt_is d1 o l → l.length + w ≤ 4000 → bt_fr d d1 o → ax_W 2 4 [some (.ref o), some (.int (nI v)), some (.int x2), some (.int (nI w - nI 1))] [] d1 (ax_Pv fun d2 => bt_is d2 o (l ++ pb w v) ∧ bt_fr d d2 o) := by
  intro w
  induction w with
  | zero =>
    intro l d1 hw h hl hf
    refine wx_ildn j2_4 rfl ?_
    refine wx_if 50 j2_5 (by decide) (fun c5 => ?_) (fun c5 => ?_)
    · simp only [ax_cn, Classical.not_not] at c5
      refine wx_rv j2_50 rfl ?_
      exact ⟨by rw [pb, List.append_nil]; exact h, hf⟩
    · simp only [ax_cn, Classical.not_not] at c5
      exact absurd (show nI 0 - nI 1 < 0 by decide) c5
  | succ w ih =>
    intro l d1 hw h hl hf
    rw [show nI (w + 1) - nI 1 = nI w from nI_pred w]
    refine wx_ildn j2_4 rfl ?_
    refine wx_if 50 j2_5 (by decide) (fun c5 => ?_) (fun c5 => ?_)
    · simp only [ax_cn, Classical.not_not] at c5
      exact absurd c5 (nI_pos (by omega))
    · simp only [ax_cn, Classical.not_not] at c5
      refine wx_aldn j2_8 rfl ?_
      refine wx_get (v := .int _) j2_9 (sh_bo ho) (Nat.le_of_ble_eq_true rfl) rfl ?_
      rw [h.2.1]
      refine wx_aldn j2_12 rfl ?_
      refine wx_get (v := .ref _) j2_13 (sh_bo ho) (Nat.le_of_ble_eq_true rfl) rfl ?_
      refine wx_alen j2_16 (sh_bi ho) (Nat.le_of_ble_eq_true rfl) ?_
      refine wx_cmp 50 j2_17 (by decide) (fun c17 => ?_) (fun c17 => ?_)
      · simp only [ax_cn, Classical.not_not] at c17
        exact absurd c17 (nI_ge (by omega) (by decide))
      · simp only [ax_cn, Classical.not_not] at c17
        refine wx_aldn j2_20 rfl ?_
        refine wx_get (v := .ref _) j2_21 (sh_bo ho) (Nat.le_of_ble_eq_true rfl) rfl ?_
        refine wx_aldn j2_24 rfl ?_
        refine wx_get (v := .int _) j2_25 (sh_bo ho) (Nat.le_of_ble_eq_true rfl) rfl ?_
        rw [h.2.1]
        refine wx_ildn j2_28 rfl ?_
        refine wx_ildn j2_29 rfl ?_
        refine wx_ishr j2_30 ?_
        refine wx_icst (v := nI 1) j2_31 (by decide) ?_
        refine wx_iand j2_32 ?_
        rw [bit_at hv (by omega)]
        refine wx_iasx (l.length) j2_33 (sh_bi ho) rfl (by omega) (by decide) ?_
        refine wx_aldn j2_34 rfl ?_
        refine wx_dupr j2_35 ?_
        refine wx_get (v := .int _) j2_36 (sh_bo ho) (Nat.le_of_ble_eq_true rfl) rfl ?_
        rw [up_ni (by omega), h.2.1]
        refine wx_icst (v := nI 1) j2_39 (by decide) ?_
        refine wx_iadd j2_40 ?_
        rw [nI_add]
        refine wx_put j2_41 (sh_bo ho) (Nat.le_of_ble_eq_true rfl) rfl rfl rfl ?_
        refine wx_iinc (v := nI w - nI 1) (L' := [_, _, _, some (.int _)]) j2_44 rfl (by rw [Int32.sub_eq_add_neg]; rfl) rfl ?_
        refine wx_goto 4 j2_47 (by decide) ?_
        have h2 := ih (l ++ [v / 2 ^ w % 2]) _ (by omega) (bt_push h (by omega) (Nat.mod_lt _ (by decide))) (by rw [List.length_append]; simp; omega) (fun id h1 h2 => by rw [ax_up_ne h1, ax_up_ne h2]; exact hf id h1 h2)
        rw [List.append_assoc] at h2
        exact h2
theorem sp_append {v w : Nat} (ho : o = 515 ∨ o = 517) (h : bt_is d o l) (hv : v < 2 ^ 31) (hw : w < 32) (hl : l.length + w ≤ 4000) : ax_E 2 [.ref o, .int (nI v), .int (nI w)] d (ax_Pv fun d1 => bt_is d1 o (l ++ pb w v) ∧ bt_fr d d1 o) := by
  show ax_W 2 0 [some (.ref o), some (.int (nI v)), some (.int (nI w)), none] [] d _
  refine wx_ildn j2_0 rfl ?_
  refine wx_icst (v := nI 1) j2_1 (by decide) ?_
  refine wx_isub j2_2 ?_
  refine wx_istn (L' := [_, _, _, some (.int _)]) j2_3 (Nat.le_of_ble_eq_true rfl) rfl ?_
  exact bt_app_loop ho hv w l d hw h hl (bt_fr_rf d o)
theorem take_s {α : Type} {l : List α} {i : Nat} {z : α} (h : i < l.length) : l.take (i + 1) = l.take i ++ [l.getD i z] := by
  rw [List.take_succ, List.getD_eq_getElem?_getD, List.getElem?_eq_getElem h]
  rfl
theorem bt_bec_loop : ∀ n i (d1 : ax_D), l.length - i < n → i ≤ l.length → bt_is d 515 l → bt_is d1 517 (l.take i) → bt_fr d d1 517 → ax_W 3 7 [some (.ref 517), some (.ref 515), some (.int (nI i))] [] d1 (ax_Pv fun d2 => bt_is d2 517 l ∧ bt_fr d d2 517) := by
  intro n
  induction n with
  | zero => intro i d1 h0; omega
  | succ n ih =>
    intro i d1 h0 hi h h1 hf
    have hl := h.1
    have e1 : d1 515 1 = nI l.length := by rw [hf 515 (by decide) (by decide)]; exact h.2.1
    refine wx_ildn j3_7 rfl ?_
    refine wx_aldn j3_8 rfl ?_
    refine wx_get (v := .int _) j3_9 rfl (Nat.le_of_ble_eq_true rfl) rfl ?_
    rw [e1]
    refine wx_cmp 52 j3_12 (by decide) (fun c12 => ?_) (fun c12 => ?_)
    · simp only [ax_cn, Classical.not_not] at c12
      have hil : i = l.length := Nat.le_antisymm hi ((nI_leI (by omega) (by omega)).mp c12)
      have h2 : bt_is d1 517 l := by rw [hil, List.take_length] at h1; exact h1
      refine wx_rv j3_52 rfl ?_
      exact ⟨h2, hf⟩
    · simp only [ax_cn, Classical.not_not] at c12
      have hil : i < l.length := Nat.not_le.mp (fun q => c12 ((nI_leI (by omega) (by omega)).mpr q))
      have hti : (l.take i).length = i := by rw [List.length_take]; omega
      refine wx_ildn j3_15 rfl ?_
      refine wx_aldn j3_16 rfl ?_
      refine wx_get (v := .ref _) j3_17 rfl (Nat.le_of_ble_eq_true rfl) rfl ?_
      refine wx_alen j3_20 rfl (Nat.le_of_ble_eq_true rfl) ?_
      refine wx_cmp 52 j3_21 (by decide) (fun c21 => ?_) (fun c21 => ?_)
      · simp only [ax_cn, Classical.not_not] at c21
        exact absurd c21 (nI_ge (by omega) (by decide))
      · simp only [ax_cn, Classical.not_not] at c21
        refine wx_aldn j3_24 rfl ?_
        refine wx_get (v := .ref _) j3_25 rfl (Nat.le_of_ble_eq_true rfl) rfl ?_
        refine wx_ildn j3_28 rfl ?_
        refine wx_aldn j3_29 rfl ?_
        refine wx_get (v := .ref _) j3_30 rfl (Nat.le_of_ble_eq_true rfl) rfl ?_
        refine wx_ildn j3_33 rfl ?_
        refine wx_ialx (i) j3_34 rfl rfl (by omega) (by decide) ?_
        refine wx_iasx (i) j3_35 rfl rfl (by omega) (by decide) ?_
        refine wx_aldn j3_36 rfl ?_
        refine wx_dupr j3_37 ?_
        refine wx_get (v := .int _) j3_38 rfl (Nat.le_of_ble_eq_true rfl) rfl ?_
        rw [up_ni (by decide), h1.2.1, hti]
        refine wx_icst (v := nI 1) j3_41 (by decide) ?_
        refine wx_iadd j3_42 ?_
        rw [nI_add]
        refine wx_put j3_43 rfl (Nat.le_of_ble_eq_true rfl) rfl rfl rfl ?_
        refine wx_iinc (v := nI (i + 1)) (L' := [_, _, some (.int _)]) j3_46 rfl (nI_1 i) rfl ?_
        refine wx_goto 7 j3_49 (by decide) ?_
        refine ih (i + 1) _ (by omega) hil h ?_ (fun id h2 h3 => by rw [ax_up_ne h2, ax_up_ne h3]; exact hf id h2 h3)
        have h3 := bt_push h1 (by omega) (h.2.2.2 (l.getD i 0) (by rw [List.getD_eq_getElem?_getD, List.getElem?_eq_getElem hil]; exact List.getElem_mem hil))
        rw [hti, ← take_s hil, ← h.2.2.1 i hil, ← hf 516 (by decide) (by decide)] at h3
        exact h3
theorem sp_become (h : bt_is d 515 l) : ax_E 3 [.ref 517, .ref 515] d (ax_Pv fun d1 => bt_is d1 517 l ∧ bt_fr d d1 517) := by
  show ax_W 3 0 [some (.ref 517), some (.ref 515), none] [] d _
  refine wx_aldn j3_0 rfl ?_
  refine wx_icst (v := nI 0) j3_1 (by decide) ?_
  refine wx_put j3_2 rfl (Nat.le_of_ble_eq_true rfl) rfl rfl rfl ?_
  refine wx_icst (v := nI 0) j3_5 (by decide) ?_
  refine wx_istn (L' := [_, _, some (.int _)]) j3_6 (Nat.le_of_ble_eq_true rfl) rfl ?_
  refine bt_bec_loop (l.length + 1) 0 _ (by omega) (Nat.zero_le _) h ⟨Nat.zero_le _, up_at _ _ _ _, fun i hi => absurd hi (by simp), fun e he => by simp at he⟩ (fun id h1 h2 => ax_up_ne h1)
end BT
