/-! THE REFERENCE: its tables (side c: 0 the writer's, 1 the reader's) hold the same T. -/
/-- a code of the class as the reference has it -/
def mc (c : Nat) : Nat := if c % 8 = 1 then 2 + 2 * (c / 8) else if c % 8 = 2 then 3 + 2 * (c / 8) else if c % 8 = 3 then 1 else 0
def sg (d : ax_D) (id o : Nat) (l : List Nat) : Prop := ∀ i, i < l.length → d id (o + i) = nI (l.getD i 0)
def LB (T : TT) : Prop := ∀ j, j < 8 → ∀ k, k < ax_nr j → (T j k).length ≤ ax_rm j
def mt_is (d : ax_D) (c : Nat) (T : TT) : Prop := (d 542 c = nI (T 0 0).length ∧ sg d 543 (6 * c) (T 0 0)) ∧ (∀ p, p < 6 → d 544 (6 * c + p) = nI (T 1 p).length ∧ sg d 545 (10 * (6 * c + p)) (T 1 p)) ∧ (d 546 c = nI (T 4 0).length ∧ sg d 547 (20 * c) (T 4 0) ∧ sg d 548 (20 * c) (T 5 0)) ∧ (∀ k, k < (T 4 0).length → d 549 (20 * c + k) = nI (T 2 k).length ∧ sg d 550 (5 * (20 * c + k)) (T 2 k)) ∧ (d 551 c = nI (T 3 0).length ∧ sg d 552 (20 * c) (T 3 0)) ∧ (∀ k, k < (T 4 0).length → ∀ j, j < 2 → d 553 (40 * c + 2 * k + j) = nI (T (6 + j) k).length ∧ sg d 554 (12 * (40 * c + 2 * k + j)) ((T (6 + j) k).map mc))
def msz (id : Nat) : Nat := match id with
  | 542 => 1
  | 543 => 6
  | 544 => 6
  | 545 => 60
  | 546 => 1
  | 547 => 20
  | 548 => 20
  | 549 => 20
  | 550 => 100
  | 551 => 1
  | 552 => 20
  | 553 => 40
  | 554 => 480
  | 555 => 1
  | 556 => 8
  | 557 => 8
  | _ => 1
/-- nothing has changed but places of side c -/
def mo (d d1 : ax_D) (c : Nat) : Prop := ∀ id i, ¬ (542 ≤ id ∧ id ≤ 558 ∧ i / msz id = c) → d1 id i = d id i
theorem mo_rf (d : ax_D) (c : Nat) : mo d d c := fun _ _ _ => rfl
theorem mo_tr {d d1 d2 : ax_D} {c : Nat} (h : mo d d1 c) (h2 : mo d1 d2 c) : mo d d2 c := fun id i a => (h2 id i a).trans (h id i a)
theorem mo_up {d : ax_D} {c id i : Nat} {x : Int32} (h1 : 542 ≤ id) (h2 : id ≤ 558) (h3 : i / msz id = c) : mo d (ax_up d id i x) c := by
  intro id2 i2 h
  rw [up_ap, if_neg]
  rintro ⟨rfl, rfl⟩
  exact h ⟨h1, h2, h3⟩
theorem mo_id {d d1 : ax_D} {c id : Nat} (h : mo d d1 c) (hid : id < 542 ∨ 558 < id) : d1 id = d id := funext fun i => h id i (by omega)
/-- the same, of the tables alone -/
def mq (d d1 : ax_D) (c : Nat) : Prop := ∀ id i, ¬ (542 ≤ id ∧ id ≤ 554 ∧ i / msz id = c) → d1 id i = d id i
theorem mq_rf (d : ax_D) (c : Nat) : mq d d c := fun _ _ _ => rfl
theorem mq_tr {d d1 d2 : ax_D} {c : Nat} (h : mq d d1 c) (h2 : mq d1 d2 c) : mq d d2 c := fun id i a => (h2 id i a).trans (h id i a)
theorem mq_up {d : ax_D} {c id i : Nat} {x : Int32} (h1 : 542 ≤ id) (h2 : id ≤ 554) (h3 : i / msz id = c) : mq d (ax_up d id i x) c := by
  intro id2 i2 h
  rw [up_ap, if_neg]
  rintro ⟨rfl, rfl⟩
  exact h ⟨h1, h2, h3⟩
theorem mq_id {d d1 : ax_D} {c id : Nat} (h : mq d d1 c) (hid : id < 542 ∨ 554 < id) : d1 id = d id := funext fun i => h id i (by omega)
theorem mq_mo {d d1 : ax_D} {c : Nat} (h : mq d d1 c) : mo d d1 c := fun id i a => h id i (fun q => a ⟨q.1, by omega, q.2.2⟩)
theorem sg_app {d : ax_D} {id o x : Nat} {l : List Nat} (h : sg d id o l) : sg (ax_up d id (o + l.length) (nI x)) id o (l ++ [x]) := by
  intro i hi
  rw [up_ap]
  by_cases hi2 : i = l.length
  · subst hi2
    rw [if_pos ⟨rfl, rfl⟩, getD_app_1]
  · have hi3 : i < l.length := by rw [List.length_append] at hi; simp at hi; omega
    rw [if_neg (fun q => hi2 (by omega)), h i hi3, getD_app_l hi3]
theorem sg_ni {d : ax_D} {id id2 o k : Nat} {x : Int32} {l : List Nat} (h : sg d id o l) (hne : id ≠ id2) : sg (ax_up d id2 k x) id o l := fun i hi => by rw [up_ni hne]; exact h i hi
theorem sg_nk {d : ax_D} {id o k : Nat} {x : Int32} {l : List Nat} (h : sg d id o l) (hne : k < o ∨ o + l.length ≤ k) : sg (ax_up d id k x) id o l := fun i hi => by rw [up_nk (by omega)]; exact h i hi
theorem nr_0 : ax_nr 0 = 1 := rfl
section M1
variable {d d1 : ax_D} {c x : Nat} {T : TT}
theorem lb0 (h : LB T) : (T 0 0).length ≤ 6 := h 0 (by decide) 0 (by decide)
theorem lb1 (h : LB T) {p : Nat} (hp : p < 6) : (T 1 p).length ≤ 10 := h 1 (by decide) p hp
theorem lb2 (h : LB T) {k : Nat} (hk : k < 20) : (T 2 k).length ≤ 5 := h 2 (by decide) k hk
theorem lb3 (h : LB T) : (T 3 0).length ≤ 20 := h 3 (by decide) 0 (by decide)
theorem lb4 (h : LB T) : (T 4 0).length ≤ 20 := h 4 (by decide) 0 (by decide)
theorem lb6 (h : LB T) {j k : Nat} (hj : j < 2) (hk : k < 20) : (T (6 + j) k).length ≤ 12 := by
  rcases (show j = 0 ∨ j = 1 by omega) with rfl | rfl
  · exact h 6 (by decide) k hk
  · exact h 7 (by decide) k hk
/-- the other side stays -/
theorem mt_oth {c' : Nat} (h : mt_is d c' T) (hl : LB T) (hf : mo d d1 c) (hc : c' ≠ c) : mt_is d1 c' T := by
  have k : ∀ id i, i / msz id = c' → d1 id i = d id i := fun id i e => hf id i (fun q => hc (e.symm.trans q.2.2))
  obtain ⟨⟨a1, a2⟩, a3, ⟨a4, a5, a6⟩, a7, ⟨a8, a9⟩, a10⟩ := h
  have l0 := lb0 hl
  have l3 := lb3 hl
  have l4 := lb4 hl
  have l5 : (T 5 0).length ≤ 20 := hl 5 (by decide) 0 (by decide)
  refine ⟨⟨?_, fun i hi => ?_⟩, fun p hp => ⟨?_, fun i hi => ?_⟩, ⟨?_, fun i hi => ?_, fun i hi => ?_⟩, fun q hq => ⟨?_, fun i hi => ?_⟩, ⟨?_, fun i hi => ?_⟩, fun q hq j hj => ⟨?_, fun i hi => ?_⟩⟩
  · rw [k 542 c' (Nat.div_one c')]; exact a1
  · rw [k 543 (6 * c' + i) (show (6 * c' + i) / 6 = c' by omega)]; exact a2 i hi
  · rw [k 544 (6 * c' + p) (show (6 * c' + p) / 6 = c' by omega)]; exact (a3 p hp).1
  · have := lb1 hl hp
    rw [k 545 (10 * (6 * c' + p) + i) (show (10 * (6 * c' + p) + i) / 60 = c' by omega)]; exact (a3 p hp).2 i hi
  · rw [k 546 c' (Nat.div_one c')]; exact a4
  · rw [k 547 (20 * c' + i) (show (20 * c' + i) / 20 = c' by omega)]; exact a5 i hi
  · rw [k 548 (20 * c' + i) (show (20 * c' + i) / 20 = c' by omega)]; exact a6 i hi
  · rw [k 549 (20 * c' + q) (show (20 * c' + q) / 20 = c' by omega)]; exact (a7 q hq).1
  · have := lb2 hl (show q < 20 by omega)
    rw [k 550 (5 * (20 * c' + q) + i) (show (5 * (20 * c' + q) + i) / 100 = c' by omega)]; exact (a7 q hq).2 i hi
  · rw [k 551 c' (Nat.div_one c')]; exact a8
  · rw [k 552 (20 * c' + i) (show (20 * c' + i) / 20 = c' by omega)]; exact a9 i hi
  · rw [k 553 (40 * c' + 2 * q + j) (show (40 * c' + 2 * q + j) / 40 = c' by omega)]; exact (a10 q hq j hj).1
  · have := lb6 hl hj (show q < 20 by omega)
    rw [List.length_map] at hi
    rw [k 554 (12 * (40 * c' + 2 * q + j) + i) (show (12 * (40 * c' + 2 * q + j) + i) / 480 = c' by omega)]; exact (a10 q hq j hj).2 i (by rw [List.length_map]; exact hi)
theorem fi_of {l : List Nat} {x i : Nat} (hi : i < l.length) (he : l.getD i 0 = x) (h : ∀ j, j < i → l.getD j 0 ≠ x) : fi l x = some i := by
  unfold fi
  rw [List.findIdx?_eq_some_iff_getElem]
  refine ⟨hi, ?_, fun j hj => ?_⟩
  · rw [List.getD_eq_getElem?_getD, List.getElem?_eq_getElem hi] at he
    simpa using he
  · have h2 := h j hj
    rw [List.getD_eq_getElem?_getD, List.getElem?_eq_getElem (Nat.lt_trans hj hi)] at h2
    simpa using h2
theorem fi_no {l : List Nat} {x : Nat} (h : ∀ j, j < l.length → l.getD j 0 ≠ x) : fi l x = none := by
  rw [fi_none]
  intro hx
  obtain ⟨j, hj, e⟩ := List.mem_iff_getElem.mp hx
  refine h j hj ?_
  rw [List.getD_eq_getElem?_getD, List.getElem?_eq_getElem hj]
  exact e
theorem mfs_loop (hc : c < 2) (h : mt_is d c T) (hl : LB T) (hb : ∀ e, e ∈ T 0 0 → e < tB) (hx : x < tB) : ∀ n i, (T 0 0).length - i < n → i ≤ (T 0 0).length → (∀ j, j < i → (T 0 0).getD j 0 ≠ x) → ax_W 89 2 [some (.ref 540), some (.int (nI c)), some (.int (nI x)), some (.int (nI i))] [] d (ax_Pi fun y d1 => y = oi (fi (T 0 0) x) ∧ d1 = d) := by
  have hl31 : (T 0 0).length < 2 ^ 31 := Nat.lt_of_le_of_lt (lb0 hl) (by decide)
  intro n
  induction n with
  | zero => intro i h0; omega
  | succ n ih =>
    intro i h0 hi hno
    refine wx_ildn j89_2 rfl ?_
    refine wx_aldn j89_3 rfl ?_
    refine wx_get (v := .ref 542) j89_4 rfl (Nat.le_of_ble_eq_true rfl) rfl ?_
    refine wx_ildn j89_7 rfl ?_
    refine wx_ialx (c) j89_8 rfl rfl (hc) (by decide) ?_
    rw [h.1.1]
    refine wx_cmp 33 j89_9 (by decide) (fun c9 => ?_) (fun c9 => ?_)
    · simp only [ax_cn, Classical.not_not] at c9
      have hil : i = (T 0 0).length := Nat.le_antisymm hi ((nI_leI hl31 (by omega)).mp c9)
      refine wx_ildn j89_33 rfl ?_
      refine wx_aldn j89_34 rfl ?_
      refine wx_get (v := .ref 542) j89_35 rfl (Nat.le_of_ble_eq_true rfl) rfl ?_
      refine wx_ildn j89_38 rfl ?_
      refine wx_ialx (c) j89_39 rfl rfl (hc) (by decide) ?_
      rw [h.1.1]
      refine wx_cmp 47 j89_40 (by decide) (fun c40 => ?_) (fun c40 => ?_)
      · simp only [ax_cn, Classical.not_not] at c40
        refine wx_icst (v := (-1)) j89_47 (by decide) ?_
        refine wx_ri j89_48 rfl rfl ?_
        exact ⟨by rw [fi_no (by rw [← hil]; exact hno)]; rfl, rfl⟩
      · simp only [ax_cn, Classical.not_not] at c40
        refine wx_ildn j89_43 rfl ?_
        refine wx_goto 48 j89_44 (by decide) ?_
        refine wx_ri j89_48 rfl rfl ?_
        exact absurd (nI_le (Nat.le_of_eq hil.symm) (by omega)) c40
    · simp only [ax_cn, Classical.not_not] at c9
      have hil : i < (T 0 0).length := Nat.not_le.mp (fun q => c9 ((nI_leI hl31 (by omega)).mpr q))
      refine wx_aldn j89_12 rfl ?_
      refine wx_get (v := .ref 543) j89_13 rfl (Nat.le_of_ble_eq_true rfl) rfl ?_
      refine wx_bpsh (v := nI 6) j89_16 (by decide) ?_
      refine wx_ildn j89_18 rfl ?_
      refine wx_imul j89_19 ?_
      rw [pk_mul]
      refine wx_ildn j89_20 rfl ?_
      refine wx_iadd j89_21 ?_
      rw [nI_add]
      refine wx_ialx (6 * c + i) j89_22 rfl rfl (by have := lb0 hl; omega) (by decide) ?_
      refine wx_ildn j89_23 rfl ?_
      refine wx_cmp 33 j89_24 (by decide) (fun c24 => ?_) (fun c24 => ?_)
      · simp only [ax_cn, Classical.not_not] at c24
        have heq : (T 0 0).getD i 0 = x := (nI_eq (tB_lt (hb _ (getD_mem hil))) (tB_lt hx)).mp ((h.1.2 i hil).symm.trans c24)
        refine wx_ildn j89_33 rfl ?_
        refine wx_aldn j89_34 rfl ?_
        refine wx_get (v := .ref 542) j89_35 rfl (Nat.le_of_ble_eq_true rfl) rfl ?_
        refine wx_ildn j89_38 rfl ?_
        refine wx_ialx (c) j89_39 rfl rfl (hc) (by decide) ?_
        rw [h.1.1]
        refine wx_cmp 47 j89_40 (by decide) (fun c40 => ?_) (fun c40 => ?_)
        · simp only [ax_cn, Classical.not_not] at c40
          refine wx_icst (v := (-1)) j89_47 (by decide) ?_
          refine wx_ri j89_48 rfl rfl ?_
          exact absurd ((nI_leI hl31 (by omega)).mp c40) (by omega)
        · simp only [ax_cn, Classical.not_not] at c40
          refine wx_ildn j89_43 rfl ?_
          refine wx_goto 48 j89_44 (by decide) ?_
          refine wx_ri j89_48 rfl rfl ?_
          exact ⟨by rw [fi_of hil heq hno]; rfl, rfl⟩
      · simp only [ax_cn, Classical.not_not] at c24
        have hne : (T 0 0).getD i 0 ≠ x := fun q => c24 ((h.1.2 i hil).trans (by rw [q]))
        refine wx_iinc (v := nI (i + 1)) (L' := [_, _, _, some (.int _)]) j89_27 rfl (nI_1 i) rfl ?_
        refine wx_goto 2 j89_30 (by decide) ?_
        exact ih (i + 1) (by omega) (by omega) (lt_s hno hne)
theorem sm_findSpace (hc : c < 2) (h : mt_is d c T) (hl : LB T) (hb : TB T) (hx : x < tB) : ax_E 89 [.ref 540, .int (nI c), .int (nI x)] d (ax_Pi fun y d1 => y = oi (fi (T 0 0) x) ∧ d1 = d) := by
  show ax_W 89 0 [some (.ref 540), some (.int (nI c)), some (.int (nI x)), none] [] d _
  refine wx_icst (v := nI 0) j89_0 (by decide) ?_
  refine wx_istn (L' := [_, _, _, some (.int _)]) j89_1 (Nat.le_of_ble_eq_true rfl) rfl ?_
  exact mfs_loop hc h hl (hb 0 0) hx ((T 0 0).length + 1) 0 (by omega) (Nat.zero_le _) (fun j hj => absurd hj (Nat.not_lt_zero j))
theorem mfl_loop {p : Nat} (hc : c < 2) (hp : p < 6) (h : mt_is d c T) (hl : LB T) (hb : ∀ e, e ∈ T 1 p → e < tB) (hx : x < tB) : ∀ n i, (T 1 p).length - i < n → i ≤ (T 1 p).length → (∀ j, j < i → (T 1 p).getD j 0 ≠ x) → ax_W 90 11 [some (.ref 540), some (.int (nI c)), some (.int (nI p)), some (.int (nI x)), some (.int (nI (6 * c + p))), some (.int (nI i))] [] d (ax_Pi fun y d1 => y = oi (fi (T 1 p) x) ∧ d1 = d) := by
  have hl31 : (T 1 p).length < 2 ^ 31 := Nat.lt_of_le_of_lt (lb1 hl hp) (by decide)
  intro n
  induction n with
  | zero => intro i h0; omega
  | succ n ih =>
    intro i h0 hi hno
    refine wx_ild j90_11 rfl ?_
    refine wx_aldn j90_13 rfl ?_
    refine wx_get (v := .ref 544) j90_14 rfl (Nat.le_of_ble_eq_true rfl) rfl ?_
    refine wx_ild j90_17 rfl ?_
    refine wx_ialx (6 * c + p) j90_19 rfl rfl (by omega) (by decide) ?_
    rw [(h.2.1 p hp).1]
    refine wx_cmp 46 j90_20 (by decide) (fun c20 => ?_) (fun c20 => ?_)
    · simp only [ax_cn, Classical.not_not] at c20
      have hil : i = (T 1 p).length := Nat.le_antisymm hi ((nI_leI hl31 (by omega)).mp c20)
      refine wx_ild j90_46 rfl ?_
      refine wx_aldn j90_48 rfl ?_
      refine wx_get (v := .ref 544) j90_49 rfl (Nat.le_of_ble_eq_true rfl) rfl ?_
      refine wx_ild j90_52 rfl ?_
      refine wx_ialx (6 * c + p) j90_54 rfl rfl (by omega) (by decide) ?_
      rw [(h.2.1 p hp).1]
      refine wx_cmp 63 j90_55 (by decide) (fun c55 => ?_) (fun c55 => ?_)
      · simp only [ax_cn, Classical.not_not] at c55
        refine wx_icst (v := (-1)) j90_63 (by decide) ?_
        refine wx_ri j90_64 rfl rfl ?_
        exact ⟨by rw [fi_no (by rw [← hil]; exact hno)]; rfl, rfl⟩
      · simp only [ax_cn, Classical.not_not] at c55
        refine wx_ild j90_58 rfl ?_
        refine wx_goto 64 j90_60 (by decide) ?_
        refine wx_ri j90_64 rfl rfl ?_
        exact absurd (nI_le (Nat.le_of_eq hil.symm) (by omega)) c55
    · simp only [ax_cn, Classical.not_not] at c20
      have hil : i < (T 1 p).length := Nat.not_le.mp (fun q => c20 ((nI_leI hl31 (by omega)).mpr q))
      refine wx_aldn j90_23 rfl ?_
      refine wx_get (v := .ref 545) j90_24 rfl (Nat.le_of_ble_eq_true rfl) rfl ?_
      refine wx_bpsh (v := nI 10) j90_27 (by decide) ?_
      refine wx_ild j90_29 rfl ?_
      refine wx_imul j90_31 ?_
      rw [pk_mul]
      refine wx_ild j90_32 rfl ?_
      refine wx_iadd j90_34 ?_
      rw [nI_add]
      refine wx_ialx (10 * (6 * c + p) + i) j90_35 rfl rfl (by have := lb1 hl hp; omega) (by decide) ?_
      refine wx_ildn j90_36 rfl ?_
      refine wx_cmp 46 j90_37 (by decide) (fun c37 => ?_) (fun c37 => ?_)
      · simp only [ax_cn, Classical.not_not] at c37
        have heq : (T 1 p).getD i 0 = x := (nI_eq (tB_lt (hb _ (getD_mem hil))) (tB_lt hx)).mp (((h.2.1 p hp).2 i hil).symm.trans c37)
        refine wx_ild j90_46 rfl ?_
        refine wx_aldn j90_48 rfl ?_
        refine wx_get (v := .ref 544) j90_49 rfl (Nat.le_of_ble_eq_true rfl) rfl ?_
        refine wx_ild j90_52 rfl ?_
        refine wx_ialx (6 * c + p) j90_54 rfl rfl (by omega) (by decide) ?_
        rw [(h.2.1 p hp).1]
        refine wx_cmp 63 j90_55 (by decide) (fun c55 => ?_) (fun c55 => ?_)
        · simp only [ax_cn, Classical.not_not] at c55
          refine wx_icst (v := (-1)) j90_63 (by decide) ?_
          refine wx_ri j90_64 rfl rfl ?_
          exact absurd ((nI_leI hl31 (by omega)).mp c55) (by omega)
        · simp only [ax_cn, Classical.not_not] at c55
          refine wx_ild j90_58 rfl ?_
          refine wx_goto 64 j90_60 (by decide) ?_
          refine wx_ri j90_64 rfl rfl ?_
          exact ⟨by rw [fi_of hil heq hno]; rfl, rfl⟩
      · simp only [ax_cn, Classical.not_not] at c37
        have hne : (T 1 p).getD i 0 ≠ x := fun q => c37 (((h.2.1 p hp).2 i hil).trans (by rw [q]))
        refine wx_iinc (v := nI (i + 1)) (L' := [_, _, _, _, _, some (.int _)]) j90_40 rfl (nI_1 i) rfl ?_
        refine wx_goto 11 j90_43 (by decide) ?_
        exact ih (i + 1) (by omega) (by omega) (lt_s hno hne)
theorem sm_findLocal {p : Nat} (hp : p < 6) (hc : c < 2) (h : mt_is d c T) (hl : LB T) (hb : TB T) (hx : x < tB) : ax_E 90 [.ref 540, .int (nI c), .int (nI p), .int (nI x)] d (ax_Pi fun y d1 => y = oi (fi (T 1 p) x) ∧ d1 = d) := by
  show ax_W 90 0 [some (.ref 540), some (.int (nI c)), some (.int (nI p)), some (.int (nI x)), none, none] [] d _
  refine wx_bpsh (v := nI 6) j90_0 (by decide) ?_
  refine wx_ildn j90_2 rfl ?_
  refine wx_imul j90_3 ?_
  rw [pk_mul]
  refine wx_ildn j90_4 rfl ?_
  refine wx_iadd j90_5 ?_
  rw [nI_add]
  refine wx_ist (L' := [_, _, _, _, some (.int _), _]) j90_6 (Nat.le_of_ble_eq_true rfl) rfl ?_
  refine wx_icst (v := nI 0) j90_8 (by decide) ?_
  refine wx_ist (L' := [_, _, _, _, _, some (.int _)]) j90_9 (Nat.le_of_ble_eq_true rfl) rfl ?_
  exact mfl_loop hc hp h hl (hb 1 p) hx ((T 1 p).length + 1) 0 (by omega) (Nat.zero_le _) (fun j hj => absurd hj (Nat.not_lt_zero j))
theorem mfn_loop {sp lo : Nat} (hc : c < 2) (h : mt_is d c T) (hl : LB T) (hb : TB T) (h45 : T45 T) (hsp : sp < tB) (hlo : lo < tB) : ∀ n i, (T 4 0).length - i < n → i ≤ (T 4 0).length → (∀ j, j < i → ¬ ((T 4 0).getD j 0 = sp ∧ (T 5 0).getD j 0 = lo)) → ax_W 91 3 [some (.ref 540), some (.int (nI c)), some (.int (nI sp)), some (.int (nI lo)), some (.int (nI i))] [] d (ax_Pi fun y d1 => y = oi (fn T sp lo) ∧ d1 = d) := by
  have l4 := lb4 hl
  intro n
  induction n with
  | zero => intro i h0; omega
  | succ n ih =>
    intro i h0 hi hno
    refine wx_ild j91_3 rfl ?_
    refine wx_aldn j91_5 rfl ?_
    refine wx_get (v := .ref 546) j91_6 rfl (Nat.le_of_ble_eq_true rfl) rfl ?_
    refine wx_ildn j91_9 rfl ?_
    refine wx_ialx (c) j91_10 rfl rfl (hc) (by decide) ?_
    rw [h.2.2.1.1]
    refine wx_cmp 55 j91_11 (by decide) (fun c11 => ?_) (fun c11 => ?_)
    · simp only [ax_cn, Classical.not_not] at c11
      have hil : i = (T 4 0).length := Nat.le_antisymm hi ((nI_leI (by omega) (by omega)).mp c11)
      refine wx_icst (v := (-1)) j91_55 (by decide) ?_
      refine wx_ri j91_56 rfl rfl ?_
      exact ⟨by rw [fn_none (by rw [← hil]; exact hno)]; rfl, rfl⟩
    · simp only [ax_cn, Classical.not_not] at c11
      have hil : i < (T 4 0).length := Nat.not_le.mp (fun q => c11 ((nI_leI (by omega) (by omega)).mpr q))
      have hil5 : i < (T 5 0).length := by rw [← show (T 4 0).length = (T 5 0).length from h45]; exact hil
      have t4 := tB_lt (hb 4 0 _ (getD_mem hil))
      have t5 := tB_lt (hb 5 0 _ (getD_mem hil5))
      refine wx_aldn j91_14 rfl ?_
      refine wx_get (v := .ref 547) j91_15 rfl (Nat.le_of_ble_eq_true rfl) rfl ?_
      refine wx_bpsh (v := nI 20) j91_18 (by decide) ?_
      refine wx_ildn j91_20 rfl ?_
      refine wx_imul j91_21 ?_
      rw [pk_mul]
      refine wx_ild j91_22 rfl ?_
      refine wx_iadd j91_24 ?_
      rw [nI_add]
      refine wx_ialx (20 * c + i) j91_25 rfl rfl (by omega) (by decide) ?_
      refine wx_ildn j91_26 rfl ?_
      rw [h.2.2.1.2.1 i hil]
      refine wx_cmp 49 j91_27 (by decide) (fun c27 => ?_) (fun c27 => ?_)
      · simp only [ax_cn, Classical.not_not] at c27
        have hnx : ¬ ((T 4 0).getD i 0 = sp ∧ (T 5 0).getD i 0 = lo) := fun q => c27 (by rw [q.1])
        refine wx_iinc (v := nI (i + 1)) (L' := [_, _, _, _, some (.int _)]) j91_49 rfl (nI_1 i) rfl ?_
        refine wx_goto 3 j91_52 (by decide) ?_
        exact ih (i + 1) (by omega) (by omega) (lt_s hno hnx)
      · simp only [ax_cn, Classical.not_not] at c27
        have h4 := (nI_eq t4 (tB_lt hsp)).mp c27
        refine wx_aldn j91_30 rfl ?_
        refine wx_get (v := .ref 548) j91_31 rfl (Nat.le_of_ble_eq_true rfl) rfl ?_
        refine wx_bpsh (v := nI 20) j91_34 (by decide) ?_
        refine wx_ildn j91_36 rfl ?_
        refine wx_imul j91_37 ?_
        rw [pk_mul]
        refine wx_ild j91_38 rfl ?_
        refine wx_iadd j91_40 ?_
        rw [nI_add]
        refine wx_ialx (20 * c + i) j91_41 rfl rfl (by omega) (by decide) ?_
        refine wx_ildn j91_42 rfl ?_
        rw [h.2.2.1.2.2 i hil5]
        refine wx_cmp 49 j91_43 (by decide) (fun c43 => ?_) (fun c43 => ?_)
        · simp only [ax_cn, Classical.not_not] at c43
          have hnx : ¬ ((T 4 0).getD i 0 = sp ∧ (T 5 0).getD i 0 = lo) := fun q => c43 (by rw [q.2])
          refine wx_iinc (v := nI (i + 1)) (L' := [_, _, _, _, some (.int _)]) j91_49 rfl (nI_1 i) rfl ?_
          refine wx_goto 3 j91_52 (by decide) ?_
          exact ih (i + 1) (by omega) (by omega) (lt_s hno hnx)
        · simp only [ax_cn, Classical.not_not] at c43
          have h5 := (nI_eq t5 (tB_lt hlo)).mp c43
          refine wx_ild j91_46 rfl ?_
          refine wx_ri j91_48 rfl rfl ?_
          exact ⟨by rw [fn_some hil h4 h5 hno]; rfl, rfl⟩
theorem sm_findName {sp lo : Nat} (hc : c < 2) (h : mt_is d c T) (hl : LB T) (hb : TB T) (h45 : T45 T) (hsp : sp < tB) (hlo : lo < tB) : ax_E 91 [.ref 540, .int (nI c), .int (nI sp), .int (nI lo)] d (ax_Pi fun y d1 => y = oi (fn T sp lo) ∧ d1 = d) := by
  show ax_W 91 0 [some (.ref 540), some (.int (nI c)), some (.int (nI sp)), some (.int (nI lo)), none] [] d _
  refine wx_icst (v := nI 0) j91_0 (by decide) ?_
  refine wx_ist (L' := [_, _, _, _, some (.int _)]) j91_1 (Nat.le_of_ble_eq_true rfl) rfl ?_
  exact mfn_loop hc h hl hb h45 hsp hlo ((T 4 0).length + 1) 0 (by omega) (Nat.zero_le _) (fun j hj => absurd hj (Nat.not_lt_zero j))
end M1
