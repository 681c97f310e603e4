/-! THE CONSTRUCTORS of the class's things. -/
section CT3
variable {l : Launch} {D : va_G} {ad : Nat → Nat} {ca : Nat → ClassId} {sz : Nat}
def tBt515 : List Nat := [516]
def iBt515 : List Nat := 515 :: tBt515
theorem len_Bt515 : iBt515.length = 2 := by decide
theorem y_Bt515 (hat : atL ad sz tBt515) : yMet l D ad ca zi_0 1 1 4000 515 (0, [.null, .int 0]) [] iBt515 (fun d => d = d0) sz := by
  refine y_met (by decide +kernel) rfl (Nat.le_of_ble_eq_true rfl) (by intro x hx; simp only [List.mem_cons, List.not_mem_nil, or_false] at hx; rw [hx]; rfl) rfl ?_
  intro p e s m args below meth c hC hao hmn hsz hid
  show zy _ _ _ _ _ _ 0 0 0 [some (.ref 515)] []
  unfold tBt515 at hat
  have s0 : atL ad (sz) [516] := hat
  have A516 : ad 516 = sz + 0 := s0 0 516 rfl
  refine zy_aldn hC dX0_init_0 rfl ?_
  refine zy_obj hC dX0_init_1 iob_0 (Nat.le_of_ble_eq_true rfl) (Nat.le_of_ble_eq_true rfl) ?_
  refine zy_aldn hC dX0_init_4 rfl ?_
  refine zy_spsh (v := nI 4000) hC dX0_init_5 (by decide) ?_
  refine zy_newa (id := 516) (N := 4000) (kt := 0) (a0 := (4000, .inl (fun _ => 0))) hC dX0_init_8 rfl ar_i rfl (fun C h => by cases h) A516 (Nat.le_of_ble_eq_true rfl) (by decide) rfl (fun cA => rfl) (Nat.le_of_ble_eq_true rfl) (Nat.le_of_ble_eq_true rfl) ?_
  refine zy_putF hC dX0_init_10 (zFi_0_9 rfl) rfl rfl hmn hid rfl rfl (Nat.le_of_ble_eq_true rfl) ?_
  refine zy_widen (k := 1) (n := 4000) (Nat.le_of_ble_eq_true rfl) (Nat.le_of_ble_eq_true rfl) ?_
  refine zy_ret d0 hC dX0_init_13 rfl (by omega) rfl rfl (fun i hi => ?_)
  simp only [iBt515, tBt515, List.mem_cons, List.mem_append, List.not_mem_nil, or_false] at hi
  rcases hi with h | h
  · exact Or.inl h
  · right; rw [h]; exact List.mem_cons_self
def tBt517 : List Nat := [518]
def iBt517 : List Nat := 517 :: tBt517
theorem len_Bt517 : iBt517.length = 2 := by decide
theorem y_Bt517 (hat : atL ad sz tBt517) : yMet l D ad ca zi_0 1 1 4000 517 (0, [.null, .int 0]) [] iBt517 (fun d => d = d0) sz := by
  refine y_met (by decide +kernel) rfl (Nat.le_of_ble_eq_true rfl) (by intro x hx; simp only [List.mem_cons, List.not_mem_nil, or_false] at hx; rw [hx]; rfl) rfl ?_
  intro p e s m args below meth c hC hao hmn hsz hid
  show zy _ _ _ _ _ _ 0 0 0 [some (.ref 517)] []
  unfold tBt517 at hat
  have s0 : atL ad (sz) [518] := hat
  have A518 : ad 518 = sz + 0 := s0 0 518 rfl
  refine zy_aldn hC dX0_init_0 rfl ?_
  refine zy_obj hC dX0_init_1 iob_0 (Nat.le_of_ble_eq_true rfl) (Nat.le_of_ble_eq_true rfl) ?_
  refine zy_aldn hC dX0_init_4 rfl ?_
  refine zy_spsh (v := nI 4000) hC dX0_init_5 (by decide) ?_
  refine zy_newa (id := 518) (N := 4000) (kt := 0) (a0 := (4000, .inl (fun _ => 0))) hC dX0_init_8 rfl ar_i rfl (fun C h => by cases h) A518 (Nat.le_of_ble_eq_true rfl) (by decide) rfl (fun cA => rfl) (Nat.le_of_ble_eq_true rfl) (Nat.le_of_ble_eq_true rfl) ?_
  refine zy_putF hC dX0_init_10 (zFi_0_9 rfl) rfl rfl hmn hid rfl rfl (Nat.le_of_ble_eq_true rfl) ?_
  refine zy_widen (k := 1) (n := 4000) (Nat.le_of_ble_eq_true rfl) (Nat.le_of_ble_eq_true rfl) ?_
  refine zy_ret d0 hC dX0_init_13 rfl (by omega) rfl rfl (fun i hi => ?_)
  simp only [iBt517, tBt517, List.mem_cons, List.mem_append, List.not_mem_nil, or_false] at hi
  rcases hi with h | h
  · exact Or.inl h
  · right; rw [h]; exact List.mem_cons_self
def tEv : List Nat := [528, 529, 530, 531, 532]
def iEv : List Nat := 527 :: tEv
theorem len_Ev : iEv.length = 6 := by decide
theorem y_Ev (hat : atL ad sz tEv) : yMet l D ad ca zi_1 1 5 804 527 (1, [.null, .int 0]) [] iEv (fun d => d = d0) sz := by
  refine y_met (by decide +kernel) rfl (Nat.le_of_ble_eq_true rfl) (by intro x hx; simp only [List.mem_cons, List.not_mem_nil, or_false] at hx; rw [hx]; rfl) rfl ?_
  intro p e s m args below meth c hC hao hmn hsz hid
  show zy _ _ _ _ _ _ 0 0 0 [some (.ref 527)] []
  unfold tEv at hat
  have s0 : atL ad (sz) [528, 529, 530, 531, 532] := hat
  have A528 : ad 528 = sz + 0 := s0 0 528 rfl
  have A529 : ad 529 = sz + 1 := s0 1 529 rfl
  have A530 : ad 530 = sz + 2 := s0 2 530 rfl
  have A531 : ad 531 = sz + 3 := s0 3 531 rfl
  have A532 : ad 532 = sz + 4 := s0 4 532 rfl
  refine zy_aldn hC dX1_init_0 rfl ?_
  refine zy_obj hC dX1_init_1 iob_1 (Nat.le_of_ble_eq_true rfl) (Nat.le_of_ble_eq_true rfl) ?_
  refine zy_aldn hC dX1_init_4 rfl ?_
  refine zy_icst (v := nI 4) hC dX1_init_5 (by decide) ?_
  refine zy_spsh (v := nI 200) hC dX1_init_6 (by decide) ?_
  refine zy_mna (oid := 528) (b := 529) (N := 4) (K := 200) hC hao dX1_init_9 icl_1_9 rfl rfl (by decide) (by decide) rfl (fun j hj => ?_) A528 (fun j hj => ?_) (Nat.le_of_ble_eq_true rfl) (Nat.le_of_ble_eq_true rfl) ?_
  · match j, hj with
    | 0, _ => rfl
    | 1, _ => rfl
    | 2, _ => rfl
    | 3, _ => rfl
  · match j, hj with
    | 0, _ => exact A529
    | 1, _ => exact A530
    | 2, _ => exact A531
    | 3, _ => exact A532
  refine zy_putF hC dX1_init_13 (zFi_1_11 rfl) rfl rfl hmn hid rfl rfl (Nat.le_of_ble_eq_true rfl) ?_
  refine zy_widen (k := 5) (n := 804) (Nat.le_of_ble_eq_true rfl) (Nat.le_of_ble_eq_true rfl) ?_
  refine zy_ret d0 hC dX1_init_16 rfl (by omega) rfl rfl (fun i hi => ?_)
  simp only [iEv, tEv, List.mem_cons, List.mem_append, List.not_mem_nil, or_false] at hi
  rcases hi with h | h | h | h | h | h
  · exact Or.inl h
  · right; rw [h]; exact List.mem_append_left _ List.mem_cons_self
  · right; rw [h]; exact List.mem_append_left _ (List.mem_cons_of_mem _ (List.mem_map.mpr ⟨0, List.mem_range.mpr (by decide), rfl⟩))
  · right; rw [h]; exact List.mem_append_left _ (List.mem_cons_of_mem _ (List.mem_map.mpr ⟨1, List.mem_range.mpr (by decide), rfl⟩))
  · right; rw [h]; exact List.mem_append_left _ (List.mem_cons_of_mem _ (List.mem_map.mpr ⟨2, List.mem_range.mpr (by decide), rfl⟩))
  · right; rw [h]; exact List.mem_append_left _ (List.mem_cons_of_mem _ (List.mem_map.mpr ⟨3, List.mem_range.mpr (by decide), rfl⟩))
def tTb0 : List Nat := (iRw 0) ++ ((iRw 1) ++ ((iRw 2) ++ ((iRw 3) ++ ((iRw 4) ++ ((iRw 5))))))
def iTb0 : List Nat := 519 :: tTb0
theorem len_Tb0 : iTb0.length = 49 := by decide
theorem y_Tb0 (hat : atL ad sz tTb0) : yMet l D ad ca zi_5 2 48 304 519 (5, [.null, .null, .null, .null, .null, .null]) [] iTb0 (fun d => d = d0) sz := by
  refine y_met (by decide +kernel) rfl (Nat.le_of_ble_eq_true rfl) (by intro x hx; simp only [List.mem_cons, List.not_mem_nil, or_false] at hx; rw [hx]; rfl) rfl ?_
  intro p e s m args below meth c hC hao hmn hsz hid
  show zy _ _ _ _ _ _ 0 0 0 [some (.ref 519)] []
  unfold tTb0 at hat
  have s0 : atL ad (sz) (iRw 0) := atL_l hat
  have r0 := atL_r hat
  rw [show (iRw 0).length = 4 by decide] at r0
  have s1 : atL ad (sz + 4) (iRw 1) := atL_l r0
  have r1 := atL_r r0
  rw [show (iRw 1).length = 9 by decide] at r1
  have s2 : atL ad (sz + 13) (iRw 2) := atL_l r1
  have r2 := atL_r r1
  rw [show (iRw 2).length = 23 by decide] at r2
  have s3 : atL ad (sz + 36) (iRw 3) := atL_l r2
  have r3 := atL_r r2
  rw [show (iRw 3).length = 4 by decide] at r3
  have s4 : atL ad (sz + 40) (iRw 4) := atL_l r3
  have r4 := atL_r r3
  rw [show (iRw 4).length = 4 by decide] at r4
  have s5 : atL ad (sz + 44) (iRw 5) := r4
  refine zy_aldn hC dX5_init_0 rfl ?_
  refine zy_obj hC dX5_init_1 iob_5 (Nat.le_of_ble_eq_true rfl) (Nat.le_of_ble_eq_true rfl) ?_
  refine zy_aldn hC dX5_init_4 rfl ?_
  have N5 : ad 0 = sz + 0 := atL_h s0
  refine zy_new (id := 0) (ci := 4) (N := 3) (fs := [.null, .null, .int 0]) hC dX5_init_5 (by decide) rfl icl_5_9 iin_4 iit_4 idf_4 N5 (Nat.le_of_ble_eq_true rfl) (Nat.le_of_ble_eq_true rfl) ?_
  refine zy_dupr hC dX5_init_8 ?_
  refine zy_icst (v := nI 1) hC dX5_init_9 (by decide) ?_
  refine zy_bpsh (v := nI 6) hC dX5_init_10 (by decide) ?_
  have M12 : yMet l D ad ca zi_4 1 3 8 0 (4, [.null, .null, .int 0]) [.int (nI 1), .int (nI 6)] (iRw 0) (fun d => d = d0) (sz + 1) := y_Rows (r := 0) (by decide) (atL_t s0)
  refine zy_call (q2 := zi_4) (as := [.int (nI 1), .int (nI 6)]) (rest := [.ref 0, .ref 519]) hC hao (fun r0 h0 => by cases h0; exact hid) dX5_init_12 yLi_5_11 (Nat.le_of_ble_eq_true rfl) ⟨Nat.le_of_ble_eq_true rfl, Nat.le_of_ble_eq_true rfl, Nat.le_of_ble_eq_true rfl, Nat.le_of_ble_eq_true rfl⟩ M12 ?_
  rintro _ rfl
  refine zy_putF hC dX5_init_15 (zFi_5_14 rfl) rfl rfl hmn hid rfl rfl (Nat.le_of_ble_eq_true rfl) ?_
  refine zy_aldn hC dX5_init_18 rfl ?_
  have N19 : ad 32 = sz + 4 := atL_h s1
  refine zy_new (id := 32) (ci := 4) (N := 3) (fs := [.null, .null, .int 0]) hC dX5_init_19 (by decide) rfl icl_5_9 iin_4 iit_4 idf_4 N19 (Nat.le_of_ble_eq_true rfl) (Nat.le_of_ble_eq_true rfl) ?_
  refine zy_dupr hC dX5_init_22 ?_
  refine zy_bpsh (v := nI 6) hC dX5_init_23 (by decide) ?_
  refine zy_bpsh (v := nI 10) hC dX5_init_25 (by decide) ?_
  have M27 : yMet l D ad ca zi_4 1 8 72 32 (4, [.null, .null, .int 0]) [.int (nI 6), .int (nI 10)] (iRw 1) (fun d => d = d0) (sz + 5) := y_Rows (r := 1) (by decide) (atL_t s1)
  refine zy_call (q2 := zi_4) (as := [.int (nI 6), .int (nI 10)]) (rest := [.ref 32, .ref 519]) hC hao (fun r0 h0 => by cases h0; exact hid) dX5_init_27 yLi_5_11 (Nat.le_of_ble_eq_true rfl) ⟨Nat.le_of_ble_eq_true rfl, Nat.le_of_ble_eq_true rfl, Nat.le_of_ble_eq_true rfl, Nat.le_of_ble_eq_true rfl⟩ M27 ?_
  rintro _ rfl
  refine zy_putF hC dX5_init_30 (zFi_5_20 rfl) rfl rfl hmn hid rfl rfl (Nat.le_of_ble_eq_true rfl) ?_
  refine zy_aldn hC dX5_init_33 rfl ?_
  have N34 : ad 64 = sz + 13 := atL_h s2
  refine zy_new (id := 64) (ci := 4) (N := 3) (fs := [.null, .null, .int 0]) hC dX5_init_34 (by decide) rfl icl_5_9 iin_4 iit_4 idf_4 N34 (Nat.le_of_ble_eq_true rfl) (Nat.le_of_ble_eq_true rfl) ?_
  refine zy_dupr hC dX5_init_37 ?_
  refine zy_bpsh (v := nI 20) hC dX5_init_38 (by decide) ?_
  refine zy_icst (v := nI 5) hC dX5_init_40 (by decide) ?_
  have M41 : yMet l D ad ca zi_4 1 22 140 64 (4, [.null, .null, .int 0]) [.int (nI 20), .int (nI 5)] (iRw 2) (fun d => d = d0) (sz + 14) := y_Rows (r := 2) (by decide) (atL_t s2)
  refine zy_call (q2 := zi_4) (as := [.int (nI 20), .int (nI 5)]) (rest := [.ref 64, .ref 519]) hC hao (fun r0 h0 => by cases h0; exact hid) dX5_init_41 yLi_5_11 (Nat.le_of_ble_eq_true rfl) ⟨Nat.le_of_ble_eq_true rfl, Nat.le_of_ble_eq_true rfl, Nat.le_of_ble_eq_true rfl, Nat.le_of_ble_eq_true rfl⟩ M41 ?_
  rintro _ rfl
  refine zy_putF hC dX5_init_44 (zFi_5_23 rfl) rfl rfl hmn hid rfl rfl (Nat.le_of_ble_eq_true rfl) ?_
  refine zy_aldn hC dX5_init_47 rfl ?_
  have N48 : ad 96 = sz + 36 := atL_h s3
  refine zy_new (id := 96) (ci := 4) (N := 3) (fs := [.null, .null, .int 0]) hC dX5_init_48 (by decide) rfl icl_5_9 iin_4 iit_4 idf_4 N48 (Nat.le_of_ble_eq_true rfl) (Nat.le_of_ble_eq_true rfl) ?_
  refine zy_dupr hC dX5_init_51 ?_
  refine zy_icst (v := nI 1) hC dX5_init_52 (by decide) ?_
  refine zy_bpsh (v := nI 20) hC dX5_init_53 (by decide) ?_
  have M55 : yMet l D ad ca zi_4 1 3 22 96 (4, [.null, .null, .int 0]) [.int (nI 1), .int (nI 20)] (iRw 3) (fun d => d = d0) (sz + 37) := y_Rows (r := 3) (by decide) (atL_t s3)
  refine zy_call (q2 := zi_4) (as := [.int (nI 1), .int (nI 20)]) (rest := [.ref 96, .ref 519]) hC hao (fun r0 h0 => by cases h0; exact hid) dX5_init_55 yLi_5_11 (Nat.le_of_ble_eq_true rfl) ⟨Nat.le_of_ble_eq_true rfl, Nat.le_of_ble_eq_true rfl, Nat.le_of_ble_eq_true rfl, Nat.le_of_ble_eq_true rfl⟩ M55 ?_
  rintro _ rfl
  refine zy_putF hC dX5_init_58 (zFi_5_26 rfl) rfl rfl hmn hid rfl rfl (Nat.le_of_ble_eq_true rfl) ?_
  refine zy_aldn hC dX5_init_61 rfl ?_
  have N62 : ad 128 = sz + 40 := atL_h s4
  refine zy_new (id := 128) (ci := 4) (N := 3) (fs := [.null, .null, .int 0]) hC dX5_init_62 (by decide) rfl icl_5_9 iin_4 iit_4 idf_4 N62 (Nat.le_of_ble_eq_true rfl) (Nat.le_of_ble_eq_true rfl) ?_
  refine zy_dupr hC dX5_init_65 ?_
  refine zy_icst (v := nI 1) hC dX5_init_66 (by decide) ?_
  refine zy_bpsh (v := nI 20) hC dX5_init_67 (by decide) ?_
  have M69 : yMet l D ad ca zi_4 1 3 22 128 (4, [.null, .null, .int 0]) [.int (nI 1), .int (nI 20)] (iRw 4) (fun d => d = d0) (sz + 41) := y_Rows (r := 4) (by decide) (atL_t s4)
  refine zy_call (q2 := zi_4) (as := [.int (nI 1), .int (nI 20)]) (rest := [.ref 128, .ref 519]) hC hao (fun r0 h0 => by cases h0; exact hid) dX5_init_69 yLi_5_11 (Nat.le_of_ble_eq_true rfl) ⟨Nat.le_of_ble_eq_true rfl, Nat.le_of_ble_eq_true rfl, Nat.le_of_ble_eq_true rfl, Nat.le_of_ble_eq_true rfl⟩ M69 ?_
  rintro _ rfl
  refine zy_putF hC dX5_init_72 (zFi_5_29 rfl) rfl rfl hmn hid rfl rfl (Nat.le_of_ble_eq_true rfl) ?_
  refine zy_aldn hC dX5_init_75 rfl ?_
  have N76 : ad 160 = sz + 44 := atL_h s5
  refine zy_new (id := 160) (ci := 4) (N := 3) (fs := [.null, .null, .int 0]) hC dX5_init_76 (by decide) rfl icl_5_9 iin_4 iit_4 idf_4 N76 (Nat.le_of_ble_eq_true rfl) (Nat.le_of_ble_eq_true rfl) ?_
  refine zy_dupr hC dX5_init_79 ?_
  refine zy_icst (v := nI 1) hC dX5_init_80 (by decide) ?_
  refine zy_bpsh (v := nI 20) hC dX5_init_81 (by decide) ?_
  have M83 : yMet l D ad ca zi_4 1 3 22 160 (4, [.null, .null, .int 0]) [.int (nI 1), .int (nI 20)] (iRw 5) (fun d => d = d0) (sz + 45) := y_Rows (r := 5) (by decide) (atL_t s5)
  refine zy_call (q2 := zi_4) (as := [.int (nI 1), .int (nI 20)]) (rest := [.ref 160, .ref 519]) hC hao (fun r0 h0 => by cases h0; exact hid) dX5_init_83 yLi_5_11 (Nat.le_of_ble_eq_true rfl) ⟨Nat.le_of_ble_eq_true rfl, Nat.le_of_ble_eq_true rfl, Nat.le_of_ble_eq_true rfl, Nat.le_of_ble_eq_true rfl⟩ M83 ?_
  rintro _ rfl
  refine zy_putF hC dX5_init_86 (zFi_5_32 rfl) rfl rfl hmn hid rfl rfl (Nat.le_of_ble_eq_true rfl) ?_
  refine zy_widen (k := 48) (n := 304) (Nat.le_of_ble_eq_true rfl) (Nat.le_of_ble_eq_true rfl) ?_
  refine zy_ret d0 hC dX5_init_89 rfl (by omega) rfl rfl (fun i hi => ?_)
  simp only [iTb0, tTb0, List.mem_cons, List.mem_append, List.not_mem_nil, or_false] at hi
  rcases hi with h | h | h | h | h | h | h
  · exact Or.inl h
  · exact Or.inr (List.mem_append_right _ (List.mem_append_right _ (List.mem_append_right _ (List.mem_append_right _ (List.mem_append_right _ (List.mem_append_left _ (yEn_m.mpr h)))))))
  · exact Or.inr (List.mem_append_right _ (List.mem_append_right _ (List.mem_append_right _ (List.mem_append_right _ (List.mem_append_left _ (yEn_m.mpr h))))))
  · exact Or.inr (List.mem_append_right _ (List.mem_append_right _ (List.mem_append_right _ (List.mem_append_left _ (yEn_m.mpr h)))))
  · exact Or.inr (List.mem_append_right _ (List.mem_append_right _ (List.mem_append_left _ (yEn_m.mpr h))))
  · exact Or.inr (List.mem_append_right _ (List.mem_append_left _ (yEn_m.mpr h)))
  · exact Or.inr (List.mem_append_left _ (yEn_m.mpr h))
def tGr0 : List Nat := (iRw 6) ++ ((iRw 7) ++ ([523, 525]))
def iGr0 : List Nat := 521 :: tGr0
theorem len_Gr0 : iGr0.length = 49 := by decide
theorem y_Gr0 (hat : atL ad sz tGr0) : yMet l D ad ca zi_2 2 48 582 521 (2, [.null, .null, .null, .null, .int 0, .int 0]) [] iGr0 (fun d => d = d0) sz := by
  refine y_met (by decide +kernel) rfl (Nat.le_of_ble_eq_true rfl) (by intro x hx; simp only [List.mem_cons, List.not_mem_nil, or_false] at hx; rw [hx]; rfl) rfl ?_
  intro p e s m args below meth c hC hao hmn hsz hid
  show zy _ _ _ _ _ _ 0 0 0 [some (.ref 521)] []
  unfold tGr0 at hat
  have s0 : atL ad (sz) (iRw 6) := atL_l hat
  have r0 := atL_r hat
  rw [show (iRw 6).length = 23 by decide] at r0
  have s1 : atL ad (sz + 23) (iRw 7) := atL_l r0
  have r1 := atL_r r0
  rw [show (iRw 7).length = 23 by decide] at r1
  have s2 : atL ad (sz + 46) [523, 525] := r1
  have A523 : ad 523 = sz + 46 := s2 0 523 rfl
  have A525 : ad 525 = sz + 47 := s2 1 525 rfl
  refine zy_aldn hC dX2_init_0 rfl ?_
  refine zy_obj hC dX2_init_1 iob_2 (Nat.le_of_ble_eq_true rfl) (Nat.le_of_ble_eq_true rfl) ?_
  refine zy_aldn hC dX2_init_4 rfl ?_
  have N5 : ad 192 = sz + 0 := atL_h s0
  refine zy_new (id := 192) (ci := 4) (N := 3) (fs := [.null, .null, .int 0]) hC dX2_init_5 (by decide) rfl icl_2_9 iin_4 iit_4 idf_4 N5 (Nat.le_of_ble_eq_true rfl) (Nat.le_of_ble_eq_true rfl) ?_
  refine zy_dupr hC dX2_init_8 ?_
  refine zy_bpsh (v := nI 20) hC dX2_init_9 (by decide) ?_
  refine zy_bpsh (v := nI 12) hC dX2_init_11 (by decide) ?_
  have M13 : yMet l D ad ca zi_4 1 22 280 192 (4, [.null, .null, .int 0]) [.int (nI 20), .int (nI 12)] (iRw 6) (fun d => d = d0) (sz + 1) := y_Rows (r := 6) (by decide) (atL_t s0)
  refine zy_call (q2 := zi_4) (as := [.int (nI 20), .int (nI 12)]) (rest := [.ref 192, .ref 521]) hC hao (fun r0 h0 => by cases h0; exact hid) dX2_init_13 yLi_2_11 (Nat.le_of_ble_eq_true rfl) ⟨Nat.le_of_ble_eq_true rfl, Nat.le_of_ble_eq_true rfl, Nat.le_of_ble_eq_true rfl, Nat.le_of_ble_eq_true rfl⟩ M13 ?_
  rintro _ rfl
  refine zy_putF hC dX2_init_16 (zFi_2_14 rfl) rfl rfl hmn hid rfl rfl (Nat.le_of_ble_eq_true rfl) ?_
  refine zy_aldn hC dX2_init_19 rfl ?_
  have N20 : ad 224 = sz + 23 := atL_h s1
  refine zy_new (id := 224) (ci := 4) (N := 3) (fs := [.null, .null, .int 0]) hC dX2_init_20 (by decide) rfl icl_2_9 iin_4 iit_4 idf_4 N20 (Nat.le_of_ble_eq_true rfl) (Nat.le_of_ble_eq_true rfl) ?_
  refine zy_dupr hC dX2_init_23 ?_
  refine zy_bpsh (v := nI 20) hC dX2_init_24 (by decide) ?_
  refine zy_bpsh (v := nI 12) hC dX2_init_26 (by decide) ?_
  have M28 : yMet l D ad ca zi_4 1 22 280 224 (4, [.null, .null, .int 0]) [.int (nI 20), .int (nI 12)] (iRw 7) (fun d => d = d0) (sz + 24) := y_Rows (r := 7) (by decide) (atL_t s1)
  refine zy_call (q2 := zi_4) (as := [.int (nI 20), .int (nI 12)]) (rest := [.ref 224, .ref 521]) hC hao (fun r0 h0 => by cases h0; exact hid) dX2_init_28 yLi_2_11 (Nat.le_of_ble_eq_true rfl) ⟨Nat.le_of_ble_eq_true rfl, Nat.le_of_ble_eq_true rfl, Nat.le_of_ble_eq_true rfl, Nat.le_of_ble_eq_true rfl⟩ M28 ?_
  rintro _ rfl
  refine zy_putF hC dX2_init_31 (zFi_2_20 rfl) rfl rfl hmn hid rfl rfl (Nat.le_of_ble_eq_true rfl) ?_
  refine zy_aldn hC dX2_init_34 rfl ?_
  refine zy_bpsh (v := nI 8) hC dX2_init_35 (by decide) ?_
  refine zy_newa (id := 523) (N := 8) (kt := 0) (a0 := (8, .inl (fun _ => 0))) hC dX2_init_37 rfl ar_i rfl (fun C h => by cases h) A523 (Nat.le_of_ble_eq_true rfl) (by decide) rfl (fun cA => rfl) (Nat.le_of_ble_eq_true rfl) (Nat.le_of_ble_eq_true rfl) ?_
  refine zy_putF hC dX2_init_39 (zFi_2_23 rfl) rfl rfl hmn hid rfl rfl (Nat.le_of_ble_eq_true rfl) ?_
  refine zy_aldn hC dX2_init_42 rfl ?_
  refine zy_bpsh (v := nI 8) hC dX2_init_43 (by decide) ?_
  refine zy_newa (id := 525) (N := 8) (kt := 1) (a0 := (8, .inl (fun _ => 0))) hC dX2_init_45 rfl ar_b rfl (fun C h => by cases h) A525 (Nat.le_of_ble_eq_true rfl) (by decide) rfl (fun cA => rfl) (Nat.le_of_ble_eq_true rfl) (Nat.le_of_ble_eq_true rfl) ?_
  refine zy_putF hC dX2_init_47 (zFi_2_27 rfl) rfl rfl hmn hid rfl rfl (Nat.le_of_ble_eq_true rfl) ?_
  refine zy_widen (k := 48) (n := 582) (Nat.le_of_ble_eq_true rfl) (Nat.le_of_ble_eq_true rfl) ?_
  refine zy_ret d0 hC dX2_init_50 rfl (by omega) rfl rfl (fun i hi => ?_)
  simp only [iGr0, tGr0, List.mem_cons, List.mem_append, List.not_mem_nil, or_false] at hi
  rcases hi with h | h | h | h | h
  · exact Or.inl h
  · exact Or.inr (List.mem_cons_of_mem _ (List.mem_cons_of_mem _ (List.mem_append_right _ (List.mem_append_left _ (yEn_m.mpr h)))))
  · exact Or.inr (List.mem_cons_of_mem _ (List.mem_cons_of_mem _ (List.mem_append_left _ (yEn_m.mpr h))))
  · right; rw [h]; exact List.mem_cons_of_mem _ (List.mem_cons_self)
  · right; rw [h]; exact List.mem_cons_self
def tTb1 : List Nat := (iRw 8) ++ ((iRw 9) ++ ((iRw 10) ++ ((iRw 11) ++ ((iRw 12) ++ ((iRw 13))))))
def iTb1 : List Nat := 520 :: tTb1
theorem len_Tb1 : iTb1.length = 49 := by decide
theorem y_Tb1 (hat : atL ad sz tTb1) : yMet l D ad ca zi_5 2 48 304 520 (5, [.null, .null, .null, .null, .null, .null]) [] iTb1 (fun d => d = d0) sz := by
  refine y_met (by decide +kernel) rfl (Nat.le_of_ble_eq_true rfl) (by intro x hx; simp only [List.mem_cons, List.not_mem_nil, or_false] at hx; rw [hx]; rfl) rfl ?_
  intro p e s m args below meth c hC hao hmn hsz hid
  show zy _ _ _ _ _ _ 0 0 0 [some (.ref 520)] []
  unfold tTb1 at hat
  have s0 : atL ad (sz) (iRw 8) := atL_l hat
  have r0 := atL_r hat
  rw [show (iRw 8).length = 4 by decide] at r0
  have s1 : atL ad (sz + 4) (iRw 9) := atL_l r0
  have r1 := atL_r r0
  rw [show (iRw 9).length = 9 by decide] at r1
  have s2 : atL ad (sz + 13) (iRw 10) := atL_l r1
  have r2 := atL_r r1
  rw [show (iRw 10).length = 23 by decide] at r2
  have s3 : atL ad (sz + 36) (iRw 11) := atL_l r2
  have r3 := atL_r r2
  rw [show (iRw 11).length = 4 by decide] at r3
  have s4 : atL ad (sz + 40) (iRw 12) := atL_l r3
  have r4 := atL_r r3
  rw [show (iRw 12).length = 4 by decide] at r4
  have s5 : atL ad (sz + 44) (iRw 13) := r4
  refine zy_aldn hC dX5_init_0 rfl ?_
  refine zy_obj hC dX5_init_1 iob_5 (Nat.le_of_ble_eq_true rfl) (Nat.le_of_ble_eq_true rfl) ?_
  refine zy_aldn hC dX5_init_4 rfl ?_
  have N5 : ad 256 = sz + 0 := atL_h s0
  refine zy_new (id := 256) (ci := 4) (N := 3) (fs := [.null, .null, .int 0]) hC dX5_init_5 (by decide) rfl icl_5_9 iin_4 iit_4 idf_4 N5 (Nat.le_of_ble_eq_true rfl) (Nat.le_of_ble_eq_true rfl) ?_
  refine zy_dupr hC dX5_init_8 ?_
  refine zy_icst (v := nI 1) hC dX5_init_9 (by decide) ?_
  refine zy_bpsh (v := nI 6) hC dX5_init_10 (by decide) ?_
  have M12 : yMet l D ad ca zi_4 1 3 8 256 (4, [.null, .null, .int 0]) [.int (nI 1), .int (nI 6)] (iRw 8) (fun d => d = d0) (sz + 1) := y_Rows (r := 8) (by decide) (atL_t s0)
  refine zy_call (q2 := zi_4) (as := [.int (nI 1), .int (nI 6)]) (rest := [.ref 256, .ref 520]) hC hao (fun r0 h0 => by cases h0; exact hid) dX5_init_12 yLi_5_11 (Nat.le_of_ble_eq_true rfl) ⟨Nat.le_of_ble_eq_true rfl, Nat.le_of_ble_eq_true rfl, Nat.le_of_ble_eq_true rfl, Nat.le_of_ble_eq_true rfl⟩ M12 ?_
  rintro _ rfl
  refine zy_putF hC dX5_init_15 (zFi_5_14 rfl) rfl rfl hmn hid rfl rfl (Nat.le_of_ble_eq_true rfl) ?_
  refine zy_aldn hC dX5_init_18 rfl ?_
  have N19 : ad 288 = sz + 4 := atL_h s1
  refine zy_new (id := 288) (ci := 4) (N := 3) (fs := [.null, .null, .int 0]) hC dX5_init_19 (by decide) rfl icl_5_9 iin_4 iit_4 idf_4 N19 (Nat.le_of_ble_eq_true rfl) (Nat.le_of_ble_eq_true rfl) ?_
  refine zy_dupr hC dX5_init_22 ?_
  refine zy_bpsh (v := nI 6) hC dX5_init_23 (by decide) ?_
  refine zy_bpsh (v := nI 10) hC dX5_init_25 (by decide) ?_
  have M27 : yMet l D ad ca zi_4 1 8 72 288 (4, [.null, .null, .int 0]) [.int (nI 6), .int (nI 10)] (iRw 9) (fun d => d = d0) (sz + 5) := y_Rows (r := 9) (by decide) (atL_t s1)
  refine zy_call (q2 := zi_4) (as := [.int (nI 6), .int (nI 10)]) (rest := [.ref 288, .ref 520]) hC hao (fun r0 h0 => by cases h0; exact hid) dX5_init_27 yLi_5_11 (Nat.le_of_ble_eq_true rfl) ⟨Nat.le_of_ble_eq_true rfl, Nat.le_of_ble_eq_true rfl, Nat.le_of_ble_eq_true rfl, Nat.le_of_ble_eq_true rfl⟩ M27 ?_
  rintro _ rfl
  refine zy_putF hC dX5_init_30 (zFi_5_20 rfl) rfl rfl hmn hid rfl rfl (Nat.le_of_ble_eq_true rfl) ?_
  refine zy_aldn hC dX5_init_33 rfl ?_
  have N34 : ad 320 = sz + 13 := atL_h s2
  refine zy_new (id := 320) (ci := 4) (N := 3) (fs := [.null, .null, .int 0]) hC dX5_init_34 (by decide) rfl icl_5_9 iin_4 iit_4 idf_4 N34 (Nat.le_of_ble_eq_true rfl) (Nat.le_of_ble_eq_true rfl) ?_
  refine zy_dupr hC dX5_init_37 ?_
  refine zy_bpsh (v := nI 20) hC dX5_init_38 (by decide) ?_
  refine zy_icst (v := nI 5) hC dX5_init_40 (by decide) ?_
  have M41 : yMet l D ad ca zi_4 1 22 140 320 (4, [.null, .null, .int 0]) [.int (nI 20), .int (nI 5)] (iRw 10) (fun d => d = d0) (sz + 14) := y_Rows (r := 10) (by decide) (atL_t s2)
  refine zy_call (q2 := zi_4) (as := [.int (nI 20), .int (nI 5)]) (rest := [.ref 320, .ref 520]) hC hao (fun r0 h0 => by cases h0; exact hid) dX5_init_41 yLi_5_11 (Nat.le_of_ble_eq_true rfl) ⟨Nat.le_of_ble_eq_true rfl, Nat.le_of_ble_eq_true rfl, Nat.le_of_ble_eq_true rfl, Nat.le_of_ble_eq_true rfl⟩ M41 ?_
  rintro _ rfl
  refine zy_putF hC dX5_init_44 (zFi_5_23 rfl) rfl rfl hmn hid rfl rfl (Nat.le_of_ble_eq_true rfl) ?_
  refine zy_aldn hC dX5_init_47 rfl ?_
  have N48 : ad 352 = sz + 36 := atL_h s3
  refine zy_new (id := 352) (ci := 4) (N := 3) (fs := [.null, .null, .int 0]) hC dX5_init_48 (by decide) rfl icl_5_9 iin_4 iit_4 idf_4 N48 (Nat.le_of_ble_eq_true rfl) (Nat.le_of_ble_eq_true rfl) ?_
  refine zy_dupr hC dX5_init_51 ?_
  refine zy_icst (v := nI 1) hC dX5_init_52 (by decide) ?_
  refine zy_bpsh (v := nI 20) hC dX5_init_53 (by decide) ?_
  have M55 : yMet l D ad ca zi_4 1 3 22 352 (4, [.null, .null, .int 0]) [.int (nI 1), .int (nI 20)] (iRw 11) (fun d => d = d0) (sz + 37) := y_Rows (r := 11) (by decide) (atL_t s3)
  refine zy_call (q2 := zi_4) (as := [.int (nI 1), .int (nI 20)]) (rest := [.ref 352, .ref 520]) hC hao (fun r0 h0 => by cases h0; exact hid) dX5_init_55 yLi_5_11 (Nat.le_of_ble_eq_true rfl) ⟨Nat.le_of_ble_eq_true rfl, Nat.le_of_ble_eq_true rfl, Nat.le_of_ble_eq_true rfl, Nat.le_of_ble_eq_true rfl⟩ M55 ?_
  rintro _ rfl
  refine zy_putF hC dX5_init_58 (zFi_5_26 rfl) rfl rfl hmn hid rfl rfl (Nat.le_of_ble_eq_true rfl) ?_
  refine zy_aldn hC dX5_init_61 rfl ?_
  have N62 : ad 384 = sz + 40 := atL_h s4
  refine zy_new (id := 384) (ci := 4) (N := 3) (fs := [.null, .null, .int 0]) hC dX5_init_62 (by decide) rfl icl_5_9 iin_4 iit_4 idf_4 N62 (Nat.le_of_ble_eq_true rfl) (Nat.le_of_ble_eq_true rfl) ?_
  refine zy_dupr hC dX5_init_65 ?_
  refine zy_icst (v := nI 1) hC dX5_init_66 (by decide) ?_
  refine zy_bpsh (v := nI 20) hC dX5_init_67 (by decide) ?_
  have M69 : yMet l D ad ca zi_4 1 3 22 384 (4, [.null, .null, .int 0]) [.int (nI 1), .int (nI 20)] (iRw 12) (fun d => d = d0) (sz + 41) := y_Rows (r := 12) (by decide) (atL_t s4)
  refine zy_call (q2 := zi_4) (as := [.int (nI 1), .int (nI 20)]) (rest := [.ref 384, .ref 520]) hC hao (fun r0 h0 => by cases h0; exact hid) dX5_init_69 yLi_5_11 (Nat.le_of_ble_eq_true rfl) ⟨Nat.le_of_ble_eq_true rfl, Nat.le_of_ble_eq_true rfl, Nat.le_of_ble_eq_true rfl, Nat.le_of_ble_eq_true rfl⟩ M69 ?_
  rintro _ rfl
  refine zy_putF hC dX5_init_72 (zFi_5_29 rfl) rfl rfl hmn hid rfl rfl (Nat.le_of_ble_eq_true rfl) ?_
  refine zy_aldn hC dX5_init_75 rfl ?_
  have N76 : ad 416 = sz + 44 := atL_h s5
  refine zy_new (id := 416) (ci := 4) (N := 3) (fs := [.null, .null, .int 0]) hC dX5_init_76 (by decide) rfl icl_5_9 iin_4 iit_4 idf_4 N76 (Nat.le_of_ble_eq_true rfl) (Nat.le_of_ble_eq_true rfl) ?_
  refine zy_dupr hC dX5_init_79 ?_
  refine zy_icst (v := nI 1) hC dX5_init_80 (by decide) ?_
  refine zy_bpsh (v := nI 20) hC dX5_init_81 (by decide) ?_
  have M83 : yMet l D ad ca zi_4 1 3 22 416 (4, [.null, .null, .int 0]) [.int (nI 1), .int (nI 20)] (iRw 13) (fun d => d = d0) (sz + 45) := y_Rows (r := 13) (by decide) (atL_t s5)
  refine zy_call (q2 := zi_4) (as := [.int (nI 1), .int (nI 20)]) (rest := [.ref 416, .ref 520]) hC hao (fun r0 h0 => by cases h0; exact hid) dX5_init_83 yLi_5_11 (Nat.le_of_ble_eq_true rfl) ⟨Nat.le_of_ble_eq_true rfl, Nat.le_of_ble_eq_true rfl, Nat.le_of_ble_eq_true rfl, Nat.le_of_ble_eq_true rfl⟩ M83 ?_
  rintro _ rfl
  refine zy_putF hC dX5_init_86 (zFi_5_32 rfl) rfl rfl hmn hid rfl rfl (Nat.le_of_ble_eq_true rfl) ?_
  refine zy_widen (k := 48) (n := 304) (Nat.le_of_ble_eq_true rfl) (Nat.le_of_ble_eq_true rfl) ?_
  refine zy_ret d0 hC dX5_init_89 rfl (by omega) rfl rfl (fun i hi => ?_)
  simp only [iTb1, tTb1, List.mem_cons, List.mem_append, List.not_mem_nil, or_false] at hi
  rcases hi with h | h | h | h | h | h | h
  · exact Or.inl h
  · exact Or.inr (List.mem_append_right _ (List.mem_append_right _ (List.mem_append_right _ (List.mem_append_right _ (List.mem_append_right _ (List.mem_append_left _ (yEn_m.mpr h)))))))
  · exact Or.inr (List.mem_append_right _ (List.mem_append_right _ (List.mem_append_right _ (List.mem_append_right _ (List.mem_append_left _ (yEn_m.mpr h))))))
  · exact Or.inr (List.mem_append_right _ (List.mem_append_right _ (List.mem_append_right _ (List.mem_append_left _ (yEn_m.mpr h)))))
  · exact Or.inr (List.mem_append_right _ (List.mem_append_right _ (List.mem_append_left _ (yEn_m.mpr h))))
  · exact Or.inr (List.mem_append_right _ (List.mem_append_left _ (yEn_m.mpr h)))
  · exact Or.inr (List.mem_append_left _ (yEn_m.mpr h))
def tGr1 : List Nat := (iRw 14) ++ ((iRw 15) ++ ([524, 526]))
def iGr1 : List Nat := 522 :: tGr1
theorem len_Gr1 : iGr1.length = 49 := by decide
theorem y_Gr1 (hat : atL ad sz tGr1) : yMet l D ad ca zi_2 2 48 582 522 (2, [.null, .null, .null, .null, .int 0, .int 0]) [] iGr1 (fun d => d = d0) sz := by
  refine y_met (by decide +kernel) rfl (Nat.le_of_ble_eq_true rfl) (by intro x hx; simp only [List.mem_cons, List.not_mem_nil, or_false] at hx; rw [hx]; rfl) rfl ?_
  intro p e s m args below meth c hC hao hmn hsz hid
  show zy _ _ _ _ _ _ 0 0 0 [some (.ref 522)] []
  unfold tGr1 at hat
  have s0 : atL ad (sz) (iRw 14) := atL_l hat
  have r0 := atL_r hat
  rw [show (iRw 14).length = 23 by decide] at r0
  have s1 : atL ad (sz + 23) (iRw 15) := atL_l r0
  have r1 := atL_r r0
  rw [show (iRw 15).length = 23 by decide] at r1
  have s2 : atL ad (sz + 46) [524, 526] := r1
  have A524 : ad 524 = sz + 46 := s2 0 524 rfl
  have A526 : ad 526 = sz + 47 := s2 1 526 rfl
  refine zy_aldn hC dX2_init_0 rfl ?_
  refine zy_obj hC dX2_init_1 iob_2 (Nat.le_of_ble_eq_true rfl) (Nat.le_of_ble_eq_true rfl) ?_
  refine zy_aldn hC dX2_init_4 rfl ?_
  have N5 : ad 448 = sz + 0 := atL_h s0
  refine zy_new (id := 448) (ci := 4) (N := 3) (fs := [.null, .null, .int 0]) hC dX2_init_5 (by decide) rfl icl_2_9 iin_4 iit_4 idf_4 N5 (Nat.le_of_ble_eq_true rfl) (Nat.le_of_ble_eq_true rfl) ?_
  refine zy_dupr hC dX2_init_8 ?_
  refine zy_bpsh (v := nI 20) hC dX2_init_9 (by decide) ?_
  refine zy_bpsh (v := nI 12) hC dX2_init_11 (by decide) ?_
  have M13 : yMet l D ad ca zi_4 1 22 280 448 (4, [.null, .null, .int 0]) [.int (nI 20), .int (nI 12)] (iRw 14) (fun d => d = d0) (sz + 1) := y_Rows (r := 14) (by decide) (atL_t s0)
  refine zy_call (q2 := zi_4) (as := [.int (nI 20), .int (nI 12)]) (rest := [.ref 448, .ref 522]) hC hao (fun r0 h0 => by cases h0; exact hid) dX2_init_13 yLi_2_11 (Nat.le_of_ble_eq_true rfl) ⟨Nat.le_of_ble_eq_true rfl, Nat.le_of_ble_eq_true rfl, Nat.le_of_ble_eq_true rfl, Nat.le_of_ble_eq_true rfl⟩ M13 ?_
  rintro _ rfl
  refine zy_putF hC dX2_init_16 (zFi_2_14 rfl) rfl rfl hmn hid rfl rfl (Nat.le_of_ble_eq_true rfl) ?_
  refine zy_aldn hC dX2_init_19 rfl ?_
  have N20 : ad 480 = sz + 23 := atL_h s1
  refine zy_new (id := 480) (ci := 4) (N := 3) (fs := [.null, .null, .int 0]) hC dX2_init_20 (by decide) rfl icl_2_9 iin_4 iit_4 idf_4 N20 (Nat.le_of_ble_eq_true rfl) (Nat.le_of_ble_eq_true rfl) ?_
  refine zy_dupr hC dX2_init_23 ?_
  refine zy_bpsh (v := nI 20) hC dX2_init_24 (by decide) ?_
  refine zy_bpsh (v := nI 12) hC dX2_init_26 (by decide) ?_
  have M28 : yMet l D ad ca zi_4 1 22 280 480 (4, [.null, .null, .int 0]) [.int (nI 20), .int (nI 12)] (iRw 15) (fun d => d = d0) (sz + 24) := y_Rows (r := 15) (by decide) (atL_t s1)
  refine zy_call (q2 := zi_4) (as := [.int (nI 20), .int (nI 12)]) (rest := [.ref 480, .ref 522]) hC hao (fun r0 h0 => by cases h0; exact hid) dX2_init_28 yLi_2_11 (Nat.le_of_ble_eq_true rfl) ⟨Nat.le_of_ble_eq_true rfl, Nat.le_of_ble_eq_true rfl, Nat.le_of_ble_eq_true rfl, Nat.le_of_ble_eq_true rfl⟩ M28 ?_
  rintro _ rfl
  refine zy_putF hC dX2_init_31 (zFi_2_20 rfl) rfl rfl hmn hid rfl rfl (Nat.le_of_ble_eq_true rfl) ?_
  refine zy_aldn hC dX2_init_34 rfl ?_
  refine zy_bpsh (v := nI 8) hC dX2_init_35 (by decide) ?_
  refine zy_newa (id := 524) (N := 8) (kt := 0) (a0 := (8, .inl (fun _ => 0))) hC dX2_init_37 rfl ar_i rfl (fun C h => by cases h) A524 (Nat.le_of_ble_eq_true rfl) (by decide) rfl (fun cA => rfl) (Nat.le_of_ble_eq_true rfl) (Nat.le_of_ble_eq_true rfl) ?_
  refine zy_putF hC dX2_init_39 (zFi_2_23 rfl) rfl rfl hmn hid rfl rfl (Nat.le_of_ble_eq_true rfl) ?_
  refine zy_aldn hC dX2_init_42 rfl ?_
  refine zy_bpsh (v := nI 8) hC dX2_init_43 (by decide) ?_
  refine zy_newa (id := 526) (N := 8) (kt := 1) (a0 := (8, .inl (fun _ => 0))) hC dX2_init_45 rfl ar_b rfl (fun C h => by cases h) A526 (Nat.le_of_ble_eq_true rfl) (by decide) rfl (fun cA => rfl) (Nat.le_of_ble_eq_true rfl) (Nat.le_of_ble_eq_true rfl) ?_
  refine zy_putF hC dX2_init_47 (zFi_2_27 rfl) rfl rfl hmn hid rfl rfl (Nat.le_of_ble_eq_true rfl) ?_
  refine zy_widen (k := 48) (n := 582) (Nat.le_of_ble_eq_true rfl) (Nat.le_of_ble_eq_true rfl) ?_
  refine zy_ret d0 hC dX2_init_50 rfl (by omega) rfl rfl (fun i hi => ?_)
  simp only [iGr1, tGr1, List.mem_cons, List.mem_append, List.not_mem_nil, or_false] at hi
  rcases hi with h | h | h | h | h
  · exact Or.inl h
  · exact Or.inr (List.mem_cons_of_mem _ (List.mem_cons_of_mem _ (List.mem_append_right _ (List.mem_append_left _ (yEn_m.mpr h)))))
  · exact Or.inr (List.mem_cons_of_mem _ (List.mem_cons_of_mem _ (List.mem_append_left _ (yEn_m.mpr h))))
  · right; rw [h]; exact List.mem_cons_of_mem _ (List.mem_cons_self)
  · right; rw [h]; exact List.mem_cons_self
def tWr : List Nat := iBt515 ++ (iTb0 ++ (iGr0))
def iWr : List Nat := 513 :: tWr
theorem len_Wr : iWr.length = 101 := by decide
theorem y_Wr (hat : atL ad sz tWr) : yMet l D ad ca zi_6 3 100 4900 513 (6, [.null, .null, .null]) [] iWr (fun d => d = d0) sz := by
  refine y_met (by decide +kernel) rfl (Nat.le_of_ble_eq_true rfl) (by intro x hx; simp only [List.mem_cons, List.not_mem_nil, or_false] at hx; rw [hx]; rfl) rfl ?_
  intro p e s m args below meth c hC hao hmn hsz hid
  show zy _ _ _ _ _ _ 0 0 0 [some (.ref 513)] []
  unfold tWr at hat
  have s0 : atL ad (sz) (iBt515) := atL_l hat
  have r0 := atL_r hat
  rw [show (iBt515).length = 2 by decide] at r0
  have s1 : atL ad (sz + 2) (iTb0) := atL_l r0
  have r1 := atL_r r0
  rw [show (iTb0).length = 49 by decide] at r1
  have s2 : atL ad (sz + 51) (iGr0) := r1
  refine zy_aldn hC dX6_init_0 rfl ?_
  refine zy_obj hC dX6_init_1 iob_6 (Nat.le_of_ble_eq_true rfl) (Nat.le_of_ble_eq_true rfl) ?_
  refine zy_aldn hC dX6_init_4 rfl ?_
  have N5 : ad 515 = sz + 0 := atL_h s0
  refine zy_new (id := 515) (ci := 0) (N := 2) (fs := [.null, .int 0]) hC dX6_init_5 (by decide) rfl icl_6_9 iin_0 iit_0 idf_0 N5 (Nat.le_of_ble_eq_true rfl) (Nat.le_of_ble_eq_true rfl) ?_
  refine zy_dupr hC dX6_init_8 ?_
  have M9 : yMet l D ad ca zi_0 1 1 4000 515 (0, [.null, .int 0]) [] (iBt515) (fun d => d = d0) (sz + 1) := y_Bt515 (atL_t s0)
  refine zy_call (q2 := zi_0) (as := []) (rest := [.ref 515, .ref 513]) hC hao (fun r0 h0 => by cases h0; exact hid) dX6_init_9 yLi_6_11 (Nat.le_of_ble_eq_true rfl) ⟨Nat.le_of_ble_eq_true rfl, Nat.le_of_ble_eq_true rfl, Nat.le_of_ble_eq_true rfl, Nat.le_of_ble_eq_true rfl⟩ M9 ?_
  rintro _ rfl
  refine zy_putF hC dX6_init_12 (zFi_6_12 rfl) rfl rfl hmn hid rfl rfl (Nat.le_of_ble_eq_true rfl) ?_
  refine zy_aldn hC dX6_init_15 rfl ?_
  have N16 : ad 519 = sz + 2 := atL_h s1
  refine zy_new (id := 519) (ci := 5) (N := 6) (fs := [.null, .null, .null, .null, .null, .null]) hC dX6_init_16 (by decide) rfl icl_6_18 iin_5 iit_5 idf_5 N16 (Nat.le_of_ble_eq_true rfl) (Nat.le_of_ble_eq_true rfl) ?_
  refine zy_dupr hC dX6_init_19 ?_
  have M20 : yMet l D ad ca zi_5 2 48 304 519 (5, [.null, .null, .null, .null, .null, .null]) [] (iTb0) (fun d => d = d0) (sz + 3) := y_Tb0 (atL_t s1)
  refine zy_call (q2 := zi_5) (as := []) (rest := [.ref 519, .ref 513]) hC hao (fun r0 h0 => by cases h0; exact hid) dX6_init_20 yLi_6_20 (Nat.le_of_ble_eq_true rfl) ⟨Nat.le_of_ble_eq_true rfl, Nat.le_of_ble_eq_true rfl, Nat.le_of_ble_eq_true rfl, Nat.le_of_ble_eq_true rfl⟩ M20 ?_
  rintro _ rfl
  refine zy_putF hC dX6_init_23 (zFi_6_21 rfl) rfl rfl hmn hid rfl rfl (Nat.le_of_ble_eq_true rfl) ?_
  refine zy_aldn hC dX6_init_26 rfl ?_
  have N27 : ad 521 = sz + 51 := atL_h s2
  refine zy_new (id := 521) (ci := 2) (N := 6) (fs := [.null, .null, .null, .null, .int 0, .int 0]) hC dX6_init_27 (by decide) rfl icl_6_25 iin_2 iit_2 idf_2 N27 (Nat.le_of_ble_eq_true rfl) (Nat.le_of_ble_eq_true rfl) ?_
  refine zy_dupr hC dX6_init_30 ?_
  have M31 : yMet l D ad ca zi_2 2 48 582 521 (2, [.null, .null, .null, .null, .int 0, .int 0]) [] (iGr0) (fun d => d = d0) (sz + 52) := y_Gr0 (atL_t s2)
  refine zy_call (q2 := zi_2) (as := []) (rest := [.ref 521, .ref 513]) hC hao (fun r0 h0 => by cases h0; exact hid) dX6_init_31 yLi_6_27 (Nat.le_of_ble_eq_true rfl) ⟨Nat.le_of_ble_eq_true rfl, Nat.le_of_ble_eq_true rfl, Nat.le_of_ble_eq_true rfl, Nat.le_of_ble_eq_true rfl⟩ M31 ?_
  rintro _ rfl
  refine zy_putF hC dX6_init_34 (zFi_6_28 rfl) rfl rfl hmn hid rfl rfl (Nat.le_of_ble_eq_true rfl) ?_
  refine zy_widen (k := 100) (n := 4900) (Nat.le_of_ble_eq_true rfl) (Nat.le_of_ble_eq_true rfl) ?_
  refine zy_ret d0 hC dX6_init_37 rfl (by omega) rfl rfl (fun i hi => ?_)
  simp only [iWr, tWr, List.mem_cons, List.mem_append, List.not_mem_nil, or_false] at hi
  rcases hi with h | h | h | h
  · exact Or.inl h
  · exact Or.inr (List.mem_append_right _ (List.mem_append_right _ (List.mem_append_left _ (yEn_m.mpr h))))
  · exact Or.inr (List.mem_append_right _ (List.mem_append_left _ (yEn_m.mpr h)))
  · exact Or.inr (List.mem_append_left _ (yEn_m.mpr h))
def tRd : List Nat := iBt517 ++ (iEv ++ (iTb1 ++ (iGr1)))
def iRd : List Nat := 514 :: tRd
theorem len_Rd : iRd.length = 107 := by decide
theorem y_Rd (hat : atL ad sz tRd) : yMet l D ad ca zi_3 3 106 5706 514 (3, [.null, .null, .null, .null, .int 0]) [] iRd (fun d => d = d0) sz := by
  refine y_met (by decide +kernel) rfl (Nat.le_of_ble_eq_true rfl) (by intro x hx; simp only [List.mem_cons, List.not_mem_nil, or_false] at hx; rw [hx]; rfl) rfl ?_
  intro p e s m args below meth c hC hao hmn hsz hid
  show zy _ _ _ _ _ _ 0 0 0 [some (.ref 514)] []
  unfold tRd at hat
  have s0 : atL ad (sz) (iBt517) := atL_l hat
  have r0 := atL_r hat
  rw [show (iBt517).length = 2 by decide] at r0
  have s1 : atL ad (sz + 2) (iEv) := atL_l r0
  have r1 := atL_r r0
  rw [show (iEv).length = 6 by decide] at r1
  have s2 : atL ad (sz + 8) (iTb1) := atL_l r1
  have r2 := atL_r r1
  rw [show (iTb1).length = 49 by decide] at r2
  have s3 : atL ad (sz + 57) (iGr1) := r2
  refine zy_aldn hC dX3_init_0 rfl ?_
  refine zy_obj hC dX3_init_1 iob_3 (Nat.le_of_ble_eq_true rfl) (Nat.le_of_ble_eq_true rfl) ?_
  refine zy_aldn hC dX3_init_4 rfl ?_
  have N5 : ad 517 = sz + 0 := atL_h s0
  refine zy_new (id := 517) (ci := 0) (N := 2) (fs := [.null, .int 0]) hC dX3_init_5 (by decide) rfl icl_3_9 iin_0 iit_0 idf_0 N5 (Nat.le_of_ble_eq_true rfl) (Nat.le_of_ble_eq_true rfl) ?_
  refine zy_dupr hC dX3_init_8 ?_
  have M9 : yMet l D ad ca zi_0 1 1 4000 517 (0, [.null, .int 0]) [] (iBt517) (fun d => d = d0) (sz + 1) := y_Bt517 (atL_t s0)
  refine zy_call (q2 := zi_0) (as := []) (rest := [.ref 517, .ref 514]) hC hao (fun r0 h0 => by cases h0; exact hid) dX3_init_9 yLi_3_11 (Nat.le_of_ble_eq_true rfl) ⟨Nat.le_of_ble_eq_true rfl, Nat.le_of_ble_eq_true rfl, Nat.le_of_ble_eq_true rfl, Nat.le_of_ble_eq_true rfl⟩ M9 ?_
  rintro _ rfl
  refine zy_putF hC dX3_init_12 (zFi_3_12 rfl) rfl rfl hmn hid rfl rfl (Nat.le_of_ble_eq_true rfl) ?_
  refine zy_aldn hC dX3_init_15 rfl ?_
  have N16 : ad 527 = sz + 2 := atL_h s1
  refine zy_new (id := 527) (ci := 1) (N := 2) (fs := [.null, .int 0]) hC dX3_init_16 (by decide) rfl icl_3_18 iin_1 iit_1 idf_1 N16 (Nat.le_of_ble_eq_true rfl) (Nat.le_of_ble_eq_true rfl) ?_
  refine zy_dupr hC dX3_init_19 ?_
  have M20 : yMet l D ad ca zi_1 1 5 804 527 (1, [.null, .int 0]) [] (iEv) (fun d => d = d0) (sz + 3) := y_Ev (atL_t s1)
  refine zy_call (q2 := zi_1) (as := []) (rest := [.ref 527, .ref 514]) hC hao (fun r0 h0 => by cases h0; exact hid) dX3_init_20 yLi_3_20 (Nat.le_of_ble_eq_true rfl) ⟨Nat.le_of_ble_eq_true rfl, Nat.le_of_ble_eq_true rfl, Nat.le_of_ble_eq_true rfl, Nat.le_of_ble_eq_true rfl⟩ M20 ?_
  rintro _ rfl
  refine zy_putF hC dX3_init_23 (zFi_3_21 rfl) rfl rfl hmn hid rfl rfl (Nat.le_of_ble_eq_true rfl) ?_
  refine zy_aldn hC dX3_init_26 rfl ?_
  have N27 : ad 520 = sz + 8 := atL_h s2
  refine zy_new (id := 520) (ci := 5) (N := 6) (fs := [.null, .null, .null, .null, .null, .null]) hC dX3_init_27 (by decide) rfl icl_3_25 iin_5 iit_5 idf_5 N27 (Nat.le_of_ble_eq_true rfl) (Nat.le_of_ble_eq_true rfl) ?_
  refine zy_dupr hC dX3_init_30 ?_
  have M31 : yMet l D ad ca zi_5 2 48 304 520 (5, [.null, .null, .null, .null, .null, .null]) [] (iTb1) (fun d => d = d0) (sz + 9) := y_Tb1 (atL_t s2)
  refine zy_call (q2 := zi_5) (as := []) (rest := [.ref 520, .ref 514]) hC hao (fun r0 h0 => by cases h0; exact hid) dX3_init_31 yLi_3_27 (Nat.le_of_ble_eq_true rfl) ⟨Nat.le_of_ble_eq_true rfl, Nat.le_of_ble_eq_true rfl, Nat.le_of_ble_eq_true rfl, Nat.le_of_ble_eq_true rfl⟩ M31 ?_
  rintro _ rfl
  refine zy_putF hC dX3_init_34 (zFi_3_28 rfl) rfl rfl hmn hid rfl rfl (Nat.le_of_ble_eq_true rfl) ?_
  refine zy_aldn hC dX3_init_37 rfl ?_
  have N38 : ad 522 = sz + 57 := atL_h s3
  refine zy_new (id := 522) (ci := 2) (N := 6) (fs := [.null, .null, .null, .null, .int 0, .int 0]) hC dX3_init_38 (by decide) rfl icl_3_32 iin_2 iit_2 idf_2 N38 (Nat.le_of_ble_eq_true rfl) (Nat.le_of_ble_eq_true rfl) ?_
  refine zy_dupr hC dX3_init_41 ?_
  have M42 : yMet l D ad ca zi_2 2 48 582 522 (2, [.null, .null, .null, .null, .int 0, .int 0]) [] (iGr1) (fun d => d = d0) (sz + 58) := y_Gr1 (atL_t s3)
  refine zy_call (q2 := zi_2) (as := []) (rest := [.ref 522, .ref 514]) hC hao (fun r0 h0 => by cases h0; exact hid) dX3_init_42 yLi_3_34 (Nat.le_of_ble_eq_true rfl) ⟨Nat.le_of_ble_eq_true rfl, Nat.le_of_ble_eq_true rfl, Nat.le_of_ble_eq_true rfl, Nat.le_of_ble_eq_true rfl⟩ M42 ?_
  rintro _ rfl
  refine zy_putF hC dX3_init_45 (zFi_3_35 rfl) rfl rfl hmn hid rfl rfl (Nat.le_of_ble_eq_true rfl) ?_
  refine zy_widen (k := 106) (n := 5706) (Nat.le_of_ble_eq_true rfl) (Nat.le_of_ble_eq_true rfl) ?_
  refine zy_ret d0 hC dX3_init_48 rfl (by omega) rfl rfl (fun i hi => ?_)
  simp only [iRd, tRd, List.mem_cons, List.mem_append, List.not_mem_nil, or_false] at hi
  rcases hi with h | h | h | h | h
  · exact Or.inl h
  · exact Or.inr (List.mem_append_right _ (List.mem_append_right _ (List.mem_append_right _ (List.mem_append_left _ (yEn_m.mpr h)))))
  · exact Or.inr (List.mem_append_right _ (List.mem_append_right _ (List.mem_append_left _ (yEn_m.mpr h))))
  · exact Or.inr (List.mem_append_right _ (List.mem_append_left _ (yEn_m.mpr h)))
  · exact Or.inr (List.mem_append_left _ (yEn_m.mpr h))
end CT3
