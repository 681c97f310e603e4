/-! THE REFERENCE made; the class made. -/
section CT4
variable {l : Launch} {D : va_G} {ad : Nat → Nat} {ca : Nat → ClassId} {sz : Nat}
theorem cl_540 : ax_cl ad ca d0 540 = .inr (8, [.int 0, .ref (ad 542), .ref (ad 543), .ref (ad 544), .ref (ad 545), .ref (ad 546), .ref (ad 547), .ref (ad 548), .ref (ad 549), .ref (ad 550), .ref (ad 551), .ref (ad 552), .ref (ad 553), .ref (ad 554), .ref (ad 555), .ref (ad 556), .ref (ad 557), .ref (ad 558), .ref (ad 559), .int 0, .ref (ad 561), .int 0, .int 0, .int 0, .int 0, .ref (ad 566), .ref (ad 567), .ref (ad 568), .ref (ad 569), .int 0]) := by
  rw [ax_cl_obj (show ax_sh 540 = some (8 + 4, 30, _) from rfl)]
  simp [List.range, List.range.loop, ax_av, ax_cv, d0]
def tMo : List Nat := [542, 543, 544, 545, 546, 547, 548, 549, 550, 551, 552, 553, 554, 555, 556, 557, 558, 559, 561, 566, 567, 568, 569]
def iMo : List Nat := 540 :: tMo
theorem len_Mo : iMo.length = 24 := by decide
set_option maxHeartbeats 8000000 in
theorem y_Mo (hat : atL ad sz tMo) : yMet l D ad ca zi_8 1 23 11190 540 (8, [.int 0, .null, .null, .null, .null, .null, .null, .null, .null, .null, .null, .null, .null, .null, .null, .null, .null, .null, .null, .int 0, .null, .int 0, .int 0, .int 0, .int 0, .null, .null, .null, .null, .int 0]) [] iMo (fun d => d = d0) sz := by
  refine y_met (by decide +kernel) rfl (Nat.le_of_ble_eq_true rfl) (by intro x hx; simp only [List.mem_cons, List.not_mem_nil, or_false] at hx; rw [hx]; rfl) rfl ?_
  intro p e s m args below meth c hC hao hmn hsz hid
  show zy _ _ _ _ _ _ 0 0 0 [some (.ref 540)] []
  unfold tMo at hat
  have s0 : atL ad (sz) [542, 543, 544, 545, 546, 547, 548, 549, 550, 551, 552, 553, 554, 555, 556, 557, 558, 559, 561, 566, 567, 568, 569] := hat
  have A542 : ad 542 = sz + 0 := s0 0 542 rfl
  have A543 : ad 543 = sz + 1 := s0 1 543 rfl
  have A544 : ad 544 = sz + 2 := s0 2 544 rfl
  have A545 : ad 545 = sz + 3 := s0 3 545 rfl
  have A546 : ad 546 = sz + 4 := s0 4 546 rfl
  have A547 : ad 547 = sz + 5 := s0 5 547 rfl
  have A548 : ad 548 = sz + 6 := s0 6 548 rfl
  have A549 : ad 549 = sz + 7 := s0 7 549 rfl
  have A550 : ad 550 = sz + 8 := s0 8 550 rfl
  have A551 : ad 551 = sz + 9 := s0 9 551 rfl
  have A552 : ad 552 = sz + 10 := s0 10 552 rfl
  have A553 : ad 553 = sz + 11 := s0 11 553 rfl
  have A554 : ad 554 = sz + 12 := s0 12 554 rfl
  have A555 : ad 555 = sz + 13 := s0 13 555 rfl
  have A556 : ad 556 = sz + 14 := s0 14 556 rfl
  have A557 : ad 557 = sz + 15 := s0 15 557 rfl
  have A558 : ad 558 = sz + 16 := s0 16 558 rfl
  have A559 : ad 559 = sz + 17 := s0 17 559 rfl
  have A561 : ad 561 = sz + 18 := s0 18 561 rfl
  have A566 : ad 566 = sz + 19 := s0 19 566 rfl
  have A567 : ad 567 = sz + 20 := s0 20 567 rfl
  have A568 : ad 568 = sz + 21 := s0 21 568 rfl
  have A569 : ad 569 = sz + 22 := s0 22 569 rfl
  refine zy_aldn hC dX8_init_0 rfl ?_
  refine zy_obj hC dX8_init_1 iob_8 (Nat.le_of_ble_eq_true rfl) (Nat.le_of_ble_eq_true rfl) ?_
  refine zy_aldn hC dX8_init_4 rfl ?_
  refine zy_icst (v := nI 2) hC dX8_init_5 (by decide) ?_
  refine zy_newa (id := 542) (N := 2) (kt := 0) (a0 := (2, .inl (fun _ => 0))) hC dX8_init_6 rfl ar_i rfl (fun C h => by cases h) A542 (Nat.le_of_ble_eq_true rfl) (by decide) rfl (fun cA => rfl) (Nat.le_of_ble_eq_true rfl) (Nat.le_of_ble_eq_true rfl) ?_
  refine zy_putF hC dX8_init_8 (zFi_8_7 rfl) rfl rfl hmn hid rfl rfl (Nat.le_of_ble_eq_true rfl) ?_
  show zy _ _ _ (8, [.int 0, .ref (ad 542), .null, .null, .null, .null, .null, .null, .null, .null, .null, .null, .null, .null, .null, .null, .null, .null, .null, .int 0, .null, .int 0, .int 0, .int 0, .int 0, .null, .null, .null, .null, .int 0]) _ _ _ _ _ _ _
  refine zy_aldn hC dX8_init_11 rfl ?_
  refine zy_bpsh (v := nI 12) hC dX8_init_12 (by decide) ?_
  refine zy_newa (id := 543) (N := 12) (kt := 0) (a0 := (12, .inl (fun _ => 0))) hC dX8_init_14 rfl ar_i rfl (fun C h => by cases h) A543 (Nat.le_of_ble_eq_true rfl) (by decide) rfl (fun cA => rfl) (Nat.le_of_ble_eq_true rfl) (Nat.le_of_ble_eq_true rfl) ?_
  refine zy_putF hC dX8_init_16 (zFi_8_13 rfl) rfl rfl hmn hid rfl rfl (Nat.le_of_ble_eq_true rfl) ?_
  show zy _ _ _ (8, [.int 0, .ref (ad 542), .ref (ad 543), .null, .null, .null, .null, .null, .null, .null, .null, .null, .null, .null, .null, .null, .null, .null, .null, .int 0, .null, .int 0, .int 0, .int 0, .int 0, .null, .null, .null, .null, .int 0]) _ _ _ _ _ _ _
  refine zy_aldn hC dX8_init_19 rfl ?_
  refine zy_bpsh (v := nI 12) hC dX8_init_20 (by decide) ?_
  refine zy_newa (id := 544) (N := 12) (kt := 0) (a0 := (12, .inl (fun _ => 0))) hC dX8_init_22 rfl ar_i rfl (fun C h => by cases h) A544 (Nat.le_of_ble_eq_true rfl) (by decide) rfl (fun cA => rfl) (Nat.le_of_ble_eq_true rfl) (Nat.le_of_ble_eq_true rfl) ?_
  refine zy_putF hC dX8_init_24 (zFi_8_16 rfl) rfl rfl hmn hid rfl rfl (Nat.le_of_ble_eq_true rfl) ?_
  show zy _ _ _ (8, [.int 0, .ref (ad 542), .ref (ad 543), .ref (ad 544), .null, .null, .null, .null, .null, .null, .null, .null, .null, .null, .null, .null, .null, .null, .null, .int 0, .null, .int 0, .int 0, .int 0, .int 0, .null, .null, .null, .null, .int 0]) _ _ _ _ _ _ _
  refine zy_aldn hC dX8_init_27 rfl ?_
  refine zy_bpsh (v := nI 120) hC dX8_init_28 (by decide) ?_
  refine zy_newa (id := 545) (N := 120) (kt := 0) (a0 := (120, .inl (fun _ => 0))) hC dX8_init_30 rfl ar_i rfl (fun C h => by cases h) A545 (Nat.le_of_ble_eq_true rfl) (by decide) rfl (fun cA => rfl) (Nat.le_of_ble_eq_true rfl) (Nat.le_of_ble_eq_true rfl) ?_
  refine zy_putF hC dX8_init_32 (zFi_8_19 rfl) rfl rfl hmn hid rfl rfl (Nat.le_of_ble_eq_true rfl) ?_
  show zy _ _ _ (8, [.int 0, .ref (ad 542), .ref (ad 543), .ref (ad 544), .ref (ad 545), .null, .null, .null, .null, .null, .null, .null, .null, .null, .null, .null, .null, .null, .null, .int 0, .null, .int 0, .int 0, .int 0, .int 0, .null, .null, .null, .null, .int 0]) _ _ _ _ _ _ _
  refine zy_aldn hC dX8_init_35 rfl ?_
  refine zy_icst (v := nI 2) hC dX8_init_36 (by decide) ?_
  refine zy_newa (id := 546) (N := 2) (kt := 0) (a0 := (2, .inl (fun _ => 0))) hC dX8_init_37 rfl ar_i rfl (fun C h => by cases h) A546 (Nat.le_of_ble_eq_true rfl) (by decide) rfl (fun cA => rfl) (Nat.le_of_ble_eq_true rfl) (Nat.le_of_ble_eq_true rfl) ?_
  refine zy_putF hC dX8_init_39 (zFi_8_22 rfl) rfl rfl hmn hid rfl rfl (Nat.le_of_ble_eq_true rfl) ?_
  show zy _ _ _ (8, [.int 0, .ref (ad 542), .ref (ad 543), .ref (ad 544), .ref (ad 545), .ref (ad 546), .null, .null, .null, .null, .null, .null, .null, .null, .null, .null, .null, .null, .null, .int 0, .null, .int 0, .int 0, .int 0, .int 0, .null, .null, .null, .null, .int 0]) _ _ _ _ _ _ _
  refine zy_aldn hC dX8_init_42 rfl ?_
  refine zy_bpsh (v := nI 40) hC dX8_init_43 (by decide) ?_
  refine zy_newa (id := 547) (N := 40) (kt := 0) (a0 := (40, .inl (fun _ => 0))) hC dX8_init_45 rfl ar_i rfl (fun C h => by cases h) A547 (Nat.le_of_ble_eq_true rfl) (by decide) rfl (fun cA => rfl) (Nat.le_of_ble_eq_true rfl) (Nat.le_of_ble_eq_true rfl) ?_
  refine zy_putF hC dX8_init_47 (zFi_8_25 rfl) rfl rfl hmn hid rfl rfl (Nat.le_of_ble_eq_true rfl) ?_
  show zy _ _ _ (8, [.int 0, .ref (ad 542), .ref (ad 543), .ref (ad 544), .ref (ad 545), .ref (ad 546), .ref (ad 547), .null, .null, .null, .null, .null, .null, .null, .null, .null, .null, .null, .null, .int 0, .null, .int 0, .int 0, .int 0, .int 0, .null, .null, .null, .null, .int 0]) _ _ _ _ _ _ _
  refine zy_aldn hC dX8_init_50 rfl ?_
  refine zy_bpsh (v := nI 40) hC dX8_init_51 (by decide) ?_
  refine zy_newa (id := 548) (N := 40) (kt := 0) (a0 := (40, .inl (fun _ => 0))) hC dX8_init_53 rfl ar_i rfl (fun C h => by cases h) A548 (Nat.le_of_ble_eq_true rfl) (by decide) rfl (fun cA => rfl) (Nat.le_of_ble_eq_true rfl) (Nat.le_of_ble_eq_true rfl) ?_
  refine zy_putF hC dX8_init_55 (zFi_8_28 rfl) rfl rfl hmn hid rfl rfl (Nat.le_of_ble_eq_true rfl) ?_
  show zy _ _ _ (8, [.int 0, .ref (ad 542), .ref (ad 543), .ref (ad 544), .ref (ad 545), .ref (ad 546), .ref (ad 547), .ref (ad 548), .null, .null, .null, .null, .null, .null, .null, .null, .null, .null, .null, .int 0, .null, .int 0, .int 0, .int 0, .int 0, .null, .null, .null, .null, .int 0]) _ _ _ _ _ _ _
  refine zy_aldn hC dX8_init_58 rfl ?_
  refine zy_bpsh (v := nI 40) hC dX8_init_59 (by decide) ?_
  refine zy_newa (id := 549) (N := 40) (kt := 0) (a0 := (40, .inl (fun _ => 0))) hC dX8_init_61 rfl ar_i rfl (fun C h => by cases h) A549 (Nat.le_of_ble_eq_true rfl) (by decide) rfl (fun cA => rfl) (Nat.le_of_ble_eq_true rfl) (Nat.le_of_ble_eq_true rfl) ?_
  refine zy_putF hC dX8_init_63 (zFi_8_31 rfl) rfl rfl hmn hid rfl rfl (Nat.le_of_ble_eq_true rfl) ?_
  show zy _ _ _ (8, [.int 0, .ref (ad 542), .ref (ad 543), .ref (ad 544), .ref (ad 545), .ref (ad 546), .ref (ad 547), .ref (ad 548), .ref (ad 549), .null, .null, .null, .null, .null, .null, .null, .null, .null, .null, .int 0, .null, .int 0, .int 0, .int 0, .int 0, .null, .null, .null, .null, .int 0]) _ _ _ _ _ _ _
  refine zy_aldn hC dX8_init_66 rfl ?_
  refine zy_spsh (v := nI 200) hC dX8_init_67 (by decide) ?_
  refine zy_newa (id := 550) (N := 200) (kt := 0) (a0 := (200, .inl (fun _ => 0))) hC dX8_init_70 rfl ar_i rfl (fun C h => by cases h) A550 (Nat.le_of_ble_eq_true rfl) (by decide) rfl (fun cA => rfl) (Nat.le_of_ble_eq_true rfl) (Nat.le_of_ble_eq_true rfl) ?_
  refine zy_putF hC dX8_init_72 (zFi_8_34 rfl) rfl rfl hmn hid rfl rfl (Nat.le_of_ble_eq_true rfl) ?_
  show zy _ _ _ (8, [.int 0, .ref (ad 542), .ref (ad 543), .ref (ad 544), .ref (ad 545), .ref (ad 546), .ref (ad 547), .ref (ad 548), .ref (ad 549), .ref (ad 550), .null, .null, .null, .null, .null, .null, .null, .null, .null, .int 0, .null, .int 0, .int 0, .int 0, .int 0, .null, .null, .null, .null, .int 0]) _ _ _ _ _ _ _
  refine zy_aldn hC dX8_init_75 rfl ?_
  refine zy_icst (v := nI 2) hC dX8_init_76 (by decide) ?_
  refine zy_newa (id := 551) (N := 2) (kt := 0) (a0 := (2, .inl (fun _ => 0))) hC dX8_init_77 rfl ar_i rfl (fun C h => by cases h) A551 (Nat.le_of_ble_eq_true rfl) (by decide) rfl (fun cA => rfl) (Nat.le_of_ble_eq_true rfl) (Nat.le_of_ble_eq_true rfl) ?_
  refine zy_putF hC dX8_init_79 (zFi_8_37 rfl) rfl rfl hmn hid rfl rfl (Nat.le_of_ble_eq_true rfl) ?_
  show zy _ _ _ (8, [.int 0, .ref (ad 542), .ref (ad 543), .ref (ad 544), .ref (ad 545), .ref (ad 546), .ref (ad 547), .ref (ad 548), .ref (ad 549), .ref (ad 550), .ref (ad 551), .null, .null, .null, .null, .null, .null, .null, .null, .int 0, .null, .int 0, .int 0, .int 0, .int 0, .null, .null, .null, .null, .int 0]) _ _ _ _ _ _ _
  refine zy_aldn hC dX8_init_82 rfl ?_
  refine zy_bpsh (v := nI 40) hC dX8_init_83 (by decide) ?_
  refine zy_newa (id := 552) (N := 40) (kt := 0) (a0 := (40, .inl (fun _ => 0))) hC dX8_init_85 rfl ar_i rfl (fun C h => by cases h) A552 (Nat.le_of_ble_eq_true rfl) (by decide) rfl (fun cA => rfl) (Nat.le_of_ble_eq_true rfl) (Nat.le_of_ble_eq_true rfl) ?_
  refine zy_putF hC dX8_init_87 (zFi_8_40 rfl) rfl rfl hmn hid rfl rfl (Nat.le_of_ble_eq_true rfl) ?_
  show zy _ _ _ (8, [.int 0, .ref (ad 542), .ref (ad 543), .ref (ad 544), .ref (ad 545), .ref (ad 546), .ref (ad 547), .ref (ad 548), .ref (ad 549), .ref (ad 550), .ref (ad 551), .ref (ad 552), .null, .null, .null, .null, .null, .null, .null, .int 0, .null, .int 0, .int 0, .int 0, .int 0, .null, .null, .null, .null, .int 0]) _ _ _ _ _ _ _
  refine zy_aldn hC dX8_init_90 rfl ?_
  refine zy_bpsh (v := nI 80) hC dX8_init_91 (by decide) ?_
  refine zy_newa (id := 553) (N := 80) (kt := 0) (a0 := (80, .inl (fun _ => 0))) hC dX8_init_93 rfl ar_i rfl (fun C h => by cases h) A553 (Nat.le_of_ble_eq_true rfl) (by decide) rfl (fun cA => rfl) (Nat.le_of_ble_eq_true rfl) (Nat.le_of_ble_eq_true rfl) ?_
  refine zy_putF hC dX8_init_95 (zFi_8_43 rfl) rfl rfl hmn hid rfl rfl (Nat.le_of_ble_eq_true rfl) ?_
  show zy _ _ _ (8, [.int 0, .ref (ad 542), .ref (ad 543), .ref (ad 544), .ref (ad 545), .ref (ad 546), .ref (ad 547), .ref (ad 548), .ref (ad 549), .ref (ad 550), .ref (ad 551), .ref (ad 552), .ref (ad 553), .null, .null, .null, .null, .null, .null, .int 0, .null, .int 0, .int 0, .int 0, .int 0, .null, .null, .null, .null, .int 0]) _ _ _ _ _ _ _
  refine zy_aldn hC dX8_init_98 rfl ?_
  refine zy_spsh (v := nI 960) hC dX8_init_99 (by decide) ?_
  refine zy_newa (id := 554) (N := 960) (kt := 0) (a0 := (960, .inl (fun _ => 0))) hC dX8_init_102 rfl ar_i rfl (fun C h => by cases h) A554 (Nat.le_of_ble_eq_true rfl) (by decide) rfl (fun cA => rfl) (Nat.le_of_ble_eq_true rfl) (Nat.le_of_ble_eq_true rfl) ?_
  refine zy_putF hC dX8_init_104 (zFi_8_46 rfl) rfl rfl hmn hid rfl rfl (Nat.le_of_ble_eq_true rfl) ?_
  show zy _ _ _ (8, [.int 0, .ref (ad 542), .ref (ad 543), .ref (ad 544), .ref (ad 545), .ref (ad 546), .ref (ad 547), .ref (ad 548), .ref (ad 549), .ref (ad 550), .ref (ad 551), .ref (ad 552), .ref (ad 553), .ref (ad 554), .null, .null, .null, .null, .null, .int 0, .null, .int 0, .int 0, .int 0, .int 0, .null, .null, .null, .null, .int 0]) _ _ _ _ _ _ _
  refine zy_aldn hC dX8_init_107 rfl ?_
  refine zy_icst (v := nI 2) hC dX8_init_108 (by decide) ?_
  refine zy_newa (id := 555) (N := 2) (kt := 0) (a0 := (2, .inl (fun _ => 0))) hC dX8_init_109 rfl ar_i rfl (fun C h => by cases h) A555 (Nat.le_of_ble_eq_true rfl) (by decide) rfl (fun cA => rfl) (Nat.le_of_ble_eq_true rfl) (Nat.le_of_ble_eq_true rfl) ?_
  refine zy_putF hC dX8_init_111 (zFi_8_49 rfl) rfl rfl hmn hid rfl rfl (Nat.le_of_ble_eq_true rfl) ?_
  show zy _ _ _ (8, [.int 0, .ref (ad 542), .ref (ad 543), .ref (ad 544), .ref (ad 545), .ref (ad 546), .ref (ad 547), .ref (ad 548), .ref (ad 549), .ref (ad 550), .ref (ad 551), .ref (ad 552), .ref (ad 553), .ref (ad 554), .ref (ad 555), .null, .null, .null, .null, .int 0, .null, .int 0, .int 0, .int 0, .int 0, .null, .null, .null, .null, .int 0]) _ _ _ _ _ _ _
  refine zy_aldn hC dX8_init_114 rfl ?_
  refine zy_bpsh (v := nI 16) hC dX8_init_115 (by decide) ?_
  refine zy_newa (id := 556) (N := 16) (kt := 0) (a0 := (16, .inl (fun _ => 0))) hC dX8_init_117 rfl ar_i rfl (fun C h => by cases h) A556 (Nat.le_of_ble_eq_true rfl) (by decide) rfl (fun cA => rfl) (Nat.le_of_ble_eq_true rfl) (Nat.le_of_ble_eq_true rfl) ?_
  refine zy_putF hC dX8_init_119 (zFi_8_52 rfl) rfl rfl hmn hid rfl rfl (Nat.le_of_ble_eq_true rfl) ?_
  show zy _ _ _ (8, [.int 0, .ref (ad 542), .ref (ad 543), .ref (ad 544), .ref (ad 545), .ref (ad 546), .ref (ad 547), .ref (ad 548), .ref (ad 549), .ref (ad 550), .ref (ad 551), .ref (ad 552), .ref (ad 553), .ref (ad 554), .ref (ad 555), .ref (ad 556), .null, .null, .null, .int 0, .null, .int 0, .int 0, .int 0, .int 0, .null, .null, .null, .null, .int 0]) _ _ _ _ _ _ _
  refine zy_aldn hC dX8_init_122 rfl ?_
  refine zy_bpsh (v := nI 16) hC dX8_init_123 (by decide) ?_
  refine zy_newa (id := 557) (N := 16) (kt := 1) (a0 := (16, .inl (fun _ => 0))) hC dX8_init_125 rfl ar_b rfl (fun C h => by cases h) A557 (Nat.le_of_ble_eq_true rfl) (by decide) rfl (fun cA => rfl) (Nat.le_of_ble_eq_true rfl) (Nat.le_of_ble_eq_true rfl) ?_
  refine zy_putF hC dX8_init_127 (zFi_8_55 rfl) rfl rfl hmn hid rfl rfl (Nat.le_of_ble_eq_true rfl) ?_
  show zy _ _ _ (8, [.int 0, .ref (ad 542), .ref (ad 543), .ref (ad 544), .ref (ad 545), .ref (ad 546), .ref (ad 547), .ref (ad 548), .ref (ad 549), .ref (ad 550), .ref (ad 551), .ref (ad 552), .ref (ad 553), .ref (ad 554), .ref (ad 555), .ref (ad 556), .ref (ad 557), .null, .null, .int 0, .null, .int 0, .int 0, .int 0, .int 0, .null, .null, .null, .null, .int 0]) _ _ _ _ _ _ _
  refine zy_aldn hC dX8_init_130 rfl ?_
  refine zy_icst (v := nI 2) hC dX8_init_131 (by decide) ?_
  refine zy_newa (id := 558) (N := 2) (kt := 1) (a0 := (2, .inl (fun _ => 0))) hC dX8_init_132 rfl ar_b rfl (fun C h => by cases h) A558 (Nat.le_of_ble_eq_true rfl) (by decide) rfl (fun cA => rfl) (Nat.le_of_ble_eq_true rfl) (Nat.le_of_ble_eq_true rfl) ?_
  refine zy_putF hC dX8_init_134 (zFi_8_59 rfl) rfl rfl hmn hid rfl rfl (Nat.le_of_ble_eq_true rfl) ?_
  show zy _ _ _ (8, [.int 0, .ref (ad 542), .ref (ad 543), .ref (ad 544), .ref (ad 545), .ref (ad 546), .ref (ad 547), .ref (ad 548), .ref (ad 549), .ref (ad 550), .ref (ad 551), .ref (ad 552), .ref (ad 553), .ref (ad 554), .ref (ad 555), .ref (ad 556), .ref (ad 557), .ref (ad 558), .null, .int 0, .null, .int 0, .int 0, .int 0, .int 0, .null, .null, .null, .null, .int 0]) _ _ _ _ _ _ _
  refine zy_aldn hC dX8_init_137 rfl ?_
  refine zy_spsh (v := nI 4400) hC dX8_init_138 (by decide) ?_
  refine zy_newa (id := 559) (N := 4400) (kt := 1) (a0 := (4400, .inl (fun _ => 0))) hC dX8_init_141 rfl ar_b rfl (fun C h => by cases h) A559 (Nat.le_of_ble_eq_true rfl) (by decide) rfl (fun cA => rfl) (Nat.le_of_ble_eq_true rfl) (Nat.le_of_ble_eq_true rfl) ?_
  refine zy_putF hC dX8_init_143 (zFi_8_62 rfl) rfl rfl hmn hid rfl rfl (Nat.le_of_ble_eq_true rfl) ?_
  show zy _ _ _ (8, [.int 0, .ref (ad 542), .ref (ad 543), .ref (ad 544), .ref (ad 545), .ref (ad 546), .ref (ad 547), .ref (ad 548), .ref (ad 549), .ref (ad 550), .ref (ad 551), .ref (ad 552), .ref (ad 553), .ref (ad 554), .ref (ad 555), .ref (ad 556), .ref (ad 557), .ref (ad 558), .ref (ad 559), .int 0, .null, .int 0, .int 0, .int 0, .int 0, .null, .null, .null, .null, .int 0]) _ _ _ _ _ _ _
  refine zy_aldn hC dX8_init_146 rfl ?_
  refine zy_spsh (v := nI 4400) hC dX8_init_147 (by decide) ?_
  refine zy_newa (id := 561) (N := 4400) (kt := 1) (a0 := (4400, .inl (fun _ => 0))) hC dX8_init_150 rfl ar_b rfl (fun C h => by cases h) A561 (Nat.le_of_ble_eq_true rfl) (by decide) rfl (fun cA => rfl) (Nat.le_of_ble_eq_true rfl) (Nat.le_of_ble_eq_true rfl) ?_
  refine zy_putF hC dX8_init_152 (zFi_8_65 rfl) rfl rfl hmn hid rfl rfl (Nat.le_of_ble_eq_true rfl) ?_
  show zy _ _ _ (8, [.int 0, .ref (ad 542), .ref (ad 543), .ref (ad 544), .ref (ad 545), .ref (ad 546), .ref (ad 547), .ref (ad 548), .ref (ad 549), .ref (ad 550), .ref (ad 551), .ref (ad 552), .ref (ad 553), .ref (ad 554), .ref (ad 555), .ref (ad 556), .ref (ad 557), .ref (ad 558), .ref (ad 559), .int 0, .ref (ad 561), .int 0, .int 0, .int 0, .int 0, .null, .null, .null, .null, .int 0]) _ _ _ _ _ _ _
  refine zy_aldn hC dX8_init_155 rfl ?_
  refine zy_spsh (v := nI 201) hC dX8_init_156 (by decide) ?_
  refine zy_newa (id := 566) (N := 201) (kt := 0) (a0 := (201, .inl (fun _ => 0))) hC dX8_init_159 rfl ar_i rfl (fun C h => by cases h) A566 (Nat.le_of_ble_eq_true rfl) (by decide) rfl (fun cA => rfl) (Nat.le_of_ble_eq_true rfl) (Nat.le_of_ble_eq_true rfl) ?_
  refine zy_putF hC dX8_init_161 (zFi_8_68 rfl) rfl rfl hmn hid rfl rfl (Nat.le_of_ble_eq_true rfl) ?_
  show zy _ _ _ (8, [.int 0, .ref (ad 542), .ref (ad 543), .ref (ad 544), .ref (ad 545), .ref (ad 546), .ref (ad 547), .ref (ad 548), .ref (ad 549), .ref (ad 550), .ref (ad 551), .ref (ad 552), .ref (ad 553), .ref (ad 554), .ref (ad 555), .ref (ad 556), .ref (ad 557), .ref (ad 558), .ref (ad 559), .int 0, .ref (ad 561), .int 0, .int 0, .int 0, .int 0, .ref (ad 566), .null, .null, .null, .int 0]) _ _ _ _ _ _ _
  refine zy_aldn hC dX8_init_164 rfl ?_
  refine zy_spsh (v := nI 201) hC dX8_init_165 (by decide) ?_
  refine zy_newa (id := 567) (N := 201) (kt := 0) (a0 := (201, .inl (fun _ => 0))) hC dX8_init_168 rfl ar_i rfl (fun C h => by cases h) A567 (Nat.le_of_ble_eq_true rfl) (by decide) rfl (fun cA => rfl) (Nat.le_of_ble_eq_true rfl) (Nat.le_of_ble_eq_true rfl) ?_
  refine zy_putF hC dX8_init_170 (zFi_8_71 rfl) rfl rfl hmn hid rfl rfl (Nat.le_of_ble_eq_true rfl) ?_
  show zy _ _ _ (8, [.int 0, .ref (ad 542), .ref (ad 543), .ref (ad 544), .ref (ad 545), .ref (ad 546), .ref (ad 547), .ref (ad 548), .ref (ad 549), .ref (ad 550), .ref (ad 551), .ref (ad 552), .ref (ad 553), .ref (ad 554), .ref (ad 555), .ref (ad 556), .ref (ad 557), .ref (ad 558), .ref (ad 559), .int 0, .ref (ad 561), .int 0, .int 0, .int 0, .int 0, .ref (ad 566), .ref (ad 567), .null, .null, .int 0]) _ _ _ _ _ _ _
  refine zy_aldn hC dX8_init_173 rfl ?_
  refine zy_spsh (v := nI 201) hC dX8_init_174 (by decide) ?_
  refine zy_newa (id := 568) (N := 201) (kt := 0) (a0 := (201, .inl (fun _ => 0))) hC dX8_init_177 rfl ar_i rfl (fun C h => by cases h) A568 (Nat.le_of_ble_eq_true rfl) (by decide) rfl (fun cA => rfl) (Nat.le_of_ble_eq_true rfl) (Nat.le_of_ble_eq_true rfl) ?_
  refine zy_putF hC dX8_init_179 (zFi_8_74 rfl) rfl rfl hmn hid rfl rfl (Nat.le_of_ble_eq_true rfl) ?_
  show zy _ _ _ (8, [.int 0, .ref (ad 542), .ref (ad 543), .ref (ad 544), .ref (ad 545), .ref (ad 546), .ref (ad 547), .ref (ad 548), .ref (ad 549), .ref (ad 550), .ref (ad 551), .ref (ad 552), .ref (ad 553), .ref (ad 554), .ref (ad 555), .ref (ad 556), .ref (ad 557), .ref (ad 558), .ref (ad 559), .int 0, .ref (ad 561), .int 0, .int 0, .int 0, .int 0, .ref (ad 566), .ref (ad 567), .ref (ad 568), .null, .int 0]) _ _ _ _ _ _ _
  refine zy_aldn hC dX8_init_182 rfl ?_
  refine zy_spsh (v := nI 201) hC dX8_init_183 (by decide) ?_
  refine zy_newa (id := 569) (N := 201) (kt := 0) (a0 := (201, .inl (fun _ => 0))) hC dX8_init_186 rfl ar_i rfl (fun C h => by cases h) A569 (Nat.le_of_ble_eq_true rfl) (by decide) rfl (fun cA => rfl) (Nat.le_of_ble_eq_true rfl) (Nat.le_of_ble_eq_true rfl) ?_
  refine zy_putF hC dX8_init_188 (zFi_8_77 rfl) rfl rfl hmn hid rfl rfl (Nat.le_of_ble_eq_true rfl) ?_
  show zy _ _ _ (8, [.int 0, .ref (ad 542), .ref (ad 543), .ref (ad 544), .ref (ad 545), .ref (ad 546), .ref (ad 547), .ref (ad 548), .ref (ad 549), .ref (ad 550), .ref (ad 551), .ref (ad 552), .ref (ad 553), .ref (ad 554), .ref (ad 555), .ref (ad 556), .ref (ad 557), .ref (ad 558), .ref (ad 559), .int 0, .ref (ad 561), .int 0, .int 0, .int 0, .int 0, .ref (ad 566), .ref (ad 567), .ref (ad 568), .ref (ad 569), .int 0]) _ _ _ _ _ _ _
  refine zy_widen (k := 23) (n := 11190) (Nat.le_of_ble_eq_true rfl) (Nat.le_of_ble_eq_true rfl) ?_
  refine zy_ret d0 hC dX8_init_191 rfl (by omega) rfl cl_540 (fun i hi => ?_)
  simp only [iMo, tMo, List.mem_cons, List.mem_append, List.not_mem_nil, or_false] at hi
  rcases hi with h | h | h | h | h | h | h | h | h | h | h | h | h | h | h | h | h | h | h | h | h | h | h | h
  · exact Or.inl h
  · right; rw [h]; exact List.mem_cons_of_mem _ (List.mem_cons_of_mem _ (List.mem_cons_of_mem _ (List.mem_cons_of_mem _ (List.mem_cons_of_mem _ (List.mem_cons_of_mem _ (List.mem_cons_of_mem _ (List.mem_cons_of_mem _ (List.mem_cons_of_mem _ (List.mem_cons_of_mem _ (List.mem_cons_of_mem _ (List.mem_cons_of_mem _ (List.mem_cons_of_mem _ (List.mem_cons_of_mem _ (List.mem_cons_of_mem _ (List.mem_cons_of_mem _ (List.mem_cons_of_mem _ (List.mem_cons_of_mem _ (List.mem_cons_of_mem _ (List.mem_cons_of_mem _ (List.mem_cons_of_mem _ (List.mem_cons_of_mem _ (List.mem_cons_self))))))))))))))))))))))
  · right; rw [h]; exact List.mem_cons_of_mem _ (List.mem_cons_of_mem _ (List.mem_cons_of_mem _ (List.mem_cons_of_mem _ (List.mem_cons_of_mem _ (List.mem_cons_of_mem _ (List.mem_cons_of_mem _ (List.mem_cons_of_mem _ (List.mem_cons_of_mem _ (List.mem_cons_of_mem _ (List.mem_cons_of_mem _ (List.mem_cons_of_mem _ (List.mem_cons_of_mem _ (List.mem_cons_of_mem _ (List.mem_cons_of_mem _ (List.mem_cons_of_mem _ (List.mem_cons_of_mem _ (List.mem_cons_of_mem _ (List.mem_cons_of_mem _ (List.mem_cons_of_mem _ (List.mem_cons_of_mem _ (List.mem_cons_self)))))))))))))))))))))
  · right; rw [h]; exact List.mem_cons_of_mem _ (List.mem_cons_of_mem _ (List.mem_cons_of_mem _ (List.mem_cons_of_mem _ (List.mem_cons_of_mem _ (List.mem_cons_of_mem _ (List.mem_cons_of_mem _ (List.mem_cons_of_mem _ (List.mem_cons_of_mem _ (List.mem_cons_of_mem _ (List.mem_cons_of_mem _ (List.mem_cons_of_mem _ (List.mem_cons_of_mem _ (List.mem_cons_of_mem _ (List.mem_cons_of_mem _ (List.mem_cons_of_mem _ (List.mem_cons_of_mem _ (List.mem_cons_of_mem _ (List.mem_cons_of_mem _ (List.mem_cons_of_mem _ (List.mem_cons_self))))))))))))))))))))
  · right; rw [h]; exact List.mem_cons_of_mem _ (List.mem_cons_of_mem _ (List.mem_cons_of_mem _ (List.mem_cons_of_mem _ (List.mem_cons_of_mem _ (List.mem_cons_of_mem _ (List.mem_cons_of_mem _ (List.mem_cons_of_mem _ (List.mem_cons_of_mem _ (List.mem_cons_of_mem _ (List.mem_cons_of_mem _ (List.mem_cons_of_mem _ (List.mem_cons_of_mem _ (List.mem_cons_of_mem _ (List.mem_cons_of_mem _ (List.mem_cons_of_mem _ (List.mem_cons_of_mem _ (List.mem_cons_of_mem _ (List.mem_cons_of_mem _ (List.mem_cons_self)))))))))))))))))))
  · right; rw [h]; exact List.mem_cons_of_mem _ (List.mem_cons_of_mem _ (List.mem_cons_of_mem _ (List.mem_cons_of_mem _ (List.mem_cons_of_mem _ (List.mem_cons_of_mem _ (List.mem_cons_of_mem _ (List.mem_cons_of_mem _ (List.mem_cons_of_mem _ (List.mem_cons_of_mem _ (List.mem_cons_of_mem _ (List.mem_cons_of_mem _ (List.mem_cons_of_mem _ (List.mem_cons_of_mem _ (List.mem_cons_of_mem _ (List.mem_cons_of_mem _ (List.mem_cons_of_mem _ (List.mem_cons_of_mem _ (List.mem_cons_self))))))))))))))))))
  · right; rw [h]; exact List.mem_cons_of_mem _ (List.mem_cons_of_mem _ (List.mem_cons_of_mem _ (List.mem_cons_of_mem _ (List.mem_cons_of_mem _ (List.mem_cons_of_mem _ (List.mem_cons_of_mem _ (List.mem_cons_of_mem _ (List.mem_cons_of_mem _ (List.mem_cons_of_mem _ (List.mem_cons_of_mem _ (List.mem_cons_of_mem _ (List.mem_cons_of_mem _ (List.mem_cons_of_mem _ (List.mem_cons_of_mem _ (List.mem_cons_of_mem _ (List.mem_cons_of_mem _ (List.mem_cons_self)))))))))))))))))
  · right; rw [h]; exact List.mem_cons_of_mem _ (List.mem_cons_of_mem _ (List.mem_cons_of_mem _ (List.mem_cons_of_mem _ (List.mem_cons_of_mem _ (List.mem_cons_of_mem _ (List.mem_cons_of_mem _ (List.mem_cons_of_mem _ (List.mem_cons_of_mem _ (List.mem_cons_of_mem _ (List.mem_cons_of_mem _ (List.mem_cons_of_mem _ (List.mem_cons_of_mem _ (List.mem_cons_of_mem _ (List.mem_cons_of_mem _ (List.mem_cons_of_mem _ (List.mem_cons_self))))))))))))))))
  · right; rw [h]; exact List.mem_cons_of_mem _ (List.mem_cons_of_mem _ (List.mem_cons_of_mem _ (List.mem_cons_of_mem _ (List.mem_cons_of_mem _ (List.mem_cons_of_mem _ (List.mem_cons_of_mem _ (List.mem_cons_of_mem _ (List.mem_cons_of_mem _ (List.mem_cons_of_mem _ (List.mem_cons_of_mem _ (List.mem_cons_of_mem _ (List.mem_cons_of_mem _ (List.mem_cons_of_mem _ (List.mem_cons_of_mem _ (List.mem_cons_self)))))))))))))))
  · right; rw [h]; exact List.mem_cons_of_mem _ (List.mem_cons_of_mem _ (List.mem_cons_of_mem _ (List.mem_cons_of_mem _ (List.mem_cons_of_mem _ (List.mem_cons_of_mem _ (List.mem_cons_of_mem _ (List.mem_cons_of_mem _ (List.mem_cons_of_mem _ (List.mem_cons_of_mem _ (List.mem_cons_of_mem _ (List.mem_cons_of_mem _ (List.mem_cons_of_mem _ (List.mem_cons_of_mem _ (List.mem_cons_self))))))))))))))
  · right; rw [h]; exact List.mem_cons_of_mem _ (List.mem_cons_of_mem _ (List.mem_cons_of_mem _ (List.mem_cons_of_mem _ (List.mem_cons_of_mem _ (List.mem_cons_of_mem _ (List.mem_cons_of_mem _ (List.mem_cons_of_mem _ (List.mem_cons_of_mem _ (List.mem_cons_of_mem _ (List.mem_cons_of_mem _ (List.mem_cons_of_mem _ (List.mem_cons_of_mem _ (List.mem_cons_self)))))))))))))
  · right; rw [h]; exact List.mem_cons_of_mem _ (List.mem_cons_of_mem _ (List.mem_cons_of_mem _ (List.mem_cons_of_mem _ (List.mem_cons_of_mem _ (List.mem_cons_of_mem _ (List.mem_cons_of_mem _ (List.mem_cons_of_mem _ (List.mem_cons_of_mem _ (List.mem_cons_of_mem _ (List.mem_cons_of_mem _ (List.mem_cons_of_mem _ (List.mem_cons_self))))))))))))
  · right; rw [h]; exact List.mem_cons_of_mem _ (List.mem_cons_of_mem _ (List.mem_cons_of_mem _ (List.mem_cons_of_mem _ (List.mem_cons_of_mem _ (List.mem_cons_of_mem _ (List.mem_cons_of_mem _ (List.mem_cons_of_mem _ (List.mem_cons_of_mem _ (List.mem_cons_of_mem _ (List.mem_cons_of_mem _ (List.mem_cons_self)))))))))))
  · right; rw [h]; exact List.mem_cons_of_mem _ (List.mem_cons_of_mem _ (List.mem_cons_of_mem _ (List.mem_cons_of_mem _ (List.mem_cons_of_mem _ (List.mem_cons_of_mem _ (List.mem_cons_of_mem _ (List.mem_cons_of_mem _ (List.mem_cons_of_mem _ (List.mem_cons_of_mem _ (List.mem_cons_self))))))))))
  · right; rw [h]; exact List.mem_cons_of_mem _ (List.mem_cons_of_mem _ (List.mem_cons_of_mem _ (List.mem_cons_of_mem _ (List.mem_cons_of_mem _ (List.mem_cons_of_mem _ (List.mem_cons_of_mem _ (List.mem_cons_of_mem _ (List.mem_cons_of_mem _ (List.mem_cons_self)))))))))
  · right; rw [h]; exact List.mem_cons_of_mem _ (List.mem_cons_of_mem _ (List.mem_cons_of_mem _ (List.mem_cons_of_mem _ (List.mem_cons_of_mem _ (List.mem_cons_of_mem _ (List.mem_cons_of_mem _ (List.mem_cons_of_mem _ (List.mem_cons_self))))))))
  · right; rw [h]; exact List.mem_cons_of_mem _ (List.mem_cons_of_mem _ (List.mem_cons_of_mem _ (List.mem_cons_of_mem _ (List.mem_cons_of_mem _ (List.mem_cons_of_mem _ (List.mem_cons_of_mem _ (List.mem_cons_self)))))))
  · right; rw [h]; exact List.mem_cons_of_mem _ (List.mem_cons_of_mem _ (List.mem_cons_of_mem _ (List.mem_cons_of_mem _ (List.mem_cons_of_mem _ (List.mem_cons_of_mem _ (List.mem_cons_self))))))
  · right; rw [h]; exact List.mem_cons_of_mem _ (List.mem_cons_of_mem _ (List.mem_cons_of_mem _ (List.mem_cons_of_mem _ (List.mem_cons_of_mem _ (List.mem_cons_self)))))
  · right; rw [h]; exact List.mem_cons_of_mem _ (List.mem_cons_of_mem _ (List.mem_cons_of_mem _ (List.mem_cons_of_mem _ (List.mem_cons_self))))
  · right; rw [h]; exact List.mem_cons_of_mem _ (List.mem_cons_of_mem _ (List.mem_cons_of_mem _ (List.mem_cons_self)))
  · right; rw [h]; exact List.mem_cons_of_mem _ (List.mem_cons_of_mem _ (List.mem_cons_self))
  · right; rw [h]; exact List.mem_cons_of_mem _ (List.mem_cons_self)
  · right; rw [h]; exact List.mem_cons_self
def tLC : List Nat := iWr ++ iRd
def iLC : List Nat := 512 :: tLC
def pLC (d1 : ax_D) : Prop := tb_is d1 0 t00 ∧ (∀ nm fl, gr_is d1 0 0 nm fl false) ∧ bt_is d1 515 [] ∧ we d0 d1
theorem iLC_all : ay_ids.all (fun i => iLC.contains i) = true := by decide +kernel
theorem iLC_lt : iLC.all (fun i => ay_ids.contains i) = true := by decide +kernel
theorem ay_nd : ay_ids.Nodup := by
  unfold ay_ids ax_ids
  exact (List.nodup_range.filter _).filter _
theorem iLC_in {i : Nat} (h : i ∈ ay_ids) : i ∈ iLC := List.contains_iff_mem.mp (List.all_eq_true.mp iLC_all i h)
theorem iLC_ay {i : Nat} (h : i ∈ iLC) : i ∈ ay_ids := List.contains_iff_mem.mp (List.all_eq_true.mp iLC_lt i h)
theorem at_inj {l : List Nat} (h : atL ad sz l) {i j : Nat} (hi : i ∈ l) (hj : j ∈ l) (e : ad i = ad j) : i = j := by
  obtain ⟨a, ha⟩ := List.getElem?_of_mem hi
  obtain ⟨b, hb⟩ := List.getElem?_of_mem hj
  have h1 := h a i ha
  have h2 := h b j hb
  have : a = b := by omega
  subst this
  exact Option.some.inj (ha.symm.trans hb)
theorem at_ge {l : List Nat} (h : atL ad sz l) {i : Nat} (hi : i ∈ l) : sz ≤ ad i := by
  obtain ⟨a, ha⟩ := List.getElem?_of_mem hi
  have := h a i ha
  omega
theorem va_S_mono {A B : Nat → Prop} {H0 H : Heap} {locs : List Loc} (h : va_S A H0 H locs) (hAB : ∀ q, A q → B q) : va_S B H0 H locs := ⟨h.1, fun q h1 h2 => h.2.1 q h1 (fun z => h2 (hAB q z)), fun x hx => hAB _ (h.2.2 x hx)⟩
theorem zW_sz {p : Program} {l : Launch} {e : Env} {R : Room} {s : State} {m : MethodId} {args : Array Value} {below : List Frame} {meth : Method} {c : Code} {H : Heap} {locs : List Loc} {cells slots : Nat} {Qt : State → Prop} {f : JFrame} (k : H.size ≤ s.heap.size + cells → W p l e R s m args below meth c H locs cells slots Qt f) : W p l e R s m args below meth c H locs cells slots Qt f := fun T hT X => k (by rw [← hT]; exact X.same.2.2.1) T hT X
set_option maxHeartbeats 1000000 in
theorem y_LCend {p : Program} {e : Env} {s : State} {m : MethodId} {args : Array Value} {below : List Frame} {meth : Method} {c : Code} {pw : PW} (hat : atL ad sz tLC) (hC : zC (zc9 p l e s m args below meth c D ad ca zi_7 4 208 10614 512 iLC pLC)) (hsz : s.heap.size = sz) (hid : ad 512 < s.heap.size) (hpw : ∀ i, i ∈ tLC → (i, ax_cl ad ca d0 i) ∈ pw) : zy (zc9 p l e s m args below meth c D ad ca zi_7 4 208 10614 512 iLC pLC) (some 512) (sz + 208) (7, [.ref (ad 513), .ref (ad 514)]) none pw 208 10614 26 [some (.ref 512)] [] := by
  intro H locs ls e1 e2 e3 e4 hS hL hl
  obtain ⟨hx, hb, hr, hml, hown, hts, hlocks, hK, hN⟩ := hC
  have hCC : ax_C p s m args meth c D ca zi_7 := ⟨hx, hb, hr, hml, hown, hts, hlocks, hK, hN⟩
  subst hsz
  have hroot : ax_cl ad ca d0 512 = .inr (7, [.ref (ad 513), .ref (ad 514)]) := rfl
  have hAt : ∀ i, i ∈ iLC → va_at D vwCl (ad i, ax_cl ad ca d0 i) H := fun i hi => by
    rcases List.mem_cons.mp hi with rfl | hi
    · rw [hroot]; exact e2 512 rfl
    · exact (e4 _ (hpw i hi)).2
  have hP : va_P D vwCl (ay_w ad ca d0) H := fun k q hk => by
    unfold ay_w at hk
    rw [List.getElem?_map] at hk
    cases h9 : ay_ids[k]? with
    | none => rw [h9] at hk; cases hk
    | some i =>
      rw [h9] at hk
      cases hk
      exact hAt i (iLC_in (List.mem_of_getElem? h9))
  have hinj : ∀ i j, i ∈ iLC → j ∈ iLC → ad i = ad j → i = j := fun i j hi hj e => by
    rcases List.mem_cons.mp hi with rfl | hi <;> rcases List.mem_cons.mp hj with rfl | hj
    · rfl
    · have := at_ge hat hj; omega
    · have := at_ge hat hi; omega
    · exact at_inj hat hi hj e
  have hD0 : va_D (fun _ => True) (ay_w ad ca d0) := ⟨fun i j x y hi hj hxy => by
    unfold ay_w at hi hj
    rw [List.getElem?_map] at hi hj
    cases h1 : ay_ids[i]? with
    | none => rw [h1] at hi; cases hi
    | some a =>
      cases h2 : ay_ids[j]? with
      | none => rw [h2] at hj; cases hj
      | some b =>
        rw [h1] at hi
        rw [h2] at hj
        cases hi
        cases hj
        have hab : a = b := hinj a b (iLC_in (List.mem_of_getElem? h1)) (iLC_in (List.mem_of_getElem? h2)) hxy
        subst hab
        exact (List.getElem?_inj (List.getElem?_eq_some_iff.mp h1).1 ay_nd).mp (h1.trans h2.symm), fun _ _ _ => trivial⟩
  have hA1 : ∀ q, yA ad (some 512) s.heap.size q → ay_A ad s.heap.size q := fun q hq => by
    rcases hq with ⟨r0, hr0, hr1⟩ | h
    · cases hr0; exact Or.inl ⟨512, iLC_ay List.mem_cons_self, hr1⟩
    · exact Or.inr h
  have hA2 : ∀ q, ay_A ad s.heap.size q → yA ad (some 512) s.heap.size q := fun q hq => by
    rcases hq with ⟨i, hi, hq⟩ | h
    · rcases List.mem_cons.mp (iLC_in hi) with rfl | hi
      · exact Or.inl ⟨512, rfl, hq⟩
      · exact Or.inr (by rw [hq]; exact at_ge hat hi)
    · exact Or.inr h
  have hSy := va_S_mono hS hA1
  show W p l e (yR 4 208 10614) s m args below meth c H locs 208 10614 _ (F0 m 26 ls [])
  refine lv_aload_n hx hb dX7_init_26 rfl (ax_lv_at hl (i := 0) (w := .ref 512) rfl rfl) ?_
  refine ay_get (id := 512) (a := 7) (b := 0) (n := 2) (d := d0) hCC (by decide) (by decide +kernel) ifm_7_10 hP (by decide) rfl (by decide) dX7_init_27 ?_
  have hok : ax_ok (ax_me 56) := ax_all _ (ax_me_in (by decide +kernel))
  have hM := ay_met (l := l) (D := D) (ad := ad) (ca := ca) (a := 56) (as := [.ref 513]) hok rfl (by intro x hx; simp only [List.mem_cons, List.not_mem_nil, or_false] at hx; rw [hx]; rfl) (fun x hx => by simp only [List.mem_cons, List.not_mem_nil, or_false] at hx; cases hx; decide) (ay_sound (sp_wbegin (d := d0))) H.size
  have hlk := zL7_23 (g := zc9 p l e s m args below meth c D ad ca zi_7 4 208 10614 512 iLC pLC) rfl
  have hwk : ax_wck (ax_me 56) := hok.2.2
  unfold ax_wck at hwk
  rw [if_pos hlk.2.1] at hwk
  have fa := ax_mfacts hok
  have hgood : GoodIn ax_TW (wsV (ax_y zi_7).cls 23 (ax_y (ax_me 56)).cls (ax_y (ax_me 56)) (ax_ws (ax_me 56))) := ax_TW_good (fun w hw => by
    unfold wsV at hw
    rcases List.mem_append.mp hw with h | h
    · simp only [List.mem_cons, List.not_mem_nil, or_false] at h
      rcases h with h | h | h | h <;> rw [h]
      · exact hlk.2.2
      · exact List.mem_filter.mpr ⟨hwk.1, rfl⟩
      · exact List.mem_filter.mpr ⟨hwk.2, rfl⟩
      · exact ax_ini_TW hok
    · exact ax_ws_TW hok w h)
  obtain ⟨k0, hk0, hwk2⟩ := ay_w_get ad ca d0 (i := 513) (q := (10, 3, ax_of [.inl 515, .inl 519, .inl 521])) rfl (by decide)
  have hrec := va_recv hK hP (ax_rd_at (show 6 < 9 by decide)) hwk2
  refine ay_back (P := ax_Pv (fun d1 => tb_is d1 0 t00 ∧ (∀ nm fl, gr_is d1 0 0 nm fl false) ∧ bt_is d1 515 [] ∧ we d0 d1)) (rest := []) (va_runV (As := []) (rest := []) (b := ad 513) (C := (ax_y (ax_me 56)).cls) ⟨hx, hb, hml, hown, hts⟩ hM (cwV 0 hts hgood rfl rfl rfl ⟨rfl, fa.2.1, fa.2.2.1, by decide +kernel⟩ ⟨Nat.le_of_ble_eq_true rfl, Nat.le_of_ble_eq_true rfl⟩) ⟨ay_blind, hrec, fun U hU hW => ⟨rfl, by rw [hU], by rw [hU]; exact hP, va_K.moved hW.alike hK, hD0, ax_NW_warm hW hN⟩⟩ rfl rfl hl.1 rfl (lv_room (Nat.le_of_ble_eq_true rfl)) dX7_init_30 ⟨Nat.le_refl _, Nat.le_refl _⟩) hSy hSy.1 ?_
  rintro _ d1 H1 locs1 - ⟨rfl, hp⟩ hP1 hS1
  refine zW_sz (fun hz9 => ?_)
  have hge : s.heap.size + 208 ≤ H1.size := by
    have h526 := hat 207 526 (by decide)
    obtain ⟨k2, hk2, hw2⟩ := ay_w_get ad ca d1 (i := 526) (q := (1, 8, ax_dt)) rfl (by decide)
    have hlt := (hP1 k2 _ hw2).lt
    have hlt2 : ad 526 < H1.size := hlt
    omega
  have hz1 : H1.size = s.heap.size + 208 := by omega
  refine W.vret hx hb hr (fun t ht hW => ⟨⟨rfl, by rw [ht]; exact hz1, d1, hp, fun x hx => ?_⟩, (va_S_mono hS1 hA2).F ht⟩) (fun q hq => hA2 _ (hS1.2.2 q hq)) dX7_init_33 hlocks
  obtain ⟨i, hi, rfl⟩ := List.mem_map.mp hx
  refine ⟨?_, ?_⟩
  · rcases List.mem_cons.mp hi with rfl | hi
    · exact Or.inl rfl
    · exact Or.inr (at_ge hat hi)
  · rw [ht]
    obtain ⟨k1, hk1⟩ := List.getElem?_of_mem (iLC_ay hi)
    exact hP1 k1 _ (by unfold ay_w; rw [List.getElem?_map, hk1]; rfl)
theorem y_LC (hat : atL ad sz tLC) : yMet l D ad ca zi_7 4 208 10614 512 (7, [.null, .null]) [] iLC pLC sz := by
  refine y_met (by decide +kernel) rfl (Nat.le_of_ble_eq_true rfl) (by intro x hx; simp only [List.mem_cons, List.not_mem_nil, or_false] at hx; rw [hx]; rfl) rfl ?_
  intro p e s m args below meth c hC hao hmn hsz hid
  show zy _ _ _ _ _ _ 0 0 0 [some (.ref 512)] []
  have hat0 := hat
  unfold tLC at hat
  have s0 : atL ad sz iWr := atL_l hat
  have s1 := atL_r hat
  rw [len_Wr] at s1
  refine zy_aldn hC dX7_init_0 rfl ?_
  refine zy_obj hC dX7_init_1 iob_7 (Nat.le_of_ble_eq_true rfl) (Nat.le_of_ble_eq_true rfl) ?_
  refine zy_aldn hC dX7_init_4 rfl ?_
  have N5 : ad 513 = sz := atL_h s0
  refine zy_new (id := 513) (ci := 6) (N := 3) (fs := [.null, .null, .null]) hC dX7_init_5 (by decide) rfl icl_7_7 iin_6 iit_6 idf_6 N5 (Nat.le_of_ble_eq_true rfl) (Nat.le_of_ble_eq_true rfl) ?_
  refine zy_dupr hC dX7_init_8 ?_
  have M9 : yMet l D ad ca zi_6 3 100 4900 513 (6, [.null, .null, .null]) [] iWr (fun d => d = d0) (sz + 1) := y_Wr (atL_t s0)
  refine zy_call (q2 := zi_6) (as := []) (rest := [.ref 513, .ref 512]) hC hao (fun r0 h0 => by cases h0; exact hid) dX7_init_9 yLi_7_9 (Nat.le_of_ble_eq_true rfl) ⟨Nat.le_of_ble_eq_true rfl, Nat.le_of_ble_eq_true rfl, Nat.le_of_ble_eq_true rfl, Nat.le_of_ble_eq_true rfl⟩ M9 ?_
  rintro _ rfl
  refine zy_putF hC dX7_init_12 (zFi_7_10 rfl) rfl rfl hmn hid rfl rfl (Nat.le_of_ble_eq_true rfl) ?_
  refine zy_aldn hC dX7_init_15 rfl ?_
  have N16 : ad 514 = sz + 101 := atL_h s1
  refine zy_new (id := 514) (ci := 3) (N := 5) (fs := [.null, .null, .null, .null, .int 0]) hC dX7_init_16 (by decide) rfl icl_7_16 iin_3 iit_3 idf_3 N16 (Nat.le_of_ble_eq_true rfl) (Nat.le_of_ble_eq_true rfl) ?_
  refine zy_dupr hC dX7_init_19 ?_
  have M20 : yMet l D ad ca zi_3 3 106 5706 514 (3, [.null, .null, .null, .null, .int 0]) [] iRd (fun d => d = d0) (sz + 102) := y_Rd (atL_t s1)
  refine zy_call (q2 := zi_3) (as := []) (rest := [.ref 514, .ref 512]) hC hao (fun r0 h0 => by cases h0; exact hid) dX7_init_20 yLi_7_18 (Nat.le_of_ble_eq_true rfl) ⟨Nat.le_of_ble_eq_true rfl, Nat.le_of_ble_eq_true rfl, Nat.le_of_ble_eq_true rfl, Nat.le_of_ble_eq_true rfl⟩ M20 ?_
  rintro _ rfl
  refine zy_putF hC dX7_init_23 (zFi_7_19 rfl) rfl rfl hmn hid rfl rfl (Nat.le_of_ble_eq_true rfl) ?_
  refine zy_widen (k := 208) (n := 10614) (Nat.le_of_ble_eq_true rfl) (Nat.le_of_ble_eq_true rfl) ?_
  refine y_LCend hat0 hC hsz hid (fun i hi => ?_)
  unfold tLC at hi
  rcases List.mem_append.mp hi with h | h
  · exact List.mem_append_right _ (List.mem_append_left _ (yEn_m.mpr h))
  · exact List.mem_append_left _ (yEn_m.mpr h)
end CT4
