/-! the cells, in the order of their making -/
def tRw (r : Nat) : List Nat := (32 * r + 1) :: ((List.range (ax_nr r)).map (fun j => 32 * r + 3 + j) ++ [32 * r + 2])
def iRw (r : Nat) : List Nat := 32 * r :: tRw r
theorem yEn_m {ad : Nat → Nat} {ca : Nat → ClassId} {d : ax_D} {i : Nat} {ids : List Nat} : (i, ax_cl ad ca d i) ∈ yEn ad ca d ids ↔ i ∈ ids := by
  unfold yEn
  constructor
  · intro h
    obtain ⟨j, hj, e⟩ := List.mem_map.mp h
    have : j = i := congrArg Prod.fst e
    rw [← this]; exact hj
  · intro h
    exact List.mem_map.mpr ⟨i, h, rfl⟩
theorem zy_widen {g : zG} {rt : Option Nat} {hz : Nat} {o : Nat × List Value} {pe : Option (Nat × Nat × List Value)} {pw : PW} {cells slots pc k n : Nat} {L : ax_L1} {st : List Value} (h1 : cells ≤ k) (h2 : slots ≤ n) (kk : zy g rt hz o pe pw k n pc L st) : zy g rt hz o pe pw cells slots pc L st := fun H locs ls a b c d e f g => W.widen h1 h2 (kk H locs ls a b c d e f g)
section RWC
variable {l : Launch} {D : va_G} {ad : Nat → Nat} {ca : Nat → ClassId} {sz r : Nat}
theorem nr_bd (r : Nat) : ax_nr r ≤ 20 ∧ ax_rm r ≤ 20 := ⟨nr_le r, rm_le r⟩
theorem y_Rows (hr : r < 16) (hat : atL ad sz (tRw r)) : yMet l D ad ca zi_4 1 (ax_nr r + 2) (ax_nr r + ax_nr r * ax_rm r + ax_nr r) (32 * r) (4, [.null, .null, .int 0]) [.int (nI (ax_nr r)), .int (nI (ax_rm r))] (iRw r) (fun d => d = d0) sz := by
  have hbd := nr_bd r
  refine y_met (by decide +kernel) rfl (Nat.le_of_ble_eq_true rfl) (by intro x hx; simp only [List.mem_cons, List.not_mem_nil, or_false] at hx; rcases hx with rfl | rfl | rfl <;> rfl) rfl ?_
  intro p e s m args below meth c hC hao hmn hsz hid
  show zy _ _ _ _ _ _ 0 0 0 [some (.ref (32 * r)), some (.int (nI (ax_nr r))), some (.int (nI (ax_rm r)))] []
  have h1 := atL_h hat
  have h2 := atL_l (atL_t hat)
  have h3 := atL_h (atL_r (atL_t hat))
  rw [List.length_map, List.length_range] at h3
  refine zy_aldn hC dX4_init_0 rfl ?_
  refine zy_obj hC dX4_init_1 iob_4 (Nat.le_refl _) (Nat.le_of_ble_eq_true rfl) ?_
  refine zy_aldn hC dX4_init_4 rfl ?_
  refine zy_ildn hC dX4_init_5 rfl ?_
  refine zy_ildn hC dX4_init_6 rfl ?_
  refine zy_mna (oid := 32 * r + 1) (b := 32 * r + 3) hC hao dX4_init_7 icl_4_9 rfl rfl (by omega) (by omega) (sh_ri hr) (fun j hj => sh_rr hr hj) h1 (fun j hj => h2 j _ (by rw [List.getElem?_map, List.getElem?_range hj]; rfl)) (by show 0 + (1 + ax_nr r) ≤ ax_nr r + 2; omega) (by show 0 + (ax_nr r + ax_nr r * ax_rm r) ≤ ax_nr r + ax_nr r * ax_rm r + ax_nr r; rw [Nat.zero_add]; exact Nat.le_add_right _ _) ?_
  refine zy_putF hC dX4_init_11 (zFi_4_11 rfl) rfl rfl hmn hid rfl rfl (Nat.le_of_ble_eq_true rfl) ?_
  refine zy_aldn hC dX4_init_14 rfl ?_
  refine zy_ildn hC dX4_init_15 rfl ?_
  refine zy_newa (id := 32 * r + 2) (N := ax_nr r) (kt := 0) (a0 := (ax_nr r, .inl (fun _ => 0))) hC dX4_init_16 rfl ar_i rfl (fun C h => by cases h) h3 (by show ax_nr r * 4 ≤ 536870912; omega) (by omega) (ax_cl_int (sh_rs hr)) (fun cA => rfl) (by show 0 + 1 + ax_nr r + 1 ≤ ax_nr r + 2; omega) (by show 0 + ax_nr r + ax_nr r * ax_rm r + ax_nr r ≤ ax_nr r + ax_nr r * ax_rm r + ax_nr r; rw [Nat.zero_add]; exact Nat.le_refl _) ?_
  refine zy_putF hC dX4_init_18 (zFi_4_16 rfl) rfl rfl hmn hid rfl rfl (Nat.le_of_ble_eq_true rfl) ?_
  refine zy_aldn hC dX4_init_21 rfl ?_
  refine zy_ildn hC dX4_init_22 rfl ?_
  refine zy_putF hC dX4_init_23 (zFi_4_20 rfl) rfl rfl hmn hid rfl rfl (Nat.le_of_ble_eq_true rfl) ?_
  refine zy_widen (k := ax_nr r + 2) (n := ax_nr r + ax_nr r * ax_rm r + ax_nr r) (by omega) (by rw [Nat.zero_add]; exact Nat.le_refl _) ?_
  refine zy_ret d0 hC dX4_init_26 rfl (by omega) rfl (by rw [ax_cl_obj (sh_ro hr)]; rfl) (fun i hi => ?_)
  unfold iRw tRw at hi
  simp only [List.mem_cons, List.mem_append, List.mem_map, List.mem_range, List.not_mem_nil, or_false] at hi
  rcases hi with h | h | ⟨j, hj, h⟩ | h
  · exact Or.inl h
  · right; rw [h]; exact List.mem_cons_of_mem _ (List.mem_append_left _ List.mem_cons_self)
  · right; rw [← h]; exact List.mem_cons_of_mem _ (List.mem_append_left _ (List.mem_cons_of_mem _ (List.mem_map.mpr ⟨j, List.mem_range.mpr hj, rfl⟩)))
  · right; rw [h]; exact List.mem_cons_self
end RWC
