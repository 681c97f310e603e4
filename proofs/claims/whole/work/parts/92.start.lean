/-! THE LAW'S BEGINNING: what the start gives; the things made. -/
theorem sml_57 : Cond.methodLink RL 57 yX7_init ∈ ax_TW := List.mem_filter.mpr ⟨List.mem_of_getElem? (i := 84) (by decide +kernel), rfl⟩
theorem sml_60 : Cond.methodLink RL 60 yX8_init ∈ ax_TW := List.mem_filter.mpr ⟨List.mem_of_getElem? (i := 843) (by decide +kernel), rfl⟩
theorem scl_8 : Cond.classLink RL 8 RX7 ∈ ax_TW := List.mem_filter.mpr ⟨List.mem_of_getElem? (i := 82) (by decide +kernel), rfl⟩
theorem scl_58 : Cond.classLink RL 58 RX8 ∈ ax_TW := List.mem_filter.mpr ⟨List.mem_of_getElem? (i := 841) (by decide +kernel), rfl⟩
theorem sLi_57 : yLi RL 57 zi_7 0 := ⟨Or.inl sml_57, fun w hw => (List.mem_cons.mp hw).elim (fun e => by rw [e]; exact ico_7) id, iit_7, iim_7, rfl, by decide +kernel, by decide +kernel, by decide +kernel, rfl, by decide⟩
theorem sLi_60 : yLi RL 60 zi_8 0 := ⟨Or.inl sml_60, fun w hw => (List.mem_cons.mp hw).elim (fun e => by rw [e]; exact ico_8) id, iit_8, iim_8, rfl, by decide +kernel, by decide +kernel, by decide +kernel, rfl, by decide⟩
theorem tw_lsU : Cond.laysStatic Bundle.tN "UNASSIGNED_STACK" Bundle.steD ∈ lw_tbl := by decide +kernel
theorem tw_lsS : Cond.laysStatic Bundle.tN "SUPPRESSED_SENTINEL" Bundle.listD ∈ lw_tbl := by decide +kernel
theorem tw_inT : Cond.initialized Bundle.tN ∈ lw_tbl := by decide +kernel
theorem tw_str : zSt.all (fun r => decide (Cond.stringRef "LearnedCodes" r.1 r.2 ∈ lw_tbl)) = true := by decide +kernel
theorem fl_U : Cond.isRef (.static Bundle.tN "UNASSIGNED_STACK" Bundle.steD) ∈ flatC (Jvm.Cond.and given_1 narrow_1) := by decide +kernel
theorem fl_S : Cond.isRef (.static Bundle.tN "SUPPRESSED_SENTINEL" Bundle.listD) ∈ flatC (Jvm.Cond.and given_1 narrow_1) := by decide +kernel
theorem fl_N : zNl.all (fun r => decide (Cond.not (.castable r.1 r.2) ∈ flatC (Jvm.Cond.and given_1 narrow_1))) = true := by decide +kernel
theorem vw_inst : ∀ (c : Nat) (q : vw_C), vwCl[c]? = some q → ∃ n, Cond.instantiable q.1 n ∈ ax_TW := by
  intro c q h
  match c, h with
  | 0, h => cases h; exact ⟨_, iin_0⟩
  | 1, h => cases h; exact ⟨_, iin_1⟩
  | 2, h => cases h; exact ⟨_, iin_2⟩
  | 3, h => cases h; exact ⟨_, iin_3⟩
  | 4, h => cases h; exact ⟨_, iin_4⟩
  | 5, h => cases h; exact ⟨_, iin_5⟩
  | 6, h => cases h; exact ⟨_, iin_6⟩
  | 7, h => cases h; exact ⟨_, iin_7⟩
  | 8, h => cases h; exact ⟨_, iin_8⟩
  | c + 9, h => cases h
section ST9
variable {s : State} {args : Array Value}
theorem st_D (hts : ∀ w ∈ ax_TW, w.before args s = true) : ∃ D : va_G, ∀ (c : Nat) (q : vw_C), vwCl[c]? = some q → u_Kn s q.1 q.2.1 q.2.2 (D.1 c) (D.2 c) := by
  have h : ∀ c : Nat, ∃ z : ClassId × (Nat → Nat), ∀ q : vw_C, vwCl[c]? = some q → u_Kn s q.1 q.2.1 q.2.2 z.1 z.2 := fun c => by
    cases hc : vwCl[c]? with
    | none => exact ⟨(0, fun _ => 0), fun q hq => by cases hq⟩
    | some q0 =>
      obtain ⟨n, hn⟩ := vw_inst c q0 hc
      have h9 : c < 9 := (List.getElem?_eq_some_iff.mp hc).1
      have hq0 : q0 = ax_rd c := Option.some.inj (hc.symm.trans (ax_rd_at h9))
      obtain ⟨cC, iS, hK⟩ := u_known (C := q0.1) (T := q0.2.1) (N := q0.2.2) hts (by rw [hq0]; exact ax_lay_TW h9) (hts _ hn)
      exact ⟨(cC, iS), fun q hq => by cases hq; exact hK⟩
  exact ⟨(fun c => (Classical.choose (h c)).1, fun c => (Classical.choose (h c)).2), fun c q hq => Classical.choose_spec (h c) q hq⟩
theorem st_arr {ty : FieldType} (hob : ∀ C, ty ≠ .object C) (h : (Cond.arrayClass ty).before args s = true) : ∃ cA : ClassId, ArrOfT s cA ty ∧ va_RA s cA ty := by
  obtain ⟨cA, kA, comp, h1, h2, h3⟩ := Cond.arrayClass_spec h
  refine ⟨cA, fun n z => ⟨fun k h => (by cases h), kA, h2, comp, h3⟩, ?_⟩
  cases ty <;> first | exact h1 | exact absurd rfl (hob _)
theorem st_K (htb : ∀ w ∈ lw_tbl, w.before args s = true) : ∃ (D : va_G) (ca : Nat → ClassId), va_K D vwCl (ax_ts ca) s := by
  have hts : ∀ w ∈ ax_TW, w.before args s = true := fun w hw => htb w (List.mem_filter.mp hw).1
  obtain ⟨D, hD⟩ := st_D hts
  obtain ⟨c0, a0⟩ := st_arr (ty := .int) (fun C h => by cases h) (hts _ ar_i)
  obtain ⟨c1, a1⟩ := st_arr (ty := .boolean) (fun C h => by cases h) (hts _ ar_b)
  obtain ⟨c2, a2⟩ := st_arr (ty := .long) (fun C h => by cases h) (hts _ ar_l)
  obtain ⟨comp, c3, k3, h1, h2, h3, h4⟩ := Cond.arrayOver_specA (htb _ ar_o)
  refine ⟨D, fun k => match k with | 0 => c0 | 1 => c1 | 2 => c2 | _ => c3, hD, fun k q hk => ?_⟩
  match k, hk with
  | 0, hk => cases hk; exact a0
  | 1, hk => cases hk; exact a1
  | 2, hk => cases hk; exact a2
  | 3, hk => cases hk; exact ⟨fun n z => ⟨fun k h => (by cases h), k3, h2, comp, h3⟩, h4⟩
  | k + 4, hk => cases hk
theorem st_NW (htb : ∀ w ∈ lw_tbl, w.before args s = true) : ∀ w ∈ ax_NW, va_Nw w s := fun w hw => by
  have h1 := htb w (List.mem_filter.mp hw).1
  have h2 := (List.mem_filter.mp hw).2
  cases w <;> first | (exact va_Nw.of rfl h1) | (cases h2)
theorem st_Th {A : Nat → Prop} (htb : ∀ w ∈ lw_tbl, w.before args s = true) (hg : (Jvm.Cond.and given_1 narrow_1).before args s = true) (hcl : ∃ cur, s.vm.findClass "LearnedCodes" = some cur) (hA : ∀ a : Nat, a < s.heap.size → ¬ A a) : zTh A s := by
  have hf := flat_of_before _ hg
  obtain ⟨cur, hcur⟩ := hcl
  refine ⟨fun w hw => ?_, fun r hr => ?_, vx_Zqof (htb _ tw_lsU) (htb _ tw_inT) (hf _ fl_U) hA, vx_Zqof (htb _ tw_lsS) (htb _ tw_inT) (hf _ fl_S) hA⟩
  · have h2 := List.all_eq_true.mp zXW_c w hw
    rw [Bool.and_eq_true] at h2
    exact va_tabs h2.1 rfl (htb w (of_decide_eq_true (List.all_eq_true.mp zXW_t w hw)))
  · have h1 := htb _ (of_decide_eq_true (List.all_eq_true.mp tw_str r hr))
    obtain ⟨k, cf, i, a, -, -, -, -, -, h6⟩ := Cond.stringRef_spec hcur h1
    exact ⟨a, vk_R.of h1 h6⟩
theorem st_Nw (htb : ∀ w ∈ lw_tbl, w.before args s = true) (hg : (Jvm.Cond.and given_1 narrow_1).before args s = true) : zNw s := by
  have hf := flat_of_before _ hg
  refine ⟨fun r hr => va_Nc.of (hf _ (of_decide_eq_true (List.all_eq_true.mp fl_N r hr))), fun E hE => ?_⟩
  have h1 := htb _ (of_decide_eq_true (List.all_eq_true.mp zCl_t E hE))
  have h2 := List.all_eq_true.mp zCl_c E hE
  rw [Bool.and_eq_true] at h2
  exact va_tabs h2.1 rfl h1
end ST9
/-! where each cell lies -/
def aLL : List Nat := iLC ++ (iMo ++ [580])
theorem aLL_nd : aLL.Nodup := by decide +kernel
theorem aLL_600 : aLL.contains 600 = false := by decide +kernel
theorem aLL_all : ax_ids.all (fun i => aLL.contains i) = true := by decide +kernel
def adL (b sz : Nat) : Nat → Nat := fun id => if id = 600 then b else sz + aLL.idxOf id
theorem adL_600 {b sz : Nat} : adL b sz 600 = b := if_pos rfl
theorem adL_at {b sz : Nat} : atL (adL b sz) sz aLL := fun k x hx => by
  obtain ⟨hk, hx2⟩ := List.getElem?_eq_some_iff.mp hx
  have hne : ¬ x = 600 := fun h => by
    have h1 : x ∈ aLL := List.mem_of_getElem? hx
    rw [h] at h1
    have h2 := List.contains_iff_mem.mpr h1
    rw [aLL_600] at h2
    cases h2
  unfold adL
  rw [if_neg hne, ← hx2, List.Nodup.idxOf_getElem aLL_nd k hk]
theorem adL_in {i : Nat} (h : i ∈ ax_ids) : i ∈ aLL := List.contains_iff_mem.mp (List.all_eq_true.mp aLL_all i h)
theorem ax_nd : ax_ids.Nodup := by unfold ax_ids; exact List.nodup_range.filter _
