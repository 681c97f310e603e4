/-! SOUNDNESS, the instructions on the world. -/
theorem ax_rd_at {a : Nat} (h : a < 9) : vwCl[a]? = some (ax_rd a) := by
  unfold ax_rd
  rw [List.getD_eq_getElem?_getD, List.getElem?_eq_getElem (show a < vwCl.length from h)]
  rfl
theorem ax_rd_in {a : Nat} (h : a < 9) : ax_rd a ∈ vwCl := List.mem_of_getElem? (ax_rd_at h)
theorem ax_lay_TW {a : Nat} (h : a < 9) : ∀ w ∈ u_ws (ax_rd a).1 (ax_rd a).2.1 (ax_rd a).2.2, w ∈ ax_TW := by
  intro w hw
  refine List.mem_filter.mpr ⟨ax_lay _ (ax_rd_in h) w hw, ?_⟩
  obtain ⟨k, -, rfl⟩ := List.mem_map.mp hw
  unfold u_lay
  split <;> rfl
theorem ax_ty_ok : ∀ a, a < 9 → (∀ k, k < (ax_rd a).2.2 → parseFieldDescriptor ((ax_rd a).2.1 k).2.2.1 = some (ax_ty a k)) ∧ ∀ x, x < (ax_rd a).2.2 → ∀ y, y < (ax_rd a).2.2 → x ≠ y → ((ax_rd a).2.1 x).2.1 ≠ ((ax_rd a).2.1 y).2.1
  | 0, _ => ⟨tyX0_ok, nmX0⟩
  | 1, _ => ⟨tyX1_ok, nmX1⟩
  | 2, _ => ⟨tyX2_ok, nmX2⟩
  | 3, _ => ⟨tyX3_ok, nmX3⟩
  | 4, _ => ⟨tyX4_ok, nmX4⟩
  | 5, _ => ⟨tyX5_ok, nmX5⟩
  | 6, _ => ⟨tyX6_ok, nmX6⟩
  | 7, _ => ⟨tyX7_ok, nmX7⟩
  | 8, _ => ⟨tyX8_ok, nmX8⟩
  | n + 9, h => absurd h (by omega)
/-- what the checks say of a method -/
theorem ax_mfacts {q : ax_M} (h : ax_ok q) : plainName (ax_y q).cls = true ∧ (ax_y q).cls ≠ "java/lang/invoke/MethodHandle" ∧ (ax_y q).cls ≠ "java/lang/invoke/VarHandle" ∧ (ax_rd (ax_o q)).1 = (ax_y q).cls ∧ ax_o q < 9 ∧ ax_n q ≤ 9 ∧ ax_g q ≤ ax_n q ∧ 0 < ax_v q ∧ (parseMethodDescriptor (ax_y q).desc).map (fun d => d.parameters.length + 1) = some (ax_g q + ax_z q) := by
  have h1 := h.1
  unfold ax_mck at h1
  simp only [Bool.and_eq_true, decide_eq_true_eq] at h1
  obtain ⟨⟨⟨⟨⟨⟨⟨⟨⟨a1, a2⟩, a3⟩, a4⟩, a5⟩, a6⟩, a7⟩, a8⟩, a9⟩, -⟩ := h1
  exact ⟨a1, a2, a3, a4, a5, a6, a7, a8, a9⟩
theorem ax_dfacts {mi pc : Nat} {i : Instr} {len a b : Nat} (h : ax_in mi pc = some (i, len, a, b)) : decode (ax_c (ax_me mi)) pc = .ok (i, len) := by
  have h1 := (ax_in_ok h).2
  unfold ax_ick at h1
  rw [Bool.and_eq_true] at h1
  exact of_decide_eq_true h1.1
theorem ax_Fz {q : ax_M} (hq : ax_ok q) {idx a b : Nat} (h : ax_F.any (fun z => decide (z.1 = ax_o q ∧ z.2.1 = idx ∧ z.2.2.1 = a ∧ z.2.2.2.1 = b)) = true) : a < 9 ∧ b < (ax_rd a).2.2 ∧ Cond.fieldLink (ax_y q).cls idx ((ax_rd a).2.1 b).1 ((ax_rd a).2.1 b).2.1 ((ax_rd a).2.1 b).2.2.1 ∈ ax_TW := by
  obtain ⟨z, hz, he⟩ := List.any_eq_true.mp h
  obtain ⟨e1, e2, e3, e4⟩ := of_decide_eq_true he
  have h1 := ax_Fok z hz
  unfold ax_fok at h1
  simp only [Bool.and_eq_true, decide_eq_true_eq] at h1
  obtain ⟨⟨f1, f2⟩, f3⟩ := h1
  rw [e1, e2, e3, e4, (ax_mfacts hq).2.2.2.1] at f3
  rw [e3] at f1 f2
  rw [e4] at f2
  exact ⟨f1, f2, List.mem_filter.mpr ⟨List.mem_of_getElem? f3, rfl⟩⟩
section AXT
variable {p : Program} {l : Launch} {e : Env} {R : Room} {s : State} {m : MethodId} {args : Array Value} {below : List Frame} {meth : Method} {c : Code} {H : Heap} {locs : List Loc} {cells slots : Nat} {Qt : State → Prop} {D : va_G} {ad : Nat → Nat} {ca : Nat → ClassId} {q : ax_M} {d : ax_D} {A : Nat → Prop} {H0 : Heap} {pc : Nat} {ls : Array Slot} {rest : List Value}
theorem ax_cl_obj {id t n : Nat} {f : Nat → ax_X} (h : ax_sh id = some (t + 4, n, f)) : ax_cl ad ca d id = .inr (t, (List.range n).map (fun k => ax_cv ad (ax_av d id f k))) := by unfold ax_cl; rw [h]
theorem ax_cl_int {id n : Nat} {f : Nat → ax_X} (h : ax_sh id = some (0, n, f)) : ax_cl ad ca d id = .inl (ca 0, n, .inl (d id)) := by unfold ax_cl; rw [h]
theorem ax_cl_boo {id n : Nat} {f : Nat → ax_X} (h : ax_sh id = some (1, n, f)) : ax_cl ad ca d id = .inl (ca 1, n, .inl (d id)) := by unfold ax_cl; rw [h]
theorem ax_cl_lon {id n : Nat} {f : Nat → ax_X} (h : ax_sh id = some (2, n, f)) : ax_cl ad ca d id = .inl (ca 2, n, .inr (.inl (fun i => (d id i).toInt64))) := by unfold ax_cl; rw [h]
theorem ax_cl_arr {id n : Nat} {f : Nat → ax_X} (h : ax_sh id = some (3, n, f)) : ax_cl ad ca d id = .inl (ca 3, n, .inr (.inr (.inr (.inr (fun i => ax_rf ad (f i)))))) := by unfold ax_cl; rw [h]
theorem ax_get {id a b n idx : Nat} {f : Nat → ax_X} (hC : ax_C p s m args meth c D ca q) (ha : a < 9) (hbN : b < (ax_rd a).2.2) (hw : Cond.fieldLink (ax_y q).cls idx ((ax_rd a).2.1 b).1 ((ax_rd a).2.1 b).2.1 ((ax_rd a).2.1 b).2.2.1 ∈ ax_TW) (hP : va_P D vwCl (ax_w ad ca d) H) (hsh : ax_sh id = some (a + 4, n, f)) (hn : b < n) (hd : decode (ax_c q) pc = .ok (.getfield idx, 3))
    (kk : W p l e R s m args below meth c H locs cells slots Qt (F0 m (pc + 3) ls (ax_cv ad (ax_av d id f b) :: rest))) : W p l e R s m args below meth c H locs cells slots Qt (F0 m pc ls (.ref (ad id) :: rest)) := by
  obtain ⟨hx, hb, hr, hml, hown, hts, hlocks, hK, hN⟩ := hC
  obtain ⟨k0, hk0, hwk⟩ := ax_w_get ad ca d hsh
  rw [ax_cl_obj hsh] at hwk
  exact va_get (D := D) (ci := a) (C := (ax_rd a).1) (T := (ax_rd a).2.1) (N := (ax_rd a).2.2) hx hb hts (ax_lay_TW ha) hown hK hP k0 hwk (ax_rd_at ha) b hbN (hts _ hw) (fun _ h => h) (by rw [List.getElem?_map, List.getElem?_range hn]; rfl) hd kk
theorem ax_put {id a b n idx : Nat} {f : Nat → ax_X} {x : Int32} (hC : ax_C p s m args meth c D ca q) (ha : a < 9) (hbN : b < (ax_rd a).2.2) (hw : Cond.fieldLink (ax_y q).cls idx ((ax_rd a).2.1 b).1 ((ax_rd a).2.1 b).2.1 ((ax_rd a).2.1 b).2.2.1 ∈ ax_TW) (hfin : ((ax_rd a).2.1 b).2.2.2 = false) (hP : va_P D vwCl (ax_w ad ca d) H) (hD : va_D A (ax_w ad ca d)) (hS : va_S A H0 H locs) (hsh : ax_sh id = some (a + 4, n, f)) (hn : b < n) (hfb : f b = .inr none) (hnar : narrow (ax_ty a b) (.int x) = .int x) (hfit : fits (ax_ty a b) (.int x) = true) (hd : decode (ax_c q) pc = .ok (.putfield idx, 3))
    (kk : ∀ (H1 : Heap) (locs1 : List Loc), va_P D vwCl (ax_w ad ca (ax_up d id b x)) H1 → va_S A H0 H1 locs1 → W p l e R s m args below meth c H1 locs1 cells slots Qt (F0 m (pc + 3) ls rest)) : W p l e R s m args below meth c H locs cells slots Qt (F0 m pc ls (.int x :: .ref (ad id) :: rest)) := by
  obtain ⟨hx, hb, hr, hml, hown, hts, hlocks, hK, hN⟩ := hC
  obtain ⟨k0, hk0, hwk⟩ := ax_w_get ad ca d hsh
  rw [ax_cl_obj hsh] at hwk
  have hset : ((List.range n).map (fun k => ax_cv ad (ax_av d id f k))).set b (.int x) = (List.range n).map (fun k => ax_cv ad (ax_av (ax_up d id b x) id f k)) := by
    apply List.ext_getElem?
    intro j
    by_cases hj : j = b
    · subst hj
      rw [List.getElem?_set_self (by rw [List.length_map, List.length_range]; exact hn), List.getElem?_map, List.getElem?_range hn]
      simp [ax_av, hfb, ax_up_at, upd, ax_cv]
    · rw [List.getElem?_set_ne (Ne.symm hj), List.getElem?_map, List.getElem?_map]
      have e1 : ax_av (ax_up d id b x) id f j = ax_av d id f j := by
        unfold ax_av
        rw [ax_up_at]
        simp [upd, hj]
      by_cases hjn : j < n
      · rw [List.getElem?_range hjn]
        simp [e1]
      · rw [List.getElem?_eq_none (by rw [List.length_range]; omega)]
        rfl
  refine va_put (D := D) (ci := a) (v := .int x) (ty := ax_ty a b) (C := (ax_rd a).1) (T := (ax_rd a).2.1) (N := (ax_rd a).2.2) hx hb hts (ax_lay_TW ha) (ax_ty a) (ax_ty_ok a ha).1 (ax_ty_ok a ha).2 hown hK hP hD hS k0 hwk (ax_rd_at ha) b hbN (hts _ hw) (fun _ h => h) hfin ((ax_ty_ok a ha).1 b hbN) hnar hfit (by rw [List.length_map, List.length_range]; exact hn) hd (fun H1 locs1 hP1 hD1 hS1 => kk H1 locs1 ?_ hS1)
  rw [hset, ← ax_cl_obj (ad := ad) (ca := ca) hsh, ax_w_set hD hk0 (fun j hj => ax_up_ne hj)] at hP1
  exact hP1
theorem ax_iald {id n : Nat} {f : Nat → ax_X} {i : Int32} (hC : ax_C p s m args meth c D ca q) (hP : va_P D vwCl (ax_w ad ca d) H) (hsh : ax_sh id = some (0, n, f)) (hin : vp_in i n) (hd : decode (ax_c q) pc = .ok (.iaload, 1))
    (kk : W p l e R s m args below meth c H locs cells slots Qt (F0 m (pc + 1) ls (.int (d id i.toNatClampNeg) :: rest))) : W p l e R s m args below meth c H locs cells slots Qt (F0 m pc ls (.int i :: .ref (ad id) :: rest)) := by
  obtain ⟨hx, hb, hr, hml, hown, hts, hlocks, hK, hN⟩ := hC
  obtain ⟨k0, hk0, hwk⟩ := ax_w_get ad ca d hsh
  rw [ax_cl_int hsh] at hwk
  exact va_iald hx hb hK hP k0 0 hwk rfl hin hd kk
theorem ax_zald {id n : Nat} {f : Nat → ax_X} {i : Int32} (hC : ax_C p s m args meth c D ca q) (hP : va_P D vwCl (ax_w ad ca d) H) (hsh : ax_sh id = some (1, n, f)) (hin : vp_in i n) (hd : decode (ax_c q) pc = .ok (.baload, 1))
    (kk : W p l e R s m args below meth c H locs cells slots Qt (F0 m (pc + 1) ls (.int (d id i.toNatClampNeg) :: rest))) : W p l e R s m args below meth c H locs cells slots Qt (F0 m pc ls (.int i :: .ref (ad id) :: rest)) := by
  obtain ⟨hx, hb, hr, hml, hown, hts, hlocks, hK, hN⟩ := hC
  obtain ⟨k0, hk0, hwk⟩ := ax_w_get ad ca d hsh
  rw [ax_cl_boo hsh] at hwk
  exact va_zald hx hb hK hP k0 1 hwk rfl hin hd kk
theorem ax_iast {id n : Nat} {f : Nat → ax_X} {i x : Int32} (hC : ax_C p s m args meth c D ca q) (hP : va_P D vwCl (ax_w ad ca d) H) (hD : va_D A (ax_w ad ca d)) (hS : va_S A H0 H locs) (hsh : ax_sh id = some (0, n, f)) (hin : vp_in i n) (hd : decode (ax_c q) pc = .ok (.iastore, 1))
    (kk : ∀ (H1 : Heap) (locs1 : List Loc), va_P D vwCl (ax_w ad ca (ax_up d id i.toNatClampNeg x)) H1 → va_S A H0 H1 locs1 → W p l e R s m args below meth c H1 locs1 cells slots Qt (F0 m (pc + 1) ls rest)) : W p l e R s m args below meth c H locs cells slots Qt (F0 m pc ls (.int x :: .int i :: .ref (ad id) :: rest)) := by
  obtain ⟨hx, hb, hr, hml, hown, hts, hlocks, hK, hN⟩ := hC
  obtain ⟨k0, hk0, hwk⟩ := ax_w_get ad ca d hsh
  rw [ax_cl_int hsh] at hwk
  refine va_iast hx hb hK hP hD hS k0 0 hwk rfl hin hd (fun H1 locs1 hP1 hD1 hS1 => kk H1 locs1 ?_ hS1)
  rw [← ax_up_at, ← ax_cl_int (ad := ad) (ca := ca) hsh, ax_w_set hD hk0 (fun j hj => ax_up_ne hj)] at hP1
  exact hP1
theorem ax_zast {id n : Nat} {f : Nat → ax_X} {i x : Int32} (hC : ax_C p s m args meth c D ca q) (hP : va_P D vwCl (ax_w ad ca d) H) (hD : va_D A (ax_w ad ca d)) (hS : va_S A H0 H locs) (hsh : ax_sh id = some (1, n, f)) (hin : vp_in i n) (hd : decode (ax_c q) pc = .ok (.bastore, 1))
    (kk : ∀ (H1 : Heap) (locs1 : List Loc), va_P D vwCl (ax_w ad ca (ax_up d id i.toNatClampNeg (x &&& 1))) H1 → va_S A H0 H1 locs1 → W p l e R s m args below meth c H1 locs1 cells slots Qt (F0 m (pc + 1) ls rest)) : W p l e R s m args below meth c H locs cells slots Qt (F0 m pc ls (.int x :: .int i :: .ref (ad id) :: rest)) := by
  obtain ⟨hx, hb, hr, hml, hown, hts, hlocks, hK, hN⟩ := hC
  obtain ⟨k0, hk0, hwk⟩ := ax_w_get ad ca d hsh
  rw [ax_cl_boo hsh] at hwk
  refine va_zast hx hb hK hP hD hS k0 1 hwk rfl hin hd (fun H1 locs1 hP1 hD1 hS1 => kk H1 locs1 ?_ hS1)
  rw [show vp_nar .boolean x = x &&& 1 from rfl, ← ax_up_at, ← ax_cl_boo (ad := ad) (ca := ca) hsh, ax_w_set hD hk0 (fun j hj => ax_up_ne hj)] at hP1
  exact hP1
theorem ax_aald {id n j : Nat} {f : Nat → ax_X} {i : Int32} (hC : ax_C p s m args meth c D ca q) (hP : va_P D vwCl (ax_w ad ca d) H) (hsh : ax_sh id = some (3, n, f)) (hin : vp_in i n) (hf : f i.toNatClampNeg = .inl j) (hd : decode (ax_c q) pc = .ok (.aaload, 1))
    (kk : W p l e R s m args below meth c H locs cells slots Qt (F0 m (pc + 1) ls (.ref (ad j) :: rest))) : W p l e R s m args below meth c H locs cells slots Qt (F0 m pc ls (.int i :: .ref (ad id) :: rest)) := by
  obtain ⟨hx, hb, hr, hml, hown, hts, hlocks, hK, hN⟩ := hC
  obtain ⟨k0, hk0, hwk⟩ := ax_w_get ad ca d hsh
  rw [ax_cl_arr hsh] at hwk
  have hlt : i.toNatClampNeg < n := Nat.not_le.mp fun q => hin (Or.inr q)
  have hcell := hP k0 _ hwk
  exact W.aald (v := .ref (ad j)) (ty := .array .int) hx hb hcell ((hK.2 3 _ rfl).1 n (fun i => va_rf (ax_rf ad (f i)))) rfl (fun q => by cases q) (by show ¬ (i < 0 ∨ (arrV _ _ _).slots.size ≤ _); rw [arrV_size]; exact hin) (by show (arrV _ _ _).slots[_]? = _; rw [arrV_read _ _ hlt]; simp [hf, ax_rf, va_rf]) rfl rfl hd kk
theorem ax_alen {id n t : Nat} {f : Nat → ax_X} (hC : ax_C p s m args meth c D ca q) (hP : va_P D vwCl (ax_w ad ca d) H) (hsh : ax_sh id = some (t, n, f)) (ht : t < 4) (hd : decode (ax_c q) pc = .ok (.arraylength, 1))
    (kk : W p l e R s m args below meth c H locs cells slots Qt (F0 m (pc + 1) ls (.int (nI n) :: rest))) : W p l e R s m args below meth c H locs cells slots Qt (F0 m pc ls (.ref (ad id) :: rest)) := by
  obtain ⟨hx, hb, hr, hml, hown, hts, hlocks, hK, hN⟩ := hC
  obtain ⟨k0, hk0, hwk⟩ := ax_w_get ad ca d hsh
  match t, ht with
  | 0, _ => rw [ax_cl_int hsh] at hwk; exact va_alen hx hb hK hP k0 0 hwk (ty := .int) rfl rfl hd kk
  | 1, _ => rw [ax_cl_boo hsh] at hwk; exact va_alen hx hb hK hP k0 1 hwk (ty := .boolean) rfl rfl hd kk
  | 2, _ => rw [ax_cl_lon hsh] at hwk; exact va_alen hx hb hK hP k0 2 hwk (ty := .long) rfl rfl hd kk
  | 3, _ => rw [ax_cl_arr hsh] at hwk; exact va_alen hx hb hK hP k0 3 hwk (ty := .array .int) rfl rfl hd kk
  | t + 4, h => exact absurd h (by omega)
end AXT
