/-! THE LAW, from its entry. -/
theorem iMo_ge : iMo.all (fun i => decide (540 ≤ i)) = true := by decide +kernel
theorem len_LC : iLC.length = 209 := by decide +kernel
def dS (d1 : ax_D) : ax_D := fun id => if id < 540 then d1 id else d0 id
theorem dS_lt {d1 : ax_D} {id : Nat} (h : id < 540) : dS d1 id = d1 id := if_pos h
theorem dS_ge {d1 : ax_D} {id : Nat} (h : 540 ≤ id) : dS d1 id = d0 id := if_neg (by omega)
theorem LV_0 {d1 : ax_D} (h : pLC d1) : LV (dS d1) wS0 [] 0 [] := by
  obtain ⟨t1, g1, b1, w1⟩ := h
  have k : ∀ id, 256 ≤ id → id ≠ 515 → id ≠ 516 → id ≠ 521 → id ≠ 523 → id ≠ 525 → d1 id = d0 id := w1
  have hc : cC d1 wS0 [] 0 [] := ⟨CW_b t1 g1 b1, ⟨Nat.zero_le _, by rw [k 517 (by decide) (by decide) (by decide) (by decide) (by decide) (by decide)]; rfl, fun i hi => absurd hi (Nat.not_lt_zero i), fun e he => absurd he List.not_mem_nil⟩, by rw [k 514 (by decide) (by decide) (by decide) (by decide) (by decide) (by decide)]; rfl, ⟨Nat.zero_le _, by rw [k 527 (by decide) (by decide) (by decide) (by decide) (by decide) (by decide)]; rfl, fun i hi => absurd hi (Nat.not_lt_zero i)⟩⟩
  have hm : ∀ i, dS d1 540 i = 0 := fun i => by rw [dS_ge (Nat.le_refl _)]; rfl
  refine ⟨cC_same hc (fun id hi => dS_lt hi), ⟨Or.inr ⟨hm 29, rfl, ⟨Nat.zero_le _, hm 19, fun i hi => absurd hi (Nat.not_lt_zero i), fun e he => absurd he List.not_mem_nil⟩⟩, ⟨Nat.zero_le _, hm 21, fun i hi => absurd hi (Nat.not_lt_zero i), fun e he => absurd he List.not_mem_nil⟩, hm 22, ⟨Nat.zero_le _, hm 24, fun i hi => absurd hi (Nat.not_lt_zero i)⟩⟩, WI_0, trivial⟩
section WH
variable {p : Program} {l : Launch} {e : Env} {s : State} {m : MethodId} {b : Nat} {below : List Frame} {meth : Method} {c : Code} {D : va_G} {ad : Nat → Nat} {ca : Nat → ClassId} {Ln : Nat} {xs : Nat → Int32}
theorem law_20 {hz : Nat} {d1 : ax_D} {pw : PW} (hC : LC p l e s m b below meth c D ad ca Ln xs) (hl : l.stackTraces = false) (hat : atL ad s.heap.size aLL) (hd1 : pLC d1) (h1 : ∀ i, i ∈ iLC → (i, ax_cl ad ca d1 i) ∈ pw) (h2 : ∀ i, i ∈ iMo → (i, ax_cl ad ca d0 i) ∈ pw) (h3 : (580, ax_cl ad ca d0 580) ∈ pw) : zy (zlg p l e s m b below meth c D ad ca) none hz (0, []) none pw 234 21837 20 [some (.ref 600), some (.ref 512), some (.ref 540), some (.ref 580), none, none, none] [] := by
  have h2k := hC.2.2.2.2.2.2.2
  intro H locs ls e1 e2 e3 e4 hS hLn hlv
  have hAt : ∀ i, i ∈ aLL → va_at D vwCl (ad i, ax_cl ad ca (dS d1) i) H := fun i hi => by
    rcases List.mem_append.mp hi with hi | hi
    · have hlt : i < 540 := of_decide_eq_true (List.mem_filter.mp (iLC_ay hi)).2
      rw [ax_cl_eq (dS_lt hlt)]
      exact (e4 _ (h1 i hi)).2
    · rcases List.mem_append.mp hi with hi | hi
      · have hge : 540 ≤ i := of_decide_eq_true (List.all_eq_true.mp iMo_ge i hi)
        rw [ax_cl_eq (dS_ge hge)]
        exact (e4 _ (h2 i hi)).2
      · rw [List.mem_singleton.mp hi, ax_cl_eq (dS_ge (show 540 ≤ 580 by decide))]
        exact (e4 _ h3).2
  have hP : va_P D vwCl (ax_w ad ca (dS d1)) H := fun k q hk => by
    unfold ax_w at hk
    rw [List.getElem?_map] at hk
    cases h9 : ax_ids[k]? with
    | none => rw [h9] at hk; cases hk
    | some i =>
      rw [h9] at hk
      cases hk
      exact hAt i (adL_in (List.mem_of_getElem? h9))
  have hD0 : va_D (fun _ => True) (ax_w ad ca (dS d1)) := ⟨fun i j x y hi hj hxy => by
    unfold ax_w at hi hj
    rw [List.getElem?_map] at hi hj
    cases h1 : ax_ids[i]? with
    | none => rw [h1] at hi; cases hi
    | some a =>
      cases h2 : ax_ids[j]? with
      | none => rw [h2] at hj; cases hj
      | some b =>
        rw [h1] at hi
        rw [h2] at hj
        cases hi
        cases hj
        have hab : a = b := at_inj hat (adL_in (List.mem_of_getElem? h1)) (adL_in (List.mem_of_getElem? h2)) hxy
        subst hab
        exact (List.getElem?_inj (List.getElem?_eq_some_iff.mp h1).1 ax_nd).mp (h1.trans h2.symm), fun _ _ _ => trivial⟩
  have hSx : va_S (ax_A ad s.heap.size) s.heap H locs := va_S_mono hS (fun q hq => by
    rcases hq with ⟨r0, hr0, -⟩ | h
    · cases hr0
    · exact Or.inr h)
  have z20 : zx (zlg p l e s m b below meth c D ad ca) 234 21837 20 [some (.ref 600), some (.ref 512), some (.ref 540), some (.ref 580), none, none, none] [] (dS d1) := by
    refine zx_icst (v := nI 0) hC.1 dL_law_20 (by decide) ?_
    refine zx_ist (L' := [_, _, _, _, some (.int _), _, _]) hC.1 dL_law_21 (Nat.le_of_ble_eq_true rfl) rfl ?_
    exact law_loop hC hl 512 0 234 21837 none none (dS d1) wS0 [] 0 [] (by omega) (Nat.zero_le _) (by decide) (by decide) (LV_0 hd1)
  exact z20 H locs ls hP (ax_A_D hD0) hSx hLn hlv
set_option maxHeartbeats 1000000 in
theorem law_0 (hC : LC p l e s m b below meth c D ad ca Ln xs) (hl : l.stackTraces = false) (hao : va_AOA .int s) (hat : atL ad s.heap.size aLL) : zy (zlg p l e s m b below meth c D ad ca) none s.heap.size (0, []) none [] 0 0 0 [some (.ref 600), none, none, none, none, none, none] [] := by
  have hat0 := hat
  unfold aLL at hat
  have s0 : atL ad s.heap.size iLC := atL_l hat
  have r0 := atL_r hat
  rw [len_LC] at r0
  have s1 : atL ad (s.heap.size + 209) iMo := atL_l r0
  have r1 := atL_r r0
  rw [len_Mo] at r1
  have A512 : ad 512 = s.heap.size := atL_h s0
  have A540 : ad 540 = s.heap.size + 209 := atL_h s1
  have A580 : ad 580 = s.heap.size + 233 := atL_h r1
  refine zy_new (id := 512) (ci := 7) (N := 2) (fs := [.null, .null]) hC.1 dL_law_0 (by decide) rfl scl_8 iin_7 iit_7 idf_7 A512 (Nat.le_of_ble_eq_true rfl) (Nat.le_of_ble_eq_true rfl) ?_
  refine zy_dupr hC.1 dL_law_3 ?_
  refine zy_call (q2 := zi_7) (as := []) (rest := [.ref 512]) hC.1 hao (fun r0 h0 => by cases h0) dL_law_4 sLi_57 (Nat.le_of_ble_eq_true rfl) ⟨Nat.le_of_ble_eq_true rfl, Nat.le_of_ble_eq_true rfl, Nat.le_of_ble_eq_true rfl, Nat.le_of_ble_eq_true rfl⟩ (y_LC (atL_t s0)) ?_
  intro d1 hd1
  refine zy_astn (L' := [_, some (.ref _), _, _, _, _, _]) hC.1 dL_law_7 (Nat.le_of_ble_eq_true rfl) rfl ?_
  refine zy_new (id := 540) (ci := 8) (N := 30) (fs := [.int 0, .null, .null, .null, .null, .null, .null, .null, .null, .null, .null, .null, .null, .null, .null, .null, .null, .null, .null, .int 0, .null, .int 0, .int 0, .int 0, .int 0, .null, .null, .null, .null, .int 0]) hC.1 dL_law_8 (by decide) rfl scl_58 iin_8 iit_8 idf_8 A540 (Nat.le_of_ble_eq_true rfl) (Nat.le_of_ble_eq_true rfl) ?_
  refine zy_dupr hC.1 dL_law_11 ?_
  have M12 : yMet l D ad ca zi_8 1 23 11190 540 (8, [.int 0, .null, .null, .null, .null, .null, .null, .null, .null, .null, .null, .null, .null, .null, .null, .null, .null, .null, .null, .int 0, .null, .int 0, .int 0, .int 0, .int 0, .null, .null, .null, .null, .int 0]) [] iMo (fun d => d = d0) (s.heap.size + 210) := y_Mo (atL_t s1)
  refine zy_call (q2 := zi_8) (as := []) (rest := [.ref 540]) hC.1 hao (fun r0 h0 => by cases h0) dL_law_12 sLi_60 (Nat.le_of_ble_eq_true rfl) ⟨Nat.le_of_ble_eq_true rfl, Nat.le_of_ble_eq_true rfl, Nat.le_of_ble_eq_true rfl, Nat.le_of_ble_eq_true rfl⟩ M12 ?_
  rintro _ rfl
  refine zy_astn (L' := [_, _, some (.ref _), _, _, _, _]) hC.1 dL_law_15 (Nat.le_of_ble_eq_true rfl) rfl ?_
  refine zy_icst (v := nI 1) hC.1 dL_law_16 (by decide) ?_
  refine zy_newa (id := 580) (N := 1) (kt := 2) (a0 := (1, .inr (.inl (fun _ => (0 : Int32).toInt64)))) hC.1 dL_law_17 rfl ar_l rfl (fun C h => by cases h) A580 (Nat.le_of_ble_eq_true rfl) (by decide) rfl (fun cA => by rw [vp_cell_l]; exact arrV_cg (fun i hi => rfl)) (Nat.le_of_ble_eq_true rfl) (Nat.le_of_ble_eq_true rfl) ?_
  refine zy_astn (L' := [_, _, _, some (.ref _), _, _, _]) hC.1 dL_law_19 (Nat.le_of_ble_eq_true rfl) rfl ?_
  refine law_20 hC hl hat0 hd1 (fun i hi => ?_) (fun i hi => ?_) List.mem_cons_self
  · exact List.mem_cons_of_mem _ (List.mem_append_right _ (List.mem_append_left _ (yEn_m.mpr hi)))
  · exact List.mem_cons_of_mem _ (List.mem_append_left _ (yEn_m.mpr hi))
end WH
/-- from the entry, for every script of at most 2048 ints, the law comes to its end with true (launches without stack traces) -/
theorem whole_start {p : Program} {e : Env} {s : State} {m : MethodId} {below : List Frame} {meth : Method} {c : Code} (l : Launch) (hl : l.stackTraces = false) {b L : Nat} {xs : Nat → Int32} (hL : L ≤ 2048) (C0 : lw_At p s m meth c b L xs) : W p l e room_1 s m #[Value.ref b] below meth c s.heap [] 0 0 (lw_Z below #[Value.ref b] s) (entryFrame m ([Value.ref b] : List Value).toArray 7) := by
  obtain ⟨hx, hb, hr, hml, hown, htb, hX, hbl, hlocks, hgv⟩ := C0
  obtain ⟨D, ca, hK⟩ := st_K htb
  have hat := adL_at (b := b) (sz := s.heap.size)
  have h600 : adL b s.heap.size 600 = b := adL_600
  generalize adL b s.heap.size = ad at hat h600
  have hC : zC (zlg p l e s m b below meth c D ad ca) := ⟨hx, hb, hr, hml, hown, fun w hw => htb w (List.mem_filter.mp hw).1, hlocks, hK, st_NW htb⟩
  have hids : ∀ i, i ∈ ax_ids → s.heap.size ≤ ad i := fun i hi => at_ge hat (adL_in hi)
  have hA : ∀ a : Nat, a < s.heap.size → ¬ ax_A ad s.heap.size a := fun a ha hq => by
    rcases hq with ⟨i, hi, hq⟩ | hq
    · have := hids i hi
      omega
    · omega
  have hT : zTh (ax_A ad s.heap.size) s := st_Th htb hgv ⟨_, (hK.1 7 _ (ax_rd_at (show 7 < 9 by decide))).2.1⟩ hA
  have hLC : LC p l e s m b below meth c D ad ca L xs := ⟨hC, hT, st_Nw htb hgv, hX, hbl, h600, hids, hL⟩
  obtain ⟨ls0, q1, q2⟩ : ∃ ls0, entryFrame m ([Value.ref b] : List Value).toArray 7 = F0 m 0 ls0 [] ∧ lv_has ls0 7 (ax_lv ad [some (.ref 600), none, none, none, none, none, none]) := by
    have e9 : ([Value.ref b] : List Value) = ([Value.ref 600] : List Value).map (ax_cv ad) := by
      show [Value.ref b] = [Value.ref (ad 600)]
      rw [h600]
    rw [e9, lg_entry_eq]
    exact ⟨_, rfl, ax_entry (as := [.ref 600]) (n := 7) (by intro x hx; simp only [List.mem_cons, List.not_mem_nil, or_false] at hx; rw [hx]; rfl) (by decide)⟩
  rw [q1]
  exact law_0 hLC hl (va_AOA.of (htb _ ar_o)) hat s.heap [] ls0 rfl (fun r0 h0 => by cases h0) (fun z h => by cases h) (fun x hx => absurd hx List.not_mem_nil) va_S.rf rfl q2
set_option maxHeartbeats 4000000 in
theorem lw_walk (l : Launch) (hl : l.stackTraces = false) (b : Addr) (xs : List Int32) : MetFree l x (headSpec (Jvm.Cond.code x code maxLocals ret :: tables_1) room_1) (lw_P b xs) (fun _ _ _ _ _ => True) lw_Q := by
  refine MetFree.of_bodyS (code := code) (maxLocals := maxLocals) (ret := ret) (by decide) ?_ ?_
  · intro args s m h hn
    obtain ⟨meth, c, h1, h2, h3, h4, h5, h6, -, -⟩ := Cond.code_spec hn (atoms_spec (ws := Jvm.Cond.code x code maxLocals ret :: tables_1) h _ List.mem_cons_self)
    exact ⟨meth, c, h1, h2, h3, h4, h5, h6⟩
  · intro p e s m args below meth c s₁ B hml0 hP _
    obtain ⟨rfl, hx, hbd, hgv⟩ := hP
    obtain ⟨scr, harrAt, hlist, hof, hsmall⟩ := hx
    obtain ⟨hcb, hkn, -, -⟩ := State.arrayAt?_spec harrAt
    have hown : s.vm.findClass R_law = some m.cls := findClass_of_methodNamed B.named
    have hts0 : ∀ c ∈ (Jvm.Cond.code x code maxLocals ret :: tables_1), c.before #[Value.ref b] s = true := atoms_spec (ws := Jvm.Cond.code x code maxLocals ret :: tables_1) B.pre
    have hts : ∀ w ∈ lw_tbl, w.before #[Value.ref b] s = true := k2_hts_sels lw_privs (fun w hw => hts0 w (List.mem_cons_of_mem _ hw)) lw_privs_ok
    have hml : c.maxLocals = 7 := B.maxLocals_eq (hts0 _ List.mem_cons_self)
    have X₀ : Stand p l e room_1 s m #[Value.ref b] below meth c s₁ [] 0 0 := Stand.of_body B
    have hh0 : s₁.heap = s.heap := by rw [B.state]; rfl
    have hsz : scr.slots.size = xs.length := by rw [← Array.length_toList, hlist, List.length_map]
    have hval : ∀ j : Nat, j < xs.length → scr.slots[j]? = some (.int (xs.getD j 0)) := fun j hj => by
      rw [← Array.getElem?_toList, hlist]
      simp [hj]
    have hbl : b < s.heap.size := (Array.getElem?_eq_some_iff.mp hcb).1
    have hX : va_X b xs.length (fun j => xs.getD j 0) s s.heap := ⟨scr, hcb, hof, hkn, hsz, hval⟩
    have K : W p l e room_1 s m #[Value.ref b] below meth c s₁.heap [] 0 0 (lw_Z below #[Value.ref b] s) (entryFrame m ([Value.ref b] : List Value).toArray 7) := by
      rw [hh0]
      exact whole_start l hl hbd ⟨B.exec, B.bytes, B.returns, hml, hown, hts, hX, hbl, B.notSynchronized, hgv⟩
    obtain ⟨t, a1, o, b1, b2, b3⟩ := K s₁ rfl X₀
    exact ⟨t, o, a1, b1, b2, b3⟩
theorem lw_pre_spec {args : Array Value} {s : State} (h : (Jvm.Cond.and given_1 narrow_1).before args s = true) (hr : rest_1_c.before args s = true) : ∃ (b : Addr) (xs : List Int32), lw_P b xs args s := by
  have hs := flat_of_before _ h
  have hq := flat_of_before _ hr
  have hc : (Cond.count 1).before args s = true := hs _ (by decide +kernel)
  have harr : (Cond.arrayOf (.arg 0) .int).before args s = true := hs _ (by decide +kernel)
  have hle : (Cond.le (.length (.arg 0)) (.int 2048)).before args s = true := hs _ (by decide +kernel)
  have hlen : (Cond.isInt (.length (.arg 0))).before args s = true := hq _ (by decide +kernel)
  have hall : (Cond.all (.arg 0) (.isInt (.elem (.arg 0) (.index 0)))).before args s = true := hq _ (by decide +kernel)
  obtain ⟨b, xs, hb, hx⟩ := State.ints_of_pre rfl harr hlen hall
  have hsm : xs.length < 2 ^ 31 := hx.choose_spec.2.2.2
  have hev : (Term.length (.arg 0)).eval args s none [] s = some (.int xs.length.toInt32) := hx.length_eval hb
  have hv := Cond.le_ints hev (show (Term.int 2048).eval args s none [] s = some (.int 2048) from rfl)
  have hd : xs.length.toInt32 ≤ 2048 := by
    simpa [Cond.before, Cond.holds, hv] using hle
  have hN : xs.length ≤ 2048 := (Int32.ofNat_le_ofNat hsm (by decide)).mp (show Int32.ofNat xs.length ≤ Int32.ofNat 2048 from hd)
  exact ⟨b, xs, Cond.one_arg hc (show args[0]? = some (.ref b) from hb), hx, hN, h⟩
theorem lw_comes (l : Launch) (hl : l.stackTraces = false) : Comes l x (Jvm.Cond.code x code maxLocals ret :: tables_1) room_1 (fun tb e args s => Calls_1 tb e args s ∧ rest_1 tb e args s ∧ Pre_1 tb e args s)
    (fun _ _ args s o t => lw_Q args s o t) := by
  intro p e ha hc hk s m args below hf hfit hheap happ hpre
  obtain ⟨b, xs, hP⟩ := lw_pre_spec hpre.2.2 hpre.2.1
  obtain ⟨k, o, h1, h2, h3, hQ⟩ := lw_walk l hl b xs p e ha hc hk s m args below hf ((Spec.applies_iff_loose hf).mp happ).1 hP trivial
  exact ⟨k, o, h1, h2, h3, hQ⟩
theorem lw_frame {s t : State} {o : Outcome} {args : Array Value} (h : Framed s o t [] 601024 7293034) :
    Framed s o t (fieldLocs frame_1_writes args s ++ arrayLocs frame_1_arrays args s ++ staticLocs frame_1_statics s) 601024 7293034 := h
theorem lw_limb (L : Cond) (hL : ∀ (args : Array Value) (s t : State), L.after args s (.returned (some (.int 1))) t = true) :
    ArmFor flags0 classFile x code maxLocals ret World_1 tables_1 room_1 Calls_1 rest_1 Pre_1
      (fun tb e a s o t => postC L tb e a s o t ∧ Framed s o t (fieldLocs frame_1_writes a s ++ arrayLocs frame_1_arrays a s ++ staticLocs frame_1_statics s) 601024 7293034) := by
  intro l hfl _ _ p e ha hc hk s m args below hf hfit hheap happ hpre
  have hl : l.stackTraces = false := by
    unfold Launch.stackTraces
    rw [hfl]
    decide +kernel
  obtain ⟨k, o, h1, h2, h3, rfl, hF⟩ := lw_comes l hl p e ha hc hk s m args below hf hfit hheap happ hpre
  exact ⟨k, _, h1, h2, h3, hL args s _, lw_frame hF⟩
theorem i_vc : Claimed_1_1 ∧ Claimed_1_2 := ⟨lw_limb limb_1_1 (fun args s t => by simp [limb_1_1, Cond.after, Cond.holds, Cond.value]), lw_limb limb_1_2 (fun args s t => Cond.after_iff.mpr (by
  first | (rw [show limb_1_2 = Cond.eq .result (.int 1) from rfl, Cond.eq_ints (x := 1) (y := 1) rfl rfl]; simp; done) | (simp [limb_1_2, Cond.value, Term.eval]; done)))⟩
