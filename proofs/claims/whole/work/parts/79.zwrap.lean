/-! THE LAW'S WRAPPERS. -/
section ZF
variable {p : Program} {l : Launch} {e : Env} {R : Room} {s : State} {m : MethodId} {args : Array Value} {below : List Frame} {meth : Method} {c : Code} {H : Heap} {locs : List Loc} {cells slots : Nat} {Qt : State → Prop}
theorem t_lcmp {cc : ByteArray} {x : Int64} {pc : Nat} {ls : Array Slot} {rest : List Value} (hexec : p.tables.exec = Jvm.exec) (hb : c.code = cc) (hdg : decode cc pc = .ok (.lcmp, 1))
    (k : W p l e R s m args below meth c H locs cells slots Qt (F0 m (pc + 1) ls (.int 0 :: rest))) : W p l e R s m args below meth c H locs cells slots Qt (F0 m pc ls (.long x :: .long x :: rest)) := by
  intro T hT X
  obtain ⟨t, a, b⟩ := k T hT X
  refine ⟨t, ?_, b⟩
  jvm_step X.here [X.here.top, hexec, hb, hdg]
  simpa using a
end ZF
theorem updL_up (d : ax_D) (id k : Nat) (x : Int32) : (fun i => (ax_up d id k x id i).toInt64) = vp_updL (fun i => (d id i).toInt64) k x.toInt64 := by
  funext i
  rw [ax_up_at]
  unfold upd vp_updL
  by_cases h : i = k <;> simp [h]
section ZG
variable {g : zG} {cells slots pc : Nat} {L : ax_L1} {d : ax_D} {r : List Value}
/-- i2l; lastore into the law's array -/
theorem zx_i2lst {y : Int32} (hC : zC g) (h0 : decode (ax_c (zq g)) pc = .ok (.i2l, 1)) (h1 : decode (ax_c (zq g)) (pc + 1) = .ok (.lastore, 1)) (k : zx g cells slots (pc + 2) L r (ax_up d 580 0 y)) : zx g cells slots pc L (.int y :: .int (nI 0) :: .ref 580 :: r) d := by
  obtain ⟨⟨p, l, e, R, s, m, args, below, meth, c⟩, Qt, D, ad, ca, H0, q⟩ := g
  intro H locs ls hP hD hS hL hl
  obtain ⟨hx, hb, hr, hml, hown, hts, hlocks, hK, hN⟩ := hC
  have hsh : ax_sh 580 = some (2, 1, ax_dt) := rfl
  obtain ⟨k0, hk0, hwk⟩ := ax_w_get ad ca d hsh
  rw [ax_cl_lon hsh] at hwk
  refine lv_i2l hx hb h0 rfl ?_
  refine va_last hx hb hK hP hD hS k0 2 hwk rfl (vp_in_nI (show 0 < 1 by decide) (by decide)) h1 (fun H1 locs1 hP1 hD1 hS1 => ?_)
  rw [nI_clamp (by decide), ← updL_up, ← ax_cl_lon (ad := ad) (ca := ca) hsh, ax_w_set hD hk0 (fun j hj => ax_up_ne hj)] at hP1
  exact k H1 locs1 ls hP1 (ax_w_D hD) hS1 hL hl
end ZG
section ZH
variable {p : Program} {l : Launch} {e : Env} {s : State} {m : MethodId} {args : Array Value} {below : List Frame} {meth : Method} {c : Code} {D : va_G} {ad : Nat → Nat} {ca : Nat → ClassId} {q : ax_M} {Q : ax_Po} {pc cells slots : Nat} {L : ax_L1} {d : ax_D} {H1 : Heap} {locs1 : List Loc} {ls : Array Slot} {a : Nat}
theorem z8_ri {v : Int32} (hC : zC (z8 p l e s m args below meth c D ad ca q Q)) (hc : cells ≤ 1) (hs : slots ≤ 6) (h : decode (ax_c q) pc = .ok (.ireturn, 1)) (hr : ax_r q = some .int) (hq : Q (some (.int v)) d) : zx (z8 p l e s m args below meth c D ad ca q Q) cells slots pc L [.int v] d := by
  intro H locs ls hP hD hS hL hlv
  exact W.widen hc hs (W.zret hC.1 hC.2.1 (hC.2.2.1.trans hr) rfl (fun t ht hW => ⟨⟨some (.int v), d, rfl, hq, by rw [ht]; exact hP⟩, hS.F ht⟩) hS.2.2 h hC.2.2.2.2.2.2.1)
theorem z8_h {v : Int32} (hC : zC (z8 p l e s m args below meth c D ad ca q Q)) {k : Int} (d1 : decode (ax_c q) pc = .ok (.iconst k, 1)) (hv : Int32.ofInt k = v) (d2 : decode (ax_c q) (pc + 1) = .ok (.ireturn, 1)) (hr : ax_r q = some .int) (hP : va_P D vwCl (ax_w ad ca d) H1) (hS : va_S (ax_A ad s.heap.size) s.heap H1 locs1) (hq : Q (some (.int v)) d) : W p l e R8 s m args below meth c H1 locs1 1 6 (MQ below (ax_Qc D ad ca Q s.heap.size) args s 1 6 (ax_A ad s.heap.size)) (F0 m pc ls []) :=
  lv_iconst hC.1 hC.2.1 d1 hv (W.zret hC.1 hC.2.1 (hC.2.2.1.trans hr) rfl (fun t ht hW => ⟨⟨some (.int v), d, rfl, hq, by rw [ht]; exact hP⟩, hS.F ht⟩) hS.2.2 d2 hC.2.2.2.2.2.2.1)
theorem z8_h1 {v : Int32} {n : Fin 4} (hC : zC (z8 p l e s m args below meth c D ad ca q Q)) {k : Int} (d0 : decode (ax_c q) pc = .ok (.astore_n n, 1)) (hn : n.val < ax_n q) (d1 : decode (ax_c q) (pc + 1) = .ok (.iconst k, 1)) (hv : Int32.ofInt k = v) (d2 : decode (ax_c q) (pc + 2) = .ok (.ireturn, 1)) (hr : ax_r q = some .int) (hP : va_P D vwCl (ax_w ad ca d) H1) (hS : va_S (ax_A ad s.heap.size) s.heap H1 locs1) (hlv : lv_has ls (ax_n q) (ax_lv ad L)) (hq : Q (some (.int v)) d) : W p l e R8 s m args below meth c H1 locs1 1 6 (MQ below (ax_Qc D ad ca Q s.heap.size) args s 1 6 (ax_A ad s.heap.size)) (F0 m pc ls [.ref a]) :=
  lv_astore_n hC.1 hC.2.1 d0 rfl hlv hn rfl (fun ls' _ => z8_h hC d1 hv d2 hr hP hS hq)
theorem z8_h2 {v : Int32} {i : Nat} (hC : zC (z8 p l e s m args below meth c D ad ca q Q)) {k : Int} (d0 : decode (ax_c q) pc = .ok (.astore i, 2)) (hn : i < ax_n q) (d1 : decode (ax_c q) (pc + 2) = .ok (.iconst k, 1)) (hv : Int32.ofInt k = v) (d2 : decode (ax_c q) (pc + 3) = .ok (.ireturn, 1)) (hr : ax_r q = some .int) (hP : va_P D vwCl (ax_w ad ca d) H1) (hS : va_S (ax_A ad s.heap.size) s.heap H1 locs1) (hlv : lv_has ls (ax_n q) (ax_lv ad L)) (hq : Q (some (.int v)) d) : W p l e R8 s m args below meth c H1 locs1 1 6 (MQ below (ax_Qc D ad ca Q s.heap.size) args s 1 6 (ax_A ad s.heap.size)) (F0 m pc ls [.ref a]) :=
  lv_astore hC.1 hC.2.1 d0 hlv hn rfl (fun ls' _ => z8_h hC d1 hv d2 hr hP hS hq)
end ZH
def zPw (D : va_G) (ad : Nat → Nat) (ca : Nat → ClassId) (as : List Value) (d : ax_D) (sz : Nat) : Array Value → State → Prop :=
  va_Pc (as.map (ax_cv ad)) (fun U => U.heap.size = sz ∧ va_P D vwCl (ax_w ad ca d) U.heap ∧ va_K D vwCl (ax_ts ca) U ∧ va_D (fun _ => True) (ax_w ad ca d) ∧ (∀ w ∈ ax_NW, va_Nw w U) ∧ zTh (ax_A ad sz) U ∧ zNw U)
theorem zw_blind {D : va_G} {ad : Nat → Nat} {ca : Nat → ClassId} {as : List Value} {d : ax_D} {sz : Nat} : FrameBlind (zPw D ad ca as d sz) := fun a U g mk q => by
  obtain ⟨q0, q1, qP, qK, qD, qN, qT, qW⟩ := q
  exact ⟨q0, q1, qP, va_K.moved (u := U) (U := U.calling g mk a) (Vm.Alike.refl U.vm) qK, qD, ax_NW_same (u := U) rfl qN, zTh_warm (U := U.calling g mk a) (H := U.heap) qT (State.WarmedH.refl U) rfl (fun _ _ _ => rfl) (fun _ h => h), zNw_warm (U := U.calling g mk a) qW (State.WarmedH.refl U)⟩
/-- at a wrapper's entry -/
def zEw (l : Launch) (q : ax_M) (hh : List (Nat × Nat × Nat × Nat)) (as : List Value) (d : ax_D) (Q : ax_Po) : Prop :=
  ∀ (D : va_G) (ad : Nat → Nat) (ca : Nat → ClassId) (p : Program) (e : Env) (s : State) (m : MethodId) (args : Array Value) (below : List Frame) (meth : Method) (c : Code), zC (z8 p l e s m args below meth c D ad ca q Q) → zTh (ax_A ad s.heap.size) s → zNw s → c.exceptionTable.toList = tableOf hh →
    zx (z8 p l e s m args below meth c D ad ca q Q) 0 0 0 (as.map some ++ List.replicate (ax_n q - as.length) none) [] d
def zww (q : ax_M) (hh : List (Nat × Nat × Nat × Nat)) : List Cond := .codeWith (ax_y q) (ax_c q) (ax_n q) (ax_r q) hh :: ax_TW
theorem z8_met {l : Launch} {D : va_G} {ad : Nat → Nat} {ca : Nat → ClassId} {q : ax_M} {hh : List (Nat × Nat × Nat × Nat)} {as : List Value} {d : ax_D} {Q : ax_Po} (hpl : plainName (ax_y q).cls = true) (hn : as.length ≤ ax_n q) (hc : ∀ v ∈ as, v.category = 1) (hJ : zEw l q hh as d Q) (sz : Nat) :
    Met l (ax_y q) (zww q hh) R8 (zPw D ad ca as d sz) (ax_Qc D ad ca Q sz) 1 6 (ax_A ad sz) := by
  refine va_MetW (cc := ax_c q) (maxL := ax_n q) (ret := ax_r q) (hh := hh) hpl rfl ?_
  intro p e s m args below meth c s₁ B hml hv
  obtain ⟨rfl, rfl, hP, hK, hD, hN, hT, hW⟩ := hv
  have hts := atoms_spec (ws := zww q hh) B.pre
  have hown : s.vm.findClass (ax_y q).cls = some m.cls := findClass_of_methodNamed B.named
  have htab := vx_table (x := ax_y q) B (hts _ List.mem_cons_self)
  rw [lg_entry_eq]
  exact hJ D ad ca p e s m _ below meth c ⟨B.exec, B.bytes, B.returns, hml, hown, fun w h => hts w (List.mem_cons_of_mem _ h), B.notSynchronized, hK, hN⟩ hT hW htab s.heap [] _ hP (ax_A_D hD) va_S.rf (by rw [List.length_append, List.length_map, List.length_replicate]; show _ = ax_n q; omega) (ax_entry hc hn)
theorem zlx_open : zLx RL 7 zm_open 2 := by
  refine ⟨fun w hw => ?_, rfl, by decide +kernel, by decide +kernel, by decide +kernel, by decide +kernel, by decide, by decide⟩
  unfold wsV at hw
  rcases List.mem_append.mp hw with h | h
  · simp only [List.mem_cons, List.not_mem_nil, or_false] at h
    rcases h with h | h | h | h <;> rw [h]
    · exact zml_open
    · exact zim_open
    · exact zse_open
    · exact zin_7
  · rcases List.mem_cons.mp h with h | h
    · rw [h]; exact zco_open
    · exact h
theorem zl_open {l : Launch} {d : ax_D} {x y : Int32} {r : Nat} {X : ax_D → Prop} (hE : zE l zm_open [.ref 512, .int x, .int y] d (zV r X) (zO [xIA, xIS, xUO] r X)) : zEw l zw_open hh_open [.ref 512, .int x, .int y] d (ax_Pi fun v d1 => v = nI r ∧ X d1) := by
  intro D ad ca p e s m args below meth c hC hT hW htab
  show zx _ 0 0 0 [some (.ref 512), some (.int x), some (.int y), none] [] d
  refine zx_aldn hC dL_open_0 rfl ?_
  refine zx_ildn hC dL_open_1 rfl ?_
  refine zx_ildn hC dL_open_2 rfl ?_
  refine zx_vx (tl := [.int x, .int y]) (rest := []) (q := zm_open) (id := 512) hC ⟨Nat.le_refl _, Nat.le_refl _, Nat.le_refl _, Nat.le_refl _⟩ rfl hT dL_open_3 zlx_open (List.forall_mem_cons.mpr ⟨rfl, List.forall_mem_cons.mpr ⟨rfl, List.forall_mem_cons.mpr ⟨rfl, fun _ h => absurd h List.not_mem_nil⟩⟩⟩) (Nat.le_of_ble_eq_true rfl) rfl hE ?_ ?_
  · rintro _ d1 ⟨rfl, hr, hX1⟩
    refine zx_goto 18 hC dL_open_6 (by decide) ?_
    refine zx_icst (v := nI 0) hC dL_open_18 (by decide) ?_
    refine z8_ri hC (Nat.le_refl _) (Nat.le_refl _) dL_open_19 rfl ?_
    exact ⟨_, rfl, by rw [hr], hX1⟩
  · rintro E d1 ⟨⟨k, hk, hr⟩, hX1⟩ H1 locs1 ls q ce hP hD hS hL hlv h1 h2 h3
    match k, hk, hr with
    | 0, hk, hr =>
      obtain rfl : xIA = E := Option.some.inj hk
      refine vx_catch (own := RL) (name := xIA) hC.2.2.2.2.1 [] ⟨0, 6, 9, 13⟩ [⟨0, 6, 12, 15⟩, ⟨0, 6, 15, 17⟩] htab (fun z hz => absurd hz List.not_mem_nil) rfl (by decide) (hC.2.2.2.2.2.1 _ zcl_13) (zcast hW (by decide +kernel)) h1 h2 h3 (z8_h1 (v := nI 1) hC dL_open_9 (by decide) dL_open_10 (by decide) dL_open_11 rfl hP hS hlv ?_)
      exact ⟨_, rfl, by rw [hr], hX1⟩
    | 1, hk, hr =>
      obtain rfl : xIS = E := Option.some.inj hk
      refine vx_catch (own := RL) (name := xIS) hC.2.2.2.2.1 [⟨0, 6, 9, 13⟩] ⟨0, 6, 12, 15⟩ [⟨0, 6, 15, 17⟩] htab (List.forall_mem_cons.mpr ⟨Or.inr ⟨by decide, xIA, hC.2.2.2.2.2.1 _ zcl_13, hW.1 (xIS, xIA) (by decide +kernel)⟩, fun _ h => absurd h List.not_mem_nil⟩) rfl (by decide) (hC.2.2.2.2.2.1 _ zcl_15) (zcast hW (by decide +kernel)) h1 h2 h3 (z8_h1 (v := nI 2) hC dL_open_12 (by decide) dL_open_13 (by decide) dL_open_14 rfl hP hS hlv ?_)
      exact ⟨_, rfl, by rw [hr], hX1⟩
    | 2, hk, hr =>
      obtain rfl : xUO = E := Option.some.inj hk
      refine vx_catch (own := RL) (name := xUO) hC.2.2.2.2.1 [⟨0, 6, 9, 13⟩, ⟨0, 6, 12, 15⟩] ⟨0, 6, 15, 17⟩ [] htab (List.forall_mem_cons.mpr ⟨Or.inr ⟨by decide, xIA, hC.2.2.2.2.2.1 _ zcl_13, hW.1 (xUO, xIA) (by decide +kernel)⟩, List.forall_mem_cons.mpr ⟨Or.inr ⟨by decide, xIS, hC.2.2.2.2.2.1 _ zcl_15, hW.1 (xUO, xIS) (by decide +kernel)⟩, fun _ h => absurd h List.not_mem_nil⟩⟩) rfl (by decide) (hC.2.2.2.2.2.1 _ zcl_17) (zcast hW (by decide +kernel)) h1 h2 h3 (z8_h1 (v := nI 3) hC dL_open_15 (by decide) dL_open_16 (by decide) dL_open_17 rfl hP hS hlv ?_)
      exact ⟨_, rfl, by rw [hr], hX1⟩
    | k + 3, hk, hr => exact absurd hk (by simp)
theorem zlx_attribute : zLx RL 19 zm_attribute 3 := by
  refine ⟨fun w hw => ?_, rfl, by decide +kernel, by decide +kernel, by decide +kernel, by decide +kernel, by decide, by decide⟩
  unfold wsV at hw
  rcases List.mem_append.mp hw with h | h
  · simp only [List.mem_cons, List.not_mem_nil, or_false] at h
    rcases h with h | h | h | h <;> rw [h]
    · exact zml_attribute
    · exact zim_attribute
    · exact zse_attribute
    · exact zin_7
  · rcases List.mem_cons.mp h with h | h
    · rw [h]; exact zco_attribute
    · exact h
theorem zl_attribute {l : Launch} {d : ax_D} {x y z : Int32} {r : Nat} {X : ax_D → Prop} (hE : zE l zm_attribute [.ref 512, .int x, .int y, .int z] d (zV r X) (zO [xIA, xIS, xUO] r X)) : zEw l zw_attribute hh_attribute [.ref 512, .int x, .int y, .int z] d (ax_Pi fun v d1 => v = nI r ∧ X d1) := by
  intro D ad ca p e s m args below meth c hC hT hW htab
  show zx _ 0 0 0 [some (.ref 512), some (.int x), some (.int y), some (.int z), none] [] d
  refine zx_aldn hC dL_attribute_0 rfl ?_
  refine zx_ildn hC dL_attribute_1 rfl ?_
  refine zx_ildn hC dL_attribute_2 rfl ?_
  refine zx_ildn hC dL_attribute_3 rfl ?_
  refine zx_vx (tl := [.int x, .int y, .int z]) (rest := []) (q := zm_attribute) (id := 512) hC ⟨Nat.le_refl _, Nat.le_refl _, Nat.le_refl _, Nat.le_refl _⟩ rfl hT dL_attribute_4 zlx_attribute (List.forall_mem_cons.mpr ⟨rfl, List.forall_mem_cons.mpr ⟨rfl, List.forall_mem_cons.mpr ⟨rfl, List.forall_mem_cons.mpr ⟨rfl, fun _ h => absurd h List.not_mem_nil⟩⟩⟩⟩) (Nat.le_of_ble_eq_true rfl) rfl hE ?_ ?_
  · rintro _ d1 ⟨rfl, hr, hX1⟩
    refine zx_goto 22 hC dL_attribute_7 (by decide) ?_
    refine zx_icst (v := nI 0) hC dL_attribute_22 (by decide) ?_
    refine z8_ri hC (Nat.le_refl _) (Nat.le_refl _) dL_attribute_23 rfl ?_
    exact ⟨_, rfl, by rw [hr], hX1⟩
  · rintro E d1 ⟨⟨k, hk, hr⟩, hX1⟩ H1 locs1 ls q ce hP hD hS hL hlv h1 h2 h3
    match k, hk, hr with
    | 0, hk, hr =>
      obtain rfl : xIA = E := Option.some.inj hk
      refine vx_catch (own := RL) (name := xIA) hC.2.2.2.2.1 [] ⟨0, 7, 10, 13⟩ [⟨0, 7, 14, 15⟩, ⟨0, 7, 18, 17⟩] htab (fun z hz => absurd hz List.not_mem_nil) rfl (by decide) (hC.2.2.2.2.2.1 _ zcl_13) (zcast hW (by decide +kernel)) h1 h2 h3 (z8_h2 (v := nI 1) hC dL_attribute_10 (by decide) dL_attribute_12 (by decide) dL_attribute_13 rfl hP hS hlv ?_)
      exact ⟨_, rfl, by rw [hr], hX1⟩
    | 1, hk, hr =>
      obtain rfl : xIS = E := Option.some.inj hk
      refine vx_catch (own := RL) (name := xIS) hC.2.2.2.2.1 [⟨0, 7, 10, 13⟩] ⟨0, 7, 14, 15⟩ [⟨0, 7, 18, 17⟩] htab (List.forall_mem_cons.mpr ⟨Or.inr ⟨by decide, xIA, hC.2.2.2.2.2.1 _ zcl_13, hW.1 (xIS, xIA) (by decide +kernel)⟩, fun _ h => absurd h List.not_mem_nil⟩) rfl (by decide) (hC.2.2.2.2.2.1 _ zcl_15) (zcast hW (by decide +kernel)) h1 h2 h3 (z8_h2 (v := nI 2) hC dL_attribute_14 (by decide) dL_attribute_16 (by decide) dL_attribute_17 rfl hP hS hlv ?_)
      exact ⟨_, rfl, by rw [hr], hX1⟩
    | 2, hk, hr =>
      obtain rfl : xUO = E := Option.some.inj hk
      refine vx_catch (own := RL) (name := xUO) hC.2.2.2.2.1 [⟨0, 7, 10, 13⟩, ⟨0, 7, 14, 15⟩] ⟨0, 7, 18, 17⟩ [] htab (List.forall_mem_cons.mpr ⟨Or.inr ⟨by decide, xIA, hC.2.2.2.2.2.1 _ zcl_13, hW.1 (xUO, xIA) (by decide +kernel)⟩, List.forall_mem_cons.mpr ⟨Or.inr ⟨by decide, xIS, hC.2.2.2.2.2.1 _ zcl_15, hW.1 (xUO, xIS) (by decide +kernel)⟩, fun _ h => absurd h List.not_mem_nil⟩⟩) rfl (by decide) (hC.2.2.2.2.2.1 _ zcl_17) (zcast hW (by decide +kernel)) h1 h2 h3 (z8_h2 (v := nI 3) hC dL_attribute_18 (by decide) dL_attribute_20 (by decide) dL_attribute_21 rfl hP hS hlv ?_)
      exact ⟨_, rfl, by rw [hr], hX1⟩
    | k + 3, hk, hr => exact absurd hk (by simp)
theorem zlx_text : zLx RL 23 zm_text 1 := by
  refine ⟨fun w hw => ?_, rfl, by decide +kernel, by decide +kernel, by decide +kernel, by decide +kernel, by decide, by decide⟩
  unfold wsV at hw
  rcases List.mem_append.mp hw with h | h
  · simp only [List.mem_cons, List.not_mem_nil, or_false] at h
    rcases h with h | h | h | h <;> rw [h]
    · exact zml_text
    · exact zim_text
    · exact zse_text
    · exact zin_7
  · rcases List.mem_cons.mp h with h | h
    · rw [h]; exact zco_text
    · exact h
theorem zl_text {l : Launch} {d : ax_D} {z : Int32} {r : Nat} {X : ax_D → Prop} (hE : zE l zm_text [.ref 512, .int z] d (zV r X) (zO [xIA, xIS, xUO] r X)) : zEw l zw_text hh_text [.ref 512, .int z] d (ax_Pi fun v d1 => v = nI r ∧ X d1) := by
  intro D ad ca p e s m args below meth c hC hT hW htab
  show zx _ 0 0 0 [some (.ref 512), some (.int z), none] [] d
  refine zx_aldn hC dL_text_0 rfl ?_
  refine zx_ildn hC dL_text_1 rfl ?_
  refine zx_vx (tl := [.int z]) (rest := []) (q := zm_text) (id := 512) hC ⟨Nat.le_refl _, Nat.le_refl _, Nat.le_refl _, Nat.le_refl _⟩ rfl hT dL_text_2 zlx_text (List.forall_mem_cons.mpr ⟨rfl, List.forall_mem_cons.mpr ⟨rfl, fun _ h => absurd h List.not_mem_nil⟩⟩) (Nat.le_of_ble_eq_true rfl) rfl hE ?_ ?_
  · rintro _ d1 ⟨rfl, hr, hX1⟩
    refine zx_goto 17 hC dL_text_5 (by decide) ?_
    refine zx_icst (v := nI 0) hC dL_text_17 (by decide) ?_
    refine z8_ri hC (Nat.le_refl _) (Nat.le_refl _) dL_text_18 rfl ?_
    exact ⟨_, rfl, by rw [hr], hX1⟩
  · rintro E d1 ⟨⟨k, hk, hr⟩, hX1⟩ H1 locs1 ls q ce hP hD hS hL hlv h1 h2 h3
    match k, hk, hr with
    | 0, hk, hr =>
      obtain rfl : xIA = E := Option.some.inj hk
      refine vx_catch (own := RL) (name := xIA) hC.2.2.2.2.1 [] ⟨0, 5, 8, 13⟩ [⟨0, 5, 11, 15⟩, ⟨0, 5, 14, 17⟩] htab (fun z hz => absurd hz List.not_mem_nil) rfl (by decide) (hC.2.2.2.2.2.1 _ zcl_13) (zcast hW (by decide +kernel)) h1 h2 h3 (z8_h1 (v := nI 1) hC dL_text_8 (by decide) dL_text_9 (by decide) dL_text_10 rfl hP hS hlv ?_)
      exact ⟨_, rfl, by rw [hr], hX1⟩
    | 1, hk, hr =>
      obtain rfl : xIS = E := Option.some.inj hk
      refine vx_catch (own := RL) (name := xIS) hC.2.2.2.2.1 [⟨0, 5, 8, 13⟩] ⟨0, 5, 11, 15⟩ [⟨0, 5, 14, 17⟩] htab (List.forall_mem_cons.mpr ⟨Or.inr ⟨by decide, xIA, hC.2.2.2.2.2.1 _ zcl_13, hW.1 (xIS, xIA) (by decide +kernel)⟩, fun _ h => absurd h List.not_mem_nil⟩) rfl (by decide) (hC.2.2.2.2.2.1 _ zcl_15) (zcast hW (by decide +kernel)) h1 h2 h3 (z8_h1 (v := nI 2) hC dL_text_11 (by decide) dL_text_12 (by decide) dL_text_13 rfl hP hS hlv ?_)
      exact ⟨_, rfl, by rw [hr], hX1⟩
    | 2, hk, hr =>
      obtain rfl : xUO = E := Option.some.inj hk
      refine vx_catch (own := RL) (name := xUO) hC.2.2.2.2.1 [⟨0, 5, 8, 13⟩, ⟨0, 5, 11, 15⟩] ⟨0, 5, 14, 17⟩ [] htab (List.forall_mem_cons.mpr ⟨Or.inr ⟨by decide, xIA, hC.2.2.2.2.2.1 _ zcl_13, hW.1 (xUO, xIA) (by decide +kernel)⟩, List.forall_mem_cons.mpr ⟨Or.inr ⟨by decide, xIS, hC.2.2.2.2.2.1 _ zcl_15, hW.1 (xUO, xIS) (by decide +kernel)⟩, fun _ h => absurd h List.not_mem_nil⟩⟩) rfl (by decide) (hC.2.2.2.2.2.1 _ zcl_17) (zcast hW (by decide +kernel)) h1 h2 h3 (z8_h1 (v := nI 3) hC dL_text_14 (by decide) dL_text_15 (by decide) dL_text_16 rfl hP hS hlv ?_)
      exact ⟨_, rfl, by rw [hr], hX1⟩
    | k + 3, hk, hr => exact absurd hk (by simp)
theorem zlx_close : zLx RL 27 zm_close 0 := by
  refine ⟨fun w hw => ?_, rfl, by decide +kernel, by decide +kernel, by decide +kernel, by decide +kernel, by decide, by decide⟩
  unfold wsV at hw
  rcases List.mem_append.mp hw with h | h
  · simp only [List.mem_cons, List.not_mem_nil, or_false] at h
    rcases h with h | h | h | h <;> rw [h]
    · exact zml_close
    · exact zim_close
    · exact zse_close
    · exact zin_7
  · rcases List.mem_cons.mp h with h | h
    · rw [h]; exact zco_close
    · exact h
theorem zl_close {l : Launch} {d : ax_D} {r : Nat} {V : Int32 → Prop} {X : ax_D → Prop} (hE : zE l zm_close [.ref 512] d (zI r V X) (zO [xIS, xUO] r X)) (hX : ∀ d1 y, X d1 → X (ax_up d1 580 0 y)) : zEw l zw_close hh_close [.ref 512, .ref 580] d (ax_Pi fun v d1 => v = nI r ∧ (r = 0 → V (d1 580 0)) ∧ X d1) := by
  intro D ad ca p e s m args below meth c hC hT hW htab
  show zx _ 0 0 0 [some (.ref 512), some (.ref 580), none] [] d
  refine zx_aldn hC dL_close_0 rfl ?_
  refine zx_icst (v := nI 0) hC dL_close_1 (by decide) ?_
  refine zx_aldn hC dL_close_2 rfl ?_
  refine zx_vx (tl := []) (rest := [.int (nI 0), .ref 580]) (q := zm_close) (id := 512) hC ⟨Nat.le_refl _, Nat.le_refl _, Nat.le_refl _, Nat.le_refl _⟩ rfl hT dL_close_3 zlx_close (List.forall_mem_cons.mpr ⟨rfl, fun _ h => absurd h List.not_mem_nil⟩) (Nat.le_of_ble_eq_true rfl) rfl hE ?_ ?_
  · rintro _ d1 ⟨y9, rfl, hr, hV, hX1⟩
    refine zx_i2lst hC dL_close_6 dL_close_7 ?_
    refine zx_goto 17 hC dL_close_8 (by decide) ?_
    refine zx_icst (v := nI 0) hC dL_close_17 (by decide) ?_
    refine z8_ri hC (Nat.le_refl _) (Nat.le_refl _) dL_close_18 rfl ?_
    exact ⟨_, rfl, by rw [hr], fun _ => by rw [up_at]; exact hV, hX _ _ hX1⟩
  · rintro E d1 ⟨⟨k, hk, hr⟩, hX1⟩ H1 locs1 ls q ce hP hD hS hL hlv h1 h2 h3
    match k, hk, hr with
    | 0, hk, hr =>
      obtain rfl : xIS = E := Option.some.inj hk
      refine vx_catch (own := RL) (name := xIS) hC.2.2.2.2.1 [] ⟨0, 8, 11, 15⟩ [⟨0, 8, 14, 17⟩] htab (fun z hz => absurd hz List.not_mem_nil) rfl (by decide) (hC.2.2.2.2.2.1 _ zcl_15) (zcast hW (by decide +kernel)) h1 h2 h3 (z8_h1 (v := nI 1) hC dL_close_11 (by decide) dL_close_12 (by decide) dL_close_13 rfl hP hS hlv ?_)
      exact ⟨_, rfl, by rw [hr], fun z => absurd (hr.symm.trans z) (by decide), hX1⟩
    | 1, hk, hr =>
      obtain rfl : xUO = E := Option.some.inj hk
      refine vx_catch (own := RL) (name := xUO) hC.2.2.2.2.1 [⟨0, 8, 11, 15⟩] ⟨0, 8, 14, 17⟩ [] htab (List.forall_mem_cons.mpr ⟨Or.inr ⟨by decide, xIS, hC.2.2.2.2.2.1 _ zcl_15, hW.1 (xUO, xIS) (by decide +kernel)⟩, fun _ h => absurd h List.not_mem_nil⟩) rfl (by decide) (hC.2.2.2.2.2.1 _ zcl_17) (zcast hW (by decide +kernel)) h1 h2 h3 (z8_h1 (v := nI 2) hC dL_close_14 (by decide) dL_close_15 (by decide) dL_close_16 rfl hP hS hlv ?_)
      exact ⟨_, rfl, by rw [hr], fun z => absurd (hr.symm.trans z) (by decide), hX1⟩
    | k + 2, hk, hr => exact absurd hk (by simp)
theorem zlx_push : zLx RL 31 zm_push 1 := by
  refine ⟨fun w hw => ?_, rfl, by decide +kernel, by decide +kernel, by decide +kernel, by decide +kernel, by decide, by decide⟩
  unfold wsV at hw
  rcases List.mem_append.mp hw with h | h
  · simp only [List.mem_cons, List.not_mem_nil, or_false] at h
    rcases h with h | h | h | h <;> rw [h]
    · exact zml_push
    · exact zim_push
    · exact zse_push
    · exact zin_7
  · rcases List.mem_cons.mp h with h | h
    · rw [h]; exact zco_push
    · exact h
theorem zl_push {l : Launch} {d : ax_D} {b : Nat} {r : Nat} {V : Int32 → Prop} {X : ax_D → Prop} (hE : zE l zm_push [.ref 512, .int (nI b)] d (zI r V X) (zO [xIS] r X)) (hX : ∀ d1 y, X d1 → X (ax_up d1 580 0 y)) : zEw l zw_push hh_push [.ref 512, .int (nI b), .ref 580] d (ax_Pi fun v d1 => v = nI r ∧ (r = 0 → V (d1 580 0)) ∧ X d1) := by
  intro D ad ca p e s m args below meth c hC hT hW htab
  show zx _ 0 0 0 [some (.ref 512), some (.int (nI b)), some (.ref 580), none] [] d
  refine zx_aldn hC dL_push_0 rfl ?_
  refine zx_icst (v := nI 0) hC dL_push_1 (by decide) ?_
  refine zx_aldn hC dL_push_2 rfl ?_
  refine zx_ildn hC dL_push_3 rfl ?_
  refine zx_vx (tl := [.int (nI b)]) (rest := [.int (nI 0), .ref 580]) (q := zm_push) (id := 512) hC ⟨Nat.le_refl _, Nat.le_refl _, Nat.le_refl _, Nat.le_refl _⟩ rfl hT dL_push_4 zlx_push (List.forall_mem_cons.mpr ⟨rfl, List.forall_mem_cons.mpr ⟨rfl, fun _ h => absurd h List.not_mem_nil⟩⟩) (Nat.le_of_ble_eq_true rfl) rfl hE ?_ ?_
  · rintro _ d1 ⟨y9, rfl, hr, hV, hX1⟩
    refine zx_i2lst hC dL_push_7 dL_push_8 ?_
    refine zx_goto 15 hC dL_push_9 (by decide) ?_
    refine zx_icst (v := nI 0) hC dL_push_15 (by decide) ?_
    refine z8_ri hC (Nat.le_refl _) (Nat.le_refl _) dL_push_16 rfl ?_
    exact ⟨_, rfl, by rw [hr], fun _ => by rw [up_at]; exact hV, hX _ _ hX1⟩
  · rintro E d1 ⟨⟨k, hk, hr⟩, hX1⟩ H1 locs1 ls q ce hP hD hS hL hlv h1 h2 h3
    match k, hk, hr with
    | 0, hk, hr =>
      obtain rfl : xIS = E := Option.some.inj hk
      refine vx_catch (own := RL) (name := xIS) hC.2.2.2.2.1 [] ⟨0, 9, 12, 15⟩ [] htab (fun z hz => absurd hz List.not_mem_nil) rfl (by decide) (hC.2.2.2.2.2.1 _ zcl_15) (zcast hW (by decide +kernel)) h1 h2 h3 (z8_h1 (v := nI 1) hC dL_push_12 (by decide) dL_push_13 (by decide) dL_push_14 rfl hP hS hlv ?_)
      exact ⟨_, rfl, by rw [hr], fun z => absurd (hr.symm.trans z) (by decide), hX1⟩
    | k + 1, hk, hr => exact absurd hk (by simp)
theorem zlx_bit : zLx RL 35 zm_bit 1 := by
  refine ⟨fun w hw => ?_, rfl, by decide +kernel, by decide +kernel, by decide +kernel, by decide +kernel, by decide, by decide⟩
  unfold wsV at hw
  rcases List.mem_append.mp hw with h | h
  · simp only [List.mem_cons, List.not_mem_nil, or_false] at h
    rcases h with h | h | h | h <;> rw [h]
    · exact zml_bit
    · exact zim_bit
    · exact zse_bit
    · exact zin_7
  · rcases List.mem_cons.mp h with h | h
    · rw [h]; exact zco_bit
    · exact h
theorem zl_bit {l : Launch} {d : ax_D} {x : Int32} {r : Nat} {V : Int32 → Prop} {X : ax_D → Prop} (hE : zE l zm_bit [.ref 512, .int x] d (zI r V X) (zO [xIB] r X)) (hX : ∀ d1 y, X d1 → X (ax_up d1 580 0 y)) : zEw l zw_bit hh_bit [.ref 512, .int x, .ref 580] d (ax_Pi fun v d1 => v = nI r ∧ (r = 0 → V (d1 580 0)) ∧ X d1) := by
  intro D ad ca p e s m args below meth c hC hT hW htab
  show zx _ 0 0 0 [some (.ref 512), some (.int x), some (.ref 580), none] [] d
  refine zx_aldn hC dL_bit_0 rfl ?_
  refine zx_icst (v := nI 0) hC dL_bit_1 (by decide) ?_
  refine zx_aldn hC dL_bit_2 rfl ?_
  refine zx_ildn hC dL_bit_3 rfl ?_
  refine zx_vx (tl := [.int x]) (rest := [.int (nI 0), .ref 580]) (q := zm_bit) (id := 512) hC ⟨Nat.le_refl _, Nat.le_refl _, Nat.le_refl _, Nat.le_refl _⟩ rfl hT dL_bit_4 zlx_bit (List.forall_mem_cons.mpr ⟨rfl, List.forall_mem_cons.mpr ⟨rfl, fun _ h => absurd h List.not_mem_nil⟩⟩) (Nat.le_of_ble_eq_true rfl) rfl hE ?_ ?_
  · rintro _ d1 ⟨y9, rfl, hr, hV, hX1⟩
    refine zx_i2lst hC dL_bit_7 dL_bit_8 ?_
    refine zx_goto 15 hC dL_bit_9 (by decide) ?_
    refine zx_icst (v := nI 0) hC dL_bit_15 (by decide) ?_
    refine z8_ri hC (Nat.le_refl _) (Nat.le_refl _) dL_bit_16 rfl ?_
    exact ⟨_, rfl, by rw [hr], fun _ => by rw [up_at]; exact hV, hX _ _ hX1⟩
  · rintro E d1 ⟨⟨k, hk, hr⟩, hX1⟩ H1 locs1 ls q ce hP hD hS hL hlv h1 h2 h3
    match k, hk, hr with
    | 0, hk, hr =>
      obtain rfl : xIB = E := Option.some.inj hk
      refine vx_catch (own := RL) (name := xIB) hC.2.2.2.2.1 [] ⟨0, 9, 12, 39⟩ [] htab (fun z hz => absurd hz List.not_mem_nil) rfl (by decide) (hC.2.2.2.2.2.1 _ zcl_39) (zcast hW (by decide +kernel)) h1 h2 h3 (z8_h1 (v := nI 1) hC dL_bit_12 (by decide) dL_bit_13 (by decide) dL_bit_14 rfl hP hS hlv ?_)
      exact ⟨_, rfl, by rw [hr], fun z => absurd (hr.symm.trans z) (by decide), hX1⟩
    | k + 1, hk, hr => exact absurd hk (by simp)
theorem zlx_flip : zLx RL 41 zm_flip 1 := by
  refine ⟨fun w hw => ?_, rfl, by decide +kernel, by decide +kernel, by decide +kernel, by decide +kernel, by decide, by decide⟩
  unfold wsV at hw
  rcases List.mem_append.mp hw with h | h
  · simp only [List.mem_cons, List.not_mem_nil, or_false] at h
    rcases h with h | h | h | h <;> rw [h]
    · exact zml_flip
    · exact zim_flip
    · exact zse_flip
    · exact zin_7
  · rcases List.mem_cons.mp h with h | h
    · rw [h]; exact zco_flip
    · exact h
theorem zl_flip {l : Launch} {d : ax_D} {x : Int32} {r : Nat} {X : ax_D → Prop} (hE : zE l zm_flip [.ref 512, .int x] d (zV r X) (zO [xIB] r X)) : zEw l zw_flip hh_flip [.ref 512, .int x] d (ax_Pi fun v d1 => v = nI r ∧ X d1) := by
  intro D ad ca p e s m args below meth c hC hT hW htab
  show zx _ 0 0 0 [some (.ref 512), some (.int x), none] [] d
  refine zx_aldn hC dL_flip_0 rfl ?_
  refine zx_ildn hC dL_flip_1 rfl ?_
  refine zx_vx (tl := [.int x]) (rest := []) (q := zm_flip) (id := 512) hC ⟨Nat.le_refl _, Nat.le_refl _, Nat.le_refl _, Nat.le_refl _⟩ rfl hT dL_flip_2 zlx_flip (List.forall_mem_cons.mpr ⟨rfl, List.forall_mem_cons.mpr ⟨rfl, fun _ h => absurd h List.not_mem_nil⟩⟩) (Nat.le_of_ble_eq_true rfl) rfl hE ?_ ?_
  · rintro _ d1 ⟨rfl, hr, hX1⟩
    refine zx_goto 11 hC dL_flip_5 (by decide) ?_
    refine zx_icst (v := nI 0) hC dL_flip_11 (by decide) ?_
    refine z8_ri hC (Nat.le_refl _) (Nat.le_refl _) dL_flip_12 rfl ?_
    exact ⟨_, rfl, by rw [hr], hX1⟩
  · rintro E d1 ⟨⟨k, hk, hr⟩, hX1⟩ H1 locs1 ls q ce hP hD hS hL hlv h1 h2 h3
    match k, hk, hr with
    | 0, hk, hr =>
      obtain rfl : xIB = E := Option.some.inj hk
      refine vx_catch (own := RL) (name := xIB) hC.2.2.2.2.1 [] ⟨0, 5, 8, 39⟩ [] htab (fun z hz => absurd hz List.not_mem_nil) rfl (by decide) (hC.2.2.2.2.2.1 _ zcl_39) (zcast hW (by decide +kernel)) h1 h2 h3 (z8_h1 (v := nI 1) hC dL_flip_8 (by decide) dL_flip_9 (by decide) dL_flip_10 rfl hP hS hlv ?_)
      exact ⟨_, rfl, by rw [hr], hX1⟩
    | k + 1, hk, hr => exact absurd hk (by simp)
theorem zlx_cut : zLx RL 44 zm_cut 1 := by
  refine ⟨fun w hw => ?_, rfl, by decide +kernel, by decide +kernel, by decide +kernel, by decide +kernel, by decide, by decide⟩
  unfold wsV at hw
  rcases List.mem_append.mp hw with h | h
  · simp only [List.mem_cons, List.not_mem_nil, or_false] at h
    rcases h with h | h | h | h <;> rw [h]
    · exact zml_cut
    · exact zim_cut
    · exact zse_cut
    · exact zin_7
  · rcases List.mem_cons.mp h with h | h
    · rw [h]; exact zco_cut
    · exact h
theorem zl_cut {l : Launch} {d : ax_D} {x : Int32} {r : Nat} {X : ax_D → Prop} (hE : zE l zm_cut [.ref 512, .int x] d (zV r X) (zO [xIA] r X)) : zEw l zw_cut hh_cut [.ref 512, .int x] d (ax_Pi fun v d1 => v = nI r ∧ X d1) := by
  intro D ad ca p e s m args below meth c hC hT hW htab
  show zx _ 0 0 0 [some (.ref 512), some (.int x), none] [] d
  refine zx_aldn hC dL_cut_0 rfl ?_
  refine zx_ildn hC dL_cut_1 rfl ?_
  refine zx_vx (tl := [.int x]) (rest := []) (q := zm_cut) (id := 512) hC ⟨Nat.le_refl _, Nat.le_refl _, Nat.le_refl _, Nat.le_refl _⟩ rfl hT dL_cut_2 zlx_cut (List.forall_mem_cons.mpr ⟨rfl, List.forall_mem_cons.mpr ⟨rfl, fun _ h => absurd h List.not_mem_nil⟩⟩) (Nat.le_of_ble_eq_true rfl) rfl hE ?_ ?_
  · rintro _ d1 ⟨rfl, hr, hX1⟩
    refine zx_goto 11 hC dL_cut_5 (by decide) ?_
    refine zx_icst (v := nI 0) hC dL_cut_11 (by decide) ?_
    refine z8_ri hC (Nat.le_refl _) (Nat.le_refl _) dL_cut_12 rfl ?_
    exact ⟨_, rfl, by rw [hr], hX1⟩
  · rintro E d1 ⟨⟨k, hk, hr⟩, hX1⟩ H1 locs1 ls q ce hP hD hS hL hlv h1 h2 h3
    match k, hk, hr with
    | 0, hk, hr =>
      obtain rfl : xIA = E := Option.some.inj hk
      refine vx_catch (own := RL) (name := xIA) hC.2.2.2.2.1 [] ⟨0, 5, 8, 13⟩ [] htab (fun z hz => absurd hz List.not_mem_nil) rfl (by decide) (hC.2.2.2.2.2.1 _ zcl_13) (zcast hW (by decide +kernel)) h1 h2 h3 (z8_h1 (v := nI 1) hC dL_cut_8 (by decide) dL_cut_9 (by decide) dL_cut_10 rfl hP hS hlv ?_)
      exact ⟨_, rfl, by rw [hr], hX1⟩
    | k + 1, hk, hr => exact absurd hk (by simp)
theorem zlx_read : zLx RL 47 zm_read 0 := by
  refine ⟨fun w hw => ?_, rfl, by decide +kernel, by decide +kernel, by decide +kernel, by decide +kernel, by decide, by decide⟩
  unfold wsV at hw
  rcases List.mem_append.mp hw with h | h
  · simp only [List.mem_cons, List.not_mem_nil, or_false] at h
    rcases h with h | h | h | h <;> rw [h]
    · exact zml_read
    · exact zim_read
    · exact zse_read
    · exact zin_7
  · rcases List.mem_cons.mp h with h | h
    · rw [h]; exact zco_read
    · exact h
theorem zl_read {l : Launch} {d : ax_D} {r : Nat} {V : Int32 → Prop} {X : ax_D → Prop} (hE : zE l zm_read [.ref 512] d (zI r V X) (zO [xIA, xUO] r X)) (hX : ∀ d1 y, X d1 → X (ax_up d1 580 0 y)) : zEw l zw_read hh_read [.ref 512, .ref 580] d (ax_Pi fun v d1 => v = nI r ∧ (r = 0 → V (d1 580 0)) ∧ X d1) := by
  intro D ad ca p e s m args below meth c hC hT hW htab
  show zx _ 0 0 0 [some (.ref 512), some (.ref 580), none] [] d
  refine zx_aldn hC dL_read_0 rfl ?_
  refine zx_icst (v := nI 0) hC dL_read_1 (by decide) ?_
  refine zx_aldn hC dL_read_2 rfl ?_
  refine zx_vx (tl := []) (rest := [.int (nI 0), .ref 580]) (q := zm_read) (id := 512) hC ⟨Nat.le_refl _, Nat.le_refl _, Nat.le_refl _, Nat.le_refl _⟩ rfl hT dL_read_3 zlx_read (List.forall_mem_cons.mpr ⟨rfl, fun _ h => absurd h List.not_mem_nil⟩) (Nat.le_of_ble_eq_true rfl) rfl hE ?_ ?_
  · rintro _ d1 ⟨y9, rfl, hr, hV, hX1⟩
    refine zx_i2lst hC dL_read_6 dL_read_7 ?_
    refine zx_goto 17 hC dL_read_8 (by decide) ?_
    refine zx_icst (v := nI 0) hC dL_read_17 (by decide) ?_
    refine z8_ri hC (Nat.le_refl _) (Nat.le_refl _) dL_read_18 rfl ?_
    exact ⟨_, rfl, by rw [hr], fun _ => by rw [up_at]; exact hV, hX _ _ hX1⟩
  · rintro E d1 ⟨⟨k, hk, hr⟩, hX1⟩ H1 locs1 ls q ce hP hD hS hL hlv h1 h2 h3
    match k, hk, hr with
    | 0, hk, hr =>
      obtain rfl : xIA = E := Option.some.inj hk
      refine vx_catch (own := RL) (name := xIA) hC.2.2.2.2.1 [] ⟨0, 8, 11, 13⟩ [⟨0, 8, 14, 17⟩] htab (fun z hz => absurd hz List.not_mem_nil) rfl (by decide) (hC.2.2.2.2.2.1 _ zcl_13) (zcast hW (by decide +kernel)) h1 h2 h3 (z8_h1 (v := nI 1) hC dL_read_11 (by decide) dL_read_12 (by decide) dL_read_13 rfl hP hS hlv ?_)
      exact ⟨_, rfl, by rw [hr], fun z => absurd (hr.symm.trans z) (by decide), hX1⟩
    | 1, hk, hr =>
      obtain rfl : xUO = E := Option.some.inj hk
      refine vx_catch (own := RL) (name := xUO) hC.2.2.2.2.1 [⟨0, 8, 11, 13⟩] ⟨0, 8, 14, 17⟩ [] htab (List.forall_mem_cons.mpr ⟨Or.inr ⟨by decide, xIA, hC.2.2.2.2.2.1 _ zcl_13, hW.1 (xUO, xIA) (by decide +kernel)⟩, fun _ h => absurd h List.not_mem_nil⟩) rfl (by decide) (hC.2.2.2.2.2.1 _ zcl_17) (zcast hW (by decide +kernel)) h1 h2 h3 (z8_h1 (v := nI 2) hC dL_read_14 (by decide) dL_read_15 (by decide) dL_read_16 rfl hP hS hlv ?_)
      exact ⟨_, rfl, by rw [hr], fun z => absurd (hr.symm.trans z) (by decide), hX1⟩
    | k + 2, hk, hr => exact absurd hk (by simp)
theorem zlx_event : zLx RL 50 zm_event 2 := by
  refine ⟨fun w hw => ?_, rfl, by decide +kernel, by decide +kernel, by decide +kernel, by decide +kernel, by decide, by decide⟩
  unfold wsV at hw
  rcases List.mem_append.mp hw with h | h
  · simp only [List.mem_cons, List.not_mem_nil, or_false] at h
    rcases h with h | h | h | h <;> rw [h]
    · exact zml_event
    · exact zim_event
    · exact zse_event
    · exact zin_7
  · rcases List.mem_cons.mp h with h | h
    · rw [h]; exact zco_event
    · exact h
theorem zl_event {l : Launch} {d : ax_D} {x y : Int32} {r : Nat} {V : Int32 → Prop} {X : ax_D → Prop} (hE : zE l zm_event [.ref 512, .int x, .int y] d (zI r V X) (zO [xIB, xIA] r X)) (hX : ∀ d1 y, X d1 → X (ax_up d1 580 0 y)) : zEw l zw_event hh_event [.ref 512, .int x, .int y, .ref 580] d (ax_Pi fun v d1 => v = nI r ∧ (r = 0 → V (d1 580 0)) ∧ X d1) := by
  intro D ad ca p e s m args below meth c hC hT hW htab
  show zx _ 0 0 0 [some (.ref 512), some (.int x), some (.int y), some (.ref 580), none] [] d
  refine zx_aldn hC dL_event_0 rfl ?_
  refine zx_icst (v := nI 0) hC dL_event_1 (by decide) ?_
  refine zx_aldn hC dL_event_2 rfl ?_
  refine zx_ildn hC dL_event_3 rfl ?_
  refine zx_ildn hC dL_event_4 rfl ?_
  refine zx_vx (tl := [.int x, .int y]) (rest := [.int (nI 0), .ref 580]) (q := zm_event) (id := 512) hC ⟨Nat.le_refl _, Nat.le_refl _, Nat.le_refl _, Nat.le_refl _⟩ rfl hT dL_event_5 zlx_event (List.forall_mem_cons.mpr ⟨rfl, List.forall_mem_cons.mpr ⟨rfl, List.forall_mem_cons.mpr ⟨rfl, fun _ h => absurd h List.not_mem_nil⟩⟩⟩) (Nat.le_of_ble_eq_true rfl) rfl hE ?_ ?_
  · rintro _ d1 ⟨y9, rfl, hr, hV, hX1⟩
    refine zx_i2lst hC dL_event_8 dL_event_9 ?_
    refine zx_goto 21 hC dL_event_10 (by decide) ?_
    refine zx_icst (v := nI 0) hC dL_event_21 (by decide) ?_
    refine z8_ri hC (Nat.le_refl _) (Nat.le_refl _) dL_event_22 rfl ?_
    exact ⟨_, rfl, by rw [hr], fun _ => by rw [up_at]; exact hV, hX _ _ hX1⟩
  · rintro E d1 ⟨⟨k, hk, hr⟩, hX1⟩ H1 locs1 ls q ce hP hD hS hL hlv h1 h2 h3
    match k, hk, hr with
    | 0, hk, hr =>
      obtain rfl : xIB = E := Option.some.inj hk
      refine vx_catch (own := RL) (name := xIB) hC.2.2.2.2.1 [] ⟨0, 10, 13, 39⟩ [⟨0, 10, 17, 13⟩] htab (fun z hz => absurd hz List.not_mem_nil) rfl (by decide) (hC.2.2.2.2.2.1 _ zcl_39) (zcast hW (by decide +kernel)) h1 h2 h3 (z8_h2 (v := nI 1) hC dL_event_13 (by decide) dL_event_15 (by decide) dL_event_16 rfl hP hS hlv ?_)
      exact ⟨_, rfl, by rw [hr], fun z => absurd (hr.symm.trans z) (by decide), hX1⟩
    | 1, hk, hr =>
      obtain rfl : xIA = E := Option.some.inj hk
      refine vx_catch (own := RL) (name := xIA) hC.2.2.2.2.1 [⟨0, 10, 13, 39⟩] ⟨0, 10, 17, 13⟩ [] htab (List.forall_mem_cons.mpr ⟨Or.inr ⟨by decide, xIB, hC.2.2.2.2.2.1 _ zcl_39, hW.1 (xIA, xIB) (by decide +kernel)⟩, fun _ h => absurd h List.not_mem_nil⟩) rfl (by decide) (hC.2.2.2.2.2.1 _ zcl_13) (zcast hW (by decide +kernel)) h1 h2 h3 (z8_h2 (v := nI 2) hC dL_event_17 (by decide) dL_event_19 (by decide) dL_event_20 rfl hP hS hlv ?_)
      exact ⟨_, rfl, by rw [hr], fun z => absurd (hr.symm.trans z) (by decide), hX1⟩
    | k + 2, hk, hr => exact absurd hk (by simp)
theorem zlx_again : zLx RL 54 zm_again 0 := by
  refine ⟨fun w hw => ?_, rfl, by decide +kernel, by decide +kernel, by decide +kernel, by decide +kernel, by decide, by decide⟩
  unfold wsV at hw
  rcases List.mem_append.mp hw with h | h
  · simp only [List.mem_cons, List.not_mem_nil, or_false] at h
    rcases h with h | h | h | h <;> rw [h]
    · exact zml_again
    · exact zim_again
    · exact zse_again
    · exact zin_7
  · rcases List.mem_cons.mp h with h | h
    · rw [h]; exact zco_again
    · exact h
theorem zl_again {l : Launch} {d : ax_D} {r : Nat} {V : Int32 → Prop} {X : ax_D → Prop} (hE : zE l zm_again [.ref 512] d (zI r V X) (zO [xIS, xUO] r X)) (hX : ∀ d1 y, X d1 → X (ax_up d1 580 0 y)) : zEw l zw_again hh_again [.ref 512, .ref 580] d (ax_Pi fun v d1 => v = nI r ∧ (r = 0 → V (d1 580 0)) ∧ X d1) := by
  intro D ad ca p e s m args below meth c hC hT hW htab
  show zx _ 0 0 0 [some (.ref 512), some (.ref 580), none] [] d
  refine zx_aldn hC dL_again_0 rfl ?_
  refine zx_icst (v := nI 0) hC dL_again_1 (by decide) ?_
  refine zx_aldn hC dL_again_2 rfl ?_
  refine zx_vx (tl := []) (rest := [.int (nI 0), .ref 580]) (q := zm_again) (id := 512) hC ⟨Nat.le_refl _, Nat.le_refl _, Nat.le_refl _, Nat.le_refl _⟩ rfl hT dL_again_3 zlx_again (List.forall_mem_cons.mpr ⟨rfl, fun _ h => absurd h List.not_mem_nil⟩) (Nat.le_of_ble_eq_true rfl) rfl hE ?_ ?_
  · rintro _ d1 ⟨y9, rfl, hr, hV, hX1⟩
    refine zx_i2lst hC dL_again_6 dL_again_7 ?_
    refine zx_goto 17 hC dL_again_8 (by decide) ?_
    refine zx_icst (v := nI 0) hC dL_again_17 (by decide) ?_
    refine z8_ri hC (Nat.le_refl _) (Nat.le_refl _) dL_again_18 rfl ?_
    exact ⟨_, rfl, by rw [hr], fun _ => by rw [up_at]; exact hV, hX _ _ hX1⟩
  · rintro E d1 ⟨⟨k, hk, hr⟩, hX1⟩ H1 locs1 ls q ce hP hD hS hL hlv h1 h2 h3
    match k, hk, hr with
    | 0, hk, hr =>
      obtain rfl : xIS = E := Option.some.inj hk
      refine vx_catch (own := RL) (name := xIS) hC.2.2.2.2.1 [] ⟨0, 8, 11, 15⟩ [⟨0, 8, 14, 17⟩] htab (fun z hz => absurd hz List.not_mem_nil) rfl (by decide) (hC.2.2.2.2.2.1 _ zcl_15) (zcast hW (by decide +kernel)) h1 h2 h3 (z8_h1 (v := nI 1) hC dL_again_11 (by decide) dL_again_12 (by decide) dL_again_13 rfl hP hS hlv ?_)
      exact ⟨_, rfl, by rw [hr], fun z => absurd (hr.symm.trans z) (by decide), hX1⟩
    | 1, hk, hr =>
      obtain rfl : xUO = E := Option.some.inj hk
      refine vx_catch (own := RL) (name := xUO) hC.2.2.2.2.1 [⟨0, 8, 11, 15⟩] ⟨0, 8, 14, 17⟩ [] htab (List.forall_mem_cons.mpr ⟨Or.inr ⟨by decide, xIS, hC.2.2.2.2.2.1 _ zcl_15, hW.1 (xUO, xIS) (by decide +kernel)⟩, fun _ h => absurd h List.not_mem_nil⟩) rfl (by decide) (hC.2.2.2.2.2.1 _ zcl_17) (zcast hW (by decide +kernel)) h1 h2 h3 (z8_h1 (v := nI 2) hC dL_again_14 (by decide) dL_again_15 (by decide) dL_again_16 rfl hP hS hlv ?_)
      exact ⟨_, rfl, by rw [hr], fun z => absurd (hr.symm.trans z) (by decide), hX1⟩
    | k + 2, hk, hr => exact absurd hk (by simp)
