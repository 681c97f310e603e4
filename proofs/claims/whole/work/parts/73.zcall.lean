/-! CALLS, RETURNS, THROWS of the class's methods that may throw. -/
def zX : List (Nat × String) := [(34, "java/lang/IllegalArgumentException"), (45, "java/lang/IllegalStateException"), (54, "java/lang/UnsupportedOperationException"), (111, "java/lang/IndexOutOfBoundsException")]
def zXn : List String := ["java/lang/RuntimeException", "java/lang/Exception"]
def zXW : List Cond := zX.flatMap (fun q => vx_atS "LearnedCodes" q.1 q.2 zXn)
theorem zXW_c : zXW.all (fun w => w.onTables && w.keepsCast) = true := by decide +kernel
theorem zXW_t : zXW.all (fun w => decide (w ∈ lw_tbl)) = true := by decide +kernel
theorem zXW_o : zXW.all vx_ot = true := by decide +kernel
def zSt : List (Nat × String) := [(32, "that is no name"), (43, "the document is whole"), (52, "too many elements, names or bits"), (59, "that is no name or no value"), (64, "no element is open that takes attributes"), (66, "too many names or bits"), (68, "that is no value"), (74, "no element is open"), (76, "too many bits"), (98, "the stream is full"), (109, "the stream has no such bit"), (116, "the stream has not so many bits"), (131, "the stream is wrong"), (134, "the document has too many events"), (140, "there is no such event"), (142, "an event has no such part"), (148, "no events were read"), (150, "an event can't be written")]
theorem zXW_m {q : Nat × String} (hq : q ∈ zX) {w : Cond} (hw : w ∈ vx_atS "LearnedCodes" q.1 q.2 zXn) : w ∈ zXW := List.mem_flatMap.mpr ⟨q, hq, hw⟩
/-- a word on tables is the same in a warmer state -/
theorem zw_warm {s U : State} {w : Cond} {a b : Array Value} (hc : (w.onTables && w.keepsCast) = true) (hW : s.WarmedH U.vm) (h : w.before a s = true) : w.before b U = true := by
  rw [Bool.and_eq_true] at hc
  exact va_tabs hc.1 (rfl : (s.setVm U.vm).vm = U.vm) (Cond.before_shiftedCast (args := a) (State.Shifted.of_warmed hW) w hc.2 h)
/-- what a throw needs of the start -/
def zTh (A : Nat → Prop) (U : State) : Prop := (∀ w ∈ zXW, w.before #[] U = true) ∧ (∀ r ∈ zSt, ∃ sa : Nat, vk_R "LearnedCodes" r.1 r.2 sa U) ∧ vx_Zq Bundle.tN "UNASSIGNED_STACK" Bundle.steD A U U.heap ∧ vx_Zq Bundle.tN "SUPPRESSED_SENTINEL" Bundle.listD A U U.heap
theorem zTh_warm {A B : Nat → Prop} {s U : State} {H : Heap} (h : zTh A s) (hW : s.WarmedH U.vm) (hU : U.heap = H) (hk : ∀ a : Nat, a < s.heap.size → ¬ A a → H[a]? = s.heap[a]?) (hB : ∀ a : Nat, B a → A a) : zTh B U := by
  refine ⟨fun w hw => zw_warm (List.all_eq_true.mp zXW_c w hw) hW (h.1 w hw), fun r hr => ?_, ?_, ?_⟩
  · obtain ⟨sa, h2⟩ := h.2.1 r hr
    exact ⟨sa, h2.warm hW⟩
  · rw [hU]; exact ((h.2.2.1.kept hk).narrow hB).moved hW.alike
  · rw [hU]; exact ((h.2.2.2.kept hk).narrow hB).moved hW.alike
def zK (g : zG) (cells slots : Nat) : Prop := zC g ∧ 7 ≤ (zR g).frames ∧ 196 ≤ (zR g).locals ∧ cells ≤ (zR g).cells ∧ slots ≤ (zR g).slots
def zLk (g : zG) (idx a : Nat) : Prop := a < ax_Ms.length ∧ ax_z (ax_me a) = 0 ∧ Cond.methodLink (ax_y (zq g)).cls idx (ax_y (ax_me a)) ∈ ax_TW
def zLs (g : zG) (idx a : Nat) : Prop := a < ax_Ms.length ∧ ax_z (ax_me a) = 1 ∧ (ax_y (ax_me a)).cls = (ax_y (zq g)).cls ∧ Cond.methodLink (ax_y (zq g)).cls idx (ax_y (ax_me a)) ∈ ax_TW
theorem ax_v7 : ∀ q ∈ ax_Ms, ax_v q ≤ 7 := by decide +kernel
theorem ax_me_in {a : Nat} (h : a < ax_Ms.length) : ax_me a ∈ ax_Ms := by
  unfold ax_me
  rw [List.getD_eq_getElem?_getD, List.getElem?_eq_getElem h]
  exact List.getElem_mem h
section ZB
variable {p : Program} {l : Launch} {e : Env} {R : Room} {s : State} {m : MethodId} {args : Array Value} {below : List Frame} {meth : Method} {c : Code} {H : Heap} {locs : List Loc} {cells slots : Nat} {Qt : State → Prop} {D : va_G} {ad : Nat → Nat} {ca : Nat → ClassId} {d : ax_D} {H0 : Heap} {pc : Nat} {ls : Array Slot} {st0 rest : List Value}
theorem zx_back {P : ax_Po} {sz : Nat} {a : Array Value} (hr : va_Run p l e R s m args below meth c H locs cells slots 0 0 (F0 m pc ls st0) (rest.map (ax_cv ad)) (ax_Qc D ad ca P H.size a) (ax_A ad H.size)) (hS : va_S (ax_A ad sz) H0 H locs) (hz : sz ≤ H.size)
    (kk : ∀ (r : Option Value) (d1 : ax_D) (H1 : Heap) (locs1 : List Loc), P r d1 → va_P D vwCl (ax_w ad ca d1) H1 → va_S (ax_A ad sz) H0 H1 locs1 → W p l e R s m args below meth c H1 locs1 cells slots Qt (F0 m (pc + 3) ls ((r.toList ++ rest).map (ax_cv ad)))) : W p l e R s m args below meth c H locs cells slots Qt (F0 m pc ls st0) := by
  intro T hT X
  obtain ⟨v, st₀, t, T', L, h0, X', hL, e1, e2, ⟨⟨r, d1, hv, hp, hP⟩, hz1, hk⟩, st⟩ := hr T hT X
  cases hv
  rw [h0] at hz1 hk
  have hA := ax_A_le (ad := ad) hz
  obtain ⟨t2, a1, b1⟩ := kk r d1 T'.heap (locs ++ L) hp (by rw [e1]; exact hP)
    ⟨Nat.le_trans hS.1 (by rw [e1]; exact hz1), fun q h1 h2 => by rw [e1, hk q (Nat.lt_of_lt_of_le h1 hS.1) (fun z => h2 (hA q z))]; exact hS.2.1 q h1 h2, fun q hq => by
      rcases List.mem_append.mp hq with h | h
      · exact hS.2.2 q h
      · exact hA _ (hL q h)⟩ T' rfl X'
  have e3 : (r.toList ++ rest).map (ax_cv ad) = (r.map (ax_cv ad)).toList ++ rest.map (ax_cv ad) := by cases r <;> rfl
  rw [e3] at a1
  exact ⟨t2, st t2 a1, b1⟩
end ZB
section ZD
variable {g : zG} {cells slots pc idx id n a : Nat} {f : Nat → ax_X} {L : ax_L1} {r : List Value} {d : ax_D} {P : Int32 → ax_D → Prop} {Pv : ax_D → Prop} {v1 v2 v3 v4 : Value}
theorem zx_cv {tl rest : List Value} {P : ax_Po} (hK : zK g cells slots) (h : decode (ax_c (zq g)) pc = .ok (.invokevirtual idx, 3)) (hl : zLk g idx a) (hlen : (Value.ref id :: tl).length = ax_g (ax_me a)) (hcat : ∀ v ∈ (Value.ref id :: tl), v.category = 1) (hsum : (rest.map fun v => v.category).sum ≤ 8) (hsh : ax_sh id = some (ax_o (ax_me a) + 4, n, f)) (hE : ax_E a (.ref id :: tl) d P)
    (kk : ∀ (r : Option Value) (d1 : ax_D), P r d1 → zx g cells slots (pc + 3) L (r.toList ++ rest) d1) : zx g cells slots pc L ((Value.ref id :: tl).reverse ++ rest) d := by
  obtain ⟨⟨p, l, e, R, s, m, args, below, meth, c⟩, Qt, D, ad, ca, H0, q⟩ := g
  obtain ⟨hC, hF, hLo, hcl, hsl⟩ := hK
  obtain ⟨ha, hz0, w1⟩ := hl
  have hoka := ax_all _ (ax_me_in ha)
  have fa := ax_mfacts hoka
  have hv7 := ax_v7 _ (ax_me_in ha)
  have hwk : ax_wck (ax_me a) := hoka.2.2
  unfold ax_wck at hwk
  rw [if_pos hz0] at hwk
  have w2 : Cond.instanceMethod (ax_y (ax_me a)) ∈ ax_TW := List.mem_filter.mpr ⟨hwk.1, rfl⟩
  have w3 : Cond.selects (ax_y (ax_me a)).cls (ax_y (ax_me a)) (ax_y (ax_me a)) ∈ ax_TW := List.mem_filter.mpr ⟨hwk.2, rfl⟩
  intro H locs ls hP hD hS hL hlv
  obtain ⟨hx, hb, hr, hml, hown, hts, hlocks, hKK, hN⟩ := hC
  have hM := ax_met (l := l) (D := D) (ad := ad) (ca := ca) hoka hlen hcat (ax_sound hE) H.size
  have e1 : ((Value.ref id :: tl).reverse ++ rest).map (ax_cv ad) = (tl.map (ax_cv ad)).reverse ++ .ref (ad id) :: rest.map (ax_cv ad) := by simp [ax_cv]
  show W p l e R s m args below meth c H locs cells slots Qt (F0 m pc ls (((Value.ref id :: tl).reverse ++ rest).map (ax_cv ad)))
  rw [e1]
  obtain ⟨k0, hk0, hwk2⟩ := ax_w_get ad ca d hsh
  rw [ax_cl_obj hsh] at hwk2
  have hrec := va_recv hKK hP (ax_rd_at fa.2.2.2.2.1) hwk2
  rw [fa.2.2.2.1] at hrec
  have hgood : GoodIn ax_TW (wsV (ax_y q).cls idx (ax_y (ax_me a)).cls (ax_y (ax_me a)) (ax_ws (ax_me a))) := ax_TW_good (fun w hw => by
    unfold wsV at hw
    rcases List.mem_append.mp hw with h | h
    · simp only [List.mem_cons, List.not_mem_nil, or_false] at h
      rcases h with h | h | h | h <;> rw [h]
      · exact w1
      · exact w2
      · exact w3
      · exact ax_ini_TW hoka
    · exact ax_ws_TW hoka w h)
  have hpar : (parseMethodDescriptor (ax_y (ax_me a)).desc).map (fun d => d.parameters.length) = some tl.length := by
    have h9 := fa.2.2.2.2.2.2.2.2
    rw [hz0, ← hlen] at h9
    cases hp : parseMethodDescriptor (ax_y (ax_me a)).desc with
    | none => rw [hp] at h9; cases h9
    | some sg =>
      rw [hp] at h9
      simp only [Option.map_some, Option.some.injEq, List.length_cons, Nat.add_zero] at h9 ⊢
      omega
  have hv0 := fa.2.2.2.2.2.2.2.1
  have hn9 := fa.2.2.2.2.2.1
  have hF2 : 7 ≤ R.frames := hF
  have hLo2 : 196 ≤ R.locals := hLo
  have hrm : (ax_R (ax_v (ax_me a))).frames + 1 ≤ R.frames ∧ 8 + (ax_n (ax_me a) + 11) + (ax_R (ax_v (ax_me a))).locals ≤ R.locals := by
    show ax_v (ax_me a) - 1 + 1 ≤ R.frames ∧ 8 + (ax_n (ax_me a) + 11) + 28 * (ax_v (ax_me a) - 1) ≤ R.locals
    omega
  exact zx_back (P := P) (va_runV (As := tl.map (ax_cv ad)) (rest := rest.map (ax_cv ad)) (b := ad id) (C := (ax_y (ax_me a)).cls) ⟨hx, hb, hml, hown, hts⟩ hM (cwV tl.length hts hgood rfl rfl rfl ⟨rfl, fa.2.1, fa.2.2.1, hpar⟩ hrm) ⟨ax_blind, hrec, fun U hU hW => ⟨rfl, by rw [hU], by rw [hU]; exact hP, va_K.moved hW.alike hKK, hD.weaken (fun _ _ _ _ => trivial), ax_NW_warm hW hN⟩⟩ rfl (by rw [List.length_map]) hlv.1 rfl (lv_room (by rw [ax_sum]; exact hsum)) h ⟨hcl, hsl⟩) hS hS.1 (fun r d1 H1 locs1 hp hP1 hS1 => kk r d1 hp H1 locs1 ls hP1 (ax_w_D hD) hS1 hL hlv)
theorem zx_cs {as rest : List Value} {P : ax_Po} (hK : zK g cells slots) (h : decode (ax_c (zq g)) pc = .ok (.invokestatic idx, 3)) (hl : zLs g idx a) (hlen : as.length = ax_g (ax_me a)) (hcat : ∀ v ∈ as, v.category = 1) (hsum : (rest.map fun v => v.category).sum ≤ 8) (hE : ax_E a as d P)
    (kk : ∀ (r : Option Value) (d1 : ax_D), P r d1 → zx g cells slots (pc + 3) L (r.toList ++ rest) d1) : zx g cells slots pc L (as.reverse ++ rest) d := by
  obtain ⟨⟨p, l, e, R, s, m, args, below, meth, c⟩, Qt, D, ad, ca, H0, q⟩ := g
  obtain ⟨hC, hF, hLo, hcl, hsl⟩ := hK
  obtain ⟨ha, hz0, hcls, w1⟩ := hl
  have hoka := ax_all _ (ax_me_in ha)
  have fa := ax_mfacts hoka
  have hv7 := ax_v7 _ (ax_me_in ha)
  have hwk : ax_wck (ax_me a) := hoka.2.2
  unfold ax_wck at hwk
  rw [if_neg (by rw [hz0]; decide)] at hwk
  have w2 : Cond.static (ax_y (ax_me a)) ∈ ax_TW := List.mem_filter.mpr ⟨hwk, rfl⟩
  intro H locs ls hP hD hS hL hlv
  obtain ⟨hx, hb, hr, hml, hown, hts, hlocks, hKK, hN⟩ := hC
  have hM := ax_met (l := l) (D := D) (ad := ad) (ca := ca) hoka hlen hcat (ax_sound hE) H.size
  have e1 : (as.reverse ++ rest).map (ax_cv ad) = (as.map (ax_cv ad)).reverse ++ rest.map (ax_cv ad) := by simp
  show W p l e R s m args below meth c H locs cells slots Qt (F0 m pc ls ((as.reverse ++ rest).map (ax_cv ad)))
  rw [e1]
  have hpar : (parseMethodDescriptor (ax_y (ax_me a)).desc).map (fun d => d.parameters.length) = some as.length := by
    have h9 := fa.2.2.2.2.2.2.2.2
    rw [hz0, ← hlen] at h9
    cases hp : parseMethodDescriptor (ax_y (ax_me a)).desc with
    | none => rw [hp] at h9; cases h9
    | some sg =>
      rw [hp] at h9
      simp only [Option.map_some, Option.some.injEq] at h9 ⊢
      omega
  have hv0 := fa.2.2.2.2.2.2.2.1
  have hn9 := fa.2.2.2.2.2.1
  have hF2 : 7 ≤ R.frames := hF
  have hLo2 : 196 ≤ R.locals := hLo
  have hrm : (ax_R (ax_v (ax_me a))).frames + 1 ≤ R.frames ∧ 8 + (ax_n (ax_me a) + 11) + (ax_R (ax_v (ax_me a))).locals ≤ R.locals := by
    show ax_v (ax_me a) - 1 + 1 ≤ R.frames ∧ 8 + (ax_n (ax_me a) + 11) + 28 * (ax_v (ax_me a) - 1) ≤ R.locals
    omega
  have hpre : PreS s H (ax_Pc D ad ca as d H.size) (as.map (ax_cv ad)) := ⟨ax_blind, fun U hU hW => ⟨rfl, by rw [hU], by rw [hU]; exact hP, va_K.moved hW.alike hKK, hD.weaken (fun _ _ _ _ => trivial), ax_NW_warm hW hN⟩⟩
  have hgood : GoodIn ax_TW (wsS (ax_y q).cls idx (ax_y (ax_me a)) (ax_ws (ax_me a))) := ax_TW_good (fun w hw => by
    unfold wsS at hw
    rcases List.mem_append.mp hw with h | h
    · simp only [List.mem_cons, List.not_mem_nil, or_false] at h
      rcases h with h | h | h <;> rw [h]
      · exact w1
      · exact w2
      · show Cond.initialized (ax_y q).cls ∈ ax_TW
        rw [← hcls]
        exact ax_ini_TW hoka
    · exact ax_ws_TW hoka w h)
  exact zx_back (P := P) (va_runS (As := as.map (ax_cv ad)) (rest := rest.map (ax_cv ad)) ⟨hx, hb, hml, hown, hts⟩ hM (cwS as.length hts hgood rfl rfl rfl ⟨hcls, fa.2.1, fa.2.2.1, hpar⟩ hrm) hpre rfl (by rw [List.length_map]) hlv.1 rfl (lv_room (by rw [ax_sum]; exact hsum)) h ⟨hcl, hsl⟩) hS hS.1 (fun r d1 H1 locs1 hp hP1 hS1 => kk r d1 hp H1 locs1 ls hP1 (ax_w_D hD) hS1 hL hlv)
theorem zx_i0 (hK : zK g cells slots) (h : decode (ax_c (zq g)) pc = .ok (.invokevirtual idx, 3)) (hl : zLk g idx a) (hg : 1 = ax_g (ax_me a))  (hs : (r.map fun v => v.category).sum ≤ 8) (hsh : ax_sh id = some (ax_o (ax_me a) + 4, n, f)) (hE : ax_E a [.ref id] d (ax_Pi P)) (k : ∀ (x : Int32) (d1 : ax_D), P x d1 → zx g cells slots (pc + 3) L (.int x :: r) d1) : zx g cells slots pc L (.ref id :: r) d :=
  zx_cv (tl := []) (rest := r) hK h hl hg (by simp [Value.category]) hs hsh hE (fun o d1 ho => by obtain ⟨x, rfl, hp⟩ := ho; exact k x d1 hp)
theorem zx_v0 (hK : zK g cells slots) (h : decode (ax_c (zq g)) pc = .ok (.invokevirtual idx, 3)) (hl : zLk g idx a) (hg : 1 = ax_g (ax_me a))  (hs : (r.map fun v => v.category).sum ≤ 8) (hsh : ax_sh id = some (ax_o (ax_me a) + 4, n, f)) (hE : ax_E a [.ref id] d (ax_Pv Pv)) (k : ∀ (d1 : ax_D), Pv d1 → zx g cells slots (pc + 3) L r d1) : zx g cells slots pc L (.ref id :: r) d :=
  zx_cv (tl := []) (rest := r) hK h hl hg (by simp [Value.category]) hs hsh hE (fun o d1 ho => by obtain ⟨rfl, hp⟩ := ho; exact k d1 hp)
theorem zx_i1 (hK : zK g cells slots) (h : decode (ax_c (zq g)) pc = .ok (.invokevirtual idx, 3)) (hl : zLk g idx a) (hg : 2 = ax_g (ax_me a)) (c1 : v1.category = 1) (hs : (r.map fun v => v.category).sum ≤ 8) (hsh : ax_sh id = some (ax_o (ax_me a) + 4, n, f)) (hE : ax_E a [.ref id, v1] d (ax_Pi P)) (k : ∀ (x : Int32) (d1 : ax_D), P x d1 → zx g cells slots (pc + 3) L (.int x :: r) d1) : zx g cells slots pc L (v1 :: .ref id :: r) d :=
  zx_cv (tl := [v1]) (rest := r) hK h hl hg (List.forall_mem_cons.mpr ⟨rfl, List.forall_mem_cons.mpr ⟨c1, fun _ h => absurd h List.not_mem_nil⟩⟩) hs hsh hE (fun o d1 ho => by obtain ⟨x, rfl, hp⟩ := ho; exact k x d1 hp)
theorem zx_v1 (hK : zK g cells slots) (h : decode (ax_c (zq g)) pc = .ok (.invokevirtual idx, 3)) (hl : zLk g idx a) (hg : 2 = ax_g (ax_me a)) (c1 : v1.category = 1) (hs : (r.map fun v => v.category).sum ≤ 8) (hsh : ax_sh id = some (ax_o (ax_me a) + 4, n, f)) (hE : ax_E a [.ref id, v1] d (ax_Pv Pv)) (k : ∀ (d1 : ax_D), Pv d1 → zx g cells slots (pc + 3) L r d1) : zx g cells slots pc L (v1 :: .ref id :: r) d :=
  zx_cv (tl := [v1]) (rest := r) hK h hl hg (List.forall_mem_cons.mpr ⟨rfl, List.forall_mem_cons.mpr ⟨c1, fun _ h => absurd h List.not_mem_nil⟩⟩) hs hsh hE (fun o d1 ho => by obtain ⟨rfl, hp⟩ := ho; exact k d1 hp)
theorem zx_i2 (hK : zK g cells slots) (h : decode (ax_c (zq g)) pc = .ok (.invokevirtual idx, 3)) (hl : zLk g idx a) (hg : 3 = ax_g (ax_me a)) (c1 : v1.category = 1) (c2 : v2.category = 1) (hs : (r.map fun v => v.category).sum ≤ 8) (hsh : ax_sh id = some (ax_o (ax_me a) + 4, n, f)) (hE : ax_E a [.ref id, v1, v2] d (ax_Pi P)) (k : ∀ (x : Int32) (d1 : ax_D), P x d1 → zx g cells slots (pc + 3) L (.int x :: r) d1) : zx g cells slots pc L (v2 :: v1 :: .ref id :: r) d :=
  zx_cv (tl := [v1, v2]) (rest := r) hK h hl hg (List.forall_mem_cons.mpr ⟨rfl, List.forall_mem_cons.mpr ⟨c1, List.forall_mem_cons.mpr ⟨c2, fun _ h => absurd h List.not_mem_nil⟩⟩⟩) hs hsh hE (fun o d1 ho => by obtain ⟨x, rfl, hp⟩ := ho; exact k x d1 hp)
theorem zx_v2 (hK : zK g cells slots) (h : decode (ax_c (zq g)) pc = .ok (.invokevirtual idx, 3)) (hl : zLk g idx a) (hg : 3 = ax_g (ax_me a)) (c1 : v1.category = 1) (c2 : v2.category = 1) (hs : (r.map fun v => v.category).sum ≤ 8) (hsh : ax_sh id = some (ax_o (ax_me a) + 4, n, f)) (hE : ax_E a [.ref id, v1, v2] d (ax_Pv Pv)) (k : ∀ (d1 : ax_D), Pv d1 → zx g cells slots (pc + 3) L r d1) : zx g cells slots pc L (v2 :: v1 :: .ref id :: r) d :=
  zx_cv (tl := [v1, v2]) (rest := r) hK h hl hg (List.forall_mem_cons.mpr ⟨rfl, List.forall_mem_cons.mpr ⟨c1, List.forall_mem_cons.mpr ⟨c2, fun _ h => absurd h List.not_mem_nil⟩⟩⟩) hs hsh hE (fun o d1 ho => by obtain ⟨rfl, hp⟩ := ho; exact k d1 hp)
theorem zx_i3 (hK : zK g cells slots) (h : decode (ax_c (zq g)) pc = .ok (.invokevirtual idx, 3)) (hl : zLk g idx a) (hg : 4 = ax_g (ax_me a)) (c1 : v1.category = 1) (c2 : v2.category = 1) (c3 : v3.category = 1) (hs : (r.map fun v => v.category).sum ≤ 8) (hsh : ax_sh id = some (ax_o (ax_me a) + 4, n, f)) (hE : ax_E a [.ref id, v1, v2, v3] d (ax_Pi P)) (k : ∀ (x : Int32) (d1 : ax_D), P x d1 → zx g cells slots (pc + 3) L (.int x :: r) d1) : zx g cells slots pc L (v3 :: v2 :: v1 :: .ref id :: r) d :=
  zx_cv (tl := [v1, v2, v3]) (rest := r) hK h hl hg (List.forall_mem_cons.mpr ⟨rfl, List.forall_mem_cons.mpr ⟨c1, List.forall_mem_cons.mpr ⟨c2, List.forall_mem_cons.mpr ⟨c3, fun _ h => absurd h List.not_mem_nil⟩⟩⟩⟩) hs hsh hE (fun o d1 ho => by obtain ⟨x, rfl, hp⟩ := ho; exact k x d1 hp)
theorem zx_v3 (hK : zK g cells slots) (h : decode (ax_c (zq g)) pc = .ok (.invokevirtual idx, 3)) (hl : zLk g idx a) (hg : 4 = ax_g (ax_me a)) (c1 : v1.category = 1) (c2 : v2.category = 1) (c3 : v3.category = 1) (hs : (r.map fun v => v.category).sum ≤ 8) (hsh : ax_sh id = some (ax_o (ax_me a) + 4, n, f)) (hE : ax_E a [.ref id, v1, v2, v3] d (ax_Pv Pv)) (k : ∀ (d1 : ax_D), Pv d1 → zx g cells slots (pc + 3) L r d1) : zx g cells slots pc L (v3 :: v2 :: v1 :: .ref id :: r) d :=
  zx_cv (tl := [v1, v2, v3]) (rest := r) hK h hl hg (List.forall_mem_cons.mpr ⟨rfl, List.forall_mem_cons.mpr ⟨c1, List.forall_mem_cons.mpr ⟨c2, List.forall_mem_cons.mpr ⟨c3, fun _ h => absurd h List.not_mem_nil⟩⟩⟩⟩) hs hsh hE (fun o d1 ho => by obtain ⟨rfl, hp⟩ := ho; exact k d1 hp)
theorem zx_i4 (hK : zK g cells slots) (h : decode (ax_c (zq g)) pc = .ok (.invokevirtual idx, 3)) (hl : zLk g idx a) (hg : 5 = ax_g (ax_me a)) (c1 : v1.category = 1) (c2 : v2.category = 1) (c3 : v3.category = 1) (c4 : v4.category = 1) (hs : (r.map fun v => v.category).sum ≤ 8) (hsh : ax_sh id = some (ax_o (ax_me a) + 4, n, f)) (hE : ax_E a [.ref id, v1, v2, v3, v4] d (ax_Pi P)) (k : ∀ (x : Int32) (d1 : ax_D), P x d1 → zx g cells slots (pc + 3) L (.int x :: r) d1) : zx g cells slots pc L (v4 :: v3 :: v2 :: v1 :: .ref id :: r) d :=
  zx_cv (tl := [v1, v2, v3, v4]) (rest := r) hK h hl hg (List.forall_mem_cons.mpr ⟨rfl, List.forall_mem_cons.mpr ⟨c1, List.forall_mem_cons.mpr ⟨c2, List.forall_mem_cons.mpr ⟨c3, List.forall_mem_cons.mpr ⟨c4, fun _ h => absurd h List.not_mem_nil⟩⟩⟩⟩⟩) hs hsh hE (fun o d1 ho => by obtain ⟨x, rfl, hp⟩ := ho; exact k x d1 hp)
theorem zx_v4 (hK : zK g cells slots) (h : decode (ax_c (zq g)) pc = .ok (.invokevirtual idx, 3)) (hl : zLk g idx a) (hg : 5 = ax_g (ax_me a)) (c1 : v1.category = 1) (c2 : v2.category = 1) (c3 : v3.category = 1) (c4 : v4.category = 1) (hs : (r.map fun v => v.category).sum ≤ 8) (hsh : ax_sh id = some (ax_o (ax_me a) + 4, n, f)) (hE : ax_E a [.ref id, v1, v2, v3, v4] d (ax_Pv Pv)) (k : ∀ (d1 : ax_D), Pv d1 → zx g cells slots (pc + 3) L r d1) : zx g cells slots pc L (v4 :: v3 :: v2 :: v1 :: .ref id :: r) d :=
  zx_cv (tl := [v1, v2, v3, v4]) (rest := r) hK h hl hg (List.forall_mem_cons.mpr ⟨rfl, List.forall_mem_cons.mpr ⟨c1, List.forall_mem_cons.mpr ⟨c2, List.forall_mem_cons.mpr ⟨c3, List.forall_mem_cons.mpr ⟨c4, fun _ h => absurd h List.not_mem_nil⟩⟩⟩⟩⟩) hs hsh hE (fun o d1 ho => by obtain ⟨rfl, hp⟩ := ho; exact k d1 hp)
theorem zx_t1 (hK : zK g cells slots) (h : decode (ax_c (zq g)) pc = .ok (.invokestatic idx, 3)) (hl : zLs g idx a) (hg : 1 = ax_g (ax_me a)) (c1 : v1.category = 1) (hs : (r.map fun v => v.category).sum ≤ 8) (hE : ax_E a [v1] d (ax_Pi P)) (k : ∀ (x : Int32) (d1 : ax_D), P x d1 → zx g cells slots (pc + 3) L (.int x :: r) d1) : zx g cells slots pc L (v1 :: r) d :=
  zx_cs (as := [v1]) (rest := r) hK h hl hg (by simp [c1]) hs hE (fun o d1 ho => by obtain ⟨x, rfl, hp⟩ := ho; exact k x d1 hp)
theorem zx_t2 (hK : zK g cells slots) (h : decode (ax_c (zq g)) pc = .ok (.invokestatic idx, 3)) (hl : zLs g idx a) (hg : 2 = ax_g (ax_me a)) (c1 : v1.category = 1) (c2 : v2.category = 1) (hs : (r.map fun v => v.category).sum ≤ 8) (hE : ax_E a [v1, v2] d (ax_Pi P)) (k : ∀ (x : Int32) (d1 : ax_D), P x d1 → zx g cells slots (pc + 3) L (.int x :: r) d1) : zx g cells slots pc L (v2 :: v1 :: r) d :=
  zx_cs (as := [v1, v2]) (rest := r) hK h hl hg (by simp [c1, c2]) hs hE (fun o d1 ho => by obtain ⟨x, rfl, hp⟩ := ho; exact k x d1 hp)
end ZD
/-! the frames of the class's methods that may throw -/
def R7 : Room := { frames := 7, cells := 1, slots := 6, locals := 196 }
def zXC (D : va_G) (ad : Nat → Nat) (ca : Nat → ClassId) (QX : String → ax_D → Prop) (sz : Nat) : String → State → State → Prop := fun E st t => (∃ d' : ax_D, QX E d' ∧ va_P D vwCl (ax_w ad ca d') t.heap) ∧ va_F (ax_A ad sz) st t
def z7 (p : Program) (l : Launch) (e : Env) (s : State) (m : MethodId) (args : Array Value) (below : List Frame) (meth : Method) (c : Code) (D : va_G) (ad : Nat → Nat) (ca : Nat → ClassId) (q : ax_M) (Q : ax_Po) (QX : String → ax_D → Prop) : zG :=
  ((p, l, e, R7, s, m, args, below, meth, c), vx_MQ below (ax_Qc D ad ca Q s.heap.size) (zXC D ad ca QX s.heap.size) args s 1 6 (ax_A ad s.heap.size), D, ad, ca, s.heap, q)
section ZE
variable {p : Program} {l : Launch} {e : Env} {s : State} {m : MethodId} {args : Array Value} {below : List Frame} {meth : Method} {c : Code} {D : va_G} {ad : Nat → Nat} {ca : Nat → ClassId} {q : ax_M} {Q : ax_Po} {QX : String → ax_D → Prop} {pc : Nat} {L : ax_L1} {d : ax_D}
theorem z7_ri {v : Int32} {ty : FieldType} (hC : zC (z7 p l e s m args below meth c D ad ca q Q QX)) (h : decode (ax_c q) pc = .ok (.ireturn, 1)) (hr : ax_r q = some ty) (hn : narrow ty (.int v) = .int v) (hq : Q (some (.int v)) d) : zx (z7 p l e s m args below meth c D ad ca q Q QX) 0 0 pc L [.int v] d := by
  intro H locs ls hP hD hS hL hlv
  exact W.widen (Nat.zero_le 1) (Nat.zero_le 6) (vx_ret (W.zret hC.1 hC.2.1 (hC.2.2.1.trans hr) hn (fun t ht hW => ⟨⟨some (.int v), d, rfl, hq, by rw [ht]; exact hP⟩, hS.F ht⟩) hS.2.2 h hC.2.2.2.2.2.2.1))
theorem z7_rv (hC : zC (z7 p l e s m args below meth c D ad ca q Q QX)) (h : decode (ax_c q) pc = .ok (.return_, 1)) (hr : ax_r q = none) (hq : Q none d) : zx (z7 p l e s m args below meth c D ad ca q Q QX) 0 0 pc L [] d := by
  intro H locs ls hP hD hS hL hlv
  exact W.widen (Nat.zero_le 1) (Nat.zero_le 6) (vx_ret (W.vret hC.1 hC.2.1 (hC.2.2.1.trans hr) (fun t ht hW => ⟨⟨none, d, rfl, hq, by rw [ht]; exact hP⟩, hS.F ht⟩) hS.2.2 h hC.2.2.2.2.2.2.1))
theorem z7_throw {ik is : Nat} {text : String} {qx : Nat × String} {rest : List Value} (hC : zC (z7 p l e s m args below meth c D ad ca q Q QX)) (hcl : (ax_y q).cls = "LearnedCodes") (hT : zTh (ax_A ad s.heap.size) s) (hl : l.stackTraces = false) (hex : ∀ x ∈ c.exceptionTable.toList, False) (hq : qx ∈ zX) (hk : Cond.classLink "LearnedCodes" ik qx.2 ∈ ax_TW) (hini : Cond.initialized qx.2 ∈ ax_TW) (hst : (is, text) ∈ zSt)
    (hfit : Bundle.fit qx.2 = true) (d0 : decode (ax_c q) pc = .ok (.new ik, 3)) (d3 : decode (ax_c q) (pc + 3) = .ok (.dup, 1)) (d4 : decode (ax_c q) (pc + 4) = .ok (.ldc is, 2)) (d6 : decode (ax_c q) (pc + 6) = .ok (.invokespecial qx.1, 3)) (d9 : decode (ax_c q) (pc + 9) = .ok (.athrow, 1)) (hr : rest = []) (hQX : QX qx.2 d) : zx (z7 p l e s m args below meth c D ad ca q Q QX) 0 0 pc L rest d := by
  subst hr
  intro H locs ls hP hD hS hL hlv
  obtain ⟨sa, hsa⟩ := hT.2.1 _ hst
  have hown : s.vm.findClass "LearnedCodes" = some m.cls := by
    have := hC.2.2.2.2.1
    rw [show (ax_y (zq (z7 p l e s m args below meth c D ad ca q Q QX))).cls = "LearnedCodes" from hcl] at this
    exact this
  have hts := hC.2.2.2.2.2.1
  have hat : ∀ w ∈ vx_atS "LearnedCodes" qx.1 qx.2 zXn, w.before args s = true := fun w hw => by
    have h1 := hT.1 w (zXW_m hq hw)
    have h2 := List.all_eq_true.mp zXW_c w (zXW_m hq hw)
    rw [Bool.and_eq_true] at h2
    exact va_tabs h2.1 rfl h1
  have hgd : ∀ w ∈ Cond.classLink "LearnedCodes" ik qx.2 :: Cond.initialized qx.2 :: vx_atS "LearnedCodes" qx.1 qx.2 zXn, vx_ot w = true := fun w hw => by
    rcases List.mem_cons.mp hw with rfl | hw
    · rfl
    · rcases List.mem_cons.mp hw with rfl | hw
      · rfl
      · exact List.all_eq_true.mp zXW_o w (zXW_m hq hw)
  exact vx_throwS (own := "LearnedCodes") (names := zXn) (ls := ls) (rest := []) hC.1 hC.2.1 hl hown hfit (by decide +kernel) (hts _ hk) (hts _ hini) hsa hat hgd hT.2.2.1 hT.2.2.2 hS (hlv.1.trans hC.2.2.2.1.symm) d0 d3 d4 d6 d9 (fun x hx => (hex x hx).elim) (by show 2 + 3 < 7; decide) (by show 0 + (13 * (2 + 1) + 43) ≤ 196; decide) (by show 0 + 1 ≤ 1; decide) (by show 0 + 6 ≤ 6; decide) hC.2.2.2.2.2.2.1
    (fun t hA hz hk2 => ⟨⟨d, hQX, hP.kept (fun k q0 hk0 => hk2 _ (vx_lt hP hk0))⟩, Nat.le_trans hS.1 hz, fun q0 h1 h2 => (hk2 q0 (Nat.lt_of_lt_of_le h1 hS.1)).trans (hS.2.1 q0 h1 h2)⟩) hS.2.2 (Nat.le_refl _) (Nat.le_refl _)
end ZE
