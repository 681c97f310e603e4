/-! SOUNDNESS: a step, and the whole. -/
theorem ax_sum (ad : Nat → Nat) : ∀ rest : List Value, ((rest.map (ax_cv ad)).map fun v => v.category).sum = (rest.map fun v => v.category).sum
  | [] => rfl
  | v :: r => by
    have h := ax_sum ad r
    simp only [List.map_cons, List.sum_cons, ax_cv_cat] at h ⊢
    rw [h]
section AXV
variable {p : Program} {l : Launch} {e : Env} {s : State} {m : MethodId} {args : Array Value} {below : List Frame} {meth : Method} {c : Code} {H : Heap} {locs : List Loc} {Qt : State → Prop} {D : va_G} {ad : Nat → Nat} {ca : Nat → ClassId} {d : ax_D} {H0 : Heap} {pc : Nat} {ls : Array Slot}
set_option maxHeartbeats 1000000 in
theorem ax_cv0 {q : ax_M} {a idx id n : Nat} {f : Nat → ax_X} {tl rest : List Value} {P : ax_Po} {sz : Nat} (hC : ax_C p s m args meth c D ca q) (hq : ax_ok q) (hoka : ax_ok (ax_me a)) (w1 : Cond.methodLink (ax_y q).cls idx (ax_y (ax_me a)) ∈ ax_TW) (w2 : Cond.instanceMethod (ax_y (ax_me a)) ∈ ax_TW) (w3 : Cond.selects (ax_y (ax_me a)).cls (ax_y (ax_me a)) (ax_y (ax_me a)) ∈ ax_TW) (w4 : ax_z (ax_me a) = 0) (hv : ax_v (ax_me a) < ax_v q)
    (hP : va_P D vwCl (ax_w ad ca d) H) (hD : va_D (ax_A ad sz) (ax_w ad ca d)) (hS : va_S (ax_A ad sz) H0 H locs) (hz : sz ≤ H.size) (hsz : ls.size = ax_n q) (hlen : (Value.ref id :: tl).length = ax_g (ax_me a)) (hcat : ∀ v ∈ (Value.ref id :: tl), v.category = 1) (hsum : (rest.map fun v => v.category).sum ≤ 8) (hsh : ax_sh id = some (ax_o (ax_me a) + 4, n, f)) (hd : decode (ax_c q) pc = .ok (.invokevirtual idx, 3))
    (hX : ax_J l D ad ca a 0 ((Value.ref id :: tl).map some ++ List.replicate (ax_n (ax_me a) - (Value.ref id :: tl).length) none) [] d P)
    (kk : ∀ (r : Option Value) (d1 : ax_D) (H1 : Heap) (locs1 : List Loc), P r d1 → va_P D vwCl (ax_w ad ca d1) H1 → va_S (ax_A ad sz) H0 H1 locs1 → W p l e (ax_R (ax_v q)) s m args below meth c H1 locs1 0 0 Qt (F0 m (pc + 3) ls ((r.toList ++ rest).map (ax_cv ad)))) : W p l e (ax_R (ax_v q)) s m args below meth c H locs 0 0 Qt (F0 m pc ls (((Value.ref id :: tl).reverse ++ rest).map (ax_cv ad))) := by
  obtain ⟨hx, hb, hr, hml, hown, hts, hlocks, hK, hN⟩ := hC
  have fa := ax_mfacts hoka
  have hM := ax_met hoka hlen hcat hX H.size
  have e1 : ((Value.ref id :: tl).reverse ++ rest).map (ax_cv ad) = (tl.map (ax_cv ad)).reverse ++ .ref (ad id) :: rest.map (ax_cv ad) := by simp [ax_cv]
  rw [e1]
  obtain ⟨k0, hk0, hwk⟩ := ax_w_get ad ca d hsh
  rw [ax_cl_obj hsh] at hwk
  have hrec := va_recv hK hP (ax_rd_at fa.2.2.2.2.1) hwk
  rw [fa.2.2.2.1] at hrec
  have hgood : GoodIn ax_TW (wsV (ax_y q).cls idx (ax_y (ax_me a)).cls (ax_y (ax_me a)) (ax_ws (ax_me a))) := ax_TW_good (fun w hw => by
    unfold wsV at hw
    rcases List.mem_append.mp hw with h | h
    · simp only [List.mem_cons, List.not_mem_nil, or_false] at h
      rcases h with h | h | h | h <;> rw [h]
      · exact w1
      · exact w2
      · exact w3
      · exact ax_ini_TW hoka
    · exact ax_ws_TW hoka w h)
  have hpar : (parseMethodDescriptor (ax_y (ax_me a)).desc).map (fun d => d.parameters.length) = some tl.length := by
    have h9 := fa.2.2.2.2.2.2.2.2
    rw [w4, ← hlen] at h9
    cases hp : parseMethodDescriptor (ax_y (ax_me a)).desc with
    | none => rw [hp] at h9; cases h9
    | some sg =>
      rw [hp] at h9
      simp only [Option.map_some, Option.some.injEq, List.length_cons, Nat.add_zero] at h9 ⊢
      omega
  have hrm := ax_room hv fa.2.2.2.2.2.2.2.1 fa.2.2.2.2.2.1
  refine ax_back (P := P) (va_runV (As := tl.map (ax_cv ad)) (rest := rest.map (ax_cv ad)) (b := ad id) (C := (ax_y (ax_me a)).cls) ⟨hx, hb, hml, hown, hts⟩ hM (cwV tl.length hts hgood rfl rfl rfl ⟨rfl, fa.2.1, fa.2.2.1, hpar⟩ hrm) ⟨ax_blind, hrec, fun U hU hW => ⟨rfl, by rw [hU], by rw [hU]; exact hP, va_K.moved hW.alike hK, hD.weaken (fun _ _ _ _ => trivial), ax_NW_warm hW hN⟩⟩ rfl (by rw [List.length_map]) hsz rfl (lv_room (by rw [ax_sum]; exact hsum)) hd ⟨Nat.le_refl _, Nat.le_refl _⟩) hS hz kk
set_option maxHeartbeats 1000000 in
theorem ax_cv1 {q : ax_M} {a idx b : Nat} {as rest : List Value} {P : ax_Po} {sz : Nat} (hC : ax_C p s m args meth c D ca q) (hq : ax_ok q) (hb0 : 0 < b) (hL : ax_L.any (fun z => decide (z.1 = ax_o q ∧ z.2.1 = idx ∧ z.2.2.1 = a ∧ z.2.2.2.1 = b)) = true) (hv : ax_v (ax_me a) < ax_v q)
    (hP : va_P D vwCl (ax_w ad ca d) H) (hD : va_D (ax_A ad sz) (ax_w ad ca d)) (hS : va_S (ax_A ad sz) H0 H locs) (hz : sz ≤ H.size) (hsz : ls.size = ax_n q) (hlen : as.length = ax_g (ax_me a)) (hcat : ∀ v ∈ as, v.category = 1) (hsum : (rest.map fun v => v.category).sum ≤ 8) (hd : decode (ax_c q) pc = .ok (.invokestatic idx, 3))
    (hX : ax_J l D ad ca a 0 (as.map some ++ List.replicate (ax_n (ax_me a) - as.length) none) [] d P)
    (kk : ∀ (r : Option Value) (d1 : ax_D) (H1 : Heap) (locs1 : List Loc), P r d1 → va_P D vwCl (ax_w ad ca d1) H1 → va_S (ax_A ad sz) H0 H1 locs1 → W p l e (ax_R (ax_v q)) s m args below meth c H1 locs1 0 0 Qt (F0 m (pc + 3) ls ((r.toList ++ rest).map (ax_cv ad)))) : W p l e (ax_R (ax_v q)) s m args below meth c H locs 0 0 Qt (F0 m pc ls ((as.reverse ++ rest).map (ax_cv ad))) := by
  obtain ⟨hx, hb, hr, hml, hown, hts, hlocks, hK, hN⟩ := hC
  obtain ⟨hoka, hz9⟩ := ax_Lz hq hL
  have fa := ax_mfacts hoka
  have hM := ax_met hoka hlen hcat hX H.size
  have e1 : (as.reverse ++ rest).map (ax_cv ad) = (as.map (ax_cv ad)).reverse ++ rest.map (ax_cv ad) := by simp
  rw [e1]
  have hpar : ax_z (ax_me a) = 1 → (parseMethodDescriptor (ax_y (ax_me a)).desc).map (fun d => d.parameters.length) = some as.length := by
    intro w4
    have h9 := fa.2.2.2.2.2.2.2.2
    rw [w4, ← hlen] at h9
    cases hp : parseMethodDescriptor (ax_y (ax_me a)).desc with
    | none => rw [hp] at h9; cases h9
    | some sg =>
      rw [hp] at h9
      simp only [Option.map_some, Option.some.injEq] at h9 ⊢
      omega
  have hrm := ax_room hv fa.2.2.2.2.2.2.2.1 fa.2.2.2.2.2.1
  have hpre : PreS s H (ax_Pc D ad ca as d H.size) (as.map (ax_cv ad)) := ⟨ax_blind, fun U hU hW => ⟨rfl, by rw [hU], by rw [hU]; exact hP, va_K.moved hW.alike hK, hD.weaken (fun _ _ _ _ => trivial), ax_NW_warm hW hN⟩⟩
  have hbb : b = 1 ∨ ∃ b', b = b' + 2 := by
    match b, hb0 with
    | 1, _ => exact Or.inl rfl
    | b + 2, _ => exact Or.inr ⟨b, rfl⟩
  rcases hbb with rfl | ⟨b', rfl⟩
  · obtain ⟨w1, w2, w3, w4⟩ := hz9
    have hgood : GoodIn ax_TW (wsS (ax_y q).cls idx (ax_y (ax_me a)) (ax_ws (ax_me a))) := ax_TW_good (fun w hw => by
      unfold wsS at hw
      rcases List.mem_append.mp hw with h | h
      · simp only [List.mem_cons, List.not_mem_nil, or_false] at h
        rcases h with h | h | h <;> rw [h]
        · exact w1
        · exact w2
        · exact ax_ini_TW hq
      · exact ax_ws_TW hoka w h)
    exact ax_back (P := P) (va_runS (As := as.map (ax_cv ad)) (rest := rest.map (ax_cv ad)) ⟨hx, hb, hml, hown, hts⟩ hM (cwS as.length hts hgood rfl rfl rfl ⟨w4, fa.2.1, fa.2.2.1, hpar w3⟩ hrm) hpre rfl (by rw [List.length_map]) hsz rfl (lv_room (by rw [ax_sum]; exact hsum)) hd ⟨Nat.le_refl _, Nat.le_refl _⟩) hS hz kk
  · obtain ⟨w1, w2, w3⟩ := hz9
    exact ax_back (P := P) (va_runSN (host := "LearnedCodes") (As := as.map (ax_cv ad)) (rest := rest.map (ax_cv ad)) ⟨hx, hb, hml, hown, hts⟩ hM ⟨va_cnB as.length hts (ax_TW_good (ax_ws_TW hoka)) rfl rfl rfl (hN _ w1) (hts _ (ax_ini_TW hoka)) ⟨fa.2.1, fa.2.2.1, hpar w3⟩ hrm, hts _ w2, trivial⟩ hpre rfl (by rw [List.length_map]) hsz rfl (lv_room (by rw [ax_sum]; exact hsum)) hd ⟨Nat.le_refl _, Nat.le_refl _⟩) hS hz kk
end AXV
set_option maxHeartbeats 4000000 in
theorem ax_snd {l : Launch} {D : va_G} {ad : Nat → Nat} {ca : Nat → ClassId} (mi pc : Nat) (L : ax_L1) (st : List Value) (d : ax_D) (Q : ax_Po) (k : ax_st (ax_J l D ad ca) mi pc L st d Q) : ax_J l D ad ca mi pc L st d Q := by
  unfold ax_st at k
  cases hin : ax_in mi pc with
  | none => rw [hin] at k; exact k.elim
  | some z =>
    obtain ⟨i, len, a, b⟩ := z
    rw [hin] at k
    dsimp only at k
    have hok := (ax_in_ok hin).1
    have hck := (ax_in_ok hin).2
    have hd := ax_dfacts hin
    unfold ax_ick at hck
    rw [Bool.and_eq_true] at hck
    replace hck := hck.2
    dsimp only at hck
    intro p e s m args below meth c H locs ls hC hP hD hS hL hl
    have hx := hC.1
    have hb := hC.2.1
    cases i <;> first
      | (obtain ⟨pc', L', st', h1, h2, h3⟩ := k
         exact ax_s1 hx hb hd h1 h2 hL hl (fun ls' hL' hl' => h3 p e s m args below meth c H locs ls' hC hP hD hS hL' hl'))
      | (obtain ⟨rfl, v, ty, rfl, hr, hn, hQ⟩ := k
         exact W.zret hx hb (hC.2.2.1.trans hr) hn (fun t ht hW => ⟨⟨some (.int v), d, rfl, hQ, by rw [ht]; exact hP⟩, hS.F ht⟩) hS.2.2 hd hC.2.2.2.2.2.2.1)
      | (obtain ⟨rfl, rfl, hr, hQ⟩ := k
         exact W.vret hx hb (hC.2.2.1.trans hr) (fun t ht hW => ⟨⟨none, d, rfl, hQ, by rw [ht]; exact hP⟩, hS.F ht⟩) hS.2.2 hd hC.2.2.2.2.2.2.1)
      | (obtain ⟨rfl, x, r, t, rfl, ht, k1, k2⟩ := k
         exact ax_s2 hx hb hd ht (fun h => k1 h p e s m args below meth c H locs ls hC hP hD hS hL hl) (fun h => k2 h p e s m args below meth c H locs ls hC hP hD hS hL hl))
      | (obtain ⟨rfl, x, y, r, t, rfl, ht, k1, k2⟩ := k
         exact ax_s3 hx hb hd ht (fun h => k1 h p e s m args below meth c H locs ls hC hP hD hS hL hl) (fun h => k2 h p e s m args below meth c H locs ls hC hP hD hS hL hl))
      | (obtain ⟨rfl, x, y, r, rfl, h0, k1⟩ := k
         exact lv_idiv hx hb hd h0 (k1 p e s m args below meth c H locs ls hC hP hD hS hL hl))
      | (obtain ⟨rfl, x, y, r, rfl, h0, k1⟩ := k
         exact lv_irem hx hb hd h0 (k1 p e s m args below meth c H locs ls hC hP hD hS hL hl))
      | (obtain ⟨x, r, rfl, k1, k2⟩ := k
         rename_i dflt lo hi offs
         by_cases h : x.toInt < lo ∨ hi < x.toInt
         · obtain ⟨t, h1, h2⟩ := k1 h
           exact lv_tableOut hx hb hd h h1 (h2 p e s m args below meth c H locs ls hC hP hD hS hL hl)
         · obtain ⟨off, t, h1, h2, h3⟩ := k2 h
           exact lv_tableIn hx hb hd (fun q => h (Or.inl q)) (fun q => h (Or.inr q)) h1 h2 (h3 p e s m args below meth c H locs ls hC hP hD hS hL hl))
      | (obtain ⟨x, r, t, rfl, h1, h2, h3⟩ := k
         exact lv_lookup hx hb hd h1 rfl h2 (h3 p e s m args below meth c H locs ls hC hP hD hS hL hl))
      | (obtain ⟨rfl, id, r, n, f, rfl, h1, h2, h3⟩ := k
         obtain ⟨f1, f2, f3⟩ := ax_Fz hok hck
         exact ax_get hC f1 f2 f3 hP h1 h2 hd (h3 p e s m args below meth c H locs ls hC hP hD hS hL hl))
      | (obtain ⟨rfl, id, x, r, n, f, rfl, h1, h2, h3, h4, h5, h6⟩ := k
         rw [Bool.and_eq_true, Bool.not_eq_true'] at hck
         obtain ⟨f1, f2, f3⟩ := ax_Fz hok hck.1
         exact ax_put hC f1 f2 f3 hck.2 hP hD hS h1 h2 h3 h4 h5 hd (fun H1 locs1 hP1 hS1 => h6 p e s m args below meth c H1 locs1 ls hC hP1 (ax_w_D hD) hS1 hL hl))
      | (obtain ⟨rfl, id, i, r, n, f, rfl, h1, h2, h3⟩ := k
         exact ax_iald hC hP h1 h2 hd (h3 p e s m args below meth c H locs ls hC hP hD hS hL hl))
      | (obtain ⟨rfl, id, i, r, n, f, rfl, h1, h2, h3⟩ := k
         exact ax_zald hC hP h1 h2 hd (h3 p e s m args below meth c H locs ls hC hP hD hS hL hl))
      | (obtain ⟨rfl, id, x, i, r, n, f, rfl, h1, h2, h3⟩ := k
         exact ax_iast hC hP hD hS h1 h2 hd (fun H1 locs1 hP1 hS1 => h3 p e s m args below meth c H1 locs1 ls hC hP1 (ax_w_D hD) hS1 hL hl))
      | (obtain ⟨rfl, id, x, i, r, n, f, rfl, h1, h2, h3⟩ := k
         exact ax_zast hC hP hD hS h1 h2 hd (fun H1 locs1 hP1 hS1 => h3 p e s m args below meth c H1 locs1 ls hC hP1 (ax_w_D hD) hS1 hL hl))
      | (obtain ⟨rfl, id, i, r, n, f, j, rfl, h1, h2, h3, h4⟩ := k
         exact ax_aald hC hP h1 h2 h3 hd (h4 p e s m args below meth c H locs ls hC hP hD hS hL hl))
      | (obtain ⟨rfl, id, r, t, n, f, rfl, h1, h2, h3⟩ := k
         exact ax_alen hC hP h1 h2 hd (h3 p e s m args below meth c H locs ls hC hP hD hS hL hl))
      | (obtain ⟨rfl, as, rest, P, rfl, hlen, hcat, hsum, hrec, hX, hk⟩ := k
         obtain ⟨id, tl, n, f, rfl, hsh⟩ := hrec rfl
         rw [Bool.and_eq_true] at hck
         obtain ⟨hoka, w1, w2, w3, w4⟩ := ax_Lz hok hck.1
         exact ax_cv0 hC hok hoka w1 w2 w3 w4 (of_decide_eq_true hck.2) hP hD hS hS.1 hl.1 hlen hcat hsum hsh hd hX (fun r d1 H1 locs1 hp hP1 hS1 => hk r d1 hp p e s m args below meth c H1 locs1 ls hC hP1 (ax_w_D hD) hS1 hL hl))
      | (obtain ⟨rfl, as, rest, P, rfl, hlen, hcat, hsum, hrec, hX, hk⟩ := k
         rw [Bool.and_eq_true, Bool.and_eq_true] at hck
         exact ax_cv1 hC hok (of_decide_eq_true hck.1.2) hck.1.1 (of_decide_eq_true hck.2) hP hD hS hS.1 hl.1 hlen hcat hsum hd hX (fun r d1 H1 locs1 hp hP1 hS1 => hk r d1 hp p e s m args below meth c H1 locs1 ls hC hP1 (ax_w_D hD) hS1 hL hl))
theorem ax_sound {l : Launch} {D : va_G} {ad : Nat → Nat} {ca : Nat → ClassId} {mi pc : Nat} {L : ax_L1} {st : List Value} {d : ax_D} {Q : ax_Po} (h : ax_W mi pc L st d Q) : ax_J l D ad ca mi pc L st d Q := h (ax_J l D ad ca) (fun mi pc L st d Q k => ax_snd mi pc L st d Q k)
/-- a call of method a with these arguments, in this world: it comes back with Q (what the abstract machine says of its entry) -/
def ax_E (a : Nat) (as : List Value) (d : ax_D) (Q : ax_Po) : Prop := ax_W a 0 (as.map some ++ List.replicate (ax_n (ax_me a) - as.length) none) [] d Q
/-- THE CONTRACT over the machine, out of the abstract machine -/
theorem ax_contract {l : Launch} {D : va_G} {ad : Nat → Nat} {ca : Nat → ClassId} {a : Nat} {as : List Value} {d : ax_D} {Q : ax_Po} (ha : a < ax_Ms.length) (hlen : as.length = ax_g (ax_me a)) (hc : ∀ v ∈ as, v.category = 1) (h : ax_E a as d Q) (sz : Nat) :
    Met l (ax_y (ax_me a)) (ax_ws (ax_me a)) (ax_R (ax_v (ax_me a))) (ax_Pc D ad ca as d sz) (ax_Qc D ad ca Q sz) 0 0 (ax_A ad sz) := by
  refine ax_met (ax_all _ ?_) hlen hc (ax_sound h) sz
  unfold ax_me
  rw [List.getD_eq_getElem?_getD, List.getElem?_eq_getElem ha]
  exact List.getElem_mem ha
