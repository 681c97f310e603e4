/-! SOUNDNESS, calls and the whole. -/
theorem ax_args_mem : ∀ (vs : List Value) (k i : Nat) (v : Value), (∀ w ∈ vs, w.category = 1) → vs[i]? = some v → (k + i, v) ∈ lv_args k vs
  | [], _, _, _, _, h => by simp at h
  | w :: vs, k, 0, v, hc, h => by
    simp at h
    subst h
    exact List.mem_cons_self
  | w :: vs, k, i + 1, v, hc, h => by
    have h1 : ¬ w.category = 2 := by rw [hc w List.mem_cons_self]; decide
    have h2 := ax_args_mem vs (k + 1) i v (fun z hz => hc z (List.mem_cons_of_mem _ hz)) (by simpa using h)
    unfold lv_args
    rw [if_neg h1, show k + (i + 1) = k + 1 + i by omega]
    exact List.mem_cons_of_mem _ h2
theorem ax_sl_len : ∀ (vs : List Value), (∀ w ∈ vs, w.category = 1) → (lg_sl vs).length = vs.length
  | [], _ => rfl
  | w :: vs, hc => by
    have h1 : ¬ w.category = 2 := by rw [hc w List.mem_cons_self]; decide
    have h2 := ax_sl_len vs (fun z hz => hc z (List.mem_cons_of_mem _ hz))
    unfold lg_sl at h2 ⊢
    rw [List.flatMap_cons, if_neg h1, List.length_append, h2]
    simp; omega
/-- the locals at a method's entry -/
theorem ax_entry {ad : Nat → Nat} {as : List Value} {n : Nat} (hc : ∀ v ∈ as, v.category = 1) (hn : as.length ≤ n) : lv_has ((lg_sl (as.map (ax_cv ad)) ++ List.replicate (n - (lg_sl (as.map (ax_cv ad))).length) Slot.unset).toArray) n (ax_lv ad (as.map some ++ List.replicate (n - as.length) none)) := by
  have hc2 : ∀ v ∈ as.map (ax_cv ad), v.category = 1 := by
    intro v hv
    obtain ⟨w, hw, rfl⟩ := List.mem_map.mp hv
    rw [ax_cv_cat]
    exact hc w hw
  have h := lv_entry (as.map (ax_cv ad)) (n := n) (by rw [ax_sl_len _ hc2, List.length_map]; exact hn)
  refine ⟨h.1, h.2.1, fun q hq => ?_⟩
  obtain ⟨w, h1, h2, h3⟩ := ax_lv_mem hq
  have h4 : as[q.1]? = some w := by
    by_cases hi : q.1 < as.length
    · rw [List.getElem?_append_left (by rw [List.length_map]; exact hi), List.getElem?_map] at h1
      rw [List.getElem?_eq_getElem hi] at h1 ⊢
      simpa using h1
    · rw [List.getElem?_append_right (by rw [List.length_map]; omega), List.getElem?_replicate] at h1
      split at h1 <;> simp at h1
  refine h.2.2 q ?_
  have h5 := ax_args_mem (as.map (ax_cv ad)) 0 q.1 (ax_cv ad w) hc2 (by rw [List.getElem?_map, h4]; rfl)
  rw [Nat.zero_add, ← h3] at h5
  exact h5
set_option maxHeartbeats 1000000 in
/-- a method's contract out of its entry frame -/
theorem ax_met {l : Launch} {D : va_G} {ad : Nat → Nat} {ca : Nat → ClassId} {a : Nat} {as : List Value} {d : ax_D} {Q : ax_Po} (hok : ax_ok (ax_me a)) (hlen : as.length = ax_g (ax_me a)) (hc : ∀ v ∈ as, v.category = 1) (hJ : ax_J l D ad ca a 0 (as.map some ++ List.replicate (ax_n (ax_me a) - as.length) none) [] d Q) (sz : Nat) :
    Met l (ax_y (ax_me a)) (ax_ws (ax_me a)) (ax_R (ax_v (ax_me a))) (ax_Pc D ad ca as d sz) (ax_Qc D ad ca Q sz) 0 0 (ax_A ad sz) := by
  have hn : as.length ≤ ax_n (ax_me a) := by rw [hlen]; exact (ax_mfacts hok).2.2.2.2.2.2.1
  refine Met.ofW (cc := ax_c (ax_me a)) (maxL := ax_n (ax_me a)) (ret := ax_r (ax_me a)) (ax_mfacts hok).1 rfl ?_
  intro p e s m args below meth c s₁ B hml hv
  obtain ⟨rfl, rfl, hP, hK, hD, hN⟩ := hv
  have hts := atoms_spec (ws := ax_ws (ax_me a)) B.pre
  have hown : s.vm.findClass (ax_y (ax_me a)).cls = some m.cls := findClass_of_methodNamed B.named
  rw [lg_entry_eq]
  exact hJ p e s m _ below meth c s.heap [] _ ⟨B.exec, B.bytes, B.returns, hml, hown, fun w h => hts w (List.mem_cons_of_mem _ h), B.notSynchronized, hK, hN⟩ hP (ax_A_D hD) va_S.rf (by rw [List.length_append, List.length_map, List.length_replicate]; omega) (ax_entry hc hn)
section AXC
variable {p : Program} {l : Launch} {e : Env} {R : Room} {s : State} {m : MethodId} {args : Array Value} {below : List Frame} {meth : Method} {c : Code} {H : Heap} {locs : List Loc} {Qt : State → Prop} {D : va_G} {ad : Nat → Nat} {ca : Nat → ClassId} {d : ax_D} {H0 : Heap} {pc : Nat} {ls : Array Slot} {st0 rest : List Value}
/-- behind a call -/
theorem ax_back {P : ax_Po} {sz : Nat} {a : Array Value} (hr : va_Run p l e R s m args below meth c H locs 0 0 0 0 (F0 m pc ls st0) (rest.map (ax_cv ad)) (ax_Qc D ad ca P H.size a) (ax_A ad H.size)) (hS : va_S (ax_A ad sz) H0 H locs) (hz : sz ≤ H.size)
    (kk : ∀ (r : Option Value) (d1 : ax_D) (H1 : Heap) (locs1 : List Loc), P r d1 → va_P D vwCl (ax_w ad ca d1) H1 → va_S (ax_A ad sz) H0 H1 locs1 → W p l e R s m args below meth c H1 locs1 0 0 Qt (F0 m (pc + 3) ls ((r.toList ++ rest).map (ax_cv ad)))) : W p l e R s m args below meth c H locs 0 0 Qt (F0 m pc ls st0) := by
  intro T hT X
  obtain ⟨v, st₀, t, T', L, h0, X', hL, e1, e2, ⟨⟨r, d1, hv, hp, hP⟩, hz1, hk⟩, st⟩ := hr T hT X
  cases hv
  rw [h0] at hz1 hk
  have hA := ax_A_le (ad := ad) hz
  obtain ⟨t2, a1, b1⟩ := kk r d1 T'.heap (locs ++ L) hp (by rw [e1]; exact hP)
    ⟨Nat.le_trans hS.1 (by rw [e1]; exact hz1), fun q h1 h2 => by rw [e1, hk q (Nat.lt_of_lt_of_le h1 hS.1) (fun z => h2 (hA q z))]; exact hS.2.1 q h1 h2, fun q hq => by
      rcases List.mem_append.mp hq with h | h
      · exact hS.2.2 q h
      · exact hA _ (hL q h)⟩ T' rfl X'
  have e3 : (r.toList ++ rest).map (ax_cv ad) = (r.map (ax_cv ad)).toList ++ rest.map (ax_cv ad) := by cases r <;> rfl
  rw [e3] at a1
  exact ⟨t2, st t2 a1, b1⟩
end AXC
theorem ax_blind {D : va_G} {ad : Nat → Nat} {ca : Nat → ClassId} {as : List Value} {d : ax_D} {sz : Nat} : FrameBlind (ax_Pc D ad ca as d sz) := fun a U g mk q => by
  obtain ⟨q0, q1, qP, qK, qD, qN⟩ := q
  exact ⟨q0, q1, qP, va_K.moved (u := U) (U := U.calling g mk a) (Vm.Alike.refl U.vm) qK, qD, ax_NW_same (u := U) rfl qN⟩
theorem ax_ini_TW {q : ax_M} (h : ax_ok q) : Cond.initialized (ax_y q).cls ∈ ax_TW := by
  have h1 := ax_mfacts h
  refine List.mem_filter.mpr ⟨?_, rfl⟩
  rw [← h1.2.2.2.1]
  exact ax_ini _ (ax_rd_in h1.2.2.2.2.1)
theorem ax_ws_TW {q : ax_M} (h : ax_ok q) : ∀ w ∈ ax_ws q, w ∈ ax_TW := fun w hw => (List.mem_cons.mp hw).elim (fun e => by rw [e]; exact List.mem_filter.mpr ⟨h.2.1, rfl⟩) id
/-- what the checks say of a call -/
theorem ax_Lz {q : ax_M} (hq : ax_ok q) {idx a b : Nat} (h : ax_L.any (fun z => decide (z.1 = ax_o q ∧ z.2.1 = idx ∧ z.2.2.1 = a ∧ z.2.2.2.1 = b)) = true) : ax_ok (ax_me a) ∧ match b with
    | 0 => Cond.methodLink (ax_y q).cls idx (ax_y (ax_me a)) ∈ ax_TW ∧ Cond.instanceMethod (ax_y (ax_me a)) ∈ ax_TW ∧ Cond.selects (ax_y (ax_me a)).cls (ax_y (ax_me a)) (ax_y (ax_me a)) ∈ ax_TW ∧ ax_z (ax_me a) = 0
    | 1 => Cond.methodLink (ax_y q).cls idx (ax_y (ax_me a)) ∈ ax_TW ∧ Cond.static (ax_y (ax_me a)) ∈ ax_TW ∧ ax_z (ax_me a) = 1 ∧ (ax_y (ax_me a)).cls = (ax_y q).cls
    | _ => Cond.methodLinkNest (ax_y q).cls idx (ax_y (ax_me a)) "LearnedCodes" ∈ ax_NW ∧ Cond.static (ax_y (ax_me a)) ∈ ax_TW ∧ ax_z (ax_me a) = 1 := by
  obtain ⟨z, hz, he⟩ := List.any_eq_true.mp h
  obtain ⟨e1, e2, e3, e4⟩ := of_decide_eq_true he
  have h1 := ax_Lok z hz
  unfold ax_lok at h1
  rw [Bool.and_eq_true] at h1
  obtain ⟨h1, h2⟩ := h1
  have hlt : a < ax_Ms.length := by rw [← e3]; exact of_decide_eq_true h2
  have hm : ax_me a ∈ ax_Ms := by
    unfold ax_me
    rw [List.getD_eq_getElem?_getD, List.getElem?_eq_getElem hlt]
    exact List.getElem_mem hlt
  have hok := ax_all _ hm
  have hcq := (ax_mfacts hq).2.2.2.1
  have hca := (ax_mfacts hok).2.2.2.1
  refine ⟨hok, ?_⟩
  have hw := hok.2.2
  unfold ax_wck at hw
  rw [e1, e2, e3, e4, hcq] at h1
  match b, h1 with
  | 0, h1 =>
    simp only [Bool.and_eq_true, decide_eq_true_eq] at h1
    rw [if_pos h1.2] at hw
    exact ⟨List.mem_filter.mpr ⟨List.mem_of_getElem? h1.1, rfl⟩, List.mem_filter.mpr ⟨hw.1, rfl⟩, List.mem_filter.mpr ⟨hw.2, rfl⟩, h1.2⟩
  | 1, h1 =>
    simp only [Bool.and_eq_true, decide_eq_true_eq] at h1
    rw [if_neg (by rw [h1.1.2]; decide)] at hw
    exact ⟨List.mem_filter.mpr ⟨List.mem_of_getElem? h1.1.1, rfl⟩, List.mem_filter.mpr ⟨hw, rfl⟩, h1.1.2, by rw [← hcq, ← hca, h1.2]⟩
  | b + 2, h1 =>
    simp only [Bool.and_eq_true, decide_eq_true_eq] at h1
    rw [if_neg (by rw [h1.2]; decide)] at hw
    exact ⟨List.mem_filter.mpr ⟨List.mem_of_getElem? h1.1, rfl⟩, List.mem_filter.mpr ⟨hw, rfl⟩, h1.2⟩
theorem ax_room {v v' n : Nat} (h : v' < v) (h0 : 0 < v') (hn : n ≤ 9) : (ax_R v').frames + 1 ≤ (ax_R v).frames ∧ 8 + (n + 11) + (ax_R v').locals ≤ (ax_R v).locals := by
  show v' - 1 + 1 ≤ v - 1 ∧ 8 + (n + 11) + 28 * (v' - 1) ≤ 28 * (v - 1)
  omega
