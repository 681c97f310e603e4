/-! THE SAME over the class's own cells alone (numbers below 540): the reference isn't there yet when the class is made. -/
def ay_ids : List Nat := ax_ids.filter (fun i => decide (i < 540))
theorem ay_in {i : Nat} {q : ax_S} (h : ax_sh i = some q) (hi : i < 540) : i ∈ ay_ids := List.mem_filter.mpr ⟨ax_sh_in h, decide_eq_true hi⟩
def ay_w (ad : Nat → Nat) (ca : Nat → ClassId) (d : ax_D) : va_W := ay_ids.map (fun i => (ad i, ax_cl ad ca d i))
theorem ay_w_get (ad : Nat → Nat) (ca : Nat → ClassId) (d : ax_D) {i : Nat} {q : ax_S} (h : ax_sh i = some q) (hi : i < 540) : ∃ k : Nat, ay_ids[k]? = some i ∧ (ay_w ad ca d)[k]? = some (ad i, ax_cl ad ca d i) := by
  obtain ⟨k, hk⟩ := List.getElem?_of_mem (ay_in h hi)
  exact ⟨k, hk, by unfold ay_w; rw [List.getElem?_map, hk]; rfl⟩
theorem ay_w_set {ad : Nat → Nat} {ca : Nat → ClassId} {d d' : ax_D} {A : Nat → Prop} {i k : Nat} (hD : va_D A (ay_w ad ca d)) (hk : ay_ids[k]? = some i) (he : ∀ j, j ≠ i → d' j = d j) : (ay_w ad ca d).set k (ad i, ax_cl ad ca d' i) = ay_w ad ca d' := by
  have hkl : k < ay_ids.length := (List.getElem?_eq_some_iff.mp hk).1
  have hwk : (ay_w ad ca d)[k]? = some (ad i, ax_cl ad ca d i) := by unfold ay_w; rw [List.getElem?_map, hk]; rfl
  apply List.ext_getElem?
  intro j
  by_cases hj : j = k
  · subst hj
    rw [List.getElem?_set_self (by unfold ay_w; rw [List.length_map]; exact hkl)]
    unfold ay_w
    rw [List.getElem?_map, hk]
    rfl
  · rw [List.getElem?_set_ne (Ne.symm hj)]
    unfold ay_w
    rw [List.getElem?_map, List.getElem?_map]
    cases hji : ay_ids[j]? with
    | none => rfl
    | some b =>
      have hb : b ≠ i := by
        rintro rfl
        exact hj (hD.1 j k _ _ (by unfold ay_w; rw [List.getElem?_map, hji]; rfl) hwk rfl)
      show some (ad b, ax_cl ad ca d b) = some (ad b, ax_cl ad ca d' b)
      rw [ax_cl_eq (he b hb)]
theorem ay_w_D {ad : Nat → Nat} {ca : Nat → ClassId} {d d' : ax_D} {A : Nat → Prop} (hD : va_D A (ay_w ad ca d)) : va_D A (ay_w ad ca d') := by
  have key : ∀ (k : Nat) (q : Nat × va_E), (ay_w ad ca d')[k]? = some q → ∃ e, (ay_w ad ca d)[k]? = some (q.1, e) := by
    intro k q hk
    unfold ay_w at hk ⊢
    rw [List.getElem?_map] at hk ⊢
    cases h : ay_ids[k]? with
    | none => rw [h] at hk; cases hk
    | some b =>
      rw [h] at hk
      cases hk
      exact ⟨_, rfl⟩
  refine ⟨fun i j x y hi hj hxy => ?_, fun k q hk => ?_⟩
  · obtain ⟨e1, h1⟩ := key i x hi
    obtain ⟨e2, h2⟩ := key j y hj
    exact hD.1 i j _ _ h1 h2 hxy
  · obtain ⟨e1, h1⟩ := key k q hk
    exact hD.2 k (q.1, e1) h1
def ay_A (ad : Nat → Nat) (sz : Nat) : Nat → Prop := fun q => (∃ i, i ∈ ay_ids ∧ q = ad i) ∨ sz ≤ q
theorem ay_A_D {ad : Nat → Nat} {ca : Nat → ClassId} {d : ax_D} {A : Nat → Prop} {sz : Nat} (hD : va_D A (ay_w ad ca d)) : va_D (ay_A ad sz) (ay_w ad ca d) := by
  refine ⟨hD.1, fun k q hk => Or.inl ?_⟩
  unfold ay_w at hk
  rw [List.getElem?_map] at hk
  cases h : ay_ids[k]? with
  | none => rw [h] at hk; cases hk
  | some b =>
    rw [h] at hk
    cases hk
    exact ⟨b, List.mem_of_getElem? h, rfl⟩
theorem ay_A_le {ad : Nat → Nat} {sz sz' : Nat} (h : sz ≤ sz') : ∀ q, ay_A ad sz' q → ay_A ad sz q := fun q hq => hq.elim Or.inl (fun h2 => Or.inr (Nat.le_trans h h2))
def rfL (L : ax_L1) : Prop := ∀ x, some (Value.ref x) ∈ L → x < 540
def rfS (st : List Value) : Prop := ∀ x, Value.ref x ∈ st → x < 540
theorem rfS_t {v : Value} {r : List Value} (h : rfS (v :: r)) : rfS r := fun x hx => h x (List.mem_cons_of_mem _ hx)
theorem rfS_h {x : Nat} {r : List Value} (h : rfS (.ref x :: r)) : x < 540 := h x List.mem_cons_self
theorem rfS_i {x : Int32} {r : List Value} (h : rfS r) : rfS (.int x :: r) := fun y hy => by
  rcases List.mem_cons.mp hy with q | q
  · cases q
  · exact h y q
theorem rfS_r {x : Nat} {r : List Value} (hx : x < 540) (h : rfS r) : rfS (.ref x :: r) := fun y hy => by
  rcases List.mem_cons.mp hy with q | q
  · cases q; exact hx
  · exact h y q
theorem rfL_i {x : Int32} {k : Nat} {L : ax_L1} (h : rfL L) : rfL (L.set k (some (.int x))) := fun y hy => by
  rcases List.mem_or_eq_of_mem_set hy with q | q
  · exact h y q
  · cases q
theorem rfL_r {x : Nat} {k : Nat} {L : ax_L1} (hx : x < 540) (h : rfL L) : rfL (L.set k (some (.ref x))) := fun y hy => by
  rcases List.mem_or_eq_of_mem_set hy with q | q
  · exact h y q
  · cases q; exact hx
theorem rfL_a {x k : Nat} {L : ax_L1} (h : rfL L) (e : L[k]? = some (some (.ref x))) : x < 540 := h x (List.mem_of_getElem? e)
set_option maxHeartbeats 2000000 in
theorem sx_rf {i : Instr} {pc pc' len : Nat} {L L' : ax_L1} {st st' : List Value} (h : ax_sx i pc L st = some (len, pc', L', st')) (hL : rfL L) (hS : rfS st) : rfL L' ∧ rfS st' := by
  unfold ax_sx at h
  split at h <;> (try split at h) <;> (try split at h) <;> first
    | (cases h; done)
    | (cases h; exact ⟨hL, rfS_i hS⟩)
    | (cases h; exact ⟨hL, hS⟩)
    | (cases h; exact ⟨hL, rfS_t hS⟩)
    | (cases h; rename_i e; exact ⟨hL, rfS_r (rfL_a hL e) hS⟩)
    | (cases h; exact ⟨rfL_i hL, rfS_t hS⟩)
    | (cases h; exact ⟨rfL_i hL, hS⟩)
    | (cases h; exact ⟨rfL_r (rfS_h hS) hL, rfS_t hS⟩)
    | (cases h; exact ⟨hL, rfS_i (rfS_t (rfS_t hS))⟩)
    | (cases h; exact ⟨hL, rfS_r (rfS_h hS) hS⟩)
    | (cases h; exact ⟨hL, rfS_i (rfS_t hS)⟩)
    | (cases h; exact ⟨hL, rfS_i hS⟩)
    | (cases h; exact ⟨hL, rfS_i (rfS_r (rfS_h (rfS_t hS)) hS)⟩)
    | skip
def so_ok (e : Nat × ax_S) : Bool := decide (540 ≤ e.1) || (List.range e.2.2.1).all (fun b => match e.2.2.2 b with
  | .inl j => decide (j < 540)
  | .inr _ => true)
theorem so_all : ax_so.all so_ok = true := by decide +kernel
theorem lk_mem : ∀ (l : List (Nat × ax_S)) {i : Nat} {q : ax_S}, l.lookup i = some q → (i, q) ∈ l
  | [], i, q, h => by cases h
  | (a, b) :: l, i, q, h => by
    rw [List.lookup_cons] at h
    cases hia : (i == a) with
    | true =>
      rw [hia] at h
      obtain rfl := Option.some.inj h
      rw [eq_of_beq hia]
      exact List.mem_cons_self
    | false =>
      rw [hia] at h
      exact List.mem_cons_of_mem _ (lk_mem l h)
/-- the class's cells name the class's cells alone -/
theorem sh_rf {id t n b j : Nat} {f : Nat → ax_X} (h : ax_sh id = some (t, n, f)) (hi : id < 540) (hb : b < n) (hj : f b = .inl j) : j < 540 := by
  unfold ax_sh at h
  by_cases h5 : id < 512
  · rw [if_pos h5] at h
    unfold ax_rw at h
    have hr : id / 32 < 16 := by omega
    have h20 := nr_le (id / 32)
    split at h
    · cases h
      match b, hb with
      | 0, _ => cases hj; omega
      | 1, _ => cases hj; omega
      | 2, _ => cases hj
    · split at h
      · cases h
        cases hj
        omega
      · split at h
        · cases h; cases hj
        · split at h
          · cases h; cases hj
          · cases h
  · rw [if_neg h5, if_pos (by omega)] at h
    have h1 := List.all_eq_true.mp so_all _ (lk_mem _ h)
    unfold so_ok at h1
    rw [Bool.or_eq_true] at h1
    rcases h1 with h1 | h1
    · exact absurd (of_decide_eq_true h1) (by show ¬ 540 ≤ id; omega)
    · have h2 := List.all_eq_true.mp h1 b (List.mem_range.mpr hb)
      dsimp only at h2
      rw [hj] at h2
      exact of_decide_eq_true h2
def ay_Qc (D : va_G) (ad : Nat → Nat) (ca : Nat → ClassId) (Q : ax_Po) (sz : Nat) : Array Value → State → Outcome → State → Prop := fun _ st oc t =>
  (∃ (r : Option Value) (d' : ax_D), oc = .returned (r.map (ax_cv ad)) ∧ (∀ x, r ≠ some (.ref x)) ∧ Q r d' ∧ va_P D vwCl (ay_w ad ca d') t.heap) ∧ va_F (ay_A ad sz) st t
def ay_Pc (D : va_G) (ad : Nat → Nat) (ca : Nat → ClassId) (as : List Value) (d : ax_D) (sz : Nat) : Array Value → State → Prop :=
  va_Pc (as.map (ax_cv ad)) (fun U => U.heap.size = sz ∧ va_P D vwCl (ay_w ad ca d) U.heap ∧ va_K D vwCl (ax_ts ca) U ∧ va_D (fun _ => True) (ay_w ad ca d) ∧ ∀ w ∈ ax_NW, va_Nw w U)
def ay_J (l : Launch) (D : va_G) (ad : Nat → Nat) (ca : Nat → ClassId) : ax_J0 := fun mi pc L st d Q =>
  rfL L → rfS st → ∀ (p : Program) (e : Env) (s : State) (m : MethodId) (args : Array Value) (below : List Frame) (meth : Method) (c : Code) (H : Heap) (locs : List Loc) (ls : Array Slot), ax_C p s m args meth c D ca (ax_me mi) → va_P D vwCl (ay_w ad ca d) H → va_D (ay_A ad s.heap.size) (ay_w ad ca d) → va_S (ay_A ad s.heap.size) s.heap H locs → L.length = ax_n (ax_me mi) → lv_has ls (ax_n (ax_me mi)) (ax_lv ad L) →
    W p l e (ax_R (ax_v (ax_me mi))) s m args below meth c H locs 0 0 (MQ below (ay_Qc D ad ca Q s.heap.size) args s 0 0 (ay_A ad s.heap.size)) (F0 m pc ls (st.map (ax_cv ad)))
section AYT
variable {p : Program} {l : Launch} {e : Env} {R : Room} {s : State} {m : MethodId} {args : Array Value} {below : List Frame} {meth : Method} {c : Code} {H : Heap} {locs : List Loc} {cells slots : Nat} {Qt : State → Prop} {D : va_G} {ad : Nat → Nat} {ca : Nat → ClassId} {q : ax_M} {d : ax_D} {A : Nat → Prop} {H0 : Heap} {pc : Nat} {ls : Array Slot} {rest : List Value}
theorem ay_get {id a b n idx : Nat} {f : Nat → ax_X} (hC : ax_C p s m args meth c D ca q) (ha : a < 9) (hbN : b < (ax_rd a).2.2) (hw : Cond.fieldLink (ax_y q).cls idx ((ax_rd a).2.1 b).1 ((ax_rd a).2.1 b).2.1 ((ax_rd a).2.1 b).2.2.1 ∈ ax_TW) (hP : va_P D vwCl (ay_w ad ca d) H) (hi : id < 540) (hsh : ax_sh id = some (a + 4, n, f)) (hn : b < n) (hd : decode (ax_c q) pc = .ok (.getfield idx, 3))
    (kk : W p l e R s m args below meth c H locs cells slots Qt (F0 m (pc + 3) ls (ax_cv ad (ax_av d id f b) :: rest))) : W p l e R s m args below meth c H locs cells slots Qt (F0 m pc ls (.ref (ad id) :: rest)) := by
  obtain ⟨hx, hb, hr, hml, hown, hts, hlocks, hK, hN⟩ := hC
  obtain ⟨k0, hk0, hwk⟩ := ay_w_get ad ca d hsh hi
  rw [ax_cl_obj hsh] at hwk
  exact va_get (D := D) (ci := a) (C := (ax_rd a).1) (T := (ax_rd a).2.1) (N := (ax_rd a).2.2) hx hb hts (ax_lay_TW ha) hown hK hP k0 hwk (ax_rd_at ha) b hbN (hts _ hw) (fun _ h => h) (by rw [List.getElem?_map, List.getElem?_range hn]; rfl) hd kk
theorem ay_put {id a b n idx : Nat} {f : Nat → ax_X} {x : Int32} (hC : ax_C p s m args meth c D ca q) (ha : a < 9) (hbN : b < (ax_rd a).2.2) (hw : Cond.fieldLink (ax_y q).cls idx ((ax_rd a).2.1 b).1 ((ax_rd a).2.1 b).2.1 ((ax_rd a).2.1 b).2.2.1 ∈ ax_TW) (hfin : ((ax_rd a).2.1 b).2.2.2 = false) (hP : va_P D vwCl (ay_w ad ca d) H) (hD : va_D A (ay_w ad ca d)) (hS : va_S A H0 H locs) (hi : id < 540) (hsh : ax_sh id = some (a + 4, n, f)) (hn : b < n) (hfb : f b = .inr none) (hnar : narrow (ax_ty a b) (.int x) = .int x) (hfit : fits (ax_ty a b) (.int x) = true) (hd : decode (ax_c q) pc = .ok (.putfield idx, 3))
    (kk : ∀ (H1 : Heap) (locs1 : List Loc), va_P D vwCl (ay_w ad ca (ax_up d id b x)) H1 → va_S A H0 H1 locs1 → W p l e R s m args below meth c H1 locs1 cells slots Qt (F0 m (pc + 3) ls rest)) : W p l e R s m args below meth c H locs cells slots Qt (F0 m pc ls (.int x :: .ref (ad id) :: rest)) := by
  obtain ⟨hx, hb, hr, hml, hown, hts, hlocks, hK, hN⟩ := hC
  obtain ⟨k0, hk0, hwk⟩ := ay_w_get ad ca d hsh hi
  rw [ax_cl_obj hsh] at hwk
  have hset : ((List.range n).map (fun k => ax_cv ad (ax_av d id f k))).set b (.int x) = (List.range n).map (fun k => ax_cv ad (ax_av (ax_up d id b x) id f k)) := by
    apply List.ext_getElem?
    intro j
    by_cases hj : j = b
    · subst hj
      rw [List.getElem?_set_self (by rw [List.length_map, List.length_range]; exact hn), List.getElem?_map, List.getElem?_range hn]
      simp [ax_av, hfb, ax_up_at, upd, ax_cv]
    · rw [List.getElem?_set_ne (Ne.symm hj), List.getElem?_map, List.getElem?_map]
      have e1 : ax_av (ax_up d id b x) id f j = ax_av d id f j := by
        unfold ax_av
        rw [ax_up_at]
        simp [upd, hj]
      by_cases hjn : j < n
      · rw [List.getElem?_range hjn]
        simp [e1]
      · rw [List.getElem?_eq_none (by rw [List.length_range]; omega)]
        rfl
  refine va_put (D := D) (ci := a) (v := .int x) (ty := ax_ty a b) (C := (ax_rd a).1) (T := (ax_rd a).2.1) (N := (ax_rd a).2.2) hx hb hts (ax_lay_TW ha) (ax_ty a) (ax_ty_ok a ha).1 (ax_ty_ok a ha).2 hown hK hP hD hS k0 hwk (ax_rd_at ha) b hbN (hts _ hw) (fun _ h => h) hfin ((ax_ty_ok a ha).1 b hbN) hnar hfit (by rw [List.length_map, List.length_range]; exact hn) hd (fun H1 locs1 hP1 hD1 hS1 => kk H1 locs1 ?_ hS1)
  rw [hset, ← ax_cl_obj (ad := ad) (ca := ca) hsh, ay_w_set hD hk0 (fun j hj => ax_up_ne hj)] at hP1
  exact hP1
theorem ay_iald {id n : Nat} {f : Nat → ax_X} {i : Int32} (hC : ax_C p s m args meth c D ca q) (hP : va_P D vwCl (ay_w ad ca d) H) (hi : id < 540) (hsh : ax_sh id = some (0, n, f)) (hin : vp_in i n) (hd : decode (ax_c q) pc = .ok (.iaload, 1))
    (kk : W p l e R s m args below meth c H locs cells slots Qt (F0 m (pc + 1) ls (.int (d id i.toNatClampNeg) :: rest))) : W p l e R s m args below meth c H locs cells slots Qt (F0 m pc ls (.int i :: .ref (ad id) :: rest)) := by
  obtain ⟨hx, hb, hr, hml, hown, hts, hlocks, hK, hN⟩ := hC
  obtain ⟨k0, hk0, hwk⟩ := ay_w_get ad ca d hsh hi
  rw [ax_cl_int hsh] at hwk
  exact va_iald hx hb hK hP k0 0 hwk rfl hin hd kk
theorem ay_zald {id n : Nat} {f : Nat → ax_X} {i : Int32} (hC : ax_C p s m args meth c D ca q) (hP : va_P D vwCl (ay_w ad ca d) H) (hi : id < 540) (hsh : ax_sh id = some (1, n, f)) (hin : vp_in i n) (hd : decode (ax_c q) pc = .ok (.baload, 1))
    (kk : W p l e R s m args below meth c H locs cells slots Qt (F0 m (pc + 1) ls (.int (d id i.toNatClampNeg) :: rest))) : W p l e R s m args below meth c H locs cells slots Qt (F0 m pc ls (.int i :: .ref (ad id) :: rest)) := by
  obtain ⟨hx, hb, hr, hml, hown, hts, hlocks, hK, hN⟩ := hC
  obtain ⟨k0, hk0, hwk⟩ := ay_w_get ad ca d hsh hi
  rw [ax_cl_boo hsh] at hwk
  exact va_zald hx hb hK hP k0 1 hwk rfl hin hd kk
theorem ay_iast {id n : Nat} {f : Nat → ax_X} {i x : Int32} (hC : ax_C p s m args meth c D ca q) (hP : va_P D vwCl (ay_w ad ca d) H) (hD : va_D A (ay_w ad ca d)) (hS : va_S A H0 H locs) (hi : id < 540) (hsh : ax_sh id = some (0, n, f)) (hin : vp_in i n) (hd : decode (ax_c q) pc = .ok (.iastore, 1))
    (kk : ∀ (H1 : Heap) (locs1 : List Loc), va_P D vwCl (ay_w ad ca (ax_up d id i.toNatClampNeg x)) H1 → va_S A H0 H1 locs1 → W p l e R s m args below meth c H1 locs1 cells slots Qt (F0 m (pc + 1) ls rest)) : W p l e R s m args below meth c H locs cells slots Qt (F0 m pc ls (.int x :: .int i :: .ref (ad id) :: rest)) := by
  obtain ⟨hx, hb, hr, hml, hown, hts, hlocks, hK, hN⟩ := hC
  obtain ⟨k0, hk0, hwk⟩ := ay_w_get ad ca d hsh hi
  rw [ax_cl_int hsh] at hwk
  refine va_iast hx hb hK hP hD hS k0 0 hwk rfl hin hd (fun H1 locs1 hP1 hD1 hS1 => kk H1 locs1 ?_ hS1)
  rw [← ax_up_at, ← ax_cl_int (ad := ad) (ca := ca) hsh, ay_w_set hD hk0 (fun j hj => ax_up_ne hj)] at hP1
  exact hP1
theorem ay_zast {id n : Nat} {f : Nat → ax_X} {i x : Int32} (hC : ax_C p s m args meth c D ca q) (hP : va_P D vwCl (ay_w ad ca d) H) (hD : va_D A (ay_w ad ca d)) (hS : va_S A H0 H locs) (hi : id < 540) (hsh : ax_sh id = some (1, n, f)) (hin : vp_in i n) (hd : decode (ax_c q) pc = .ok (.bastore, 1))
    (kk : ∀ (H1 : Heap) (locs1 : List Loc), va_P D vwCl (ay_w ad ca (ax_up d id i.toNatClampNeg (x &&& 1))) H1 → va_S A H0 H1 locs1 → W p l e R s m args below meth c H1 locs1 cells slots Qt (F0 m (pc + 1) ls rest)) : W p l e R s m args below meth c H locs cells slots Qt (F0 m pc ls (.int x :: .int i :: .ref (ad id) :: rest)) := by
  obtain ⟨hx, hb, hr, hml, hown, hts, hlocks, hK, hN⟩ := hC
  obtain ⟨k0, hk0, hwk⟩ := ay_w_get ad ca d hsh hi
  rw [ax_cl_boo hsh] at hwk
  refine va_zast hx hb hK hP hD hS k0 1 hwk rfl hin hd (fun H1 locs1 hP1 hD1 hS1 => kk H1 locs1 ?_ hS1)
  rw [show vp_nar .boolean x = x &&& 1 from rfl, ← ax_up_at, ← ax_cl_boo (ad := ad) (ca := ca) hsh, ay_w_set hD hk0 (fun j hj => ax_up_ne hj)] at hP1
  exact hP1
theorem ay_aald {id n j : Nat} {f : Nat → ax_X} {i : Int32} (hC : ax_C p s m args meth c D ca q) (hP : va_P D vwCl (ay_w ad ca d) H) (hi : id < 540) (hsh : ax_sh id = some (3, n, f)) (hin : vp_in i n) (hf : f i.toNatClampNeg = .inl j) (hd : decode (ax_c q) pc = .ok (.aaload, 1))
    (kk : W p l e R s m args below meth c H locs cells slots Qt (F0 m (pc + 1) ls (.ref (ad j) :: rest))) : W p l e R s m args below meth c H locs cells slots Qt (F0 m pc ls (.int i :: .ref (ad id) :: rest)) := by
  obtain ⟨hx, hb, hr, hml, hown, hts, hlocks, hK, hN⟩ := hC
  obtain ⟨k0, hk0, hwk⟩ := ay_w_get ad ca d hsh hi
  rw [ax_cl_arr hsh] at hwk
  have hlt : i.toNatClampNeg < n := Nat.not_le.mp fun q => hin (Or.inr q)
  have hcell := hP k0 _ hwk
  exact W.aald (v := .ref (ad j)) (ty := .array .int) hx hb hcell ((hK.2 3 _ rfl).1 n (fun i => va_rf (ax_rf ad (f i)))) rfl (fun q => by cases q) (by show ¬ (i < 0 ∨ (arrV _ _ _).slots.size ≤ _); rw [arrV_size]; exact hin) (by show (arrV _ _ _).slots[_]? = _; rw [arrV_read _ _ hlt]; simp [hf, ax_rf, va_rf]) rfl rfl hd kk
theorem ay_alen {id n t : Nat} {f : Nat → ax_X} (hC : ax_C p s m args meth c D ca q) (hP : va_P D vwCl (ay_w ad ca d) H) (hi : id < 540) (hsh : ax_sh id = some (t, n, f)) (ht : t < 4) (hd : decode (ax_c q) pc = .ok (.arraylength, 1))
    (kk : W p l e R s m args below meth c H locs cells slots Qt (F0 m (pc + 1) ls (.int (nI n) :: rest))) : W p l e R s m args below meth c H locs cells slots Qt (F0 m pc ls (.ref (ad id) :: rest)) := by
  obtain ⟨hx, hb, hr, hml, hown, hts, hlocks, hK, hN⟩ := hC
  obtain ⟨k0, hk0, hwk⟩ := ay_w_get ad ca d hsh hi
  match t, ht with
  | 0, _ => rw [ax_cl_int hsh] at hwk; exact va_alen hx hb hK hP k0 0 hwk (ty := .int) rfl rfl hd kk
  | 1, _ => rw [ax_cl_boo hsh] at hwk; exact va_alen hx hb hK hP k0 1 hwk (ty := .boolean) rfl rfl hd kk
  | 2, _ => rw [ax_cl_lon hsh] at hwk; exact va_alen hx hb hK hP k0 2 hwk (ty := .long) rfl rfl hd kk
  | 3, _ => rw [ax_cl_arr hsh] at hwk; exact va_alen hx hb hK hP k0 3 hwk (ty := .array .int) rfl rfl hd kk
  | t + 4, h => exact absurd h (by omega)
end AYT
theorem rfL_as {as : List Value} {n : Nat} (h : rfS as) : rfL (as.map some ++ List.replicate n none) := fun x hx => by
  rcases List.mem_append.mp hx with q | q
  · obtain ⟨v, hv, e⟩ := List.mem_map.mp q
    cases e
    exact h x hv
  · cases List.eq_of_mem_replicate q
set_option maxHeartbeats 1000000 in
theorem ay_met {l : Launch} {D : va_G} {ad : Nat → Nat} {ca : Nat → ClassId} {a : Nat} {as : List Value} {d : ax_D} {Q : ax_Po} (hok : ax_ok (ax_me a)) (hlen : as.length = ax_g (ax_me a)) (hc : ∀ v ∈ as, v.category = 1) (hr : rfS as) (hJ : ay_J l D ad ca a 0 (as.map some ++ List.replicate (ax_n (ax_me a) - as.length) none) [] d Q) (sz : Nat) :
    Met l (ax_y (ax_me a)) (ax_ws (ax_me a)) (ax_R (ax_v (ax_me a))) (ay_Pc D ad ca as d sz) (ay_Qc D ad ca Q sz) 0 0 (ay_A ad sz) := by
  have hn : as.length ≤ ax_n (ax_me a) := by rw [hlen]; exact (ax_mfacts hok).2.2.2.2.2.2.1
  refine Met.ofW (cc := ax_c (ax_me a)) (maxL := ax_n (ax_me a)) (ret := ax_r (ax_me a)) (ax_mfacts hok).1 rfl ?_
  intro p e s m args below meth c s₁ B hml hv
  obtain ⟨rfl, rfl, hP, hK, hD, hN⟩ := hv
  have hts := atoms_spec (ws := ax_ws (ax_me a)) B.pre
  have hown : s.vm.findClass (ax_y (ax_me a)).cls = some m.cls := findClass_of_methodNamed B.named
  rw [lg_entry_eq]
  exact hJ (rfL_as hr) (fun x hx => absurd hx List.not_mem_nil) p e s m _ below meth c s.heap [] _ ⟨B.exec, B.bytes, B.returns, hml, hown, fun w h => hts w (List.mem_cons_of_mem _ h), B.notSynchronized, hK, hN⟩ hP (ay_A_D hD) va_S.rf (by rw [List.length_append, List.length_map, List.length_replicate]; omega) (ax_entry hc hn)
section AYC
variable {p : Program} {l : Launch} {e : Env} {R : Room} {s : State} {m : MethodId} {args : Array Value} {below : List Frame} {meth : Method} {c : Code} {H : Heap} {locs : List Loc} {cells slots : Nat} {Qt : State → Prop} {D : va_G} {ad : Nat → Nat} {ca : Nat → ClassId} {d : ax_D} {H0 : Heap} {pc : Nat} {ls : Array Slot} {st0 rest : List Value}
theorem ay_back {P : ax_Po} {sz : Nat} {a : Array Value} (hr : va_Run p l e R s m args below meth c H locs cells slots 0 0 (F0 m pc ls st0) (rest.map (ax_cv ad)) (ay_Qc D ad ca P H.size a) (ay_A ad H.size)) (hS : va_S (ay_A ad sz) H0 H locs) (hz : sz ≤ H.size)
    (kk : ∀ (r : Option Value) (d1 : ax_D) (H1 : Heap) (locs1 : List Loc), (∀ x, r ≠ some (.ref x)) → P r d1 → va_P D vwCl (ay_w ad ca d1) H1 → va_S (ay_A ad sz) H0 H1 locs1 → W p l e R s m args below meth c H1 locs1 cells slots Qt (F0 m (pc + 3) ls ((r.toList ++ rest).map (ax_cv ad)))) : W p l e R s m args below meth c H locs cells slots Qt (F0 m pc ls st0) := by
  intro T hT X
  obtain ⟨v, st₀, t, T', L, h0, X', hL, e1, e2, ⟨⟨r, d1, hv, hrf, hp, hP⟩, hz1, hk⟩, st⟩ := hr T hT X
  cases hv
  rw [h0] at hz1 hk
  have hA := ay_A_le (ad := ad) hz
  obtain ⟨t2, a1, b1⟩ := kk r d1 T'.heap (locs ++ L) hrf hp (by rw [e1]; exact hP)
    ⟨Nat.le_trans hS.1 (by rw [e1]; exact hz1), fun q h1 h2 => by rw [e1, hk q (Nat.lt_of_lt_of_le h1 hS.1) (fun z => h2 (hA q z))]; exact hS.2.1 q h1 h2, fun q hq => by
      rcases List.mem_append.mp hq with h | h
      · exact hS.2.2 q h
      · exact hA _ (hL q h)⟩ T' rfl X'
  have e3 : (r.toList ++ rest).map (ax_cv ad) = (r.map (ax_cv ad)).toList ++ rest.map (ax_cv ad) := by cases r <;> rfl
  rw [e3] at a1
  exact ⟨t2, st t2 a1, b1⟩
end AYC
theorem ay_blind {D : va_G} {ad : Nat → Nat} {ca : Nat → ClassId} {as : List Value} {d : ax_D} {sz : Nat} : FrameBlind (ay_Pc D ad ca as d sz) := fun a U g mk q => by
  obtain ⟨q0, q1, qP, qK, qD, qN⟩ := q
  exact ⟨q0, q1, qP, va_K.moved (u := U) (U := U.calling g mk a) (Vm.Alike.refl U.vm) qK, qD, ax_NW_same (u := U) rfl qN⟩
section AYV
variable {p : Program} {l : Launch} {e : Env} {s : State} {m : MethodId} {args : Array Value} {below : List Frame} {meth : Method} {c : Code} {H : Heap} {locs : List Loc} {Qt : State → Prop} {D : va_G} {ad : Nat → Nat} {ca : Nat → ClassId} {d : ax_D} {H0 : Heap} {pc : Nat} {ls : Array Slot}
set_option maxHeartbeats 1000000 in
theorem ay_cv0 {q : ax_M} {a idx id n : Nat} {f : Nat → ax_X} {tl rest : List Value} {P : ax_Po} {sz : Nat} (hC : ax_C p s m args meth c D ca q) (hq : ax_ok q) (hoka : ax_ok (ax_me a)) (w1 : Cond.methodLink (ax_y q).cls idx (ax_y (ax_me a)) ∈ ax_TW) (w2 : Cond.instanceMethod (ax_y (ax_me a)) ∈ ax_TW) (w3 : Cond.selects (ax_y (ax_me a)).cls (ax_y (ax_me a)) (ax_y (ax_me a)) ∈ ax_TW) (w4 : ax_z (ax_me a) = 0) (hv : ax_v (ax_me a) < ax_v q)
    (hP : va_P D vwCl (ay_w ad ca d) H) (hD : va_D (ay_A ad sz) (ay_w ad ca d)) (hS : va_S (ay_A ad sz) H0 H locs) (hz : sz ≤ H.size) (hsz : ls.size = ax_n q) (hlen : (Value.ref id :: tl).length = ax_g (ax_me a)) (hcat : ∀ v ∈ (Value.ref id :: tl), v.category = 1) (hsum : (rest.map fun v => v.category).sum ≤ 8) (hi : id < 540) (hsh : ax_sh id = some (ax_o (ax_me a) + 4, n, f)) (hd : decode (ax_c q) pc = .ok (.invokevirtual idx, 3))
    (hrf : rfS (Value.ref id :: tl)) (hX : ay_J l D ad ca a 0 ((Value.ref id :: tl).map some ++ List.replicate (ax_n (ax_me a) - (Value.ref id :: tl).length) none) [] d P)
    (kk : ∀ (r : Option Value) (d1 : ax_D) (H1 : Heap) (locs1 : List Loc), (∀ x, r ≠ some (.ref x)) → P r d1 → va_P D vwCl (ay_w ad ca d1) H1 → va_S (ay_A ad sz) H0 H1 locs1 → W p l e (ax_R (ax_v q)) s m args below meth c H1 locs1 0 0 Qt (F0 m (pc + 3) ls ((r.toList ++ rest).map (ax_cv ad)))) : W p l e (ax_R (ax_v q)) s m args below meth c H locs 0 0 Qt (F0 m pc ls (((Value.ref id :: tl).reverse ++ rest).map (ax_cv ad))) := by
  obtain ⟨hx, hb, hr, hml, hown, hts, hlocks, hK, hN⟩ := hC
  have fa := ax_mfacts hoka
  have hM := ay_met hoka hlen hcat hrf hX H.size
  have e1 : ((Value.ref id :: tl).reverse ++ rest).map (ax_cv ad) = (tl.map (ax_cv ad)).reverse ++ .ref (ad id) :: rest.map (ax_cv ad) := by simp [ax_cv]
  rw [e1]
  obtain ⟨k0, hk0, hwk⟩ := ay_w_get ad ca d hsh hi
  rw [ax_cl_obj hsh] at hwk
  have hrec := va_recv hK hP (ax_rd_at fa.2.2.2.2.1) hwk
  rw [fa.2.2.2.1] at hrec
  have hgood : GoodIn ax_TW (wsV (ax_y q).cls idx (ax_y (ax_me a)).cls (ax_y (ax_me a)) (ax_ws (ax_me a))) := ax_TW_good (fun w hw => by
    unfold wsV at hw
    rcases List.mem_append.mp hw with h | h
    · simp only [List.mem_cons, List.not_mem_nil, or_false] at h
      rcases h with h | h | h | h <;> rw [h]
      · exact w1
      · exact w2
      · exact w3
      · exact ax_ini_TW hoka
    · exact ax_ws_TW hoka w h)
  have hpar : (parseMethodDescriptor (ax_y (ax_me a)).desc).map (fun d => d.parameters.length) = some tl.length := by
    have h9 := fa.2.2.2.2.2.2.2.2
    rw [w4, ← hlen] at h9
    cases hp : parseMethodDescriptor (ax_y (ax_me a)).desc with
    | none => rw [hp] at h9; cases h9
    | some sg =>
      rw [hp] at h9
      simp only [Option.map_some, Option.some.injEq, List.length_cons, Nat.add_zero] at h9 ⊢
      omega
  have hrm := ax_room hv fa.2.2.2.2.2.2.2.1 fa.2.2.2.2.2.1
  refine ay_back (P := P) (va_runV (As := tl.map (ax_cv ad)) (rest := rest.map (ax_cv ad)) (b := ad id) (C := (ax_y (ax_me a)).cls) ⟨hx, hb, hml, hown, hts⟩ hM (cwV tl.length hts hgood rfl rfl rfl ⟨rfl, fa.2.1, fa.2.2.1, hpar⟩ hrm) ⟨ay_blind, hrec, fun U hU hW => ⟨rfl, by rw [hU], by rw [hU]; exact hP, va_K.moved hW.alike hK, hD.weaken (fun _ _ _ _ => trivial), ax_NW_warm hW hN⟩⟩ rfl (by rw [List.length_map]) hsz rfl (lv_room (by rw [ax_sum]; exact hsum)) hd ⟨Nat.le_refl _, Nat.le_refl _⟩) hS hz kk
set_option maxHeartbeats 1000000 in
theorem ay_cv1 {q : ax_M} {a idx b : Nat} {as rest : List Value} {P : ax_Po} {sz : Nat} (hC : ax_C p s m args meth c D ca q) (hq : ax_ok q) (hb0 : 0 < b) (hL : ax_L.any (fun z => decide (z.1 = ax_o q ∧ z.2.1 = idx ∧ z.2.2.1 = a ∧ z.2.2.2.1 = b)) = true) (hv : ax_v (ax_me a) < ax_v q)
    (hP : va_P D vwCl (ay_w ad ca d) H) (hD : va_D (ay_A ad sz) (ay_w ad ca d)) (hS : va_S (ay_A ad sz) H0 H locs) (hz : sz ≤ H.size) (hsz : ls.size = ax_n q) (hlen : as.length = ax_g (ax_me a)) (hcat : ∀ v ∈ as, v.category = 1) (hsum : (rest.map fun v => v.category).sum ≤ 8) (hd : decode (ax_c q) pc = .ok (.invokestatic idx, 3))
    (hrf : rfS as) (hX : ay_J l D ad ca a 0 (as.map some ++ List.replicate (ax_n (ax_me a) - as.length) none) [] d P)
    (kk : ∀ (r : Option Value) (d1 : ax_D) (H1 : Heap) (locs1 : List Loc), (∀ x, r ≠ some (.ref x)) → P r d1 → va_P D vwCl (ay_w ad ca d1) H1 → va_S (ay_A ad sz) H0 H1 locs1 → W p l e (ax_R (ax_v q)) s m args below meth c H1 locs1 0 0 Qt (F0 m (pc + 3) ls ((r.toList ++ rest).map (ax_cv ad)))) : W p l e (ax_R (ax_v q)) s m args below meth c H locs 0 0 Qt (F0 m pc ls ((as.reverse ++ rest).map (ax_cv ad))) := by
  obtain ⟨hx, hb, hr, hml, hown, hts, hlocks, hK, hN⟩ := hC
  obtain ⟨hoka, hz9⟩ := ax_Lz hq hL
  have fa := ax_mfacts hoka
  have hM := ay_met hoka hlen hcat hrf hX H.size
  have e1 : (as.reverse ++ rest).map (ax_cv ad) = (as.map (ax_cv ad)).reverse ++ rest.map (ax_cv ad) := by simp
  rw [e1]
  have hpar : ax_z (ax_me a) = 1 → (parseMethodDescriptor (ax_y (ax_me a)).desc).map (fun d => d.parameters.length) = some as.length := by
    intro w4
    have h9 := fa.2.2.2.2.2.2.2.2
    rw [w4, ← hlen] at h9
    cases hp : parseMethodDescriptor (ax_y (ax_me a)).desc with
    | none => rw [hp] at h9; cases h9
    | some sg =>
      rw [hp] at h9
      simp only [Option.map_some, Option.some.injEq] at h9 ⊢
      omega
  have hrm := ax_room hv fa.2.2.2.2.2.2.2.1 fa.2.2.2.2.2.1
  have hpre : PreS s H (ay_Pc D ad ca as d H.size) (as.map (ax_cv ad)) := ⟨ay_blind, fun U hU hW => ⟨rfl, by rw [hU], by rw [hU]; exact hP, va_K.moved hW.alike hK, hD.weaken (fun _ _ _ _ => trivial), ax_NW_warm hW hN⟩⟩
  have hbb : b = 1 ∨ ∃ b', b = b' + 2 := by
    match b, hb0 with
    | 1, _ => exact Or.inl rfl
    | b + 2, _ => exact Or.inr ⟨b, rfl⟩
  rcases hbb with rfl | ⟨b', rfl⟩
  · obtain ⟨w1, w2, w3, w4⟩ := hz9
    have hgood : GoodIn ax_TW (wsS (ax_y q).cls idx (ax_y (ax_me a)) (ax_ws (ax_me a))) := ax_TW_good (fun w hw => by
      unfold wsS at hw
      rcases List.mem_append.mp hw with h | h
      · simp only [List.mem_cons, List.not_mem_nil, or_false] at h
        rcases h with h | h | h <;> rw [h]
        · exact w1
        · exact w2
        · exact ax_ini_TW hq
      · exact ax_ws_TW hoka w h)
    exact ay_back (P := P) (va_runS (As := as.map (ax_cv ad)) (rest := rest.map (ax_cv ad)) ⟨hx, hb, hml, hown, hts⟩ hM (cwS as.length hts hgood rfl rfl rfl ⟨w4, fa.2.1, fa.2.2.1, hpar w3⟩ hrm) hpre rfl (by rw [List.length_map]) hsz rfl (lv_room (by rw [ax_sum]; exact hsum)) hd ⟨Nat.le_refl _, Nat.le_refl _⟩) hS hz kk
  · obtain ⟨w1, w2, w3⟩ := hz9
    exact ay_back (P := P) (va_runSN (host := "LearnedCodes") (As := as.map (ax_cv ad)) (rest := rest.map (ax_cv ad)) ⟨hx, hb, hml, hown, hts⟩ hM ⟨va_cnB as.length hts (ax_TW_good (ax_ws_TW hoka)) rfl rfl rfl (hN _ w1) (hts _ (ax_ini_TW hoka)) ⟨fa.2.1, fa.2.2.1, hpar w3⟩ hrm, hts _ w2, trivial⟩ hpre rfl (by rw [List.length_map]) hsz rfl (lv_room (by rw [ax_sum]; exact hsum)) hd ⟨Nat.le_refl _, Nat.le_refl _⟩) hS hz kk
end AYV
theorem rfS_as {as rest : List Value} (h : rfS (as.reverse ++ rest)) : rfS as ∧ rfS rest := ⟨fun x hx => h x (List.mem_append_left _ (List.mem_reverse.mpr hx)), fun x hx => h x (List.mem_append_right _ hx)⟩
theorem rfS_ret {r : Option Value} {rest : List Value} (h : ∀ x, r ≠ some (.ref x)) (h2 : rfS rest) : rfS (r.toList ++ rest) := fun x hx => by
  rcases List.mem_append.mp hx with q | q
  · cases r with
    | none => exact absurd q List.not_mem_nil
    | some v =>
      have e : Value.ref x = v := List.mem_singleton.mp q
      exact absurd (by rw [e]) (h x)
  · exact h2 x q
theorem rfS_v {d : ax_D} {id b : Nat} {f : Nat → ax_X} {r : List Value} (h : ∀ j, f b = .inl j → j < 540) (h2 : rfS r) : rfS (ax_av d id f b :: r) := fun x hx => by
  rcases List.mem_cons.mp hx with q | q
  · unfold ax_av at q
    cases hf : f b with
    | inl j => rw [hf] at q; cases q; exact h _ hf
    | inr o => rw [hf] at q; cases o <;> cases q
  · exact h2 x q
set_option maxHeartbeats 4000000 in
theorem ay_snd {l : Launch} {D : va_G} {ad : Nat → Nat} {ca : Nat → ClassId} (mi pc : Nat) (L : ax_L1) (st : List Value) (d : ax_D) (Q : ax_Po) (k : ax_st (ay_J l D ad ca) mi pc L st d Q) : ay_J l D ad ca mi pc L st d Q := by
  unfold ax_st at k
  cases hin : ax_in mi pc with
  | none => rw [hin] at k; exact k.elim
  | some z =>
    obtain ⟨i, len, a, b⟩ := z
    rw [hin] at k
    dsimp only at k
    have hok := (ax_in_ok hin).1
    have hck := (ax_in_ok hin).2
    have hd := ax_dfacts hin
    unfold ax_ick at hck
    rw [Bool.and_eq_true] at hck
    replace hck := hck.2
    dsimp only at hck
    intro hRL hRS p e s m args below meth c H locs ls hC hP hD hS hL hl
    have hx := hC.1
    have hb := hC.2.1
    cases i <;> first
      | (obtain ⟨pc', L', st', h1, h2, h3⟩ := k
         exact ax_s1 hx hb hd h1 h2 hL hl (fun ls' hL' hl' => h3 (sx_rf h1 hRL hRS).1 (sx_rf h1 hRL hRS).2 p e s m args below meth c H locs ls' hC hP hD hS hL' hl'))
      | (obtain ⟨rfl, v, ty, rfl, hr, hn, hQ⟩ := k
         exact W.zret hx hb (hC.2.2.1.trans hr) hn (fun t ht hW => ⟨⟨some (.int v), d, rfl, (fun x z => by cases z), hQ, by rw [ht]; exact hP⟩, hS.F ht⟩) hS.2.2 hd hC.2.2.2.2.2.2.1)
      | (obtain ⟨rfl, rfl, hr, hQ⟩ := k
         exact W.vret hx hb (hC.2.2.1.trans hr) (fun t ht hW => ⟨⟨none, d, rfl, (fun x z => by cases z), hQ, by rw [ht]; exact hP⟩, hS.F ht⟩) hS.2.2 hd hC.2.2.2.2.2.2.1)
      | (obtain ⟨rfl, x, r, t, rfl, ht, k1, k2⟩ := k
         exact ax_s2 hx hb hd ht (fun h => k1 h hRL (rfS_t hRS) p e s m args below meth c H locs ls hC hP hD hS hL hl) (fun h => k2 h hRL (rfS_t hRS) p e s m args below meth c H locs ls hC hP hD hS hL hl))
      | (obtain ⟨rfl, x, y, r, t, rfl, ht, k1, k2⟩ := k
         exact ax_s3 hx hb hd ht (fun h => k1 h hRL (rfS_t (rfS_t hRS)) p e s m args below meth c H locs ls hC hP hD hS hL hl) (fun h => k2 h hRL (rfS_t (rfS_t hRS)) p e s m args below meth c H locs ls hC hP hD hS hL hl))
      | (obtain ⟨rfl, x, y, r, rfl, h0, k1⟩ := k
         exact lv_idiv hx hb hd h0 (k1 hRL (rfS_i (rfS_t (rfS_t hRS))) p e s m args below meth c H locs ls hC hP hD hS hL hl))
      | (obtain ⟨rfl, x, y, r, rfl, h0, k1⟩ := k
         exact lv_irem hx hb hd h0 (k1 hRL (rfS_i (rfS_t (rfS_t hRS))) p e s m args below meth c H locs ls hC hP hD hS hL hl))
      | (obtain ⟨x, r, rfl, k1, k2⟩ := k
         rename_i dflt lo hi offs
         by_cases h : x.toInt < lo ∨ hi < x.toInt
         · obtain ⟨t, h1, h2⟩ := k1 h
           exact lv_tableOut hx hb hd h h1 (h2 hRL (rfS_t hRS) p e s m args below meth c H locs ls hC hP hD hS hL hl)
         · obtain ⟨off, t, h1, h2, h3⟩ := k2 h
           exact lv_tableIn hx hb hd (fun q => h (Or.inl q)) (fun q => h (Or.inr q)) h1 h2 (h3 hRL (rfS_t hRS) p e s m args below meth c H locs ls hC hP hD hS hL hl))
      | (obtain ⟨x, r, t, rfl, h1, h2, h3⟩ := k
         exact lv_lookup hx hb hd h1 rfl h2 (h3 hRL (rfS_t hRS) p e s m args below meth c H locs ls hC hP hD hS hL hl))
      | (obtain ⟨rfl, id, r, n, f, rfl, h1, h2, h3⟩ := k
         obtain ⟨f1, f2, f3⟩ := ax_Fz hok hck
         exact ay_get hC f1 f2 f3 hP (rfS_h hRS) h1 h2 hd (h3 hRL (rfS_v (fun j hj => sh_rf h1 (rfS_h hRS) h2 hj) (rfS_t hRS)) p e s m args below meth c H locs ls hC hP hD hS hL hl))
      | (obtain ⟨rfl, id, x, r, n, f, rfl, h1, h2, h3, h4, h5, h6⟩ := k
         rw [Bool.and_eq_true, Bool.not_eq_true'] at hck
         obtain ⟨f1, f2, f3⟩ := ax_Fz hok hck.1
         exact ay_put hC f1 f2 f3 hck.2 hP hD hS (rfS_h (rfS_t hRS)) h1 h2 h3 h4 h5 hd (fun H1 locs1 hP1 hS1 => h6 hRL (rfS_t (rfS_t hRS)) p e s m args below meth c H1 locs1 ls hC hP1 (ay_w_D hD) hS1 hL hl))
      | (obtain ⟨rfl, id, i, r, n, f, rfl, h1, h2, h3⟩ := k
         exact ay_iald hC hP (rfS_h (rfS_t hRS)) h1 h2 hd (h3 hRL (rfS_i (rfS_t (rfS_t hRS))) p e s m args below meth c H locs ls hC hP hD hS hL hl))
      | (obtain ⟨rfl, id, i, r, n, f, rfl, h1, h2, h3⟩ := k
         exact ay_zald hC hP (rfS_h (rfS_t hRS)) h1 h2 hd (h3 hRL (rfS_i (rfS_t (rfS_t hRS))) p e s m args below meth c H locs ls hC hP hD hS hL hl))
      | (obtain ⟨rfl, id, x, i, r, n, f, rfl, h1, h2, h3⟩ := k
         exact ay_iast hC hP hD hS (rfS_h (rfS_t (rfS_t hRS))) h1 h2 hd (fun H1 locs1 hP1 hS1 => h3 hRL (rfS_t (rfS_t (rfS_t hRS))) p e s m args below meth c H1 locs1 ls hC hP1 (ay_w_D hD) hS1 hL hl))
      | (obtain ⟨rfl, id, x, i, r, n, f, rfl, h1, h2, h3⟩ := k
         exact ay_zast hC hP hD hS (rfS_h (rfS_t (rfS_t hRS))) h1 h2 hd (fun H1 locs1 hP1 hS1 => h3 hRL (rfS_t (rfS_t (rfS_t hRS))) p e s m args below meth c H1 locs1 ls hC hP1 (ay_w_D hD) hS1 hL hl))
      | (obtain ⟨rfl, id, i, r, n, f, j, rfl, h1, h2, h3, h4⟩ := k
         exact ay_aald hC hP (rfS_h (rfS_t hRS)) h1 h2 h3 hd (h4 hRL (rfS_r (sh_rf h1 (rfS_h (rfS_t hRS)) (Nat.not_le.mp fun q => h2 (Or.inr q)) h3) (rfS_t (rfS_t hRS))) p e s m args below meth c H locs ls hC hP hD hS hL hl))
      | (obtain ⟨rfl, id, r, t, n, f, rfl, h1, h2, h3⟩ := k
         exact ay_alen hC hP (rfS_h hRS) h1 h2 hd (h3 hRL (rfS_i (rfS_t hRS)) p e s m args below meth c H locs ls hC hP hD hS hL hl))
      | (obtain ⟨rfl, as, rest, P, rfl, hlen, hcat, hsum, hrec, hX, hk⟩ := k
         obtain ⟨id, tl, n, f, rfl, hsh⟩ := hrec rfl
         rw [Bool.and_eq_true] at hck
         obtain ⟨hoka, w1, w2, w3, w4⟩ := ax_Lz hok hck.1
         exact ay_cv0 hC hok hoka w1 w2 w3 w4 (of_decide_eq_true hck.2) hP hD hS hS.1 hl.1 hlen hcat hsum (rfS_h (rfS_as hRS).1) hsh hd (rfS_as hRS).1 hX (fun r d1 H1 locs1 hrf hp hP1 hS1 => hk r d1 hp hRL (rfS_ret hrf (rfS_as hRS).2) p e s m args below meth c H1 locs1 ls hC hP1 (ay_w_D hD) hS1 hL hl))
      | (obtain ⟨rfl, as, rest, P, rfl, hlen, hcat, hsum, hrec, hX, hk⟩ := k
         rw [Bool.and_eq_true, Bool.and_eq_true] at hck
         exact ay_cv1 hC hok (of_decide_eq_true hck.1.2) hck.1.1 (of_decide_eq_true hck.2) hP hD hS hS.1 hl.1 hlen hcat hsum hd (rfS_as hRS).1 hX (fun r d1 H1 locs1 hrf hp hP1 hS1 => hk r d1 hp hRL (rfS_ret hrf (rfS_as hRS).2) p e s m args below meth c H1 locs1 ls hC hP1 (ay_w_D hD) hS1 hL hl))
theorem ay_sound {l : Launch} {D : va_G} {ad : Nat → Nat} {ca : Nat → ClassId} {mi pc : Nat} {L : ax_L1} {st : List Value} {d : ax_D} {Q : ax_Po} (h : ax_W mi pc L st d Q) : ay_J l D ad ca mi pc L st d Q := h (ay_J l D ad ca) (fun mi pc L st d Q k => ay_snd mi pc L st d Q k)
