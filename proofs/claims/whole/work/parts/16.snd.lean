/-! SOUNDNESS: what the abstract machine reaches, the machine reaches ('ax_J': at a frame of the method, over every heap that holds the world's numbers). -/
def ax_R (v : Nat) : Room := { frames := v - 1, cells := 0, slots := 0, locals := 28 * (v - 1) }
def ax_isN : Cond → Bool
  | .methodLinkNest .. => true
  | _ => false
def ax_NW : List Cond := lw_tbl.filter ax_isN
theorem ax_NW_same {u U : State} (h : u.vm = U.vm) (k : ∀ w ∈ ax_NW, va_Nw w u) : ∀ w ∈ ax_NW, va_Nw w U := by
  intro w hw
  have h1 := k w hw
  have h2 := (List.mem_filter.mp hw).2
  cases w <;> first | (exact va_Nw.same rfl h h1) | (cases h2)
theorem ax_NW_warm {s U : State} (h : s.WarmedH U.vm) (k : ∀ w ∈ ax_NW, va_Nw w s) : ∀ w ∈ ax_NW, va_Nw w U := by
  intro w hw
  have h1 := k w hw
  have h2 := (List.mem_filter.mp hw).2
  cases w <;> first | (exact va_Nw.warmM h h1) | (cases h2)
theorem ax_TW_good {ws : List Cond} (h : ∀ w ∈ ws, w ∈ ax_TW) : GoodIn ax_TW ws := fun w hw => ⟨h w hw, good_of_word (List.mem_filter.mp (h w hw)).2⟩
def ax_C (p : Program) (s : State) (m : MethodId) (args : Array Value) (meth : Method) (c : Code) (D : va_G) (ca : Nat → ClassId) (q : ax_M) : Prop :=
  p.tables.exec = Jvm.exec ∧ c.code = ax_c q ∧ meth.sig.returnType = ax_r q ∧ c.maxLocals = ax_n q ∧ s.vm.findClass (ax_y q).cls = some m.cls ∧ (∀ w ∈ ax_TW, w.before args s = true) ∧ meth.locks = false ∧ va_K D vwCl (ax_ts ca) s ∧ ∀ w ∈ ax_NW, va_Nw w s
def ax_Qc (D : va_G) (ad : Nat → Nat) (ca : Nat → ClassId) (Q : ax_Po) (sz : Nat) : Array Value → State → Outcome → State → Prop := fun _ st oc t =>
  (∃ (r : Option Value) (d' : ax_D), oc = .returned (r.map (ax_cv ad)) ∧ Q r d' ∧ va_P D vwCl (ax_w ad ca d') t.heap) ∧ va_F (ax_A ad sz) st t
def ax_Pc (D : va_G) (ad : Nat → Nat) (ca : Nat → ClassId) (as : List Value) (d : ax_D) (sz : Nat) : Array Value → State → Prop :=
  va_Pc (as.map (ax_cv ad)) (fun U => U.heap.size = sz ∧ va_P D vwCl (ax_w ad ca d) U.heap ∧ va_K D vwCl (ax_ts ca) U ∧ va_D (fun _ => True) (ax_w ad ca d) ∧ ∀ w ∈ ax_NW, va_Nw w U)
/-- the locals: what is known of them -/
def ax_lv (ad : Nat → Nat) (L : ax_L1) : List (Nat × Value) := L.zipIdx.filterMap (fun q => match q.1 with
  | some v => if v.category = 1 then some (q.2, ax_cv ad v) else none
  | none => none)
theorem ax_cv_cat (ad : Nat → Nat) (v : Value) : (ax_cv ad v).category = v.category := by cases v <;> rfl
theorem ax_lv_mem {ad : Nat → Nat} {L : ax_L1} {q : Nat × Value} (h : q ∈ ax_lv ad L) : ∃ w : Value, L[q.1]? = some (some w) ∧ w.category = 1 ∧ q.2 = ax_cv ad w := by
  unfold ax_lv at h
  obtain ⟨⟨o, i⟩, h1, h2⟩ := List.mem_filterMap.mp h
  have h3 := List.mk_mem_zipIdx_iff_getElem?.mp h1
  cases o with
  | none => simp at h2
  | some w =>
    by_cases hc : w.category = 1
    · simp [hc] at h2
      subst h2
      exact ⟨w, h3, hc, rfl⟩
    · simp [hc] at h2
theorem ax_lv_in {ad : Nat → Nat} {L : ax_L1} {i : Nat} {w : Value} (h : L[i]? = some (some w)) (hc : w.category = 1) : (i, ax_cv ad w) ∈ ax_lv ad L := by
  unfold ax_lv
  refine List.mem_filterMap.mpr ⟨(some w, i), List.mk_mem_zipIdx_iff_getElem?.mpr h, ?_⟩
  simp [hc]
theorem ax_lv_at {ad : Nat → Nat} {L : ax_L1} {ls : Array Slot} {n i : Nat} {w : Value} (h : lv_has ls n (ax_lv ad L)) (hL : L[i]? = some (some w)) (hc : w.category = 1) : ls[i]? = some (.val (ax_cv ad w)) := h.2.2 _ (ax_lv_in hL hc)
theorem ax_lv_set {ad : Nat → Nat} {L : ax_L1} {ls' : Array Slot} {n i : Nat} {v : Value} (hL : i < L.length) (h2 : lv_has ls' n ((i, ax_cv ad v) :: (ax_lv ad L).filter (fun q => !(q.1 == i) && !(q.1 + 1 == i && q.2.category == 2)))) : lv_has ls' n (ax_lv ad (L.set i (some v))) := by
  refine ⟨h2.1, h2.2.1, fun q hq => ?_⟩
  obtain ⟨w, h3, h4, h5⟩ := ax_lv_mem hq
  by_cases hqi : q.1 = i
  · rw [hqi, List.getElem?_set_self hL] at h3
    cases h3
    refine h2.2.2 q (List.mem_cons.mpr (Or.inl ?_))
    rw [← h5, ← hqi]
  · rw [List.getElem?_set_ne (Ne.symm hqi)] at h3
    refine h2.2.2 q (List.mem_cons_of_mem _ (List.mem_filter.mpr ⟨?_, ?_⟩))
    · have := ax_lv_in (ad := ad) h3 h4
      rw [← h5] at this
      exact this
    · have h6 : q.2.category = 1 := by rw [h5, ax_cv_cat]; exact h4
      simp [hqi, h6]
/-- a frame of method mi at pc, over any heap that holds d: it comes to an end with Q -/
def ax_J (l : Launch) (D : va_G) (ad : Nat → Nat) (ca : Nat → ClassId) : ax_J0 := fun mi pc L st d Q =>
  ∀ (p : Program) (e : Env) (s : State) (m : MethodId) (args : Array Value) (below : List Frame) (meth : Method) (c : Code) (H : Heap) (locs : List Loc) (ls : Array Slot), ax_C p s m args meth c D ca (ax_me mi) → va_P D vwCl (ax_w ad ca d) H → va_D (ax_A ad s.heap.size) (ax_w ad ca d) → va_S (ax_A ad s.heap.size) s.heap H locs → L.length = ax_n (ax_me mi) → lv_has ls (ax_n (ax_me mi)) (ax_lv ad L) →
    W p l e (ax_R (ax_v (ax_me mi))) s m args below meth c H locs 0 0 (MQ below (ax_Qc D ad ca Q s.heap.size) args s 0 0 (ax_A ad s.heap.size)) (F0 m pc ls (st.map (ax_cv ad)))
section AXS
variable {p : Program} {l : Launch} {e : Env} {R : Room} {s : State} {m : MethodId} {args : Array Value} {below : List Frame} {meth : Method} {c : Code} {H : Heap} {locs : List Loc} {cells slots : Nat} {Qt : State → Prop}
set_option maxHeartbeats 4000000 in
/-- the instructions on locals and stack -/
theorem ax_s1 {cc : ByteArray} {ad : Nat → Nat} {i : Instr} {len n pc pc' : Nat} {L L' : ax_L1} {st st' : List Value} {ls : Array Slot} (hx : p.tables.exec = Jvm.exec) (hb : c.code = cc) (hd : decode cc pc = .ok (i, len)) (hs : ax_sx i pc L st = some (len, pc', L', st')) (hg : ∀ off, i = .goto off → (pc : Int) + off = (pc' : Int)) (hL : L.length = n) (hl : lv_has ls n (ax_lv ad L))
    (k : ∀ ls' : Array Slot, L'.length = n → lv_has ls' n (ax_lv ad L') → W p l e R s m args below meth c H locs cells slots Qt (F0 m pc' ls' (st'.map (ax_cv ad)))) : W p l e R s m args below meth c H locs cells slots Qt (F0 m pc ls (st.map (ax_cv ad))) := by
  unfold ax_sx at hs
  split at hs
  · cases hs; exact lv_iconst hx hb hd rfl (k ls hL hl)
  · cases hs; exact lv_bipush hx hb hd rfl (k ls hL hl)
  · cases hs; exact lv_sipush hx hb hd rfl (k ls hL hl)
  · split at hs
    · rename_i hq; cases hs; exact lv_iload_n hx hb hd rfl (ax_lv_at hl hq rfl) (k ls hL hl)
    · cases hs
  · split at hs
    · rename_i hq; cases hs; exact lv_iload hx hb hd (ax_lv_at hl hq rfl) (k ls hL hl)
    · cases hs
  · split at hs
    · rename_i hq; cases hs; exact lv_aload_n hx hb hd rfl (ax_lv_at hl hq rfl) (k ls hL hl)
    · cases hs
  · split at hs
    · rename_i hq; cases hs; exact lv_aload hx hb hd (ax_lv_at hl hq rfl) (k ls hL hl)
    · cases hs
  · split at hs
    · split at hs
      · rename_i hk
        cases hs
        exact lv_istore_n hx hb hd rfl hl (by rw [← hL]; exact hk) rfl (fun ls' h' => k ls' (by rw [List.length_set]; exact hL) (ax_lv_set hk h'))
      · cases hs
    · cases hs
  · split at hs
    · split at hs
      · rename_i hk
        cases hs
        exact lv_istore hx hb hd hl (by rw [← hL]; exact hk) rfl (fun ls' h' => k ls' (by rw [List.length_set]; exact hL) (ax_lv_set hk h'))
      · cases hs
    · cases hs
  · split at hs
    · split at hs
      · rename_i hk
        cases hs
        exact lv_astore_n hx hb hd rfl hl (by rw [← hL]; exact hk) rfl (fun ls' h' => k ls' (by rw [List.length_set]; exact hL) (ax_lv_set hk h'))
      · cases hs
    · cases hs
  · split at hs
    · split at hs
      · rename_i hk
        cases hs
        exact lv_astore hx hb hd hl (by rw [← hL]; exact hk) rfl (fun ls' h' => k ls' (by rw [List.length_set]; exact hL) (ax_lv_set hk h'))
      · cases hs
    · cases hs
  · split at hs
    · rename_i hq
      split at hs
      · rename_i hk
        cases hs
        obtain ⟨z, hz⟩ := List.getElem?_of_mem (ax_lv_in (ad := ad) hq rfl)
        exact lv_iinc hx hb hd hl hz rfl (by rw [← hL]; exact hk) rfl (fun ls' h' => k ls' (by rw [List.length_set]; exact hL) (ax_lv_set hk h'))
      · cases hs
    · cases hs
  · split at hs
    · cases hs; exact lv_iadd hx hb hd (k ls hL hl)
    · cases hs
  · split at hs
    · cases hs; exact lv_isub hx hb hd (k ls hL hl)
    · cases hs
  · split at hs
    · cases hs; exact lv_imul hx hb hd (k ls hL hl)
    · cases hs
  · split at hs
    · cases hs; exact lv_iand hx hb hd (k ls hL hl)
    · cases hs
  · split at hs
    · cases hs; exact lv_ishl hx hb hd (k ls hL hl)
    · cases hs
  · split at hs
    · cases hs; exact lv_ishr hx hb hd (k ls hL hl)
    · cases hs
  · split at hs
    · cases hs; exact lv_dup hx hb hd rfl (k ls hL hl)
    · cases hs; exact lv_dup hx hb hd rfl (k ls hL hl)
    · cases hs
  · split at hs
    · cases hs; exact lv_dup2_11 hx hb hd rfl rfl (k ls hL hl)
    · cases hs
  · cases hs; exact lv_goto hx hb hd (hg _ rfl) (k ls hL hl)
  · cases hs
/-- branches -/
theorem ax_s2 {cc : ByteArray} {q : ClassFile.Cond} {off : Int} {pc t : Nat} {x : Int32} {ls : Array Slot} {rest : List Value} (hx : p.tables.exec = Jvm.exec) (hb : c.code = cc) (hd : decode cc pc = .ok (.ifCond q off, 3)) (ht : (pc : Int) + off = (t : Int))
    (k1 : ax_cn q x 0 → W p l e R s m args below meth c H locs cells slots Qt (F0 m t ls rest)) (k2 : ¬ ax_cn q x 0 → W p l e R s m args below meth c H locs cells slots Qt (F0 m (pc + 3) ls rest)) : W p l e R s m args below meth c H locs cells slots Qt (F0 m pc ls (.int x :: rest)) := by
  cases q
  · exact lv_if_eq hx hb hd ht k1 k2
  · exact lv_if_ne hx hb hd ht k1 (fun h => k2 (fun g => g h))
  · exact lv_if_lt hx hb hd ht k1 k2
  · exact lv_if_ge hx hb hd ht k1 k2
  · exact lv_if_gt hx hb hd ht k1 k2
  · exact lv_if_le hx hb hd ht k1 k2
theorem ax_s3 {cc : ByteArray} {q : ClassFile.Cond} {off : Int} {pc t : Nat} {x y : Int32} {ls : Array Slot} {rest : List Value} (hx : p.tables.exec = Jvm.exec) (hb : c.code = cc) (hd : decode cc pc = .ok (.if_icmp q off, 3)) (ht : (pc : Int) + off = (t : Int))
    (k1 : ax_cn q x y → W p l e R s m args below meth c H locs cells slots Qt (F0 m t ls rest)) (k2 : ¬ ax_cn q x y → W p l e R s m args below meth c H locs cells slots Qt (F0 m (pc + 3) ls rest)) : W p l e R s m args below meth c H locs cells slots Qt (F0 m pc ls (.int y :: .int x :: rest)) := by
  cases q
  · exact lv_icmp_eq hx hb hd ht k1 k2
  · exact lv_icmp_ne hx hb hd ht k1 (fun h => k2 (fun g => g h))
  · exact lv_icmp_lt hx hb hd ht k1 k2
  · exact lv_icmp_ge hx hb hd ht k1 k2
  · exact lv_icmp_gt hx hb hd ht k1 k2
  · exact lv_icmp_le hx hb hd ht k1 k2
end AXS
