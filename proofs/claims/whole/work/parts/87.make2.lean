/-! ROWS OF ROWS; constructors: called, and met. -/
theorem inn_cell (c : ClassId) (K : Nat) : Jvm.Free.Multi.innerC c K (defaultValue .int) = vp_cell c (K, .inl (fun _ => 0)) := by
  rw [vp_cell_i]
  unfold Jvm.Free.Multi.innerC arrV
  congr 1
  apply Array.ext_getElem?
  intro i
  by_cases h : i < K
  · simp [h, defaultValue]
  · simp [h]
theorem va_AOA.moved {ty : FieldType} {u U : State} (hW : u.WarmedH U.vm) (h : va_AOA ty u) : va_AOA ty U := by
  have hal := hW.alike
  unfold va_AOA at h ⊢
  simp only [Cond.before, Cond.holds, Cond.value] at h ⊢
  rw [hal.findClass]
  cases hf : u.vm.findClass (FieldType.array ty).toString with
  | none => rw [hf] at h; simp at h
  | some comp =>
    rw [hf] at h
    simp only [Option.bind_some] at h ⊢
    rw [hal.findIdx_congr _ (fun _ _ _ _ => rfl)]
    generalize hF : (u.vm.classes.findIdx? fun (x : Class) => match x.kind with | .array component _ => component == comp | _ => false) = fi at h ⊢
    cases fi with
    | none => simp at h
    | some c =>
      simp only [Option.bind_some] at h ⊢
      cases hk : u.vm.classes[c]? with
      | none => rw [hk] at h; simp at h
      | some k =>
        obtain ⟨k', hk', ek⟩ := hal.2.2 _ _ hk
        rw [hk] at h
        rw [hk', hal.findClass]
        rw [ek]
        exact h
section ZYM
variable {g : zG} {rt : Option Nat} {hz : Nat} {o : Nat × List Value} {pw : PW} {cells slots pc idx : Nat} {L : ax_L1} {r : List Value}
theorem zy_mna {oid b N K : Nat} {n k : Int32} (hC : zC g) (hao : va_AOA .int g.1.2.2.2.2.1) (h : decode (ax_c (zq g)) pc = .ok (.multianewarray idx 2, 4)) (hcl : Cond.classLink (ax_y (zq g)).cls idx ("[" ++ (FieldType.array .int).toString) ∈ ax_TW) (hn : n = nI N) (hk : k = nI K) (hN : N ≤ 1000) (hK0 : K ≤ 1000) (hs1 : ax_sh oid = some (3, N, fun k => .inl (b + k))) (hsr : ∀ j, j < N → ax_sh (b + j) = some (0, K, ax_dt)) (had : g.2.2.2.1 oid = hz) (hadr : ∀ j, j < N → g.2.2.2.1 (b + j) = hz + 1 + j)
    (hcc : cells + (1 + N) ≤ (zR g).cells) (hss : slots + (N + N * K) ≤ (zR g).slots)
    (kk : zy g rt (hz + 1 + N) o none (((oid, ax_cl g.2.2.2.1 g.2.2.2.2.1 d0 oid) :: (List.range N).map (fun j => (b + j, ax_cl g.2.2.2.1 g.2.2.2.2.1 d0 (b + j)))) ++ pw) (cells + 1 + N) (slots + N + N * K) (pc + 4) L (.ref oid :: r)) : zy g rt hz o none pw cells slots pc L (.int k :: .int n :: r) := by
  obtain ⟨⟨p, l, e, R, s, m, args, below, meth, c⟩, Qt, D, ad, ca, H0, q⟩ := g
  have hnN : n.toNatClampNeg = N := by rw [hn]; exact nI_clamp (by omega)
  have hkK : k.toNatClampNeg = K := by rw [hk]; exact nI_clamp (by omega)
  have hn0 : ¬ n < 0 := by rw [hn]; exact nI_pos (by omega)
  have hk0 : ¬ k < 0 := by rw [hk]; exact nI_pos (by omega)
  clear hn hk
  subst hnN
  subst hkK
  intro H locs ls e1 e2 e3 e4 hS hL hl
  obtain ⟨hx, hb, hr, hml, hown, hts, hlocks, hK, hNw⟩ := hC
  have hb1 : componentBytes .int = 4 := rfl
  intro T hT Xs
  obtain ⟨vm₁, cA, comp, -, fA, fC, hO, -, X', step⟩ := Xs.multianewarray2F (ty := .int) hx hown (hts _ hcl) (va_AOA.use hao) (hts _ ar_i) (g := F0 m pc ls (.int k :: .int n :: r.map (ax_cv ad))) rfl (by rw [hb]; exact h) rfl hn0 hk0 (by omega) (by rw [hb1]; omega) (by omega) rfl rfl hcc hss
  have eA : cA = ca 3 := by
    have h9 : s.vm.findClass ("[" ++ (FieldType.array .int).toString) = some (ca 3) := (hK.2 3 (ca 3, .array .int) rfl).2
    exact Option.some.inj (fA.symm.trans h9)
  have eC : comp = ca 0 := by
    have h9 : s.vm.findClass ("[" ++ (FieldType.int).toString) = some (ca 0) := (hK.2 0 (ca 0, .int) rfl).2
    have h8 : (FieldType.array .int).toString = "[" ++ (FieldType.int).toString := rfl
    rw [h8] at fC
    exact Option.some.inj (fC.symm.trans h9)
  subst eA
  subst eC
  generalize hF : Jvm.Free.Multi.fill (T.setVm vm₁) (ca 3) (ca 0) n.toNatClampNeg k.toNatClampNeg (defaultValue .int) n.toNatClampNeg = F at X' step
  have hTh : (T.setVm vm₁).heap = H := hT
  obtain ⟨f1, f2, -, -⟩ := Jvm.Free.Multi.fill_facts (T.setVm vm₁) (ca 3) (ca 0) n.toNatClampNeg k.toNatClampNeg (defaultValue .int) n.toNatClampNeg
  rw [hF, hTh] at f1 f2
  have hold : ∀ x : Nat, x < H.size → F.heap[x]? = H[x]? := fun x hx => by
    have := Jvm.Free.Multi.fill_old (T.setVm vm₁) (ca 3) (ca 0) n.toNatClampNeg k.toNatClampNeg (defaultValue .int) (a := x) (by rw [hTh]; exact hx) n.toNatClampNeg
    rw [hF, hTh] at this
    exact this
  have hrow : ∀ j : Nat, j < n.toNatClampNeg → F.heap[H.size + 1 + j]? = some (vp_cell (ca 0) (k.toNatClampNeg, .inl (fun _ => 0))) := fun j hj => by
    have := Jvm.Free.Multi.fill_inner (T.setVm vm₁) (ca 3) (ca 0) n.toNatClampNeg k.toNatClampNeg (defaultValue .int) n.toNatClampNeg j hj
    rw [hF, hTh, inn_cell] at this
    exact this
  have had2 : ad oid = H.size := had.trans e1.symm
  have hadr2 : ∀ j, j < n.toNatClampNeg → ad (b + j) = H.size + 1 + j := fun j hj => by rw [e1]; exact hadr j hj
  have hout : Jvm.Free.Multi.outerC (ca 3) n.toNatClampNeg H.size n.toNatClampNeg = vp_cell (ca 3) (n.toNatClampNeg, .inr (.inr (.inr (.inr (fun i => ax_rf ad (.inl (b + i))))))) := by
    rw [vp_cell_q, vr_outer]
    refine arrV_cg (fun i hi => ?_)
    rw [if_pos hi]
    show va_rf (some (H.size + 1 + i)) = va_rf (some (ad (b + i)))
    rw [hadr2 i hi]
  rw [hout] at f2
  have hle : H0.size ≤ H.size := hS.1
  have hPo : va_at D vwCl (ad oid, ax_cl ad ca d0 oid) F.heap := by
    rw [ax_cl_arr hs1, had2]
    exact f2
  have hPr : ∀ j, j < n.toNatClampNeg → va_at D vwCl (ad (b + j), ax_cl ad ca d0 (b + j)) F.heap := fun j hj => by
    rw [ax_cl_int (hsr j hj), hadr2 j hj]
    exact hrow j hj
  have K2 := kk F.heap locs ls (by rw [f1, e1]) (fun r0 hr0 => (e2 r0 hr0).kept (hold _ (e2 r0 hr0).lt)) (fun z hz0 => by cases hz0) (fun x hx9 => by
    rcases List.mem_append.mp hx9 with hx9 | hx9
    · rcases List.mem_cons.mp hx9 with rfl | hx9
      · exact ⟨by show H0.size ≤ ad oid; rw [had2]; exact hle, hPo⟩
      · obtain ⟨j, hj, rfl⟩ := List.mem_map.mp hx9
        have hj2 := List.mem_range.mp hj
        exact ⟨by show H0.size ≤ ad (b + j); rw [hadr2 j hj2]; omega, hPr j hj2⟩
    · exact ⟨(e4 x hx9).1, (e4 x hx9).2.kept (hold _ (e4 x hx9).2.lt)⟩) ⟨by show H0.size ≤ F.heap.size; rw [f1]; omega, fun x h1 h2 => (hold x (Nat.lt_of_lt_of_le h1 hle)).trans (hS.2.1 x h1 h2), hS.2.2⟩ hL hl
  have K3 : W p l e R s m args below meth c F.heap locs (cells + 1 + n.toNatClampNeg) (slots + n.toNatClampNeg + n.toNatClampNeg * k.toNatClampNeg) Qt (F0 m (pc + 4) ls (.ref (ad oid) :: r.map (ax_cv ad))) := K2
  rw [had2] at K3
  obtain ⟨t, a1, b1⟩ := K3 F rfl X'
  refine ⟨t, step t ?_, b1⟩
  have e : T.heap.size = H.size := by rw [hT]
  rw [e]
  exact a1
end ZYM
/-! constructors' contracts -/
def yR (v K S : Nat) : Room := { frames := v, cells := K, slots := S, locals := 28 * v }
def yPc (D : va_G) (ad : Nat → Nat) (ca : Nat → ClassId) (id : Nat) (oc : Nat × List Value) (as : List Value) (sz : Nat) : Array Value → State → Prop :=
  va_Pc ((Value.ref id :: as).map (ax_cv ad)) (fun U => U.heap.size = sz ∧ va_at D vwCl (ad id, .inr oc) U.heap ∧ va_K D vwCl (ax_ts ca) U ∧ (∀ w ∈ ax_NW, va_Nw w U) ∧ va_AOA .int U)
def yEn (ad : Nat → Nat) (ca : Nat → ClassId) (d : ax_D) (ids : List Nat) : PW := ids.map (fun i => (i, ax_cl ad ca d i))
def yQc (D : va_G) (ad : Nat → Nat) (ca : Nat → ClassId) (id : Nat) (ids : List Nat) (K : Nat) (Pd : ax_D → Prop) (sz : Nat) : Array Value → State → Outcome → State → Prop := fun _ st oc t =>
  (oc = .returned none ∧ t.heap.size = sz + K ∧ ∃ d1 : ax_D, Pd d1 ∧ ∀ x, x ∈ yEn ad ca d1 ids → (x.1 = id ∨ sz ≤ ad x.1) ∧ va_at D vwCl (ad x.1, x.2) t.heap) ∧ va_F (yA ad (some id) sz) st t
theorem y_blind {D : va_G} {ad : Nat → Nat} {ca : Nat → ClassId} {id : Nat} {oc : Nat × List Value} {as : List Value} {sz : Nat} : FrameBlind (yPc D ad ca id oc as sz) := fun a U g mk q => by
  obtain ⟨q0, q1, qP, qK, qN, qO⟩ := q
  exact ⟨q0, q1, qP, va_K.moved (u := U) (U := U.calling g mk a) (Vm.Alike.refl U.vm) qK, ax_NW_same (u := U) rfl qN, va_AOA.moved (u := U) (U := U.calling g mk a) (State.WarmedH.refl U) qO⟩
def yMet (l : Launch) (D : va_G) (ad : Nat → Nat) (ca : Nat → ClassId) (q : ax_M) (v K S id : Nat) (oc : Nat × List Value) (as : List Value) (ids : List Nat) (Pd : ax_D → Prop) (sz : Nat) : Prop := Met l (ax_y q) (ax_ws q) (yR v K S) (yPc D ad ca id oc as sz) (yQc D ad ca id ids K Pd sz) K S (yA ad (some id) sz)
/-- what a constructor's frame stands over -/
def zc9 (p : Program) (l : Launch) (e : Env) (s : State) (m : MethodId) (args : Array Value) (below : List Frame) (meth : Method) (c : Code) (D : va_G) (ad : Nat → Nat) (ca : Nat → ClassId) (q : ax_M) (v K S id : Nat) (ids : List Nat) (Pd : ax_D → Prop) : zG :=
  ((p, l, e, yR v K S, s, m, args, below, meth, c), MQ below (yQc D ad ca id ids K Pd s.heap.size) args s K S (yA ad (some id) s.heap.size), D, ad, ca, s.heap, q)
def yE (l : Launch) (D : va_G) (ad : Nat → Nat) (ca : Nat → ClassId) (q : ax_M) (v K S id : Nat) (oc : Nat × List Value) (as : List Value) (ids : List Nat) (Pd : ax_D → Prop) (sz : Nat) : Prop :=
  ∀ (p : Program) (e : Env) (s : State) (m : MethodId) (args : Array Value) (below : List Frame) (meth : Method) (c : Code), zC (zc9 p l e s m args below meth c D ad ca q v K S id ids Pd) → va_AOA .int s → meth.name = "<init>" → s.heap.size = sz → ad id < s.heap.size →
    zy (zc9 p l e s m args below meth c D ad ca q v K S id ids Pd) (some id) sz oc none [] 0 0 0 ((Value.ref id :: as).map some ++ List.replicate (ax_n q - (as.length + 1)) none) []
theorem y_met {l : Launch} {D : va_G} {ad : Nat → Nat} {ca : Nat → ClassId} {q : ax_M} {v K S id : Nat} {oc : Nat × List Value} {as : List Value} {ids : List Nat} {Pd : ax_D → Prop} {sz : Nat} (hpl : plainName (ax_y q).cls = true) (hret : ax_r q = none) (hn : as.length + 1 ≤ ax_n q) (hc : ∀ x ∈ (Value.ref id :: as), x.category = 1) (hni : (ax_y q).name = "<init>") (hJ : yE l D ad ca q v K S id oc as ids Pd sz) : yMet l D ad ca q v K S id oc as ids Pd sz := by
  refine Met.ofW (cc := ax_c q) (maxL := ax_n q) (ret := ax_r q) hpl rfl ?_
  intro p e s m args below meth c s₁ B hml hv
  obtain ⟨rfl, rfl, hP, hK, hN, hO⟩ := hv
  have hts := atoms_spec (ws := ax_ws q) B.pre
  have hown : s.vm.findClass (ax_y q).cls = some m.cls := findClass_of_methodNamed B.named
  have hmn : meth.name = "<init>" := (name_of_methodNamed B.named B.method).1.trans hni
  rw [lg_entry_eq]
  exact hJ p e s m _ below meth c ⟨B.exec, B.bytes, B.returns, hml, hown, fun w h => hts w (List.mem_cons_of_mem _ h), B.notSynchronized, hK, hN⟩ hO hmn rfl hP.lt s.heap [] _ rfl (fun r0 hr0 => by cases hr0; exact hP) (fun z hz => by cases hz) (fun x hx => absurd hx List.not_mem_nil) va_S.rf (by rw [List.length_append, List.length_map, List.length_replicate]; show _ = ax_n q; rw [List.length_cons]; omega) (ax_entry (as := Value.ref id :: as) hc hn)
section ZYC
variable {g : zG} {rt : Option Nat} {hz : Nat} {o : Nat × List Value} {pw : PW} {cells slots pc idx : Nat} {L : ax_L1}
/-- behind a constructor's call -/
theorem zy_back {id K S : Nat} {oc : Nat × List Value} {rest : List Value} {st0 : List Value} {ids : List Nat} {Pd : ax_D → Prop} (hrt : ∀ r, rt = some r → g.2.2.2.1 r < g.2.2.2.2.2.1.size)
    (hrun : ∀ (H : Heap) (locs : List Loc) (ls : Array Slot), H.size = hz → va_at g.2.2.1 vwCl (g.2.2.2.1 id, .inr oc) H → lv_has ls (ax_n (zq g)) (ax_lv g.2.2.2.1 L) → ∃ a, va_Run g.1.1 g.1.2.1 g.1.2.2.1 g.1.2.2.2.1 g.1.2.2.2.2.1 g.1.2.2.2.2.2.1 g.1.2.2.2.2.2.2.1 g.1.2.2.2.2.2.2.2.1 g.1.2.2.2.2.2.2.2.2.1 g.1.2.2.2.2.2.2.2.2.2 H locs cells slots K S (F0 g.1.2.2.2.2.2.1 pc ls (st0.map (ax_cv g.2.2.2.1))) (rest.map (ax_cv g.2.2.2.1)) (yQc g.2.2.1 g.2.2.2.1 g.2.2.2.2.1 id ids K Pd hz a) (yA g.2.2.2.1 (some id) hz))
    (kk : ∀ d1 : ax_D, Pd d1 → zy g rt (hz + K) o none (yEn g.2.2.2.1 g.2.2.2.2.1 d1 ids ++ pw) (cells + K) (slots + S) (pc + 3) L rest) : zy g rt hz o (some (id, oc)) pw cells slots pc L st0 := by
  obtain ⟨⟨p, l, e, R, s, m, args, below, meth, c⟩, Qt, D, ad, ca, H0, q⟩ := g
  intro H locs ls e1 e2 e3 e4 hS hL hl
  obtain ⟨g1, g2, g3⟩ := e3 _ rfl
  obtain ⟨a, hr⟩ := hrun H locs ls e1 g2 hl
  intro T hT X
  obtain ⟨v, st₀, t, T', L1, h0, X', hL1, q1, q2, ⟨⟨hv, hsz, d1, hPd, hen⟩, hz1, hk⟩, st⟩ := hr T hT X
  cases hv
  rw [h0] at hz1 hk
  have hle : H0.size ≤ H.size := hS.1
  have g1' : H0.size ≤ ad id := g1
  have hkeep : ∀ x, x < H.size → x ≠ ad id → T'.heap[x]? = H[x]? := fun x hx hne => by
    rw [q1]
    refine hk x hx ?_
    rintro (⟨r0, hr0, hr1⟩ | h9)
    · cases hr0; exact hne hr1
    · omega
  have hA2 : ∀ x, yA ad (some id) hz x → yA ad rt H0.size x := fun x hx => by
    rcases hx with ⟨r0, hr0, hr1⟩ | h9
    · cases hr0; exact Or.inr (by omega)
    · exact Or.inr (by omega)
  obtain ⟨t2, a1, b1⟩ := kk d1 hPd T'.heap (locs ++ L1) ls (by rw [q1, hsz]) (fun r0 hr0 => (e2 r0 hr0).kept (hkeep _ (e2 r0 hr0).lt (fun z => by
      have h8 : ad r0 < H0.size := hrt r0 hr0
      have h7 : ad r0 = ad id := z
      omega))) (fun z hz0 => by cases hz0) (fun x hx9 => by
      rcases List.mem_append.mp hx9 with hx9 | hx9
      · obtain ⟨h7, h8⟩ := hen x hx9
        refine ⟨?_, by rw [q1]; exact h8⟩
        show H0.size ≤ ad x.1
        rcases h7 with h7 | h7
        · rw [h7]; exact g1'
        · have h7' : hz ≤ ad x.1 := h7
          omega
      · refine ⟨(e4 x hx9).1, (e4 x hx9).2.kept (hkeep _ (e4 x hx9).2.lt ?_)⟩
        have h6 : ad x.1 < ad id := g3 x hx9
        show ad x.1 ≠ ad id
        omega) ⟨by show H0.size ≤ T'.heap.size; rw [q1, hsz]; omega, fun x h1 h2 => by
        have h1' : x < H0.size := h1
        rw [hkeep x (by omega) (by omega)]
        exact hS.2.1 x h1 h2, fun x hx => by
        rcases List.mem_append.mp hx with h | h
        · exact hS.2.2 x h
        · exact hA2 _ (hL1 x h)⟩ hL hl T' rfl X'
  exact ⟨t2, st t2 a1, b1⟩
/-- the words of a constructor's call -/
def yLi (cls : String) (idx : Nat) (q : ax_M) (n : Nat) : Prop := (Cond.methodLink cls idx (ax_y q) ∈ ax_TW ∨ Cond.methodLinkNest cls idx (ax_y q) "LearnedCodes" ∈ ax_NW) ∧ (∀ w ∈ ax_ws q, w ∈ ax_TW) ∧ Cond.initialized (ax_y q).cls ∈ ax_TW ∧ Cond.instanceMethod (ax_y q) ∈ ax_TW ∧ (ax_y q).name = "<init>" ∧ (ax_y q).cls ≠ "java/lang/invoke/MethodHandle" ∧ (ax_y q).cls ≠ "java/lang/invoke/VarHandle" ∧ (parseMethodDescriptor (ax_y q).desc).map (fun d => d.parameters.length) = some n ∧ ax_r q = none ∧ ax_n q ≤ 5
theorem zy_call {id v K S : Nat} {oc : Nat × List Value} {as rest : List Value} {ids : List Nat} {Pd : ax_D → Prop} {q2 : ax_M} (hC : zC g) (hao : va_AOA .int g.1.2.2.2.2.1) (hrt : ∀ r, rt = some r → g.2.2.2.1 r < g.2.2.2.2.2.1.size) (h : decode (ax_c (zq g)) pc = .ok (.invokespecial idx, 3)) (hl : yLi (ax_y (zq g)).cls idx q2 as.length) (hsum : (rest.map fun v => v.category).sum ≤ 8) (hR : v + 1 ≤ (zR g).frames ∧ 28 * (v + 1) ≤ (zR g).locals ∧ cells + K ≤ (zR g).cells ∧ slots + S ≤ (zR g).slots) (hM : yMet g.1.2.1 g.2.2.1 g.2.2.2.1 g.2.2.2.2.1 q2 v K S id oc as ids Pd hz)
    (kk : ∀ d1 : ax_D, Pd d1 → zy g rt (hz + K) o none (yEn g.2.2.2.1 g.2.2.2.2.1 d1 ids ++ pw) (cells + K) (slots + S) (pc + 3) L rest) : zy g rt hz o (some (id, oc)) pw cells slots pc L (as.reverse ++ .ref id :: rest) := by
  refine zy_back hrt (fun H locs ls e1 e2 hlv => ?_) kk
  obtain ⟨⟨p, l, e, R, s, m, args, below, meth, c⟩, Qt, D, ad, ca, H0, q⟩ := g
  obtain ⟨hx, hb, hr, hml, hown, hts, hlocks, hKK, hN⟩ := hC
  obtain ⟨hlk, hws, hini, him, hnm, hn1, hn2, hpar, hret, hn5⟩ := hl
  obtain ⟨hR1, hR2, hR3, hR4⟩ := hR
  have hR1' : v + 1 ≤ R.frames := hR1
  have hR2' : 28 * (v + 1) ≤ R.locals := hR2
  have hrm : (yR v K S).frames + 1 ≤ R.frames ∧ 8 + (ax_n q2 + 11) + (yR v K S).locals ≤ R.locals := by
    show v + 1 ≤ R.frames ∧ 8 + (ax_n q2 + 11) + 28 * v ≤ R.locals
    omega
  have e9 : (as.reverse ++ Value.ref id :: rest).map (ax_cv ad) = (as.map (ax_cv ad)).reverse ++ .ref (ad id) :: rest.map (ax_cv ad) := by simp [ax_cv]
  have hpre : PreS s H (yPc D ad ca id oc as hz) (.ref (ad id) :: as.map (ax_cv ad)) := ⟨y_blind, fun U hU hW => ⟨rfl, by rw [hU]; exact e1, by rw [hU]; exact e2, va_K.moved hW.alike hKK, ax_NW_warm hW hN, va_AOA.moved hW hao⟩⟩
  refine ⟨(Value.ref (ad id) :: as.map (ax_cv ad)).toArray, ?_⟩
  show va_Run p l e R s m args below meth c H locs cells slots K S (F0 m pc ls ((as.reverse ++ Value.ref id :: rest).map (ax_cv ad))) (rest.map (ax_cv ad)) _ _
  rw [e9]
  have hwc : ax_ws q2 = Cond.code (ax_y q2) (ax_c q2) (ax_n q2) none :: ax_TW := by unfold ax_ws; rw [hret]
  rcases hlk with hlk | hlk
  · exact va_runI (As := as.map (ax_cv ad)) (rest := rest.map (ax_cv ad)) ⟨hx, hb, hml, hown, hts⟩ hM (cwI as.length hts (ax_TW_good hws) hwc rfl rfl (hts _ hini) (hts _ hlk) (hts _ him) hnm ⟨hn1, hn2, hpar⟩ hrm) hpre rfl (by rw [List.length_map]) hlv.1 rfl (lv_room (by rw [ax_sum]; exact hsum)) h ⟨hR3, hR4⟩
  · exact va_runIN (host := "LearnedCodes") (As := as.map (ax_cv ad)) (rest := rest.map (ax_cv ad)) ⟨hx, hb, hml, hown, hts⟩ hM ⟨va_cnB as.length hts (ax_TW_good hws) hwc rfl rfl (hN _ hlk) (hts _ hini) ⟨hn1, hn2, hpar⟩ hrm, hnm, hts _ him⟩ hpre rfl (by rw [List.length_map]) hlv.1 rfl (lv_room (by rw [ax_sum]; exact hsum)) h ⟨hR3, hR4⟩
end ZYC
section ZYE
variable {p : Program} {l : Launch} {e : Env} {s : State} {m : MethodId} {args : Array Value} {below : List Frame} {meth : Method} {c : Code} {D : va_G} {ad : Nat → Nat} {ca : Nat → ClassId} {q : ax_M} {v K S id : Nat} {ids : List Nat} {Pd : ax_D → Prop} {hz pc : Nat} {o : Nat × List Value} {pw : PW} {L : ax_L1}
/-- a constructor's end -/
theorem zy_ret (d1 : ax_D) (hC : zC (zc9 p l e s m args below meth c D ad ca q v K S id ids Pd)) (h : decode (ax_c q) pc = .ok (.return_, 1)) (hret : ax_r q = none) (hz1 : hz = s.heap.size + K) (hPd : Pd d1) (hro : ax_cl ad ca d1 id = .inr o) (hids : ∀ i, i ∈ ids → i = id ∨ (i, ax_cl ad ca d1 i) ∈ pw) : zy (zc9 p l e s m args below meth c D ad ca q v K S id ids Pd) (some id) hz o none pw K S pc L [] := by
  intro H locs ls e1 e2 e3 e4 hS hL hl
  refine W.vret hC.1 hC.2.1 (hC.2.2.1.trans hret) (fun t ht hW => ⟨⟨rfl, by rw [ht]; exact e1.trans hz1, d1, hPd, fun x hx => ?_⟩, hS.F ht⟩) hS.2.2 h hC.2.2.2.2.2.2.1
  obtain ⟨i, hi, rfl⟩ := List.mem_map.mp hx
  rcases hids i hi with rfl | h9
  · refine ⟨Or.inl rfl, ?_⟩
    rw [ht]
    show va_at D vwCl (ad i, ax_cl ad ca d1 i) H
    rw [hro]
    exact e2 i rfl
  · rw [ht]
    exact ⟨Or.inr (e4 _ h9).1, (e4 _ h9).2⟩
end ZYE
