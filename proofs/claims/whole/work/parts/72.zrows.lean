/-! THE SAME OVER THE MACHINE: a frame of a method that may throw, or of the law, over every heap that holds the world's numbers ('zx'). -/
abbrev zM : Type := Program × Launch × Env × Room × State × MethodId × Array Value × List Frame × Method × Code
abbrev zG : Type := zM × (State → Prop) × va_G × (Nat → Nat) × (Nat → ClassId) × Heap × ax_M
def zW (k : zM) (Qt : State → Prop) (H : Heap) (locs : List Loc) (cells slots : Nat) (fr : JFrame) : Prop := W k.1 k.2.1 k.2.2.1 k.2.2.2.1 k.2.2.2.2.1 k.2.2.2.2.2.1 k.2.2.2.2.2.2.1 k.2.2.2.2.2.2.2.1 k.2.2.2.2.2.2.2.2.1 k.2.2.2.2.2.2.2.2.2 H locs cells slots Qt fr
def zC (g : zG) : Prop := ax_C g.1.1 g.1.2.2.2.2.1 g.1.2.2.2.2.2.1 g.1.2.2.2.2.2.2.1 g.1.2.2.2.2.2.2.2.2.1 g.1.2.2.2.2.2.2.2.2.2 g.2.2.1 g.2.2.2.2.1 g.2.2.2.2.2.2
abbrev zq (g : zG) : ax_M := g.2.2.2.2.2.2
abbrev zR (g : zG) : Room := g.1.2.2.2.1
def zx (g : zG) (cells slots pc : Nat) (L : ax_L1) (st : List Value) (d : ax_D) : Prop := ∀ (H : Heap) (locs : List Loc) (ls : Array Slot), va_P g.2.2.1 vwCl (ax_w g.2.2.2.1 g.2.2.2.2.1 d) H → va_D (ax_A g.2.2.2.1 g.2.2.2.2.2.1.size) (ax_w g.2.2.2.1 g.2.2.2.2.1 d) → va_S (ax_A g.2.2.2.1 g.2.2.2.2.2.1.size) g.2.2.2.2.2.1 H locs → L.length = ax_n (zq g) → lv_has ls (ax_n (zq g)) (ax_lv g.2.2.2.1 L) →
  zW g.1 g.2.1 H locs cells slots (F0 g.1.2.2.2.2.2.1 pc ls (st.map (ax_cv g.2.2.2.1)))
section ZX
variable {g : zG} {cells slots pc len a b : Nat} {L : ax_L1} {st r : List Value} {d : ax_D}
theorem zx_s0 {i : Instr} {pc' : Nat} {L' : ax_L1} {st' : List Value} (hC : zC g) (h : decode (ax_c (zq g)) pc = .ok (i, len)) (hs : ax_sx i pc L st = some (len, pc', L', st')) (hg : ∀ off, i = .goto off → (pc : Int) + off = (pc' : Int)) (k : zx g cells slots pc' L' st' d) : zx g cells slots pc L st d := by
  obtain ⟨⟨p, l, e, R, s, m, args, below, meth, c⟩, Qt, D, ad, ca, H0, q⟩ := g
  intro H locs ls hP hD hS hL hl
  exact ax_s1 hC.1 hC.2.1 h hs hg hL hl (fun ls' hL' hl' => k H locs ls' hP hD hS hL' hl')
theorem zx_icst {n : Int} {v : Int32} (hC : zC g) (h : decode (ax_c (zq g)) pc = .ok (.iconst n, 1)) (hv : Int32.ofInt n = v) (k : zx g cells slots (pc + 1) L (.int v :: st) d) : zx g cells slots pc L st d := by
  subst hv; exact zx_s0 hC h rfl (by intro _ h; cases h) k
theorem zx_bpsh {n : Int} {v : Int32} (hC : zC g) (h : decode (ax_c (zq g)) pc = .ok (.bipush n, 2)) (hv : (Int8.ofInt n).toInt32 = v) (k : zx g cells slots (pc + 2) L (.int v :: st) d) : zx g cells slots pc L st d := by
  subst hv; exact zx_s0 hC h rfl (by intro _ h; cases h) k
theorem zx_spsh {n : Int} {v : Int32} (hC : zC g) (h : decode (ax_c (zq g)) pc = .ok (.sipush n, 3)) (hv : (Int16.ofInt n).toInt32 = v) (k : zx g cells slots (pc + 3) L (.int v :: st) d) : zx g cells slots pc L st d := by
  subst hv; exact zx_s0 hC h rfl (by intro _ h; cases h) k
theorem zx_ildn {n : Fin 4} {x : Int32} (hC : zC g) (h : decode (ax_c (zq g)) pc = .ok (.iload_n n, 1)) (hl : L[n.val]? = some (some (.int x))) (k : zx g cells slots (pc + 1) L (.int x :: st) d) : zx g cells slots pc L st d :=
  zx_s0 hC h (by simp only [ax_sx, hl]) (by intro _ h; cases h) k
theorem zx_ild {n : Nat} {x : Int32} (hC : zC g) (h : decode (ax_c (zq g)) pc = .ok (.iload n, 2)) (hl : L[n]? = some (some (.int x))) (k : zx g cells slots (pc + 2) L (.int x :: st) d) : zx g cells slots pc L st d :=
  zx_s0 hC h (by simp only [ax_sx, hl]) (by intro _ h; cases h) k
theorem zx_aldn {n : Fin 4} {x : Nat} (hC : zC g) (h : decode (ax_c (zq g)) pc = .ok (.aload_n n, 1)) (hl : L[n.val]? = some (some (.ref x))) (k : zx g cells slots (pc + 1) L (.ref x :: st) d) : zx g cells slots pc L st d :=
  zx_s0 hC h (by simp only [ax_sx, hl]) (by intro _ h; cases h) k
theorem zx_istn {n : Fin 4} {x : Int32} {L' : ax_L1} (hC : zC g) (h : decode (ax_c (zq g)) pc = .ok (.istore_n n, 1)) (hn : n.val < L.length) (hl : L.set n.val (some (.int x)) = L') (k : zx g cells slots (pc + 1) L' r d) : zx g cells slots pc L (.int x :: r) d :=
  zx_s0 hC h (by simp only [ax_sx, hn, if_true, hl]) (by intro _ h; cases h) k
theorem zx_ist {n : Nat} {x : Int32} {L' : ax_L1} (hC : zC g) (h : decode (ax_c (zq g)) pc = .ok (.istore n, 2)) (hn : n < L.length) (hl : L.set n (some (.int x)) = L') (k : zx g cells slots (pc + 2) L' r d) : zx g cells slots pc L (.int x :: r) d :=
  zx_s0 hC h (by simp only [ax_sx, hn, if_true, hl]) (by intro _ h; cases h) k
theorem zx_astn {n : Fin 4} {x : Nat} {L' : ax_L1} (hC : zC g) (h : decode (ax_c (zq g)) pc = .ok (.astore_n n, 1)) (hn : n.val < L.length) (hl : L.set n.val (some (.ref x)) = L') (k : zx g cells slots (pc + 1) L' r d) : zx g cells slots pc L (.ref x :: r) d :=
  zx_s0 hC h (by simp only [ax_sx, hn, if_true, hl]) (by intro _ h; cases h) k
theorem zx_iinc {n : Nat} {z : Int} {x v : Int32} {L' : ax_L1} (hC : zC g) (h : decode (ax_c (zq g)) pc = .ok (.iinc n z, 3)) (hl : L[n]? = some (some (.int x))) (hv : x + Int32.ofInt z = v) (hs : L.set n (some (.int v)) = L') (k : zx g cells slots (pc + 3) L' st d) : zx g cells slots pc L st d := by
  subst hv
  have hn : n < L.length := (List.getElem?_eq_some_iff.mp hl).1
  exact zx_s0 hC h (by simp only [ax_sx, hl, hn, if_true, hs]) (by intro _ h; cases h) k
theorem zx_iadd {x y : Int32} (hC : zC g) (h : decode (ax_c (zq g)) pc = .ok (.iadd, 1)) (k : zx g cells slots (pc + 1) L (.int (x + y) :: r) d) : zx g cells slots pc L (.int y :: .int x :: r) d := zx_s0 hC h rfl (by intro _ h; cases h) k
theorem zx_isub {x y : Int32} (hC : zC g) (h : decode (ax_c (zq g)) pc = .ok (.isub, 1)) (k : zx g cells slots (pc + 1) L (.int (x - y) :: r) d) : zx g cells slots pc L (.int y :: .int x :: r) d := zx_s0 hC h rfl (by intro _ h; cases h) k
theorem zx_imul {x y : Int32} (hC : zC g) (h : decode (ax_c (zq g)) pc = .ok (.imul, 1)) (k : zx g cells slots (pc + 1) L (.int (x * y) :: r) d) : zx g cells slots pc L (.int y :: .int x :: r) d := zx_s0 hC h rfl (by intro _ h; cases h) k
theorem zx_iand {x y : Int32} (hC : zC g) (h : decode (ax_c (zq g)) pc = .ok (.iand, 1)) (k : zx g cells slots (pc + 1) L (.int (x &&& y) :: r) d) : zx g cells slots pc L (.int y :: .int x :: r) d := zx_s0 hC h rfl (by intro _ h; cases h) k
theorem zx_dupr {x : Nat} (hC : zC g) (h : decode (ax_c (zq g)) pc = .ok (.dup, 1)) (k : zx g cells slots (pc + 1) L (.ref x :: .ref x :: r) d) : zx g cells slots pc L (.ref x :: r) d := zx_s0 hC h rfl (by intro _ h; cases h) k
theorem zx_dup2 {x : Nat} {y : Int32} (hC : zC g) (h : decode (ax_c (zq g)) pc = .ok (.dup2, 1)) (k : zx g cells slots (pc + 1) L (.int y :: .ref x :: .int y :: .ref x :: r) d) : zx g cells slots pc L (.int y :: .ref x :: r) d := zx_s0 hC h rfl (by intro _ h; cases h) k
theorem zx_goto {off : Int} (t : Nat) (hC : zC g) (h : decode (ax_c (zq g)) pc = .ok (.goto off, 3)) (ht : (pc : Int) + off = (t : Int)) (k : zx g cells slots t L st d) : zx g cells slots pc L st d := by
  refine zx_s0 (pc' := t) hC h ?_ ?_ k
  · simp only [ax_sx, ht, Int.toNat_natCast]
  · intro o ho
    cases ho
    exact ht
theorem zx_if {c : ClassFile.Cond} {off : Int} {x : Int32} (t : Nat) (hC : zC g) (h : decode (ax_c (zq g)) pc = .ok (.ifCond c off, 3)) (ht : (pc : Int) + off = (t : Int)) (k1 : ax_cn c x 0 → zx g cells slots t L r d) (k2 : ¬ ax_cn c x 0 → zx g cells slots (pc + 3) L r d) : zx g cells slots pc L (.int x :: r) d := by
  obtain ⟨⟨p, l, e, R, s, m, args, below, meth, c⟩, Qt, D, ad, ca, H0, q⟩ := g
  intro H locs ls hP hD hS hL hl
  exact ax_s2 hC.1 hC.2.1 h ht (fun q => k1 q H locs ls hP hD hS hL hl) (fun q => k2 q H locs ls hP hD hS hL hl)
theorem zx_cmp {c : ClassFile.Cond} {off : Int} {x y : Int32} (t : Nat) (hC : zC g) (h : decode (ax_c (zq g)) pc = .ok (.if_icmp c off, 3)) (ht : (pc : Int) + off = (t : Int)) (k1 : ax_cn c x y → zx g cells slots t L r d) (k2 : ¬ ax_cn c x y → zx g cells slots (pc + 3) L r d) : zx g cells slots pc L (.int y :: .int x :: r) d := by
  obtain ⟨⟨p, l, e, R, s, m, args, below, meth, c⟩, Qt, D, ad, ca, H0, q⟩ := g
  intro H locs ls hP hD hS hL hl
  exact ax_s3 hC.1 hC.2.1 h ht (fun q => k1 q H locs ls hP hD hS hL hl) (fun q => k2 q H locs ls hP hD hS hL hl)
/-- field b of class a, by the link in entry idx -/
def zF (g : zG) (idx a b : Nat) : Prop := a < 9 ∧ b < (ax_rd a).2.2 ∧ Cond.fieldLink (ax_y (zq g)).cls idx ((ax_rd a).2.1 b).1 ((ax_rd a).2.1 b).2.1 ((ax_rd a).2.1 b).2.2.1 ∈ ax_TW
theorem zx_get {idx id n a b : Nat} {f : Nat → ax_X} {v : Value} (hC : zC g) (h : decode (ax_c (zq g)) pc = .ok (.getfield idx, 3)) (hF : zF g idx a b) (hs : ax_sh id = some (a + 4, n, f)) (hn : b < n) (hv : ax_av d id f b = v) (k : zx g cells slots (pc + 3) L (v :: r) d) : zx g cells slots pc L (.ref id :: r) d := by
  obtain ⟨⟨p, l, e, R, s, m, args, below, meth, c⟩, Qt, D, ad, ca, H0, q⟩ := g
  subst hv
  intro H locs ls hP hD hS hL hl
  exact ax_get hC hF.1 hF.2.1 hF.2.2 hP hs hn h (k H locs ls hP hD hS hL hl)
theorem zx_put {idx id n a b : Nat} {f : Nat → ax_X} {x : Int32} (hC : zC g) (h : decode (ax_c (zq g)) pc = .ok (.putfield idx, 3)) (hF : zF g idx a b) (hfin : ((ax_rd a).2.1 b).2.2.2 = false) (hs : ax_sh id = some (a + 4, n, f)) (hn : b < n) (hfb : f b = .inr none) (hnar : narrow (ax_ty a b) (.int x) = .int x) (hfit : fits (ax_ty a b) (.int x) = true) (k : zx g cells slots (pc + 3) L r (ax_up d id b x)) : zx g cells slots pc L (.int x :: .ref id :: r) d := by
  obtain ⟨⟨p, l, e, R, s, m, args, below, meth, c⟩, Qt, D, ad, ca, H0, q⟩ := g
  intro H locs ls hP hD hS hL hl
  exact ax_put hC hF.1 hF.2.1 hF.2.2 hfin hP hD hS hs hn hfb hnar hfit h (fun H1 locs1 hP1 hS1 => k H1 locs1 ls hP1 (ax_w_D hD) hS1 hL hl)
theorem zx_ialx {id n : Nat} {f : Nat → ax_X} {i : Int32} (k : Nat) (hC : zC g) (h : decode (ax_c (zq g)) pc = .ok (.iaload, 1)) (hs : ax_sh id = some (0, n, f)) (hi : i = nI k) (hk : k < n) (hn : n < 2 ^ 31) (kk : zx g cells slots (pc + 1) L (.int (d id k) :: r) d) : zx g cells slots pc L (.int i :: .ref id :: r) d := by
  obtain ⟨⟨p, l, e, R, s, m, args, below, meth, c⟩, Qt, D, ad, ca, H0, q⟩ := g
  subst hi
  intro H locs ls hP hD hS hL hl
  refine ax_iald hC hP hs (vp_in_nI hk hn) h ?_
  rw [nI_clamp (by omega)]
  exact kk H locs ls hP hD hS hL hl
theorem zx_iasx {id n : Nat} {f : Nat → ax_X} {i x : Int32} (k : Nat) (hC : zC g) (h : decode (ax_c (zq g)) pc = .ok (.iastore, 1)) (hs : ax_sh id = some (0, n, f)) (hi : i = nI k) (hk : k < n) (hn : n < 2 ^ 31) (kk : zx g cells slots (pc + 1) L r (ax_up d id k x)) : zx g cells slots pc L (.int x :: .int i :: .ref id :: r) d := by
  obtain ⟨⟨p, l, e, R, s, m, args, below, meth, c⟩, Qt, D, ad, ca, H0, q⟩ := g
  subst hi
  intro H locs ls hP hD hS hL hl
  refine ax_iast hC hP hD hS hs (vp_in_nI hk hn) h (fun H1 locs1 hP1 hS1 => ?_)
  rw [nI_clamp (by omega)] at hP1
  exact kk H1 locs1 ls hP1 (ax_w_D hD) hS1 hL hl
end ZX
