/-! MAKING THINGS: a frame of a constructor, or of the law, over a heap of known size, with some of the world's cells laid ('zy'). rt: the cell of 'this'; o: its class and fields; pe: the cell just made; pw: cells made before, and done. -/
theorem oi_im : Cond.instanceMethod Jvm.Lib.objectInit ∈ ax_TW := List.mem_filter.mpr ⟨List.mem_of_getElem? (i := 88) (by decide +kernel), rfl⟩
theorem oi_co : Cond.code Jvm.Lib.objectInit { data := #[177] } 1 none ∈ ax_TW := List.mem_filter.mpr ⟨List.mem_of_getElem? (i := 89) (by decide +kernel), rfl⟩
theorem ar_i : Cond.arrayClass .int ∈ ax_TW := List.mem_filter.mpr ⟨List.mem_of_getElem? (i := 114) (by decide +kernel), rfl⟩
theorem ar_b : Cond.arrayClass .boolean ∈ ax_TW := List.mem_filter.mpr ⟨List.mem_of_getElem? (i := 193) (by decide +kernel), rfl⟩
theorem ar_l : Cond.arrayClass .long ∈ ax_TW := List.mem_filter.mpr ⟨List.mem_of_getElem? (i := 1161) (by decide +kernel), rfl⟩
theorem ar_o : Cond.arrayOver (.array .int) ∈ lw_tbl := List.mem_of_getElem? (i := 128) (by decide +kernel)
abbrev PW : Type := List (Nat × va_E)
def d0 : ax_D := fun _ _ => 0
def yA (ad : Nat → Nat) (rt : Option Nat) (sz : Nat) : Nat → Prop := fun q => (∃ r, rt = some r ∧ q = ad r) ∨ sz ≤ q
def pwA (D : va_G) (ad : Nat → Nat) (lo : Nat) (pw : PW) (H : Heap) : Prop := ∀ x, x ∈ pw → lo ≤ ad x.1 ∧ va_at D vwCl (ad x.1, x.2) H
def peA (D : va_G) (ad : Nat → Nat) (lo : Nat) (pe : Option (Nat × Nat × List Value)) (pw : PW) (H : Heap) : Prop := ∀ z, pe = some z → lo ≤ ad z.1 ∧ va_at D vwCl (ad z.1, .inr z.2) H ∧ ∀ x, x ∈ pw → ad x.1 < ad z.1
def zy (g : zG) (rt : Option Nat) (hz : Nat) (o : Nat × List Value) (pe : Option (Nat × Nat × List Value)) (pw : PW) (cells slots pc : Nat) (L : ax_L1) (st : List Value) : Prop := ∀ (H : Heap) (locs : List Loc) (ls : Array Slot), H.size = hz → (∀ r, rt = some r → va_at g.2.2.1 vwCl (g.2.2.2.1 r, .inr o) H) → peA g.2.2.1 g.2.2.2.1 g.2.2.2.2.2.1.size pe pw H → pwA g.2.2.1 g.2.2.2.1 g.2.2.2.2.2.1.size pw H → va_S (yA g.2.2.2.1 rt g.2.2.2.2.2.1.size) g.2.2.2.2.2.1 H locs → L.length = ax_n (zq g) → lv_has ls (ax_n (zq g)) (ax_lv g.2.2.2.1 L) →
  zW g.1 g.2.1 H locs cells slots (F0 g.1.2.2.2.2.2.1 pc ls (st.map (ax_cv g.2.2.2.1)))
def atL (ad : Nat → Nat) (sz : Nat) (l : List Nat) : Prop := ∀ (k x : Nat), l[k]? = some x → ad x = sz + k
theorem atL_h {ad : Nat → Nat} {sz x : Nat} {l : List Nat} (h : atL ad sz (x :: l)) : ad x = sz := h 0 x rfl
theorem atL_t {ad : Nat → Nat} {sz x : Nat} {l : List Nat} (h : atL ad sz (x :: l)) : atL ad (sz + 1) l := fun k y hy => by
  have := h (k + 1) y (by rw [List.getElem?_cons_succ]; exact hy)
  omega
theorem atL_l {ad : Nat → Nat} {sz : Nat} {l1 l2 : List Nat} (h : atL ad sz (l1 ++ l2)) : atL ad sz l1 := fun k y hy => h k y (by rw [List.getElem?_append_left (List.getElem?_eq_some_iff.mp hy).1]; exact hy)
theorem atL_r {ad : Nat → Nat} {sz : Nat} {l1 l2 : List Nat} (h : atL ad sz (l1 ++ l2)) : atL ad (sz + l1.length) l2 := fun k y hy => by
  have := h (l1.length + k) y (by rw [List.getElem?_append_right (by omega)]; rw [show l1.length + k - l1.length = k by omega]; exact hy)
  omega
theorem va_at_up {D : va_G} {ad : Nat → Nat} {lo : Nat} {pw : PW} {H H1 : Heap} (h : pwA D ad lo pw H) (hk : ∀ q, q < H.size → lo ≤ q → H1[q]? = H[q]?) : pwA D ad lo pw H1 := fun x hx => ⟨(h x hx).1, (h x hx).2.kept (hk _ (h x hx).2.lt (h x hx).1)⟩
section ZYR
variable {g : zG} {rt : Option Nat} {hz : Nat} {o : Nat × List Value} {pe : Option (Nat × Nat × List Value)} {pw : PW} {cells slots pc len a b idx : Nat} {L : ax_L1} {st r : List Value} {a0 : vp_A}
theorem zy_s0 {i : Instr} {pc' : Nat} {L' : ax_L1} {st' : List Value} (hC : zC g) (h : decode (ax_c (zq g)) pc = .ok (i, len)) (hs : ax_sx i pc L st = some (len, pc', L', st')) (hg : ∀ off, i = .goto off → (pc : Int) + off = (pc' : Int)) (k : zy g rt hz o pe pw cells slots pc' L' st') : zy g rt hz o pe pw cells slots pc L st := by
  obtain ⟨⟨p, l, e, R, s, m, args, below, meth, c⟩, Qt, D, ad, ca, H0, q⟩ := g
  intro H locs ls h1 h2 h3 h4 hS hL hl
  exact ax_s1 hC.1 hC.2.1 h hs hg hL hl (fun ls' hL' hl' => k H locs ls' h1 h2 h3 h4 hS hL' hl')
theorem zy_icst {n : Int} {v : Int32} (hC : zC g) (h : decode (ax_c (zq g)) pc = .ok (.iconst n, 1)) (hv : Int32.ofInt n = v) (k : zy g rt hz o pe pw cells slots (pc + 1) L (.int v :: st)) : zy g rt hz o pe pw cells slots pc L st := by
  subst hv; exact zy_s0 hC h rfl (by intro _ h; cases h) k
theorem zy_bpsh {n : Int} {v : Int32} (hC : zC g) (h : decode (ax_c (zq g)) pc = .ok (.bipush n, 2)) (hv : (Int8.ofInt n).toInt32 = v) (k : zy g rt hz o pe pw cells slots (pc + 2) L (.int v :: st)) : zy g rt hz o pe pw cells slots pc L st := by
  subst hv; exact zy_s0 hC h rfl (by intro _ h; cases h) k
theorem zy_spsh {n : Int} {v : Int32} (hC : zC g) (h : decode (ax_c (zq g)) pc = .ok (.sipush n, 3)) (hv : (Int16.ofInt n).toInt32 = v) (k : zy g rt hz o pe pw cells slots (pc + 3) L (.int v :: st)) : zy g rt hz o pe pw cells slots pc L st := by
  subst hv; exact zy_s0 hC h rfl (by intro _ h; cases h) k
theorem zy_ildn {n : Fin 4} {x : Int32} (hC : zC g) (h : decode (ax_c (zq g)) pc = .ok (.iload_n n, 1)) (hl : L[n.val]? = some (some (.int x))) (k : zy g rt hz o pe pw cells slots (pc + 1) L (.int x :: st)) : zy g rt hz o pe pw cells slots pc L st :=
  zy_s0 hC h (by simp only [ax_sx, hl]) (by intro _ h; cases h) k
theorem zy_aldn {n : Fin 4} {x : Nat} (hC : zC g) (h : decode (ax_c (zq g)) pc = .ok (.aload_n n, 1)) (hl : L[n.val]? = some (some (.ref x))) (k : zy g rt hz o pe pw cells slots (pc + 1) L (.ref x :: st)) : zy g rt hz o pe pw cells slots pc L st :=
  zy_s0 hC h (by simp only [ax_sx, hl]) (by intro _ h; cases h) k
theorem zy_astn {n : Fin 4} {x : Nat} {L' : ax_L1} (hC : zC g) (h : decode (ax_c (zq g)) pc = .ok (.astore_n n, 1)) (hn : n.val < L.length) (hl : L.set n.val (some (.ref x)) = L') (k : zy g rt hz o pe pw cells slots (pc + 1) L' r) : zy g rt hz o pe pw cells slots pc L (.ref x :: r) :=
  zy_s0 hC h (by simp only [ax_sx, hn, if_true, hl]) (by intro _ h; cases h) k
theorem zy_dupr {x : Nat} (hC : zC g) (h : decode (ax_c (zq g)) pc = .ok (.dup, 1)) (k : zy g rt hz o pe pw cells slots (pc + 1) L (.ref x :: .ref x :: r)) : zy g rt hz o pe pw cells slots pc L (.ref x :: r) := zy_s0 hC h rfl (by intro _ h; cases h) k
theorem zy_obj {x : Nat} (hC : zC g) (h : decode (ax_c (zq g)) pc = .ok (.invokespecial idx, 3)) (hw : Cond.methodLink (ax_y (zq g)).cls idx Jvm.Lib.objectInit ∈ ax_TW) (h1 : 1 ≤ (zR g).frames) (h2 : (r.map fun v => v.category).sum + 12 ≤ (zR g).locals) (k : zy g rt hz o pe pw cells slots (pc + 3) L r) : zy g rt hz o pe pw cells slots pc L (.ref x :: r) := by
  obtain ⟨⟨p, l, e, R, s, m, args, below, meth, c⟩, Qt, D, ad, ca, H0, q⟩ := g
  intro H locs ls e1 e2 e3 e4 hS hL hl
  have hts := hC.2.2.2.2.2.1
  refine W.objInit hC.1 hC.2.1 hC.2.2.2.2.1 (hts _ hw) (hts _ oi_im) (hts _ oi_co) rfl (hl.1.trans hC.2.2.2.1.symm) rfl h h1 (by rw [ax_sum]; show 2 * 0 + _ + 12 ≤ R.locals; have : (r.map fun v => v.category).sum + 12 ≤ R.locals := h2; omega) ?_
  exact k H locs ls e1 e2 e3 e4 hS hL hl
/-! new arrays, new things, fields -/
theorem arrV_cg {cA : ClassId} {N : Nat} {f f' : Nat → Value} (h : ∀ i, i < N → f i = f' i) : arrV cA N f = arrV cA N f' := by
  unfold arrV
  have e : (fun j : Fin N => f j.val) = (fun j : Fin N => f' j.val) := funext fun j => h j.val j.isLt
  rw [e]
theorem zy_newa {id N : Nat} {atype : ArrayType} {ty : FieldType} {kt : Nat} (hC : zC g) (h : decode (ax_c (zq g)) pc = .ok (.newarray atype, 2)) (hty : newarray.typeOf atype = ty) (harr : Cond.arrayClass ty ∈ ax_TW) (hkt : (ax_ts g.2.2.2.2.1)[kt]? = some (g.2.2.2.2.1 kt, ty)) (hob : ∀ C, ty ≠ .object C) (had : g.2.2.2.1 id = hz) (hN : N * componentBytes ty ≤ 536870912) (hN2 : N < 2 ^ 31)
    (hE : ax_cl g.2.2.2.1 g.2.2.2.2.1 d0 id = .inl (g.2.2.2.2.1 kt, a0)) (ha0 : ∀ cA : ClassId, vp_cell cA a0 = arrV cA N (fun _ => defaultValue ty)) (hc : cells + 1 ≤ (zR g).cells) (hs : slots + N ≤ (zR g).slots)
    (k : zy g rt (hz + 1) o none ((id, ax_cl g.2.2.2.1 g.2.2.2.2.1 d0 id) :: pw) (cells + 1) (slots + N) (pc + 2) L (.ref id :: r)) : zy g rt hz o none pw cells slots pc L (.int (nI N) :: r) := by
  obtain ⟨⟨p, l, e, R, s, m, args, below, meth, c⟩, Qt, D, ad, ca, H0, q⟩ := g
  intro H locs ls e1 e2 e3 e4 hS hL hl
  obtain ⟨hx, hb, hr, hml, hown, hts, hlocks, hK, hNw⟩ := hC
  subst hty
  refine va_newaK hx hb (hts _ harr) rfl h rfl (nI_pos hN2) (nI_clamp hN2) hN hc hs e1 (fun H1 cA f1 f2 f3 hAr hNm => ?_)
  have hca : cA = ca kt := by
    have h9 := (hK.2 kt _ hkt).2
    have h8 : s.vm.findClass ("[" ++ (newarray.typeOf atype).toString) = some (ca kt) := by
      cases hh : newarray.typeOf atype <;> rw [hh] at h9 hob <;> first | exact h9 | exact absurd rfl (hob _)
    exact Option.some.inj (hNm.symm.trans h8)
  have hle : H0.size ≤ hz := e1 ▸ hS.1
  have had2 : ad id = hz := had
  have hle2 : H0.size ≤ ad id := by rw [had2]; exact hle
  have hle3 : H0.size ≤ H1.size := by rw [f2]; exact Nat.le_succ_of_le hle
  have hkp : ∀ x, x < H.size → H1[x]? = H[x]? := fun x hx9 => f3 x (e1 ▸ hx9)
  have e9 : F0 m (pc + 2) ls ((Value.ref id :: r).map (ax_cv ad)) = { F0 m pc ls ((Value.int (nI N) :: r).map (ax_cv ad)) with pc := pc + 2, stack := .ref hz :: r.map (ax_cv ad) } := by
    show F0 m (pc + 2) ls (.ref (ad id) :: r.map (ax_cv ad)) = _
    rw [had2]
  have kk := k H1 locs ls f2 (fun r0 hr0 => (e2 r0 hr0).kept (hkp _ (e2 r0 hr0).lt)) (fun z hz0 => by cases hz0) (fun x hx9 => by
    rcases List.mem_cons.mp hx9 with rfl | hx9
    · refine ⟨hle2, ?_⟩
      show va_at D vwCl (ad id, ax_cl ad ca d0 id) H1
      have hE2 : ax_cl ad ca d0 id = .inl (ca kt, a0) := hE
      rw [hE2, had2]
      show H1[hz]? = some (vp_cell (ca kt) a0)
      rw [ha0, f1, hca]
    · exact ⟨(e4 x hx9).1, (e4 x hx9).2.kept (hkp _ (e4 x hx9).2.lt)⟩) ⟨hle3, fun x h1 h2 => (hkp x (Nat.lt_of_lt_of_le h1 hS.1)).trans (hS.2.1 x h1 h2), hS.2.2⟩ hL hl
  have kk2 : W p l e R s m args below meth c H1 locs (cells + 1) (slots + N) Qt (F0 m (pc + 2) ls ((Value.ref id :: r).map (ax_cv ad))) := kk
  rw [e9] at kk2
  exact kk2
theorem zy_new {id ci N : Nat} {fs : List Value} (hC : zC g) (h : decode (ax_c (zq g)) pc = .ok (.new idx, 3)) (hci : ci < 9) (hN : (ax_rd ci).2.2 = N) (hcl : Cond.classLink (ax_y (zq g)).cls idx (ax_rd ci).1 ∈ ax_TW) (hin : Cond.instantiable (ax_rd ci).1 N ∈ ax_TW) (hini : Cond.initialized (ax_rd ci).1 ∈ ax_TW) (hfs : ∀ j, j < N → defaultValue (ax_ty ci j) = vp_V fs j) (had : g.2.2.2.1 id = hz) (hc : cells + 1 ≤ (zR g).cells) (hs : slots + N ≤ (zR g).slots)
    (k : zy g rt (hz + 1) o (some (id, ci, fs)) pw (cells + 1) (slots + N) (pc + 3) L (.ref id :: r)) : zy g rt hz o none pw cells slots pc L r := by
  obtain ⟨⟨p, l, e, R, s, m, args, below, meth, c⟩, Qt, D, ad, ca, H0, q⟩ := g
  intro H locs ls e1 e2 e3 e4 hS hL hl
  obtain ⟨hx, hb, hr, hml, hown, hts, hlocks, hK, hNw⟩ := hC
  subst hN
  have hKn := hK.1 ci _ (ax_rd_at hci)
  refine W.newcK hx hb hown (hts _ hcl) (hts _ hin) (hts _ hini) rfl h hc hs hKn.2.1 e1 (fun H1 kC hkC f1 f2 f3 => ?_)
  have hle : H0.size ≤ hz := e1 ▸ hS.1
  have had2 : ad id = hz := had
  have hle2 : H0.size ≤ ad id := by rw [had2]; exact hle
  have hle3 : H0.size ≤ H1.size := by rw [f2]; exact Nat.le_succ_of_le hle
  have hkp : ∀ x, x < H.size → H1[x]? = H[x]? := fun x hx9 => f3 x (e1 ▸ hx9)
  have e9 : F0 m (pc + 3) ls ((Value.ref id :: r).map (ax_cv ad)) = { F0 m pc ls (r.map (ax_cv ad)) with pc := pc + 3, stack := .ref hz :: r.map (ax_cv ad) } := by
    show F0 m (pc + 3) ls (.ref (ad id) :: r.map (ax_cv ad)) = _
    rw [had2]
  have kk := k H1 locs ls f2 (fun r0 hr0 => (e2 r0 hr0).kept (hkp _ (e2 r0 hr0).lt)) (fun z hz0 => by
    cases hz0
    refine ⟨hle2, ?_, fun x hx9 => ?_⟩
    · show va_at D vwCl (ad id, .inr (ci, fs)) H1
      rw [had2]
      exact ⟨_, ax_rd_at hci, (u_born (ax_ty ci) hts (ax_lay_TW hci) hKn hkC f1 (ax_ty_ok ci hci).1).to hfs⟩
    · show ad x.1 < ad id
      rw [had2, ← e1]
      exact (e4 x hx9).2.lt) (fun x hx9 => ⟨(e4 x hx9).1, (e4 x hx9).2.kept (hkp _ (e4 x hx9).2.lt)⟩) ⟨hle3, fun x h1 h2 => (hkp x (Nat.lt_of_lt_of_le h1 hS.1)).trans (hS.2.1 x h1 h2), hS.2.2⟩ hL hl
  have kk2 : W p l e R s m args below meth c H1 locs (cells + 1) (slots + (ax_rd ci).2.2) Qt (F0 m (pc + 3) ls ((Value.ref id :: r).map (ax_cv ad))) := kk
  rw [e9] at kk2
  exact kk2
theorem zy_putF {r0 : Nat} {fs : List Value} {v : Value} (hC : zC g) (h : decode (ax_c (zq g)) pc = .ok (.putfield idx, 3)) (hF : zF g idx a b) (hfin : ((ax_rd a).2.1 b).2.2.2 = true) (hdecl : ((ax_rd a).2.1 b).1 = (ax_y (zq g)).cls) (hmn : g.1.2.2.2.2.2.2.2.2.1.name = "<init>") (hr0 : g.2.2.2.1 r0 < g.2.2.2.2.2.1.size) (hn : narrow (ax_ty a b) (ax_cv g.2.2.2.1 v) = ax_cv g.2.2.2.1 v) (hfit : fits (ax_ty a b) (ax_cv g.2.2.2.1 v) = true) (hlen : b < fs.length)
    (k : zy g (some r0) hz (a, fs.set b (ax_cv g.2.2.2.1 v)) none pw cells slots (pc + 3) L r) : zy g (some r0) hz (a, fs) none pw cells slots pc L (v :: .ref r0 :: r) := by
  obtain ⟨⟨p, l, e, R, s, m, args, below, meth, c⟩, Qt, D, ad, ca, H0, q⟩ := g
  intro H locs ls e1 e2 e3 e4 hS hL hl
  obtain ⟨hx, hb, hr, hml, hown, hts, hlocks, hK, hNw⟩ := hC
  obtain ⟨ha, hbN, hw⟩ := hF
  have hin := ax_lay_TW ha
  have hc := ax_rd_at ha
  have hap := va_apart (own := (ax_y q).cls) hts hin (ax_ty a) (ax_ty_ok a ha).1 (ax_ty_ok a ha).2 hK hc
  obtain ⟨rr, h1, cell, q1, q2, q3, q4⟩ := e2 r0 rfl
  have hrr : rr = ax_rd a := Option.some.inj (h1.symm.trans hc)
  subst hrr
  obtain ⟨hSl, hfc, kC, hkC, hkind⟩ := hK.1 a _ hc
  obtain ⟨cf, kf, fi, f, hi, hsl⟩ := hSl b hbN
  have hlay := hts _ (hin _ (u_in_lay hbN))
  unfold u_lay at hlay
  rw [if_pos hfin] at hlay
  have hst := (u_facts hfc hkC (u_lays hts hin hbN) hi).1
  have hcf : m.cls = cf := by
    obtain ⟨_, _, c', _, _, _, -, -, hf', -, -, -, hown2, -⟩ := Cond.laysFinal_spec hlay
    have e1 : c' = cf := by have := hi.symm.trans hf'; simp at this; exact this.1.symm
    have hd2 : ((ax_rd a).2.1 b).1 = (ax_y q).cls := hdecl
    rw [hd2] at hown2
    rw [← e1]; exact Option.some.inj (hown.symm.trans hown2)
  have h6 := u_fits hfc hkC hkind (Or.inr hlay) hi ((ax_ty_ok a ha).1 b hbN) hn hfit
  refine W.putFinK hx hb hown (hts _ hw) hi hst hcf hmn (by rw [q2]; exact h6) q1 q3 (by rw [hsl]; exact k2_hasslot (q4 b hbN)) rfl rfl h fun H' f1 f2 f3 => ?_
  rw [hsl] at f1 ⊢
  refine k H' _ ls (f2.trans e1) (fun r1 hr1 => ?_) (fun z hz0 => by cases hz0) (fun x hx9 => ⟨(e4 x hx9).1, (e4 x hx9).2.kept (f3 _ (fun z => ?_))⟩) (hS.put f2 f3 (Or.inl ⟨r0, rfl, rfl⟩)) hL hl
  · cases hr1
    exact ⟨_, hc, t_OB.to (V := updV (vp_V fs) b (ax_cv ad v)) ⟨_, f1, q2, q3, t_set q4 hap hbN (ax_cv ad v)⟩ (fun j _ => vp_updV_set hlen (ax_cv ad v) j)⟩
  · have h9 := (e4 x hx9).1
    have h8 : ad r0 < H0.size := hr0
    have h7 : ad x.1 = ad r0 := z
    have h6 : H0.size ≤ ad x.1 := h9
    omega
end ZYR
