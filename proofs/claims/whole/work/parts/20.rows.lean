/-! ROWS OF THE ABSTRACT MACHINE: an instruction, a row. -/
section WX
variable {mi pc len a b : Nat} {L : ax_L1} {st r : List Value} {d : ax_D} {Q : ax_Po}
theorem wx_s0 {i : Instr} {pc' : Nat} {L' : ax_L1} {st' : List Value} (h : ax_in mi pc = some (i, len, a, b)) (hs : ax_sx i pc L st = some (len, pc', L', st')) (hg : ∀ off, i = .goto off → (pc : Int) + off = (pc' : Int)) (k : ax_W mi pc' L' st' d Q) : ax_W mi pc L st d Q := by
  apply ax_W_in
  unfold ax_st
  rw [h]
  cases i <;> first
    | exact ⟨_, _, _, hs, hg, k⟩
    | (simp [ax_sx] at hs)
theorem wx_icst {n : Int} {v : Int32} (h : ax_in mi pc = some (.iconst n, 1, a, b)) (hv : Int32.ofInt n = v) (k : ax_W mi (pc + 1) L (.int v :: st) d Q) : ax_W mi pc L st d Q := by
  subst hv; exact wx_s0 h rfl (by intro _ h; cases h) k
theorem wx_bpsh {n : Int} {v : Int32} (h : ax_in mi pc = some (.bipush n, 2, a, b)) (hv : (Int8.ofInt n).toInt32 = v) (k : ax_W mi (pc + 2) L (.int v :: st) d Q) : ax_W mi pc L st d Q := by
  subst hv; exact wx_s0 h rfl (by intro _ h; cases h) k
theorem wx_spsh {n : Int} {v : Int32} (h : ax_in mi pc = some (.sipush n, 3, a, b)) (hv : (Int16.ofInt n).toInt32 = v) (k : ax_W mi (pc + 3) L (.int v :: st) d Q) : ax_W mi pc L st d Q := by
  subst hv; exact wx_s0 h rfl (by intro _ h; cases h) k
theorem wx_ildn {n : Fin 4} {x : Int32} (h : ax_in mi pc = some (.iload_n n, 1, a, b)) (hl : L[n.val]? = some (some (.int x))) (k : ax_W mi (pc + 1) L (.int x :: st) d Q) : ax_W mi pc L st d Q :=
  wx_s0 h (by simp only [ax_sx, hl]) (by intro _ h; cases h) k
theorem wx_ild {n : Nat} {x : Int32} (h : ax_in mi pc = some (.iload n, 2, a, b)) (hl : L[n]? = some (some (.int x))) (k : ax_W mi (pc + 2) L (.int x :: st) d Q) : ax_W mi pc L st d Q :=
  wx_s0 h (by simp only [ax_sx, hl]) (by intro _ h; cases h) k
theorem wx_aldn {n : Fin 4} {x : Nat} (h : ax_in mi pc = some (.aload_n n, 1, a, b)) (hl : L[n.val]? = some (some (.ref x))) (k : ax_W mi (pc + 1) L (.ref x :: st) d Q) : ax_W mi pc L st d Q :=
  wx_s0 h (by simp only [ax_sx, hl]) (by intro _ h; cases h) k
theorem wx_istn {n : Fin 4} {x : Int32} {L' : ax_L1} (h : ax_in mi pc = some (.istore_n n, 1, a, b)) (hn : n.val < L.length) (hl : L.set n.val (some (.int x)) = L') (k : ax_W mi (pc + 1) L' r d Q) : ax_W mi pc L (.int x :: r) d Q :=
  wx_s0 h (by simp only [ax_sx, hn, if_true, hl]) (by intro _ h; cases h) k
theorem wx_ist {n : Nat} {x : Int32} {L' : ax_L1} (h : ax_in mi pc = some (.istore n, 2, a, b)) (hn : n < L.length) (hl : L.set n (some (.int x)) = L') (k : ax_W mi (pc + 2) L' r d Q) : ax_W mi pc L (.int x :: r) d Q :=
  wx_s0 h (by simp only [ax_sx, hn, if_true, hl]) (by intro _ h; cases h) k
theorem wx_astn {n : Fin 4} {x : Nat} {L' : ax_L1} (h : ax_in mi pc = some (.astore_n n, 1, a, b)) (hn : n.val < L.length) (hl : L.set n.val (some (.ref x)) = L') (k : ax_W mi (pc + 1) L' r d Q) : ax_W mi pc L (.ref x :: r) d Q :=
  wx_s0 h (by simp only [ax_sx, hn, if_true, hl]) (by intro _ h; cases h) k
theorem wx_iinc {n : Nat} {z : Int} {x v : Int32} {L' : ax_L1} (h : ax_in mi pc = some (.iinc n z, 3, a, b)) (hl : L[n]? = some (some (.int x))) (hv : x + Int32.ofInt z = v) (hs : L.set n (some (.int v)) = L') (k : ax_W mi (pc + 3) L' st d Q) : ax_W mi pc L st d Q := by
  subst hv
  have hn : n < L.length := (List.getElem?_eq_some_iff.mp hl).1
  exact wx_s0 h (by simp only [ax_sx, hl, hn, if_true, hs]) (by intro _ h; cases h) k
theorem wx_iadd {x y : Int32} (h : ax_in mi pc = some (.iadd, 1, a, b)) (k : ax_W mi (pc + 1) L (.int (x + y) :: r) d Q) : ax_W mi pc L (.int y :: .int x :: r) d Q := wx_s0 h rfl (by intro _ h; cases h) k
theorem wx_isub {x y : Int32} (h : ax_in mi pc = some (.isub, 1, a, b)) (k : ax_W mi (pc + 1) L (.int (x - y) :: r) d Q) : ax_W mi pc L (.int y :: .int x :: r) d Q := wx_s0 h rfl (by intro _ h; cases h) k
theorem wx_imul {x y : Int32} (h : ax_in mi pc = some (.imul, 1, a, b)) (k : ax_W mi (pc + 1) L (.int (x * y) :: r) d Q) : ax_W mi pc L (.int y :: .int x :: r) d Q := wx_s0 h rfl (by intro _ h; cases h) k
theorem wx_iand {x y : Int32} (h : ax_in mi pc = some (.iand, 1, a, b)) (k : ax_W mi (pc + 1) L (.int (x &&& y) :: r) d Q) : ax_W mi pc L (.int y :: .int x :: r) d Q := wx_s0 h rfl (by intro _ h; cases h) k
theorem wx_ishl {x y : Int32} (h : ax_in mi pc = some (.ishl, 1, a, b)) (k : ax_W mi (pc + 1) L (.int (x <<< (y &&& 31)) :: r) d Q) : ax_W mi pc L (.int y :: .int x :: r) d Q := wx_s0 h rfl (by intro _ h; cases h) k
theorem wx_ishr {x y : Int32} (h : ax_in mi pc = some (.ishr, 1, a, b)) (k : ax_W mi (pc + 1) L (.int (x >>> (y &&& 31)) :: r) d Q) : ax_W mi pc L (.int y :: .int x :: r) d Q := wx_s0 h rfl (by intro _ h; cases h) k
theorem wx_dupr {x : Nat} (h : ax_in mi pc = some (.dup, 1, a, b)) (k : ax_W mi (pc + 1) L (.ref x :: .ref x :: r) d Q) : ax_W mi pc L (.ref x :: r) d Q := wx_s0 h rfl (by intro _ h; cases h) k
theorem wx_dup2 {x : Nat} {y : Int32} (h : ax_in mi pc = some (.dup2, 1, a, b)) (k : ax_W mi (pc + 1) L (.int y :: .ref x :: .int y :: .ref x :: r) d Q) : ax_W mi pc L (.int y :: .ref x :: r) d Q := wx_s0 h rfl (by intro _ h; cases h) k
theorem wx_goto {off : Int} (t : Nat) (h : ax_in mi pc = some (.goto off, 3, a, b)) (ht : (pc : Int) + off = (t : Int)) (k : ax_W mi t L st d Q) : ax_W mi pc L st d Q := by
  refine wx_s0 (pc' := t) h ?_ ?_ k
  · simp only [ax_sx, ht, Int.toNat_natCast]
  · intro o ho
    cases ho
    exact ht
theorem wx_idiv {x y : Int32} (h : ax_in mi pc = some (.idiv, 1, a, b)) (h0 : ¬ y = 0) (k : ax_W mi (pc + 1) L (.int (x / y) :: r) d Q) : ax_W mi pc L (.int y :: .int x :: r) d Q := by
  apply ax_W_in; unfold ax_st; rw [h]; exact ⟨rfl, x, y, r, rfl, h0, k⟩
theorem wx_irem {x y : Int32} (h : ax_in mi pc = some (.irem, 1, a, b)) (h0 : ¬ y = 0) (k : ax_W mi (pc + 1) L (.int (x - x / y * y) :: r) d Q) : ax_W mi pc L (.int y :: .int x :: r) d Q := by
  apply ax_W_in; unfold ax_st; rw [h]; exact ⟨rfl, x, y, r, rfl, h0, k⟩
theorem wx_if {c : ClassFile.Cond} {off : Int} {x : Int32} (t : Nat) (h : ax_in mi pc = some (.ifCond c off, 3, a, b)) (ht : (pc : Int) + off = (t : Int)) (k1 : ax_cn c x 0 → ax_W mi t L r d Q) (k2 : ¬ ax_cn c x 0 → ax_W mi (pc + 3) L r d Q) : ax_W mi pc L (.int x :: r) d Q := by
  apply ax_W_in; unfold ax_st; rw [h]; exact ⟨rfl, x, r, t, rfl, ht, k1, k2⟩
theorem wx_cmp {c : ClassFile.Cond} {off : Int} {x y : Int32} (t : Nat) (h : ax_in mi pc = some (.if_icmp c off, 3, a, b)) (ht : (pc : Int) + off = (t : Int)) (k1 : ax_cn c x y → ax_W mi t L r d Q) (k2 : ¬ ax_cn c x y → ax_W mi (pc + 3) L r d Q) : ax_W mi pc L (.int y :: .int x :: r) d Q := by
  apply ax_W_in; unfold ax_st; rw [h]; exact ⟨rfl, x, y, r, t, rfl, ht, k1, k2⟩
theorem wx_tsw {dflt lo hi : Int} {offs : Array Int} {x : Int32} (h : ax_in mi pc = some (.tableswitch dflt lo hi offs, len, a, b)) (k1 : (x.toInt < lo ∨ hi < x.toInt) → ∃ t : Nat, (pc : Int) + dflt = (t : Int) ∧ ax_W mi t L r d Q) (k2 : ¬ (x.toInt < lo ∨ hi < x.toInt) → ∃ (off : Int) (t : Nat), offs[(x.toInt - lo).toNat]? = some off ∧ (pc : Int) + off = (t : Int) ∧ ax_W mi t L r d Q) : ax_W mi pc L (.int x :: r) d Q := by
  apply ax_W_in; unfold ax_st; rw [h]; exact ⟨x, r, rfl, k1, k2⟩
theorem wx_lsw {dflt : Int} {ps : Array (Int × Int)} {x : Int32} (t : Nat) (h : ax_in mi pc = some (.lookupswitch dflt ps, len, a, b)) (hp : (ps.toList.zip (ps.toList.drop 1)).all (fun (a, next) => a.1 < next.1) = true) (ht : (pc : Int) + Op.lookupswitch.offset ps.toList dflt x.toInt = (t : Int)) (k : ax_W mi t L r d Q) : ax_W mi pc L (.int x :: r) d Q := by
  apply ax_W_in; unfold ax_st; rw [h]; exact ⟨x, r, t, rfl, hp, ht, k⟩
theorem wx_get {id n idx : Nat} {f : Nat → ax_X} {v : Value} (h : ax_in mi pc = some (.getfield idx, 3, a, b)) (hs : ax_sh id = some (a + 4, n, f)) (hn : b < n) (hv : ax_av d id f b = v) (k : ax_W mi (pc + 3) L (v :: r) d Q) : ax_W mi pc L (.ref id :: r) d Q := by
  subst hv; apply ax_W_in; unfold ax_st; rw [h]; exact ⟨rfl, id, r, n, f, rfl, hs, hn, k⟩
theorem wx_put {id n idx : Nat} {f : Nat → ax_X} {x : Int32} (h : ax_in mi pc = some (.putfield idx, 3, a, b)) (hs : ax_sh id = some (a + 4, n, f)) (hn : b < n) (hf : f b = .inr none) (h1 : narrow (ax_ty a b) (.int x) = .int x) (h2 : fits (ax_ty a b) (.int x) = true) (k : ax_W mi (pc + 3) L r (ax_up d id b x) Q) : ax_W mi pc L (.int x :: .ref id :: r) d Q := by
  apply ax_W_in; unfold ax_st; rw [h]; exact ⟨rfl, id, x, r, n, f, rfl, hs, hn, hf, h1, h2, k⟩
theorem wx_iald {id n : Nat} {f : Nat → ax_X} {i : Int32} (h : ax_in mi pc = some (.iaload, 1, a, b)) (hs : ax_sh id = some (0, n, f)) (hi : vp_in i n) (k : ax_W mi (pc + 1) L (.int (d id i.toNatClampNeg) :: r) d Q) : ax_W mi pc L (.int i :: .ref id :: r) d Q := by
  apply ax_W_in; unfold ax_st; rw [h]; exact ⟨rfl, id, i, r, n, f, rfl, hs, hi, k⟩
theorem wx_bald {id n : Nat} {f : Nat → ax_X} {i : Int32} (h : ax_in mi pc = some (.baload, 1, a, b)) (hs : ax_sh id = some (1, n, f)) (hi : vp_in i n) (k : ax_W mi (pc + 1) L (.int (d id i.toNatClampNeg) :: r) d Q) : ax_W mi pc L (.int i :: .ref id :: r) d Q := by
  apply ax_W_in; unfold ax_st; rw [h]; exact ⟨rfl, id, i, r, n, f, rfl, hs, hi, k⟩
theorem wx_iast {id n : Nat} {f : Nat → ax_X} {i x : Int32} (h : ax_in mi pc = some (.iastore, 1, a, b)) (hs : ax_sh id = some (0, n, f)) (hi : vp_in i n) (k : ax_W mi (pc + 1) L r (ax_up d id i.toNatClampNeg x) Q) : ax_W mi pc L (.int x :: .int i :: .ref id :: r) d Q := by
  apply ax_W_in; unfold ax_st; rw [h]; exact ⟨rfl, id, x, i, r, n, f, rfl, hs, hi, k⟩
theorem wx_bast {id n : Nat} {f : Nat → ax_X} {i x : Int32} (h : ax_in mi pc = some (.bastore, 1, a, b)) (hs : ax_sh id = some (1, n, f)) (hi : vp_in i n) (k : ax_W mi (pc + 1) L r (ax_up d id i.toNatClampNeg (x &&& 1)) Q) : ax_W mi pc L (.int x :: .int i :: .ref id :: r) d Q := by
  apply ax_W_in; unfold ax_st; rw [h]; exact ⟨rfl, id, x, i, r, n, f, rfl, hs, hi, k⟩
theorem wx_aald {id n j : Nat} {f : Nat → ax_X} {i : Int32} (h : ax_in mi pc = some (.aaload, 1, a, b)) (hs : ax_sh id = some (3, n, f)) (hi : vp_in i n) (hf : f i.toNatClampNeg = .inl j) (k : ax_W mi (pc + 1) L (.ref j :: r) d Q) : ax_W mi pc L (.int i :: .ref id :: r) d Q := by
  apply ax_W_in; unfold ax_st; rw [h]; exact ⟨rfl, id, i, r, n, f, j, rfl, hs, hi, hf, k⟩
theorem wx_alen {id n t : Nat} {f : Nat → ax_X} (h : ax_in mi pc = some (.arraylength, 1, a, b)) (hs : ax_sh id = some (t, n, f)) (ht : t < 4) (k : ax_W mi (pc + 1) L (.int (nI n) :: r) d Q) : ax_W mi pc L (.ref id :: r) d Q := by
  apply ax_W_in; unfold ax_st; rw [h]; exact ⟨rfl, id, r, t, n, f, rfl, hs, ht, k⟩
theorem wx_iret {v : Int32} {ty : FieldType} (h : ax_in mi pc = some (.ireturn, 1, a, b)) (hr : ax_r (ax_me mi) = some ty) (hn : narrow ty (.int v) = .int v) (hq : Q (some (.int v)) d) : ax_W mi pc L [.int v] d Q := by
  apply ax_W_in; unfold ax_st; rw [h]; exact ⟨rfl, v, ty, rfl, hr, hn, hq⟩
theorem wx_vret (h : ax_in mi pc = some (.return_, 1, a, b)) (hr : ax_r (ax_me mi) = none) (hq : Q none d) : ax_W mi pc L [] d Q := by
  apply ax_W_in; unfold ax_st; rw [h]; exact ⟨rfl, rfl, hr, hq⟩
/-- a call by the receiver: the arguments in their order, the callee's world and condition -/
theorem wx_cv {id n idx : Nat} {f : Nat → ax_X} {P : ax_Po} (tl rest : List Value) (h : ax_in mi pc = some (.invokevirtual idx, 3, a, b)) (hst : st = (Value.ref id :: tl).reverse ++ rest) (hlen : (Value.ref id :: tl).length = ax_g (ax_me a)) (hc : (tl.all fun v => v.category == 1) = true) (hs : (rest.map fun v => v.category).sum ≤ 8) (hsh : ax_sh id = some (ax_o (ax_me a) + 4, n, f)) (hE : ax_E a (.ref id :: tl) d P) (k : ∀ (o : Option Value) (d1 : ax_D), P o d1 → ax_W mi (pc + 3) L (o.toList ++ rest) d1 Q) : ax_W mi pc L st d Q := by
  apply ax_W_in; unfold ax_st; rw [h]
  refine ⟨rfl, .ref id :: tl, rest, P, hst, hlen, ?_, hs, fun _ => ⟨id, tl, n, f, rfl, hsh⟩, hE, k⟩
  intro v hv
  rcases List.mem_cons.mp hv with rfl | hv
  · rfl
  · exact eq_of_beq (List.all_eq_true.mp hc v hv)
theorem wx_cs {idx : Nat} {P : ax_Po} (as rest : List Value) (h : ax_in mi pc = some (.invokestatic idx, 3, a, b)) (hst : st = as.reverse ++ rest) (hlen : as.length = ax_g (ax_me a)) (hc : (as.all fun v => v.category == 1) = true) (hs : (rest.map fun v => v.category).sum ≤ 8) (hE : ax_E a as d P) (k : ∀ (o : Option Value) (d1 : ax_D), P o d1 → ax_W mi (pc + 3) L (o.toList ++ rest) d1 Q) : ax_W mi pc L st d Q := by
  apply ax_W_in; unfold ax_st; rw [h]
  exact ⟨rfl, as, rest, P, hst, hlen, fun v hv => eq_of_beq (List.all_eq_true.mp hc v hv), hs, (fun h => by cases h), hE, k⟩
end WX
