/-! THE ABSTRACT MACHINE: what a method's instructions do to the world's numbers ('ax_st': one step, as a condition on what comes behind it), the least relation closed under it ('ax_W'), with no heap, no frame, no tables in it. -/
abbrev ax_L1 : Type := List (Option Value)
abbrev ax_Po : Type := Option Value → ax_D → Prop
abbrev ax_J0 : Type := Nat → Nat → ax_L1 → List Value → ax_D → ax_Po → Prop
def ax_in (mi pc : Nat) : Option (Instr × Nat × Nat × Nat) := ((ax_b (ax_me mi)).find? (fun e => e.1 == pc)).map (fun e => e.2)
def ax_cn (c : ClassFile.Cond) (x y : Int32) : Prop := match c with
  | .eq => x = y
  | .ne => ¬ x = y
  | .lt => x < y
  | .ge => y ≤ x
  | .gt => y < x
  | .le => x ≤ y
/-- instructions on the locals and the stack alone: the length that they have, and what they do -/
def ax_sx (i : Instr) (pc : Nat) (L : ax_L1) (st : List Value) : Option (Nat × Nat × ax_L1 × List Value) := match i with
  | .iconst n => some (1, pc + 1, L, .int (Int32.ofInt n) :: st)
  | .bipush n => some (2, pc + 2, L, .int (Int8.ofInt n).toInt32 :: st)
  | .sipush n => some (3, pc + 3, L, .int (Int16.ofInt n).toInt32 :: st)
  | .iload_n k => match L[k.val]? with
    | some (some (.int x)) => some (1, pc + 1, L, .int x :: st)
    | _ => none
  | .iload k => match L[k]? with
    | some (some (.int x)) => some (2, pc + 2, L, .int x :: st)
    | _ => none
  | .aload_n k => match L[k.val]? with
    | some (some (.ref x)) => some (1, pc + 1, L, .ref x :: st)
    | _ => none
  | .aload k => match L[k]? with
    | some (some (.ref x)) => some (2, pc + 2, L, .ref x :: st)
    | _ => none
  | .istore_n k => match st with
    | .int x :: r => if k.val < L.length then some (1, pc + 1, L.set k.val (some (.int x)), r) else none
    | _ => none
  | .istore k => match st with
    | .int x :: r => if k < L.length then some (2, pc + 2, L.set k (some (.int x)), r) else none
    | _ => none
  | .astore_n k => match st with
    | .ref x :: r => if k.val < L.length then some (1, pc + 1, L.set k.val (some (.ref x)), r) else none
    | _ => none
  | .astore k => match st with
    | .ref x :: r => if k < L.length then some (2, pc + 2, L.set k (some (.ref x)), r) else none
    | _ => none
  | .iinc k n => match L[k]? with
    | some (some (.int x)) => if k < L.length then some (3, pc + 3, L.set k (some (.int (x + Int32.ofInt n))), st) else none
    | _ => none
  | .iadd => match st with
    | .int y :: .int x :: r => some (1, pc + 1, L, .int (x + y) :: r)
    | _ => none
  | .isub => match st with
    | .int y :: .int x :: r => some (1, pc + 1, L, .int (x - y) :: r)
    | _ => none
  | .imul => match st with
    | .int y :: .int x :: r => some (1, pc + 1, L, .int (x * y) :: r)
    | _ => none
  | .iand => match st with
    | .int y :: .int x :: r => some (1, pc + 1, L, .int (x &&& y) :: r)
    | _ => none
  | .ishl => match st with
    | .int y :: .int x :: r => some (1, pc + 1, L, .int (x <<< (y &&& 31)) :: r)
    | _ => none
  | .ishr => match st with
    | .int y :: .int x :: r => some (1, pc + 1, L, .int (x >>> (y &&& 31)) :: r)
    | _ => none
  | .dup => match st with
    | .int x :: r => some (1, pc + 1, L, .int x :: .int x :: r)
    | .ref x :: r => some (1, pc + 1, L, .ref x :: .ref x :: r)
    | _ => none
  | .dup2 => match st with
    | .int y :: .ref x :: r => some (1, pc + 1, L, .int y :: .ref x :: .int y :: .ref x :: r)
    | _ => none
  | .goto off => some (3, ((pc : Int) + off).toNat, L, st)
  | _ => none
/-- a call: the callee's condition P, and what comes behind it -/
def ax_ca (X : ax_J0) (mi pc : Nat) (L : ax_L1) (st : List Value) (d : ax_D) (Q : ax_Po) (a : Nat) (dyn : Bool) : Prop :=
  ∃ (as rest : List Value) (P : ax_Po), st = as.reverse ++ rest ∧ as.length = ax_g (ax_me a) ∧ (∀ v ∈ as, v.category = 1) ∧ (rest.map fun v => v.category).sum ≤ 8 ∧
    (dyn = true → ∃ (id : Nat) (tl : List Value) (n : Nat) (f : Nat → ax_X), as = .ref id :: tl ∧ ax_sh id = some (ax_o (ax_me a) + 4, n, f)) ∧
    X a 0 (as.map some ++ List.replicate (ax_n (ax_me a) - as.length) none) [] d P ∧ ∀ (r : Option Value) (d1 : ax_D), P r d1 → X mi (pc + 3) L (r.toList ++ rest) d1 Q
def ax_st (X : ax_J0) (mi pc : Nat) (L : ax_L1) (st : List Value) (d : ax_D) (Q : ax_Po) : Prop := match ax_in mi pc with
  | none => False
  | some (i, len, a, b) => match i with
    | .ireturn => len = 1 ∧ ∃ (v : Int32) (ty : FieldType), st = [.int v] ∧ ax_r (ax_me mi) = some ty ∧ narrow ty (.int v) = .int v ∧ Q (some (.int v)) d
    | .return_ => len = 1 ∧ st = [] ∧ ax_r (ax_me mi) = none ∧ Q none d
    | .ifCond c off => len = 3 ∧ ∃ (x : Int32) (r : List Value) (t : Nat), st = .int x :: r ∧ (pc : Int) + off = (t : Int) ∧ (ax_cn c x 0 → X mi t L r d Q) ∧ (¬ ax_cn c x 0 → X mi (pc + 3) L r d Q)
    | .if_icmp c off => len = 3 ∧ ∃ (x y : Int32) (r : List Value) (t : Nat), st = .int y :: .int x :: r ∧ (pc : Int) + off = (t : Int) ∧ (ax_cn c x y → X mi t L r d Q) ∧ (¬ ax_cn c x y → X mi (pc + 3) L r d Q)
    | .idiv => len = 1 ∧ ∃ (x y : Int32) (r : List Value), st = .int y :: .int x :: r ∧ ¬ y = 0 ∧ X mi (pc + 1) L (.int (x / y) :: r) d Q
    | .irem => len = 1 ∧ ∃ (x y : Int32) (r : List Value), st = .int y :: .int x :: r ∧ ¬ y = 0 ∧ X mi (pc + 1) L (.int (x - x / y * y) :: r) d Q
    | .tableswitch dflt lo hi offs => ∃ (x : Int32) (r : List Value), st = .int x :: r ∧ ((x.toInt < lo ∨ hi < x.toInt) → ∃ t : Nat, (pc : Int) + dflt = (t : Int) ∧ X mi t L r d Q) ∧ (¬ (x.toInt < lo ∨ hi < x.toInt) → ∃ (off : Int) (t : Nat), offs[(x.toInt - lo).toNat]? = some off ∧ (pc : Int) + off = (t : Int) ∧ X mi t L r d Q)
    | .lookupswitch dflt ps => ∃ (x : Int32) (r : List Value) (t : Nat), st = .int x :: r ∧ (ps.toList.zip (ps.toList.drop 1)).all (fun (a, next) => a.1 < next.1) = true ∧ (pc : Int) + Op.lookupswitch.offset ps.toList dflt x.toInt = (t : Int) ∧ X mi t L r d Q
    | .getfield _ => len = 3 ∧ ∃ (id : Nat) (r : List Value) (n : Nat) (f : Nat → ax_X), st = .ref id :: r ∧ ax_sh id = some (a + 4, n, f) ∧ b < n ∧ X mi (pc + 3) L (ax_av d id f b :: r) d Q
    | .putfield _ => len = 3 ∧ ∃ (id : Nat) (x : Int32) (r : List Value) (n : Nat) (f : Nat → ax_X), st = .int x :: .ref id :: r ∧ ax_sh id = some (a + 4, n, f) ∧ b < n ∧ f b = .inr none ∧ narrow (ax_ty a b) (.int x) = .int x ∧ fits (ax_ty a b) (.int x) = true ∧ X mi (pc + 3) L r (ax_up d id b x) Q
    | .iaload => len = 1 ∧ ∃ (id : Nat) (i : Int32) (r : List Value) (n : Nat) (f : Nat → ax_X), st = .int i :: .ref id :: r ∧ ax_sh id = some (0, n, f) ∧ vp_in i n ∧ X mi (pc + 1) L (.int (d id i.toNatClampNeg) :: r) d Q
    | .baload => len = 1 ∧ ∃ (id : Nat) (i : Int32) (r : List Value) (n : Nat) (f : Nat → ax_X), st = .int i :: .ref id :: r ∧ ax_sh id = some (1, n, f) ∧ vp_in i n ∧ X mi (pc + 1) L (.int (d id i.toNatClampNeg) :: r) d Q
    | .iastore => len = 1 ∧ ∃ (id : Nat) (x i : Int32) (r : List Value) (n : Nat) (f : Nat → ax_X), st = .int x :: .int i :: .ref id :: r ∧ ax_sh id = some (0, n, f) ∧ vp_in i n ∧ X mi (pc + 1) L r (ax_up d id i.toNatClampNeg x) Q
    | .bastore => len = 1 ∧ ∃ (id : Nat) (x i : Int32) (r : List Value) (n : Nat) (f : Nat → ax_X), st = .int x :: .int i :: .ref id :: r ∧ ax_sh id = some (1, n, f) ∧ vp_in i n ∧ X mi (pc + 1) L r (ax_up d id i.toNatClampNeg (x &&& 1)) Q
    | .aaload => len = 1 ∧ ∃ (id : Nat) (i : Int32) (r : List Value) (n : Nat) (f : Nat → ax_X) (j : Nat), st = .int i :: .ref id :: r ∧ ax_sh id = some (3, n, f) ∧ vp_in i n ∧ f i.toNatClampNeg = .inl j ∧ X mi (pc + 1) L (.ref j :: r) d Q
    | .arraylength => len = 1 ∧ ∃ (id : Nat) (r : List Value) (t n : Nat) (f : Nat → ax_X), st = .ref id :: r ∧ ax_sh id = some (t, n, f) ∧ t < 4 ∧ X mi (pc + 1) L (.int (nI n) :: r) d Q
    | .invokevirtual _ => len = 3 ∧ ax_ca X mi pc L st d Q a true
    | .invokestatic _ => len = 3 ∧ ax_ca X mi pc L st d Q a false
    | j => ∃ (pc' : Nat) (L' : ax_L1) (st' : List Value), ax_sx j pc L st = some (len, pc', L', st') ∧ (∀ off, j = .goto off → (pc : Int) + off = (pc' : Int)) ∧ X mi pc' L' st' d Q
/-- the least relation that is closed under a step -/
def ax_W (mi pc : Nat) (L : ax_L1) (st : List Value) (d : ax_D) (Q : ax_Po) : Prop := ∀ X : ax_J0, (∀ mi pc L st d Q, ax_st X mi pc L st d Q → X mi pc L st d Q) → X mi pc L st d Q
theorem ax_ca_mono {X Y : ax_J0} (h : ∀ mi pc L st d Q, X mi pc L st d Q → Y mi pc L st d Q) {mi pc : Nat} {L : ax_L1} {st : List Value} {d : ax_D} {Q : ax_Po} {a : Nat} {dyn : Bool} (k : ax_ca X mi pc L st d Q a dyn) : ax_ca Y mi pc L st d Q a dyn := by
  obtain ⟨as, rest, P, h1, h2, h3, h4, h5, h6, h7⟩ := k
  exact ⟨as, rest, P, h1, h2, h3, h4, h5, h _ _ _ _ _ _ h6, fun r d1 hp => h _ _ _ _ _ _ (h7 r d1 hp)⟩
set_option maxHeartbeats 1000000 in
theorem ax_st_mono {X Y : ax_J0} (h : ∀ mi pc L st d Q, X mi pc L st d Q → Y mi pc L st d Q) {mi pc : Nat} {L : ax_L1} {st : List Value} {d : ax_D} {Q : ax_Po} (k : ax_st X mi pc L st d Q) : ax_st Y mi pc L st d Q := by
  unfold ax_st at k ⊢
  split
  · rename_i e; rw [e] at k; exact k
  · rename_i i len a b e
    rw [e] at k
    dsimp only at k
    cases i <;> first
      | exact k
      | (obtain ⟨pc', L', st', h1, h2, h3⟩ := k
         exact ⟨pc', L', st', h1, h2, h _ _ _ _ _ _ h3⟩)
      | (obtain ⟨hl, x, r, t, h1, h2, h3, h4⟩ := k
         exact ⟨hl, x, r, t, h1, h2, fun q => h _ _ _ _ _ _ (h3 q), fun q => h _ _ _ _ _ _ (h4 q)⟩)
      | (obtain ⟨hl, x, y, r, t, h1, h2, h3, h4⟩ := k
         exact ⟨hl, x, y, r, t, h1, h2, fun q => h _ _ _ _ _ _ (h3 q), fun q => h _ _ _ _ _ _ (h4 q)⟩)
      | (obtain ⟨hl, x, y, r, h1, h2, h3⟩ := k
         exact ⟨hl, x, y, r, h1, h2, h _ _ _ _ _ _ h3⟩)
      | (obtain ⟨x, r, h1, h2, h3⟩ := k
         refine ⟨x, r, h1, fun q => ?_, fun q => ?_⟩
         · obtain ⟨t, h4, h5⟩ := h2 q
           exact ⟨t, h4, h _ _ _ _ _ _ h5⟩
         · obtain ⟨off, t, h4, h5, h6⟩ := h3 q
           exact ⟨off, t, h4, h5, h _ _ _ _ _ _ h6⟩)
      | (obtain ⟨x, r, t, h1, h2, h3, h4⟩ := k
         exact ⟨x, r, t, h1, h2, h3, h _ _ _ _ _ _ h4⟩)
      | (obtain ⟨hl, id, r, n, f, h1, h2, h3, h4⟩ := k
         exact ⟨hl, id, r, n, f, h1, h2, h3, h _ _ _ _ _ _ h4⟩)
      | (obtain ⟨hl, id, x, r, n, f, h1, h2, h3, h4, h5, h6, h7⟩ := k
         exact ⟨hl, id, x, r, n, f, h1, h2, h3, h4, h5, h6, h _ _ _ _ _ _ h7⟩)
      | (obtain ⟨hl, id, i, r, n, f, h1, h2, h3, h4⟩ := k
         exact ⟨hl, id, i, r, n, f, h1, h2, h3, h _ _ _ _ _ _ h4⟩)
      | (obtain ⟨hl, id, x, i, r, n, f, h1, h2, h3, h4⟩ := k
         exact ⟨hl, id, x, i, r, n, f, h1, h2, h3, h _ _ _ _ _ _ h4⟩)
      | (obtain ⟨hl, id, i, r, n, f, j, h1, h2, h3, h4, h5⟩ := k
         exact ⟨hl, id, i, r, n, f, j, h1, h2, h3, h4, h _ _ _ _ _ _ h5⟩)
      | (obtain ⟨hl, id, r, t, n, f, h1, h2, h3, h4⟩ := k
         exact ⟨hl, id, r, t, n, f, h1, h2, h3, h _ _ _ _ _ _ h4⟩)
      | exact ⟨k.1, ax_ca_mono h k.2⟩
theorem ax_W_in {mi pc : Nat} {L : ax_L1} {st : List Value} {d : ax_D} {Q : ax_Po} (k : ax_st ax_W mi pc L st d Q) : ax_W mi pc L st d Q := fun X hX => hX _ _ _ _ _ _ (ax_st_mono (fun _ _ _ _ _ _ h => h X hX) k)
/-- out of the tables' checks -/
theorem ax_in_ok {mi pc : Nat} {z : Instr × Nat × Nat × Nat} (h : ax_in mi pc = some z) : ax_ok (ax_me mi) ∧ ax_ick (ax_me mi) (pc, z) = true := by
  unfold ax_in at h
  obtain ⟨e, he, rfl⟩ := Option.map_eq_some_iff.mp h
  have hin := List.mem_of_find?_eq_some he
  have heq : e.1 = pc := by
    have := List.find?_some he
    exact eq_of_beq this
  have hmi : mi < ax_Ms.length := by
    rcases Nat.lt_or_ge mi ax_Ms.length with h1 | h1
    · exact h1
    · exfalso
      have h2 : ax_me mi = (yX0_isFull, cX0_isFull, 0, none, 0, 0, 0, 0, []) := by
        unfold ax_me
        rw [List.getD_eq_getElem?_getD, List.getElem?_eq_none h1]
        rfl
      rw [h2] at hin
      cases hin
  have hm : ax_me mi ∈ ax_Ms := by
    unfold ax_me
    rw [List.getD_eq_getElem?_getD, List.getElem?_eq_getElem hmi]
    exact List.getElem_mem hmi
  have hok := ax_all _ hm
  refine ⟨hok, ?_⟩
  have h3 := hok.1
  unfold ax_mck at h3
  rw [Bool.and_eq_true] at h3
  have h4 := List.all_eq_true.mp h3.2 e hin
  rw [← heq]
  exact h4
