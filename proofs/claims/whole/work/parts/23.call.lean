/-! Calls and answers of the abstract machine by the number of arguments; ints and nothing as answers. -/
def ax_Pi (P : Int32 → ax_D → Prop) : ax_Po := fun o d1 => ∃ x : Int32, o = some (.int x) ∧ P x d1
def ax_Pv (P : ax_D → Prop) : ax_Po := fun o d1 => o = none ∧ P d1
section WC
variable {mi pc a b idx id n : Nat} {f : Nat → ax_X} {L : ax_L1} {r : List Value} {d : ax_D} {Q : ax_Po} {P : Int32 → ax_D → Prop} {Pv : ax_D → Prop} {v1 v2 v3 v4 : Value}
theorem wx_ri {v : Int32} {ty : FieldType} (h : ax_in mi pc = some (.ireturn, 1, a, b)) (hr : ax_r (ax_me mi) = some ty) (hn : narrow ty (.int v) = .int v) (hq : P v d) : ax_W mi pc L [.int v] d (ax_Pi P) := wx_iret h hr hn ⟨v, rfl, hq⟩
theorem wx_rv (h : ax_in mi pc = some (.return_, 1, a, b)) (hr : ax_r (ax_me mi) = none) (hq : Pv d) : ax_W mi pc L [] d (ax_Pv Pv) := wx_vret h hr ⟨rfl, hq⟩
theorem wx_i0 (h : ax_in mi pc = some (.invokevirtual idx, 3, a, b)) (hg : 1 = ax_g (ax_me a)) (hs : (r.map fun v => v.category).sum ≤ 8) (hsh : ax_sh id = some (ax_o (ax_me a) + 4, n, f)) (hE : ax_E a [.ref id] d (ax_Pi P)) (k : ∀ (x : Int32) (d1 : ax_D), P x d1 → ax_W mi (pc + 3) L (.int x :: r) d1 Q) : ax_W mi pc L (.ref id :: r) d Q :=
  wx_cv [] r h rfl hg rfl hs hsh hE (fun o d1 ho => by obtain ⟨x, rfl, hp⟩ := ho; exact k x d1 hp)
theorem wx_i1 (h : ax_in mi pc = some (.invokevirtual idx, 3, a, b)) (hg : 2 = ax_g (ax_me a)) (c1 : v1.category = 1) (hs : (r.map fun v => v.category).sum ≤ 8) (hsh : ax_sh id = some (ax_o (ax_me a) + 4, n, f)) (hE : ax_E a [.ref id, v1] d (ax_Pi P)) (k : ∀ (x : Int32) (d1 : ax_D), P x d1 → ax_W mi (pc + 3) L (.int x :: r) d1 Q) : ax_W mi pc L (v1 :: .ref id :: r) d Q :=
  wx_cv [v1] r h rfl hg (by simp [c1]) hs hsh hE (fun o d1 ho => by obtain ⟨x, rfl, hp⟩ := ho; exact k x d1 hp)
theorem wx_i2 (h : ax_in mi pc = some (.invokevirtual idx, 3, a, b)) (hg : 3 = ax_g (ax_me a)) (c1 : v1.category = 1) (c2 : v2.category = 1) (hs : (r.map fun v => v.category).sum ≤ 8) (hsh : ax_sh id = some (ax_o (ax_me a) + 4, n, f)) (hE : ax_E a [.ref id, v1, v2] d (ax_Pi P)) (k : ∀ (x : Int32) (d1 : ax_D), P x d1 → ax_W mi (pc + 3) L (.int x :: r) d1 Q) : ax_W mi pc L (v2 :: v1 :: .ref id :: r) d Q :=
  wx_cv [v1, v2] r h rfl hg (by simp [c1, c2]) hs hsh hE (fun o d1 ho => by obtain ⟨x, rfl, hp⟩ := ho; exact k x d1 hp)
theorem wx_i3 (h : ax_in mi pc = some (.invokevirtual idx, 3, a, b)) (hg : 4 = ax_g (ax_me a)) (c1 : v1.category = 1) (c2 : v2.category = 1) (c3 : v3.category = 1) (hs : (r.map fun v => v.category).sum ≤ 8) (hsh : ax_sh id = some (ax_o (ax_me a) + 4, n, f)) (hE : ax_E a [.ref id, v1, v2, v3] d (ax_Pi P)) (k : ∀ (x : Int32) (d1 : ax_D), P x d1 → ax_W mi (pc + 3) L (.int x :: r) d1 Q) : ax_W mi pc L (v3 :: v2 :: v1 :: .ref id :: r) d Q :=
  wx_cv [v1, v2, v3] r h rfl hg (by simp [c1, c2, c3]) hs hsh hE (fun o d1 ho => by obtain ⟨x, rfl, hp⟩ := ho; exact k x d1 hp)
theorem wx_i4 (h : ax_in mi pc = some (.invokevirtual idx, 3, a, b)) (hg : 5 = ax_g (ax_me a)) (c1 : v1.category = 1) (c2 : v2.category = 1) (c3 : v3.category = 1) (c4 : v4.category = 1) (hs : (r.map fun v => v.category).sum ≤ 8) (hsh : ax_sh id = some (ax_o (ax_me a) + 4, n, f)) (hE : ax_E a [.ref id, v1, v2, v3, v4] d (ax_Pi P)) (k : ∀ (x : Int32) (d1 : ax_D), P x d1 → ax_W mi (pc + 3) L (.int x :: r) d1 Q) : ax_W mi pc L (v4 :: v3 :: v2 :: v1 :: .ref id :: r) d Q :=
  wx_cv [v1, v2, v3, v4] r h rfl hg (by simp [c1, c2, c3, c4]) hs hsh hE (fun o d1 ho => by obtain ⟨x, rfl, hp⟩ := ho; exact k x d1 hp)
theorem wx_v0 (h : ax_in mi pc = some (.invokevirtual idx, 3, a, b)) (hg : 1 = ax_g (ax_me a)) (hs : (r.map fun v => v.category).sum ≤ 8) (hsh : ax_sh id = some (ax_o (ax_me a) + 4, n, f)) (hE : ax_E a [.ref id] d (ax_Pv Pv)) (k : ∀ (d1 : ax_D), Pv d1 → ax_W mi (pc + 3) L r d1 Q) : ax_W mi pc L (.ref id :: r) d Q :=
  wx_cv [] r h rfl hg rfl hs hsh hE (fun o d1 ho => by obtain ⟨rfl, hp⟩ := ho; exact k d1 hp)
theorem wx_v1 (h : ax_in mi pc = some (.invokevirtual idx, 3, a, b)) (hg : 2 = ax_g (ax_me a)) (c1 : v1.category = 1) (hs : (r.map fun v => v.category).sum ≤ 8) (hsh : ax_sh id = some (ax_o (ax_me a) + 4, n, f)) (hE : ax_E a [.ref id, v1] d (ax_Pv Pv)) (k : ∀ (d1 : ax_D), Pv d1 → ax_W mi (pc + 3) L r d1 Q) : ax_W mi pc L (v1 :: .ref id :: r) d Q :=
  wx_cv [v1] r h rfl hg (by simp [c1]) hs hsh hE (fun o d1 ho => by obtain ⟨rfl, hp⟩ := ho; exact k d1 hp)
theorem wx_v2 (h : ax_in mi pc = some (.invokevirtual idx, 3, a, b)) (hg : 3 = ax_g (ax_me a)) (c1 : v1.category = 1) (c2 : v2.category = 1) (hs : (r.map fun v => v.category).sum ≤ 8) (hsh : ax_sh id = some (ax_o (ax_me a) + 4, n, f)) (hE : ax_E a [.ref id, v1, v2] d (ax_Pv Pv)) (k : ∀ (d1 : ax_D), Pv d1 → ax_W mi (pc + 3) L r d1 Q) : ax_W mi pc L (v2 :: v1 :: .ref id :: r) d Q :=
  wx_cv [v1, v2] r h rfl hg (by simp [c1, c2]) hs hsh hE (fun o d1 ho => by obtain ⟨rfl, hp⟩ := ho; exact k d1 hp)
theorem wx_v3 (h : ax_in mi pc = some (.invokevirtual idx, 3, a, b)) (hg : 4 = ax_g (ax_me a)) (c1 : v1.category = 1) (c2 : v2.category = 1) (c3 : v3.category = 1) (hs : (r.map fun v => v.category).sum ≤ 8) (hsh : ax_sh id = some (ax_o (ax_me a) + 4, n, f)) (hE : ax_E a [.ref id, v1, v2, v3] d (ax_Pv Pv)) (k : ∀ (d1 : ax_D), Pv d1 → ax_W mi (pc + 3) L r d1 Q) : ax_W mi pc L (v3 :: v2 :: v1 :: .ref id :: r) d Q :=
  wx_cv [v1, v2, v3] r h rfl hg (by simp [c1, c2, c3]) hs hsh hE (fun o d1 ho => by obtain ⟨rfl, hp⟩ := ho; exact k d1 hp)
theorem wx_v4 (h : ax_in mi pc = some (.invokevirtual idx, 3, a, b)) (hg : 5 = ax_g (ax_me a)) (c1 : v1.category = 1) (c2 : v2.category = 1) (c3 : v3.category = 1) (c4 : v4.category = 1) (hs : (r.map fun v => v.category).sum ≤ 8) (hsh : ax_sh id = some (ax_o (ax_me a) + 4, n, f)) (hE : ax_E a [.ref id, v1, v2, v3, v4] d (ax_Pv Pv)) (k : ∀ (d1 : ax_D), Pv d1 → ax_W mi (pc + 3) L r d1 Q) : ax_W mi pc L (v4 :: v3 :: v2 :: v1 :: .ref id :: r) d Q :=
  wx_cv [v1, v2, v3, v4] r h rfl hg (by simp [c1, c2, c3, c4]) hs hsh hE (fun o d1 ho => by obtain ⟨rfl, hp⟩ := ho; exact k d1 hp)
theorem wx_t1 (h : ax_in mi pc = some (.invokestatic idx, 3, a, b)) (hg : 1 = ax_g (ax_me a)) (c1 : v1.category = 1) (hs : (r.map fun v => v.category).sum ≤ 8) (hE : ax_E a [v1] d (ax_Pi P)) (k : ∀ (x : Int32) (d1 : ax_D), P x d1 → ax_W mi (pc + 3) L (.int x :: r) d1 Q) : ax_W mi pc L (v1 :: r) d Q :=
  wx_cs [v1] r h rfl hg (by simp [c1]) hs hE (fun o d1 ho => by obtain ⟨x, rfl, hp⟩ := ho; exact k x d1 hp)
theorem wx_t2 (h : ax_in mi pc = some (.invokestatic idx, 3, a, b)) (hg : 2 = ax_g (ax_me a)) (c1 : v1.category = 1) (c2 : v2.category = 1) (hs : (r.map fun v => v.category).sum ≤ 8) (hE : ax_E a [v1, v2] d (ax_Pi P)) (k : ∀ (x : Int32) (d1 : ax_D), P x d1 → ax_W mi (pc + 3) L (.int x :: r) d1 Q) : ax_W mi pc L (v2 :: v1 :: r) d Q :=
  wx_cs [v1, v2] r h rfl hg (by simp [c1, c2]) hs hE (fun o d1 ho => by obtain ⟨x, rfl, hp⟩ := ho; exact k x d1 hp)
end WC
theorem ax_W_mono {mi pc : Nat} {L : ax_L1} {st : List Value} {d : ax_D} {Q Q' : ax_Po} (h : ax_W mi pc L st d Q) (hq : ∀ o d1, Q o d1 → Q' o d1) : ax_W mi pc L st d Q' := by
  have key := h (fun mi pc L st d Q => ∀ Q' : ax_Po, (∀ o d1, Q o d1 → Q' o d1) → ax_W mi pc L st d Q') (fun mi pc L st d Q k Q' hq => by
    apply ax_W_in
    unfold ax_st at k ⊢
    cases hin : ax_in mi pc with
    | none => rw [hin] at k; exact k
    | some z =>
      obtain ⟨i, len, a, b⟩ := z
      rw [hin] at k
      dsimp only at k ⊢
      cases i <;> first
        | (obtain ⟨pc', L', st', h1, h2, h3⟩ := k
           exact ⟨pc', L', st', h1, h2, h3 Q' hq⟩)
        | (obtain ⟨hl, v, ty, h1, h2, h3, h4⟩ := k
           exact ⟨hl, v, ty, h1, h2, h3, hq _ _ h4⟩)
        | (obtain ⟨hl, h1, h2, h3⟩ := k
           exact ⟨hl, h1, h2, hq _ _ h3⟩)
        | (obtain ⟨hl, x, r, t, h1, h2, h3, h4⟩ := k
           exact ⟨hl, x, r, t, h1, h2, fun q => h3 q Q' hq, fun q => h4 q Q' hq⟩)
        | (obtain ⟨hl, x, y, r, t, h1, h2, h3, h4⟩ := k
           exact ⟨hl, x, y, r, t, h1, h2, fun q => h3 q Q' hq, fun q => h4 q Q' hq⟩)
        | (obtain ⟨hl, x, y, r, h1, h2, h3⟩ := k
           exact ⟨hl, x, y, r, h1, h2, h3 Q' hq⟩)
        | (obtain ⟨x, r, h1, h2, h3⟩ := k
           refine ⟨x, r, h1, fun q => ?_, fun q => ?_⟩
           · obtain ⟨t, h4, h5⟩ := h2 q
             exact ⟨t, h4, h5 Q' hq⟩
           · obtain ⟨off, t, h4, h5, h6⟩ := h3 q
             exact ⟨off, t, h4, h5, h6 Q' hq⟩)
        | (obtain ⟨x, r, t, h1, h2, h3, h4⟩ := k
           exact ⟨x, r, t, h1, h2, h3, h4 Q' hq⟩)
        | (obtain ⟨hl, id, r, n, f, h1, h2, h3, h4⟩ := k
           exact ⟨hl, id, r, n, f, h1, h2, h3, h4 Q' hq⟩)
        | (obtain ⟨hl, id, x, r, n, f, h1, h2, h3, h4, h5, h6, h7⟩ := k
           exact ⟨hl, id, x, r, n, f, h1, h2, h3, h4, h5, h6, h7 Q' hq⟩)
        | (obtain ⟨hl, id, i, r, n, f, h1, h2, h3, h4⟩ := k
           exact ⟨hl, id, i, r, n, f, h1, h2, h3, h4 Q' hq⟩)
        | (obtain ⟨hl, id, x, i, r, n, f, h1, h2, h3, h4⟩ := k
           exact ⟨hl, id, x, i, r, n, f, h1, h2, h3, h4 Q' hq⟩)
        | (obtain ⟨hl, id, i, r, n, f, j, h1, h2, h3, h4, h5⟩ := k
           exact ⟨hl, id, i, r, n, f, j, h1, h2, h3, h4, h5 Q' hq⟩)
        | (obtain ⟨hl, id, r, t, n, f, h1, h2, h3, h4⟩ := k
           exact ⟨hl, id, r, t, n, f, h1, h2, h3, h4 Q' hq⟩)
        | (obtain ⟨hl, as, rest, P, h1, h2, h3, h4, h5, h6, h7⟩ := k
           exact ⟨hl, as, rest, P, h1, h2, h3, h4, h5, h6 P (fun _ _ h => h), fun r d1 hp => h7 r d1 hp Q' hq⟩))
  exact key Q' hq
theorem ax_E_i {a : Nat} {as : List Value} {d : ax_D} {P P' : Int32 → ax_D → Prop} (h : ax_E a as d (ax_Pi P)) (hq : ∀ x d1, P x d1 → P' x d1) : ax_E a as d (ax_Pi P') := ax_W_mono h (fun _ _ ⟨x, e, hp⟩ => ⟨x, e, hq x _ hp⟩)
theorem ax_E_v {a : Nat} {as : List Value} {d : ax_D} {P P' : ax_D → Prop} (h : ax_E a as d (ax_Pv P)) (hq : ∀ d1, P d1 → P' d1) : ax_E a as d (ax_Pv P') := ax_W_mono h (fun _ _ ⟨e, hp⟩ => ⟨e, hq _ hp⟩)
