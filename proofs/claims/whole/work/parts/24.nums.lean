/-! Arrays by a place that is a small number; the shapes of the rows. -/
section WN
variable {mi pc a b id n : Nat} {f : Nat → ax_X} {L : ax_L1} {r : List Value} {d : ax_D} {Q : ax_Po} {i x : Int32}
theorem wx_ialx (k : Nat) (h : ax_in mi pc = some (.iaload, 1, a, b)) (hs : ax_sh id = some (0, n, f)) (hi : i = nI k) (hk : k < n) (hn : n < 2 ^ 31) (kk : ax_W mi (pc + 1) L (.int (d id k) :: r) d Q) : ax_W mi pc L (.int i :: .ref id :: r) d Q := by
  subst hi
  refine wx_iald h hs (vp_in_nI hk hn) ?_
  rw [nI_clamp (by omega)]
  exact kk
theorem wx_balx (k : Nat) (h : ax_in mi pc = some (.baload, 1, a, b)) (hs : ax_sh id = some (1, n, f)) (hi : i = nI k) (hk : k < n) (hn : n < 2 ^ 31) (kk : ax_W mi (pc + 1) L (.int (d id k) :: r) d Q) : ax_W mi pc L (.int i :: .ref id :: r) d Q := by
  subst hi
  refine wx_bald h hs (vp_in_nI hk hn) ?_
  rw [nI_clamp (by omega)]
  exact kk
theorem wx_iasx (k : Nat) (h : ax_in mi pc = some (.iastore, 1, a, b)) (hs : ax_sh id = some (0, n, f)) (hi : i = nI k) (hk : k < n) (hn : n < 2 ^ 31) (kk : ax_W mi (pc + 1) L r (ax_up d id k x) Q) : ax_W mi pc L (.int x :: .int i :: .ref id :: r) d Q := by
  subst hi
  refine wx_iast h hs (vp_in_nI hk hn) ?_
  rw [nI_clamp (by omega)]
  exact kk
theorem wx_basx (k : Nat) (h : ax_in mi pc = some (.bastore, 1, a, b)) (hs : ax_sh id = some (1, n, f)) (hi : i = nI k) (hk : k < n) (hn : n < 2 ^ 31) (kk : ax_W mi (pc + 1) L r (ax_up d id k (x &&& 1)) Q) : ax_W mi pc L (.int x :: .int i :: .ref id :: r) d Q := by
  subst hi
  refine wx_bast h hs (vp_in_nI hk hn) ?_
  rw [nI_clamp (by omega)]
  exact kk
theorem wx_aalx (k : Nat) {j : Nat} (h : ax_in mi pc = some (.aaload, 1, a, b)) (hs : ax_sh id = some (3, n, f)) (hi : i = nI k) (hk : k < n) (hn : n < 2 ^ 31) (hf : f k = .inl j) (kk : ax_W mi (pc + 1) L (.ref j :: r) d Q) : ax_W mi pc L (.int i :: .ref id :: r) d Q := by
  subst hi
  exact wx_aald h hs (vp_in_nI hk hn) (by rw [nI_clamp (by omega)]; exact hf) kk
end WN
theorem nr_le (r : Nat) : ax_nr r ≤ 20 := by unfold ax_nr; split <;> omega
theorem nr_pos (r : Nat) : 0 < ax_nr r := by unfold ax_nr; split <;> omega
theorem rm_le (r : Nat) : ax_rm r ≤ 20 := by unfold ax_rm; split <;> omega
theorem rm_pos (r : Nat) : 5 ≤ ax_rm r := by unfold ax_rm; split <;> omega
theorem nr_lt (r : Nat) : ax_nr r < 2 ^ 31 := Nat.lt_of_le_of_lt (nr_le r) (by decide)
theorem rm_lt (r : Nat) : ax_rm r < 2 ^ 31 := Nat.lt_of_le_of_lt (rm_le r) (by decide)
theorem sh_ro {r : Nat} (h : r < 16) : ax_sh (32 * r) = some (8, 3, ax_of [.inl (32 * r + 1), .inl (32 * r + 2), .inr (some (nI (ax_rm r)))]) := by
  unfold ax_sh
  rw [if_pos (by omega), show 32 * r / 32 = r by omega, show 32 * r % 32 = 0 by omega]
  rfl
theorem sh_ri {r : Nat} (h : r < 16) : ax_sh (32 * r + 1) = some (3, ax_nr r, fun k => .inl (32 * r + 3 + k)) := by
  unfold ax_sh
  rw [if_pos (by omega), show (32 * r + 1) / 32 = r by omega, show (32 * r + 1) % 32 = 1 by omega]
  rfl
theorem sh_rs {r : Nat} (h : r < 16) : ax_sh (32 * r + 2) = some (0, ax_nr r, ax_dt) := by
  unfold ax_sh
  rw [if_pos (by omega), show (32 * r + 2) / 32 = r by omega, show (32 * r + 2) % 32 = 2 by omega]
  rfl
theorem sh_rr {r k : Nat} (h : r < 16) (hk : k < ax_nr r) : ax_sh (32 * r + 3 + k) = some (0, ax_rm r, ax_dt) := by
  have h1 := nr_le r
  unfold ax_sh
  rw [if_pos (by omega), show (32 * r + 3 + k) / 32 = r by omega, show (32 * r + 3 + k) % 32 = 3 + k by omega]
  unfold ax_rw
  rw [if_neg (by omega), if_neg (by omega), if_neg (by omega), if_pos (by omega)]
theorem up_at (d : ax_D) (id k : Nat) (x : Int32) : ax_up d id k x id k = x := by rw [ax_up_at]; simp [upd]
theorem up_nk {d : ax_D} {id k j : Nat} {x : Int32} (h : j ≠ k) : ax_up d id k x id j = d id j := by rw [ax_up_at]; simp [upd, h]
theorem up_ni {d : ax_D} {id k i j : Nat} {x : Int32} (h : i ≠ id) : ax_up d id k x i j = d i j := by rw [ax_up_ne h]
theorem up_ap (d : ax_D) (id k i j : Nat) (x : Int32) : ax_up d id k x i j = if i = id ∧ j = k then x else d i j := by
  by_cases h : i = id
  · subst h
    by_cases h2 : j = k
    · subst h2; rw [up_at, if_pos ⟨rfl, rfl⟩]
    · rw [up_nk h2, if_neg (fun q => h2 q.2)]
  · rw [up_ni h, if_neg (fun q => h q.1)]
