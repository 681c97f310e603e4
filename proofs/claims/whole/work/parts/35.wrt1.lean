/-! WRITING, the small words: places, numbers, letters; and the class's static methods. -/
def wd (m : Nat) : Nat := if m ≤ 1 then 0 else if m ≤ 2 then 1 else if m ≤ 4 then 2 else if m ≤ 8 then 3 else if m ≤ 16 then 4 else 5
theorem wd_5 (m : Nat) : wd m ≤ 5 := by unfold wd; (repeat' split) <;> omega
theorem wd_le {m b : Nat} (h : m ≤ 2 ^ b) (hb : b ≤ 5) : wd m ≤ b := by
  unfold wd
  match b, hb with
  | 0, _ => simp at h; simp [h]
  | 1, _ => simp at h; (repeat' split) <;> omega
  | 2, _ => simp at h; (repeat' split) <;> omega
  | 3, _ => simp at h; (repeat' split) <;> omega
  | 4, _ => simp at h; (repeat' split) <;> omega
  | 5, _ => (repeat' split) <;> omega
theorem wd_lt {m b : Nat} (h : ¬ m ≤ 2 ^ b) (hm : m ≤ 32) : b < wd m := by
  unfold wd
  match b with
  | 0 => simp at h; (repeat' split) <;> omega
  | 1 => simp at h; (repeat' split) <;> omega
  | 2 => simp at h; (repeat' split) <;> omega
  | 3 => simp at h; (repeat' split) <;> omega
  | 4 => simp at h; (repeat' split) <;> omega
  | b + 5 =>
    exfalso
    have : 2 ^ 5 ≤ 2 ^ (b + 5) := Nat.pow_le_pow_right (by decide) (by omega)
    omega
def nb (v : Nat) : List Nat := if v < 8 then pb 4 v else pb 4 (8 + v % 8) ++ pb 4 (v / 8)
def ltr : Nat → Nat → List Nat
  | 0, _ => []
  | f + 1, t => if t = 0 then [] else nb (t % 27) ++ ltr f (t / 27)
def lts (t : Nat) : List Nat := ltr 5 t
def clr : Nat → Nat → Nat
  | 0, _ => 0
  | f + 1, t => if t = 0 then 0 else 1 + clr f (t / 27)
def cl (t : Nat) : Nat := clr 5 t
theorem nb_len (v : Nat) : (nb v).length ≤ 8 := by unfold nb; split <;> simp [pb_len]
theorem ltr_len : ∀ f t, (ltr f t).length ≤ 8 * f
  | 0, _ => Nat.le_refl 0
  | f + 1, t => by
    unfold ltr
    split
    · exact Nat.zero_le _
    · have h1 := nb_len (t % 27)
      have h2 := ltr_len f (t / 27)
      rw [List.length_append]
      omega
theorem lts_len (t : Nat) : (lts t).length ≤ 40 := ltr_len 5 t
theorem clr_le : ∀ f t, clr f t ≤ f
  | 0, _ => Nat.le_refl 0
  | f + 1, t => by
    unfold clr
    split
    · exact Nat.zero_le _
    · have := clr_le f (t / 27)
      omega
theorem cl_le (t : Nat) : cl t ≤ 5 := clr_le 5 t
section ST
variable {d : ax_D} {l : List Nat}
theorem pb_loop {m : Nat} (hm : m ≤ 32) : ∀ n b, 6 - b < n → b ≤ wd m → ax_W 80 2 [some (.int (nI m)), some (.int (nI b))] [] d (ax_Pi fun y d1 => y = nI (wd m) ∧ d1 = d) := by
  have h5 := wd_5 m
  intro n
  induction n with
  | zero => intro b h0; omega
  | succ n ih =>
    intro b h0 hb
    have hsh : nI 1 <<< (nI b &&& 31) = nI (2 ^ b) := by
      rw [pk_shlN (nI b &&& 31) b (sh_amt b (by omega)) (by rw [Nat.one_mul]; exact Nat.lt_of_le_of_lt (Nat.pow_le_pow_right (by decide) (show b ≤ 5 by omega)) (by decide)), Nat.one_mul]
    have hp : 2 ^ b < 2 ^ 31 := Nat.pow_lt_pow_right (by decide) (by omega)
    refine wx_ildn j80_2 rfl ?_
    refine wx_bpsh (v := nI 30) j80_3 (by decide) ?_
    refine wx_cmp 21 j80_5 (by decide) (fun c5 => ?_) (fun c5 => ?_)
    · simp only [ax_cn, Classical.not_not] at c5
      exact absurd c5 (nI_ge (by omega) (by decide))
    · simp only [ax_cn, Classical.not_not] at c5
      refine wx_icst (v := nI 1) j80_8 (by decide) ?_
      refine wx_ildn j80_9 rfl ?_
      refine wx_ishl j80_10 ?_
      rw [hsh]
      refine wx_ildn j80_11 rfl ?_
      refine wx_cmp 21 j80_12 (by decide) (fun c12 => ?_) (fun c12 => ?_)
      · simp only [ax_cn, Classical.not_not] at c12
        have he : b = wd m := Nat.le_antisymm hb (wd_le ((nI_leI (by omega) hp).mp c12) (by omega))
        refine wx_ildn j80_21 rfl ?_
        refine wx_ri j80_22 rfl rfl ?_
        exact ⟨by rw [he], rfl⟩
      · simp only [ax_cn, Classical.not_not] at c12
        have he : b < wd m := wd_lt (fun q => c12 ((nI_leI (by omega) hp).mpr q)) hm
        refine wx_iinc (v := nI (b + 1)) (L' := [_, some (.int _)]) j80_15 rfl (nI_1 b) rfl ?_
        refine wx_goto 2 j80_18 (by decide) ?_
        exact ih (b + 1) (by omega) he
theorem sp_placeBits {m : Nat} (hm : m ≤ 32) : ax_E 80 [.int (nI m)] d (ax_Pi fun y d1 => y = nI (wd m) ∧ d1 = d) := by
  show ax_W 80 0 [some (.int (nI m)), none] [] d _
  refine wx_icst (v := nI 0) j80_0 (by decide) ?_
  refine wx_istn (L' := [_, some (.int _)]) j80_1 (Nat.le_of_ble_eq_true rfl) rfl ?_
  exact pb_loop hm 7 0 (by omega) (Nat.zero_le _)
theorem cl_loop {x : Int32} : ∀ f c t, c + f = 5 → t < 2 ^ 31 → ax_W 79 4 [some (.int x), some (.int (nI c)), some (.int (nI t))] [] d (ax_Pi fun y d1 => y = nI (c + clr f t) ∧ d1 = d) := by
  intro f
  induction f with
  | zero =>
    intro c t hc ht
    obtain rfl : c = 5 := by omega
    refine wx_ildn j79_4 rfl ?_
    refine wx_icst (v := nI 5) j79_5 (by decide) ?_
    refine wx_cmp 24 j79_6 (by decide) (fun c6 => ?_) (fun c6 => ?_)
    · simp only [ax_cn, Classical.not_not] at c6
      refine wx_ildn j79_24 rfl ?_
      refine wx_ri j79_25 rfl rfl ?_
      exact ⟨rfl, rfl⟩
    · simp only [ax_cn, Classical.not_not] at c6
      exact absurd (show nI 5 ≤ nI 5 by decide) c6
  | succ f ih =>
    intro c t hc ht
    refine wx_ildn j79_4 rfl ?_
    refine wx_icst (v := nI 5) j79_5 (by decide) ?_
    refine wx_cmp 24 j79_6 (by decide) (fun c6 => ?_) (fun c6 => ?_)
    · simp only [ax_cn, Classical.not_not] at c6
      exact absurd c6 (nI_ge (by omega) (by decide))
    · simp only [ax_cn, Classical.not_not] at c6
      refine wx_ildn j79_9 rfl ?_
      refine wx_if 24 j79_10 (by decide) (fun c10 => ?_) (fun c10 => ?_)
      · simp only [ax_cn, Classical.not_not] at c10
        have ht0 : t = 0 := Nat.eq_zero_of_not_pos (fun q => nI_nle q ht c10)
        refine wx_ildn j79_24 rfl ?_
        refine wx_ri j79_25 rfl rfl ?_
        exact ⟨by show nI c = nI (c + (if t = 0 then 0 else 1 + clr f (t / 27))); rw [if_pos ht0]; rfl, rfl⟩
      · simp only [ax_cn, Classical.not_not] at c10
        have ht0 : ¬ t = 0 := fun q => c10 (by rw [q]; decide)
        refine wx_ildn j79_13 rfl ?_
        refine wx_bpsh (v := nI 27) j79_14 (by decide) ?_
        refine wx_idiv j79_16 (by decide) ?_
        rw [pk_div ht (by decide) (by decide)]
        refine wx_istn (L' := [_, _, some (.int _)]) j79_17 (Nat.le_of_ble_eq_true rfl) rfl ?_
        refine wx_iinc (v := nI (c + 1)) (L' := [_, some (.int _), _]) j79_18 rfl (nI_1 c) rfl ?_
        refine wx_goto 4 j79_21 (by decide) ?_
        have h2 := ih (c + 1) (t / 27) (by omega) (Nat.lt_of_le_of_lt (Nat.div_le_self _ _) ht)
        have e : c + clr (f + 1) t = c + 1 + clr f (t / 27) := by show c + (if t = 0 then 0 else 1 + clr f (t / 27)) = _; rw [if_neg ht0]; omega
        rw [e]
        exact h2
theorem sp_countL {t : Nat} (ht : t < tB) : ax_E 79 [.int (nI t)] d (ax_Pi fun y d1 => y = nI (cl t) ∧ d1 = d) := by
  show ax_W 79 0 [some (.int (nI t)), none, none] [] d _
  refine wx_icst (v := nI 0) j79_0 (by decide) ?_
  refine wx_istn (L' := [_, some (.int _), _]) j79_1 (Nat.le_of_ble_eq_true rfl) rfl ?_
  refine wx_ildn j79_2 rfl ?_
  refine wx_istn (L' := [_, _, some (.int _)]) j79_3 (Nat.le_of_ble_eq_true rfl) rfl ?_
  have h2 := cl_loop (d := d) (x := nI t) 5 0 t rfl (tB_lt ht)
  rw [Nat.zero_add] at h2
  exact h2
theorem sp_codeOf {k n : Nat} : ax_E 82 [.int (nI k), .int (nI n)] d (ax_Pi fun y d1 => y = nI (n * 8 + k) ∧ d1 = d) := by
  show ax_W 82 0 [some (.int (nI k)), some (.int (nI n))] [] d _
  refine wx_ildn j82_0 rfl ?_
  refine wx_bpsh (v := nI 8) j82_1 (by decide) ?_
  refine wx_imul j82_3 ?_
  rw [pk_mul]
  refine wx_ildn j82_4 rfl ?_
  refine wx_iadd j82_5 ?_
  rw [nI_add]
  refine wx_ri j82_6 rfl rfl ?_
  exact ⟨rfl, rfl⟩
theorem sp_kindOf {c : Nat} (hc : c < 2 ^ 31) : ax_E 83 [.int (nI c)] d (ax_Pi fun y d1 => y = nI (c % 8) ∧ d1 = d) := by
  show ax_W 83 0 [some (.int (nI c))] [] d _
  refine wx_ildn j83_0 rfl ?_
  refine wx_bpsh (v := nI 8) j83_1 (by decide) ?_
  refine wx_irem j83_3 (by decide) ?_
  rw [pk_rem hc (by decide) (by decide)]
  refine wx_ri j83_4 rfl rfl ?_
  exact ⟨rfl, rfl⟩
theorem sp_nameOf {c : Nat} (hc : c < 2 ^ 31) : ax_E 84 [.int (nI c)] d (ax_Pi fun y d1 => y = nI (c / 8) ∧ d1 = d) := by
  show ax_W 84 0 [some (.int (nI c))] [] d _
  refine wx_ildn j84_0 rfl ?_
  refine wx_bpsh (v := nI 8) j84_1 (by decide) ?_
  refine wx_idiv j84_3 (by decide) ?_
  rw [pk_div hc (by decide) (by decide)]
  refine wx_ri j84_4 rfl rfl ?_
  exact ⟨rfl, rfl⟩
theorem sp_isNamed {k : Nat} (hk : k < 2 ^ 31) : ax_E 81 [.int (nI k)] d (ax_Pi fun y d1 => y = bB (decide (k = 1 ∨ k = 2)) ∧ d1 = d) := by
  show ax_W 81 0 [some (.int (nI k))] [] d _
  refine wx_ildn j81_0 rfl ?_
  refine wx_icst (v := nI 1) j81_1 (by decide) ?_
  refine wx_cmp 10 j81_2 (by decide) (fun c2 => ?_) (fun c2 => ?_)
  · simp only [ax_cn, Classical.not_not] at c2
    have e := (nI_eq hk (by decide)).mp c2
    refine wx_icst (v := nI 1) j81_10 (by decide) ?_
    refine wx_goto 15 j81_11 (by decide) ?_
    refine wx_ri j81_15 rfl rfl ?_
    exact ⟨by rw [decide_eq_true (Or.inl e)]; rfl, rfl⟩
  · simp only [ax_cn, Classical.not_not] at c2
    have e : ¬ k = 1 := fun q => c2 (by rw [q])
    refine wx_ildn j81_5 rfl ?_
    refine wx_icst (v := nI 2) j81_6 (by decide) ?_
    refine wx_cmp 14 j81_7 (by decide) (fun c7 => ?_) (fun c7 => ?_)
    · simp only [ax_cn, Classical.not_not] at c7
      have e2 : ¬ k = 2 := fun q => c7 (by rw [q])
      refine wx_icst (v := nI 0) j81_14 (by decide) ?_
      refine wx_ri j81_15 rfl rfl ?_
      exact ⟨by rw [decide_eq_false (fun q => q.elim e e2)]; rfl, rfl⟩
    · simp only [ax_cn, Classical.not_not] at c7
      have e2 := (nI_eq hk (by decide)).mp c7
      refine wx_icst (v := nI 1) j81_10 (by decide) ?_
      refine wx_goto 15 j81_11 (by decide) ?_
      refine wx_ri j81_15 rfl rfl ?_
      exact ⟨by rw [decide_eq_true (Or.inr e2)]; rfl, rfl⟩
/-- digits to the base of 27, none of them 0, at most f -/
def dz : Nat → Nat → Bool
  | 0, t => decide (t = 0)
  | f + 1, t => decide (t = 0) || (decide (t % 27 ≠ 0) && dz f (t / 27))
/-- a text -/
def tx (x : Int32) : Bool := decide (¬ x < 0) && dz 5 x.toNatClampNeg
theorem dz_lt : ∀ f t, dz f t = true → t < 27 ^ f
  | 0, t, h => by have := of_decide_eq_true h; omega
  | f + 1, t, h => by
    unfold dz at h
    rw [Bool.or_eq_true, Bool.and_eq_true] at h
    rcases h with h | h
    · have := of_decide_eq_true h
      rw [this]
      exact Nat.pow_pos (by decide)
    · have h1 := dz_lt f (t / 27) h.2
      rw [Nat.pow_succ]
      omega
theorem tx_of {x : Int32} (h : tx x = true) : ∃ t, t < tB ∧ x = nI t ∧ dz 5 t = true := by
  unfold tx at h
  rw [Bool.and_eq_true] at h
  obtain ⟨j, hj, rfl⟩ := nI_of (of_decide_eq_true h.1)
  have h2 := h.2
  rw [nI_clamp hj] at h2
  exact ⟨j, dz_lt 5 j h2, rfl, h2⟩
theorem tx_nI {t : Nat} (ht : t < 2 ^ 31) : tx (nI t) = dz 5 t := by
  unfold tx
  rw [decide_eq_true (nI_pos ht), nI_clamp ht]
  rfl
theorem it_loop {x : Int32} : ∀ f c t, c + f = 5 → t < 2 ^ 31 → ax_W 77 4 [some (.int x), some (.int (nI t)), some (.int (nI c))] [] d (ax_Pi fun y d1 => y = bB (dz f t) ∧ d1 = d) := by
  intro f
  induction f with
  | zero =>
    intro c t hc ht
    obtain rfl : c = 5 := by omega
    refine wx_ildn j77_4 rfl ?_
    refine wx_icst (v := nI 5) j77_5 (by decide) ?_
    refine wx_cmp 33 j77_6 (by decide) (fun c6 => ?_) (fun c6 => ?_)
    · simp only [ax_cn, Classical.not_not] at c6
      refine wx_ildn j77_33 rfl ?_
      refine wx_if 41 j77_34 (by decide) (fun c34 => ?_) (fun c34 => ?_)
      · simp only [ax_cn, Classical.not_not] at c34
        have e : ¬ t = 0 := fun q => c34 (by rw [q]; rfl)
        refine wx_icst (v := nI 0) j77_41 (by decide) ?_
        refine wx_ri j77_42 rfl rfl ?_
        exact ⟨by unfold dz; rw [decide_eq_false e]; rfl, rfl⟩
      · simp only [ax_cn, Classical.not_not] at c34
        have e : t = 0 := (nI_eq ht (by decide)).mp (c34.trans nI_0.symm)
        refine wx_icst (v := nI 1) j77_37 (by decide) ?_
        refine wx_goto 42 j77_38 (by decide) ?_
        refine wx_ri j77_42 rfl rfl ?_
        exact ⟨by unfold dz; rw [decide_eq_true e]; rfl, rfl⟩
    · simp only [ax_cn, Classical.not_not] at c6
      exact absurd (show nI 5 ≤ nI 5 by decide) c6
  | succ f ih =>
    intro c t hc ht
    refine wx_ildn j77_4 rfl ?_
    refine wx_icst (v := nI 5) j77_5 (by decide) ?_
    refine wx_cmp 33 j77_6 (by decide) (fun c6 => ?_) (fun c6 => ?_)
    · simp only [ax_cn, Classical.not_not] at c6
      exact absurd c6 (nI_ge (by omega) (by decide))
    · simp only [ax_cn, Classical.not_not] at c6
      refine wx_ildn j77_9 rfl ?_
      refine wx_if 33 j77_10 (by decide) (fun c10 => ?_) (fun c10 => ?_)
      · simp only [ax_cn, Classical.not_not] at c10
        have ht0 : t = 0 := Nat.eq_zero_of_not_pos (fun q => nI_nle q ht c10)
        refine wx_ildn j77_33 rfl ?_
        refine wx_if 41 j77_34 (by decide) (fun c34 => ?_) (fun c34 => ?_)
        · simp only [ax_cn, Classical.not_not] at c34
          exact absurd (show nI t = 0 by rw [ht0]; rfl) c34
        · simp only [ax_cn, Classical.not_not] at c34
          refine wx_icst (v := nI 1) j77_37 (by decide) ?_
          refine wx_goto 42 j77_38 (by decide) ?_
          refine wx_ri j77_42 rfl rfl ?_
          exact ⟨by show nI 1 = bB (decide (t = 0) || (decide (t % 27 ≠ 0) && dz f (t / 27))); rw [decide_eq_true ht0]; rfl, rfl⟩
      · simp only [ax_cn, Classical.not_not] at c10
        have ht0 : ¬ t = 0 := fun q => c10 (by rw [q]; decide)
        refine wx_ildn j77_13 rfl ?_
        refine wx_bpsh (v := nI 27) j77_14 (by decide) ?_
        refine wx_irem j77_16 (by decide) ?_
        rw [pk_rem ht (by decide) (by decide)]
        refine wx_if 22 j77_17 (by decide) (fun c17 => ?_) (fun c17 => ?_)
        · simp only [ax_cn, Classical.not_not] at c17
          have hr : ¬ t % 27 = 0 := fun q => c17 (by rw [q]; rfl)
          refine wx_ildn j77_22 rfl ?_
          refine wx_bpsh (v := nI 27) j77_23 (by decide) ?_
          refine wx_idiv j77_25 (by decide) ?_
          rw [pk_div ht (by decide) (by decide)]
          refine wx_istn (L' := [_, some (.int _), _]) j77_26 (Nat.le_of_ble_eq_true rfl) rfl ?_
          refine wx_iinc (v := nI (c + 1)) (L' := [_, _, some (.int _)]) j77_27 rfl (nI_1 c) rfl ?_
          refine wx_goto 4 j77_30 (by decide) ?_
          have h2 := ih (c + 1) (t / 27) (by omega) (Nat.lt_of_le_of_lt (Nat.div_le_self _ _) ht)
          have e : dz (f + 1) t = dz f (t / 27) := by show (decide (t = 0) || (decide (t % 27 ≠ 0) && dz f (t / 27))) = _; rw [decide_eq_false ht0, decide_eq_true hr]; rfl
          rw [e]
          exact h2
        · simp only [ax_cn, Classical.not_not] at c17
          have hr : t % 27 = 0 := (nI_eq (by omega) (by decide)).mp (c17.trans nI_0.symm)
          refine wx_icst (v := nI 0) j77_20 (by decide) ?_
          refine wx_ri j77_21 rfl rfl ?_
          exact ⟨by show nI 0 = bB (decide (t = 0) || (decide (t % 27 ≠ 0) && dz f (t / 27))); rw [decide_eq_false ht0, decide_eq_false (fun q => q hr)]; rfl, rfl⟩
theorem sp_isText {x : Int32} : ax_E 77 [.int x] d (ax_Pi fun y d1 => y = bB (tx x) ∧ d1 = d) := by
  show ax_W 77 0 [some (.int x), none, none] [] d _
  refine wx_ildn j77_0 rfl ?_
  refine wx_istn (L' := [_, some (.int _), _]) j77_1 (Nat.le_of_ble_eq_true rfl) rfl ?_
  refine wx_icst (v := nI 0) j77_2 (by decide) ?_
  refine wx_istn (L' := [_, _, some (.int _)]) j77_3 (Nat.le_of_ble_eq_true rfl) rfl ?_
  by_cases hx : x < 0
  · refine wx_ildn j77_4 rfl ?_
    refine wx_icst (v := nI 5) j77_5 (by decide) ?_
    refine wx_cmp 33 j77_6 (by decide) (fun c6 => ?_) (fun c6 => ?_)
    · exact absurd (show nI 5 ≤ nI 0 from c6) (by decide)
    · refine wx_ildn j77_9 rfl ?_
      refine wx_if 33 j77_10 (by decide) (fun c10 => ?_) (fun c10 => ?_)
      · refine wx_ildn j77_33 rfl ?_
        refine wx_if 41 j77_34 (by decide) (fun c34 => ?_) (fun c34 => ?_)
        · refine wx_icst (v := nI 0) j77_41 (by decide) ?_
          refine wx_ri j77_42 rfl rfl ?_
          exact ⟨by unfold tx; rw [decide_eq_false (fun q => q hx)]; rfl, rfl⟩
        · simp only [ax_cn, Classical.not_not] at c34
          rw [c34] at hx
          exact absurd hx (by decide)
      · simp only [ax_cn] at c10
        exact absurd (Int32.le_of_lt hx) c10
  · obtain ⟨t, ht, rfl⟩ := nI_of hx
    rw [tx_nI ht]
    exact it_loop 5 0 t rfl ht
theorem sp_isName {x y : Int32} : ax_E 78 [.int x, .int y] d (ax_Pi fun z d1 => z = bB (tx x && (tx y && decide (y ≠ 0))) ∧ d1 = d) := by
  show ax_W 78 0 [some (.int x), some (.int y)] [] d _
  refine wx_ildn j78_0 rfl ?_
  refine wx_t1 j78_1 rfl rfl (Nat.le_of_ble_eq_true rfl) (sp_isText) ?_
  rintro _ d9 ⟨rfl, h9⟩
  obtain rfl := h9.symm
  refine wx_if 22 j78_4 (by decide) (fun c4 => ?_) (fun c4 => ?_)
  · simp only [ax_cn, Classical.not_not] at c4
    have e1 := bB_0.mp c4
    refine wx_icst (v := nI 0) j78_22 (by decide) ?_
    refine wx_ri j78_23 rfl rfl ?_
    exact ⟨by rw [e1]; rfl, rfl⟩
  · simp only [ax_cn, Classical.not_not] at c4
    have e1 := bB_1.mp c4
    refine wx_ildn j78_7 rfl ?_
    refine wx_t1 j78_8 rfl rfl (Nat.le_of_ble_eq_true rfl) (sp_isText) ?_
    rintro _ d9 ⟨rfl, h9⟩
    obtain rfl := h9.symm
    refine wx_if 22 j78_11 (by decide) (fun c11 => ?_) (fun c11 => ?_)
    · simp only [ax_cn, Classical.not_not] at c11
      have e2 := bB_0.mp c11
      refine wx_icst (v := nI 0) j78_22 (by decide) ?_
      refine wx_ri j78_23 rfl rfl ?_
      exact ⟨by rw [e1, e2]; rfl, rfl⟩
    · simp only [ax_cn, Classical.not_not] at c11
      have e2 := bB_1.mp c11
      refine wx_ildn j78_14 rfl ?_
      refine wx_if 22 j78_15 (by decide) (fun c15 => ?_) (fun c15 => ?_)
      · simp only [ax_cn, Classical.not_not] at c15
        refine wx_icst (v := nI 0) j78_22 (by decide) ?_
        refine wx_ri j78_23 rfl rfl ?_
        exact ⟨by rw [e1, e2, decide_eq_false (fun q => q c15)]; rfl, rfl⟩
      · simp only [ax_cn, Classical.not_not] at c15
        refine wx_icst (v := nI 1) j78_18 (by decide) ?_
        refine wx_goto 23 j78_19 (by decide) ?_
        refine wx_ri j78_23 rfl rfl ?_
        exact ⟨by rw [e1, e2, decide_eq_true c15]; rfl, rfl⟩
end ST
