/-! READING, the small words: bits, places, numbers, letters. 'sl': the stream's bits; 't': how many are taken; an answer none: it is wrong there. -/
def rB (sl : List Nat) : Nat → Nat → Nat → Option Nat × Nat
  | 0, acc, t => (some acc, t)
  | w + 1, acc, t => if t < sl.length then rB sl w (acc * 2 + sl.getD t 0) (t + 1) else (none, t)
def rP (sl : List Nat) (m t : Nat) : Option Nat × Nat := match rB sl (wd m) 0 t with
  | (some v, t1) => if v < m then (some v, t1) else (none, t1)
  | (none, t1) => (none, t1)
def rN (sl : List Nat) : Nat → Nat → Nat → Nat → Option Nat × Nat
  | 0, _, _, t => (none, t)
  | g + 1, x, w, t => match rB sl 4 0 t with
    | (none, t1) => (none, t1)
    | (some v, t1) => if v < 8 then (some (x + w * (v % 8)), t1) else rN sl g (x + w * (v % 8)) (w * 8) t1
def rNum (sl : List Nat) (t : Nat) : Option Nat × Nat := rN sl 4 0 1 t
def rLr (sl : List Nat) : Nat → Nat → Nat → Nat → Option Nat × Nat
  | 0, x, _, t => (some x, t)
  | k + 1, x, w, t => match rNum sl t with
    | (none, t1) => (none, t1)
    | (some c, t1) => if 1 ≤ c ∧ c < 27 then rLr sl k (x + c * w) (w * 27) t1 else (none, t1)
def rL (sl : List Nat) (n t : Nat) : Option Nat × Nat := if n ≤ 5 then rLr sl n 0 1 t else (none, t)
theorem rB_t {sl : List Nat} : ∀ w acc t, t ≤ sl.length → t ≤ (rB sl w acc t).2 ∧ (rB sl w acc t).2 ≤ sl.length
  | 0, _, t, h => ⟨Nat.le_refl t, h⟩
  | w + 1, acc, t, h => by
    unfold rB
    split
    · rename_i h1
      have := rB_t (sl := sl) w (acc * 2 + sl.getD t 0) (t + 1) h1
      exact ⟨by omega, this.2⟩
    · exact ⟨Nat.le_refl t, h⟩
theorem getD_lt2 {sl : List Nat} (hb : ∀ e, e ∈ sl → e < 2) (t : Nat) : sl.getD t 0 < 2 := by
  by_cases h : t < sl.length
  · exact hb _ (getD_mem h)
  · rw [List.getD_eq_getElem?_getD, List.getElem?_eq_none (by omega)]
    decide
theorem rB_v {sl : List Nat} (hb : ∀ e, e ∈ sl → e < 2) : ∀ w acc t v, (rB sl w acc t).1 = some v → v < (acc + 1) * 2 ^ w
  | 0, acc, t, v, h => by
    unfold rB at h
    cases h
    omega
  | w + 1, acc, t, v, h => by
    unfold rB at h
    split at h
    · have h1 := rB_v hb w _ _ v h
      have h2 := getD_lt2 hb t
      have h3 : (acc * 2 + sl.getD t 0 + 1) * 2 ^ w ≤ (acc * 2 + 2) * 2 ^ w := Nat.mul_le_mul_right _ (by omega)
      have h4 : (acc * 2 + 2) * 2 ^ w = (acc + 1) * 2 ^ (w + 1) := by rw [Nat.pow_succ, show acc * 2 + 2 = (acc + 1) * 2 by omega, Nat.mul_assoc, Nat.mul_comm 2]
      omega
    · cases h
theorem rP_t {sl : List Nat} {m t : Nat} (h : t ≤ sl.length) : t ≤ (rP sl m t).2 ∧ (rP sl m t).2 ≤ sl.length := by
  have h1 := rB_t (wd m) 0 t h
  unfold rP
  split
  · rename_i e; rw [e] at h1; split <;> exact h1
  · rename_i e; rw [e] at h1; exact h1
theorem rP_v {sl : List Nat} {m t v : Nat} (h : (rP sl m t).1 = some v) : v < m := by
  unfold rP at h
  split at h
  · split at h
    · cases h; assumption
    · cases h
  · cases h
theorem rN_t {sl : List Nat} : ∀ g x w t, t ≤ sl.length → t ≤ (rN sl g x w t).2 ∧ (rN sl g x w t).2 ≤ sl.length
  | 0, _, _, t, h => ⟨Nat.le_refl t, h⟩
  | g + 1, x, w, t, h => by
    have h1 := rB_t 4 0 t h
    unfold rN
    split
    · rename_i e; rw [e] at h1; exact h1
    · rename_i v t1 e
      rw [e] at h1
      split
      · exact h1
      · have h2 := rN_t (sl := sl) g (x + w * (v % 8)) (w * 8) t1 h1.2
        exact ⟨Nat.le_trans h1.1 h2.1, h2.2⟩
theorem rN_v {sl : List Nat} : ∀ g x w t v, (rN sl g x w t).1 = some v → v + w ≤ x + w * 8 ^ g
  | 0, _, _, _, _, h => by cases h
  | g + 1, x, w, t, v, h => by
    unfold rN at h
    split at h
    · cases h
    · rename_i u t1 e
      have hu : u % 8 ≤ 7 := by omega
      have h5 : w * (u % 8) ≤ w * 7 := Nat.mul_le_mul_left _ hu
      have h6 : w * 8 ^ (g + 1) = w * 8 * 8 ^ g := by rw [Nat.pow_succ, Nat.mul_comm (8 ^ g), Nat.mul_assoc]
      split at h
      · cases h
        have h7 : w * 8 * 1 ≤ w * 8 * 8 ^ g := Nat.mul_le_mul_left _ (Nat.pow_pos (by decide))
        omega
      · have h1 := rN_v g _ _ _ v h
        omega
theorem rNum_v {sl : List Nat} {t v : Nat} (h : (rNum sl t).1 = some v) : v < 4096 := by
  have := rN_v 4 0 1 t v h
  omega
theorem rNum_t {sl : List Nat} {t : Nat} (h : t ≤ sl.length) : t ≤ (rNum sl t).2 ∧ (rNum sl t).2 ≤ sl.length := rN_t 4 0 1 t h
theorem rLr_t {sl : List Nat} : ∀ k x w t, t ≤ sl.length → t ≤ (rLr sl k x w t).2 ∧ (rLr sl k x w t).2 ≤ sl.length
  | 0, _, _, t, h => ⟨Nat.le_refl t, h⟩
  | k + 1, x, w, t, h => by
    have h1 := rNum_t h
    unfold rLr
    split
    · rename_i e; rw [e] at h1; exact h1
    · rename_i c t1 e
      rw [e] at h1
      split
      · have h2 := rLr_t (sl := sl) k (x + c * w) (w * 27) t1 h1.2
        exact ⟨Nat.le_trans h1.1 h2.1, h2.2⟩
      · exact h1
theorem rLr_v {sl : List Nat} : ∀ k x w t v, (rLr sl k x w t).1 = some v → v + w ≤ x + w * 27 ^ k
  | 0, x, w, _, v, h => by cases h; rw [Nat.pow_zero]; omega
  | k + 1, x, w, t, v, h => by
    unfold rLr at h
    split at h
    · cases h
    · rename_i c t1 e
      split at h
      · rename_i hc
        have h1 := rLr_v k _ _ _ v h
        have h5 : c * w ≤ 26 * w := Nat.mul_le_mul_right _ (by omega)
        have h6 : w * 27 ^ (k + 1) = w * 27 * 27 ^ k := by rw [Nat.pow_succ, Nat.mul_comm (27 ^ k), Nat.mul_assoc]
        omega
      · cases h
theorem rL_t {sl : List Nat} {n t : Nat} (h : t ≤ sl.length) : t ≤ (rL sl n t).2 ∧ (rL sl n t).2 ≤ sl.length := by
  unfold rL
  split
  · exact rLr_t n 0 1 t h
  · exact ⟨Nat.le_refl t, h⟩
theorem rL_v {sl : List Nat} {n t v : Nat} (h : (rL sl n t).1 = some v) : v < tB := by
  unfold rL at h
  split at h
  · rename_i hn
    have h1 := rLr_v n 0 1 t v h
    have h2 : 27 ^ n ≤ 27 ^ 5 := Nat.pow_le_pow_right (by decide) hn
    have h3 : (27 : Nat) ^ 5 = tB := by decide
    omega
  · cases h
section R1
variable {d : ax_D} {sl : List Nat} {t : Nat}
/-- nothing but 'taken' has changed -/
def tk (d d1 : ax_D) : Prop := ∀ id, id ≠ 514 → d1 id = d id
theorem tk_rf (d : ax_D) : tk d d := fun _ _ => rfl
theorem tk_tr {d1 d2 : ax_D} (h : tk d d1) (h2 : tk d1 d2) : tk d d2 := fun id a => (h2 id a).trans (h id a)
theorem bt_tk {d1 : ax_D} (h : bt_is d 517 sl) (hf : tk d d1) : bt_is d1 517 sl := bt_keep h (hf 517 (by decide)) (hf 518 (by decide))
theorem tb_tk {d1 : ax_D} {T : TT} (h : tb_is d 1 T) (hf : tk d d1) : tb_is d1 1 T := tb_same h (fun id hi => hf id (by omega)) (by decide)
theorem gr_tk {d1 : ax_D} {n : Nat} {nm : Nat → Nat} {fl : Nat → Bool} {b : Bool} (h : gr_is d 1 n nm fl b) (hf : tk d d1) : gr_is d1 1 n nm fl b := gr_keep h (hf 522 (by decide)) (hf 524 (by decide)) (hf 526 (by decide))
theorem nI_m1 {m : Nat} (h : m < 2 ^ 31) : ¬ nI m ≤ -1 := fun q => by
  have h1 : (0 : Int32) ≤ nI m := nI_pos' h
  exact absurd (Int32.le_trans h1 q) (by decide)
theorem tb_loop {W : Nat} (hb : bt_is d 517 sl) : ∀ w i acc t (d1 : ax_D), i + w = W → W ≤ 5 → acc < 2 ^ i → t ≤ sl.length → d1 514 4 = nI t → tk d d1 → ax_W 40 4 [some (.ref 514), some (.int (nI W)), some (.int (nI acc)), some (.int (nI i))] [] d1 (ax_Pi fun y d2 => y = oi (rB sl w acc t).1 ∧ d2 514 4 = nI (rB sl w acc t).2 ∧ tk d d2) := by
  have hl := hb.1
  intro w
  induction w with
  | zero =>
    intro i acc t d1 hi hW ha ht h4 hf
    obtain rfl : i = W := by omega
    refine wx_ildn j40_4 rfl ?_
    refine wx_ildn j40_5 rfl ?_
    refine wx_cmp 73 j40_6 (by decide) (fun c6 => ?_) (fun c6 => ?_)
    · simp only [ax_cn, Classical.not_not] at c6
      refine wx_ildn j40_73 rfl ?_
      refine wx_ri j40_74 rfl rfl ?_
      exact ⟨rfl, h4, hf⟩
    · simp only [ax_cn, Classical.not_not] at c6
      exact absurd (Int32.le_refl _) c6
  | succ w ih =>
    intro i acc t d1 hi hW ha ht h4 hf
    have hi5 : 2 ^ i ≤ 2 ^ 5 := Nat.pow_le_pow_right (by decide) (by omega)
    have e1 : d1 517 1 = nI sl.length := by rw [hf 517 (by decide)]; exact hb.2.1
    refine wx_ildn j40_4 rfl ?_
    refine wx_ildn j40_5 rfl ?_
    refine wx_cmp 73 j40_6 (by decide) (fun c6 => ?_) (fun c6 => ?_)
    · simp only [ax_cn, Classical.not_not] at c6
      exact absurd c6 (nI_ge (by omega) (by omega))
    · simp only [ax_cn, Classical.not_not] at c6
      refine wx_aldn j40_9 rfl ?_
      refine wx_get (v := .int _) j40_10 rfl (Nat.le_of_ble_eq_true rfl) rfl ?_
      rw [h4]
      refine wx_aldn j40_13 rfl ?_
      refine wx_get (v := .ref _) j40_14 rfl (Nat.le_of_ble_eq_true rfl) rfl ?_
      refine wx_get (v := .int _) j40_17 rfl (Nat.le_of_ble_eq_true rfl) rfl ?_
      rw [e1]
      refine wx_cmp 38 j40_20 (by decide) (fun c20 => ?_) (fun c20 => ?_)
      · simp only [ax_cn, Classical.not_not] at c20
        have hge : ¬ t < sl.length := Nat.not_lt.mpr ((nI_leI (by omega) (by omega)).mp c20)
        have er : rB sl (w + 1) acc t = (none, t) := by show (if t < sl.length then _ else _) = _; rw [if_neg hge]
        rw [er]
        refine wx_icst (v := (-1)) j40_38 (by decide) ?_
        refine wx_ri j40_39 rfl rfl ?_
        exact ⟨rfl, h4, hf⟩
      · simp only [ax_cn, Classical.not_not] at c20
        have hlt : t < sl.length := Nat.not_le.mp (fun q => c20 ((nI_leI (by omega) (by omega)).mpr q))
        have er : rB sl (w + 1) acc t = rB sl w (acc * 2 + sl.getD t 0) (t + 1) := by show (if t < sl.length then _ else _) = _; rw [if_pos hlt]
        rw [er]
        refine wx_aldn j40_23 rfl ?_
        refine wx_get (v := .int _) j40_24 rfl (Nat.le_of_ble_eq_true rfl) rfl ?_
        rw [h4]
        refine wx_aldn j40_27 rfl ?_
        refine wx_get (v := .ref _) j40_28 rfl (Nat.le_of_ble_eq_true rfl) rfl ?_
        refine wx_get (v := .ref _) j40_31 rfl (Nat.le_of_ble_eq_true rfl) rfl ?_
        refine wx_alen j40_34 rfl (Nat.le_of_ble_eq_true rfl) ?_
        refine wx_cmp 40 j40_35 (by decide) (fun c35 => ?_) (fun c35 => ?_)
        · simp only [ax_cn, Classical.not_not] at c35
          refine wx_ildn j40_40 rfl ?_
          refine wx_icst (v := nI 2) j40_41 (by decide) ?_
          refine wx_imul j40_42 ?_
          rw [pk_mul]
          refine wx_aldn j40_43 rfl ?_
          refine wx_get (v := .ref _) j40_44 rfl (Nat.le_of_ble_eq_true rfl) rfl ?_
          refine wx_get (v := .ref _) j40_47 rfl (Nat.le_of_ble_eq_true rfl) rfl ?_
          refine wx_aldn j40_50 rfl ?_
          refine wx_get (v := .int _) j40_51 rfl (Nat.le_of_ble_eq_true rfl) rfl ?_
          rw [h4]
          refine wx_ialx (t) j40_54 rfl rfl (by omega) (by decide) ?_
          rw [show d1 518 t = nI (sl.getD t 0) by rw [hf 518 (by decide)]; exact hb.2.2.1 t hlt]
          refine wx_iadd j40_55 ?_
          rw [nI_add]
          refine wx_istn (L' := [_, _, some (.int _), _]) j40_56 (Nat.le_of_ble_eq_true rfl) rfl ?_
          refine wx_aldn j40_57 rfl ?_
          refine wx_dupr j40_58 ?_
          refine wx_get (v := .int _) j40_59 rfl (Nat.le_of_ble_eq_true rfl) rfl ?_
          rw [h4]
          refine wx_icst (v := nI 1) j40_62 (by decide) ?_
          refine wx_iadd j40_63 ?_
          rw [nI_add]
          refine wx_put j40_64 rfl (Nat.le_of_ble_eq_true rfl) rfl rfl rfl ?_
          refine wx_iinc (v := nI (i + 1)) (L' := [_, _, _, some (.int _)]) j40_67 rfl (nI_1 i) rfl ?_
          refine wx_goto 4 j40_70 (by decide) ?_
          refine ih (i + 1) _ (t + 1) _ (by omega) hW ?_ hlt (up_at _ _ _ _) (fun id h2 => by rw [ax_up_ne h2]; exact hf id h2)
          have := getD_lt2 hb.2.2.2 t
          rw [Nat.pow_succ]
          omega
        · simp only [ax_cn, Classical.not_not] at c35
          exact absurd (nI_lt (show t < 4000 by omega) (by decide)) c35
theorem sp_takeBits {W : Nat} (hb : bt_is d 517 sl) (h4 : d 514 4 = nI t) (ht : t ≤ sl.length) (hW : W ≤ 5) : ax_E 40 [.ref 514, .int (nI W)] d (ax_Pi fun y d1 => y = oi (rB sl W 0 t).1 ∧ d1 514 4 = nI (rB sl W 0 t).2 ∧ tk d d1) := by
  show ax_W 40 0 [some (.ref 514), some (.int (nI W)), none, none] [] d _
  refine wx_icst (v := nI 0) j40_0 (by decide) ?_
  refine wx_istn (L' := [_, _, some (.int _), _]) j40_1 (Nat.le_of_ble_eq_true rfl) rfl ?_
  refine wx_icst (v := nI 0) j40_2 (by decide) ?_
  refine wx_istn (L' := [_, _, _, some (.int _)]) j40_3 (Nat.le_of_ble_eq_true rfl) rfl ?_
  exact tb_loop hb W 0 0 t d (by omega) hW (by decide) ht h4 (tk_rf d)
theorem sp_takePlace {m : Nat} (hb : bt_is d 517 sl) (h4 : d 514 4 = nI t) (ht : t ≤ sl.length) (hm : m ≤ 32) : ax_E 39 [.ref 514, .int (nI m)] d (ax_Pi fun y d1 => y = oi (rP sl m t).1 ∧ d1 514 4 = nI (rP sl m t).2 ∧ tk d d1) := by
  show ax_W 39 0 [some (.ref 514), some (.int (nI m)), none] [] d _
  refine wx_aldn j39_0 rfl ?_
  refine wx_ildn j39_1 rfl ?_
  refine wx_t1 j39_2 rfl rfl (Nat.le_of_ble_eq_true rfl) (sp_placeBits hm) ?_
  rintro _ d9 ⟨rfl, h9⟩
  obtain rfl := h9.symm
  refine wx_i1 j39_5 rfl rfl (Nat.le_of_ble_eq_true rfl) rfl (sp_takeBits hb h4 ht (wd_5 m)) ?_
  rintro _ d1 ⟨rfl, h41, hf1⟩
  cases hr : (rB sl (wd m) 0 t).1 with
  | none =>
    have e : rP sl m t = (none, (rB sl (wd m) 0 t).2) := by
      unfold rP
      rw [show rB sl (wd m) 0 t = (none, (rB sl (wd m) 0 t).2) from Prod.ext hr rfl]
    rw [e]
    refine wx_istn (L' := [_, _, some (.int _)]) j39_8 (Nat.le_of_ble_eq_true rfl) rfl ?_
    refine wx_ildn j39_9 rfl ?_
    refine wx_ildn j39_10 rfl ?_
    refine wx_cmp 18 j39_11 (by decide) (fun c11 => ?_) (fun c11 => ?_)
    · simp only [ax_cn, Classical.not_not] at c11
      exact absurd c11 (nI_m1 (by omega))
    · simp only [ax_cn, Classical.not_not] at c11
      refine wx_ildn j39_14 rfl ?_
      refine wx_goto 19 j39_15 (by decide) ?_
      refine wx_ri j39_19 rfl rfl ?_
      exact ⟨rfl, h41, hf1⟩
  | some v =>
    have hv := rB_v hb.2.2.2 (wd m) 0 t v hr
    have h32 : 2 ^ wd m ≤ 2 ^ 5 := Nat.pow_le_pow_right (by decide) (wd_5 m)
    have e : rP sl m t = (if v < m then (some v, (rB sl (wd m) 0 t).2) else (none, (rB sl (wd m) 0 t).2)) := by
      unfold rP
      rw [show rB sl (wd m) 0 t = (some v, (rB sl (wd m) 0 t).2) from Prod.ext hr rfl]
    rw [e]
    refine wx_istn (L' := [_, _, some (.int _)]) j39_8 (Nat.le_of_ble_eq_true rfl) rfl ?_
    refine wx_ildn j39_9 rfl ?_
    refine wx_ildn j39_10 rfl ?_
    refine wx_cmp 18 j39_11 (by decide) (fun c11 => ?_) (fun c11 => ?_)
    · simp only [ax_cn, Classical.not_not] at c11
      have hge : ¬ v < m := Nat.not_lt.mpr ((nI_leI (by omega) (by omega)).mp c11)
      refine wx_icst (v := (-1)) j39_18 (by decide) ?_
      refine wx_ri j39_19 rfl rfl ?_
      rw [if_neg hge]
      exact ⟨rfl, h41, hf1⟩
    · simp only [ax_cn, Classical.not_not] at c11
      have hlt : v < m := Nat.not_le.mp (fun q => c11 ((nI_leI (by omega) (by omega)).mpr q))
      refine wx_ildn j39_14 rfl ?_
      refine wx_goto 19 j39_15 (by decide) ?_
      refine wx_ri j39_19 rfl rfl ?_
      rw [if_pos hlt]
      exact ⟨rfl, h41, hf1⟩
  -- 
theorem tn_loop (hb : bt_is d 517 sl) : ∀ g x t (d1 : ax_D) (z : Option Value), g ≤ 4 → x < 8 ^ (4 - g) → t ≤ sl.length → d1 514 4 = nI t → tk d d1 → ax_W 38 6 [some (.ref 514), some (.int (nI x)), some (.int (nI (8 ^ (4 - g)))), some (.int (nI (4 - g))), z] [] d1 (ax_Pi fun y d2 => y = oi (rN sl g x (8 ^ (4 - g)) t).1 ∧ d2 514 4 = nI (rN sl g x (8 ^ (4 - g)) t).2 ∧ tk d d2) := by
  intro g
  induction g with
  | zero =>
    intro x t d1 z hg hx ht h4 hf
    refine wx_ildn j38_6 rfl ?_
    refine wx_icst (v := nI 4) j38_7 (by decide) ?_
    refine wx_cmp 56 j38_8 (by decide) (fun c8 => ?_) (fun c8 => ?_)
    · simp only [ax_cn, Classical.not_not] at c8
      refine wx_icst (v := (-1)) j38_56 (by decide) ?_
      refine wx_ri j38_57 rfl rfl ?_
      exact ⟨rfl, h4, hf⟩
    · simp only [ax_cn, Classical.not_not] at c8
      exact absurd (show nI 4 ≤ nI (4 - 0) by decide) c8
  | succ g ih =>
    intro x t d1 z hg hx ht h4 hf
    have hb1 := bt_tk hb hf
    have h84 : 8 ^ (4 - (g + 1)) ≤ 8 ^ 4 := Nat.pow_le_pow_right (by decide) (by omega)
    have he8 : 8 ^ (4 - (g + 1)) * 8 = 8 ^ (4 - g) := by rw [show 4 - g = 4 - (g + 1) + 1 by omega, Nat.pow_succ]
    refine wx_ildn j38_6 rfl ?_
    refine wx_icst (v := nI 4) j38_7 (by decide) ?_
    refine wx_cmp 56 j38_8 (by decide) (fun c8 => ?_) (fun c8 => ?_)
    · simp only [ax_cn, Classical.not_not] at c8
      exact absurd c8 (nI_ge (by omega) (by decide))
    · simp only [ax_cn, Classical.not_not] at c8
      refine wx_aldn j38_11 rfl ?_
      refine wx_icst (v := nI 4) j38_12 (by decide) ?_
      refine wx_i1 j38_13 rfl rfl (Nat.le_of_ble_eq_true rfl) rfl (sp_takeBits (W := 4) hb1 h4 ht (by decide)) ?_
      rintro _ d2 ⟨rfl, h42, hf2⟩
      have ht2 := rB_t (sl := sl) 4 0 t ht
      have hfr := tk_tr hf hf2
      cases hr : (rB sl 4 0 t).1 with
      | none =>
        have e : rN sl (g + 1) x (8 ^ (4 - (g + 1))) t = (none, (rB sl 4 0 t).2) := by
          unfold rN
          rw [show rB sl 4 0 t = (none, (rB sl 4 0 t).2) from Prod.ext hr rfl]
        rw [e]
        refine wx_ist (L' := [_, _, _, _, some (.int _)]) j38_16 (Nat.le_of_ble_eq_true rfl) rfl ?_
        refine wx_ild j38_18 rfl ?_
        refine wx_icst (v := (-1)) j38_20 (by decide) ?_
        refine wx_cmp 26 j38_21 (by decide) (fun c21 => ?_) (fun c21 => ?_)
        · simp only [ax_cn, Classical.not_not] at c21
          exact absurd (rfl : (oi none) = -1) c21
        · simp only [ax_cn, Classical.not_not] at c21
          refine wx_icst (v := (-1)) j38_24 (by decide) ?_
          refine wx_ri j38_25 rfl rfl ?_
          exact ⟨rfl, h42, hfr⟩
      | some v =>
        have hv := rB_v hb.2.2.2 4 0 t v hr
        have h16 : (0 + 1) * 2 ^ 4 = 16 := by decide
        have e : rN sl (g + 1) x (8 ^ (4 - (g + 1))) t = (if v < 8 then (some (x + 8 ^ (4 - (g + 1)) * (v % 8)), (rB sl 4 0 t).2) else rN sl g (x + 8 ^ (4 - (g + 1)) * (v % 8)) (8 ^ (4 - (g + 1)) * 8) (rB sl 4 0 t).2) := by
          show (match rB sl 4 0 t with | (none, t1) => (none, t1) | (some v, t1) => if v < 8 then (some (x + 8 ^ (4 - (g + 1)) * (v % 8)), t1) else rN sl g (x + 8 ^ (4 - (g + 1)) * (v % 8)) (8 ^ (4 - (g + 1)) * 8) t1) = _
          rw [show rB sl 4 0 t = (some v, (rB sl 4 0 t).2) from Prod.ext hr rfl]
        rw [e]
        refine wx_ist (L' := [_, _, _, _, some (.int _)]) j38_16 (Nat.le_of_ble_eq_true rfl) rfl ?_
        refine wx_ild j38_18 rfl ?_
        refine wx_icst (v := (-1)) j38_20 (by decide) ?_
        refine wx_cmp 26 j38_21 (by decide) (fun c21 => ?_) (fun c21 => ?_)
        · simp only [ax_cn, Classical.not_not] at c21
          refine wx_ildn j38_26 rfl ?_
          refine wx_ildn j38_27 rfl ?_
          refine wx_ild j38_28 rfl ?_
          refine wx_bpsh (v := nI 8) j38_30 (by decide) ?_
          show ax_W 38 _ _ (.int (nI 8) :: .int (nI v) :: _) _ _
          refine wx_irem j38_32 (by decide) ?_
          rw [pk_rem (by omega) (by decide) (by decide)]
          refine wx_imul j38_33 ?_
          rw [pk_mul]
          refine wx_iadd j38_34 ?_
          rw [nI_add]
          refine wx_istn (L' := [_, some (.int _), _, _, _]) j38_35 (Nat.le_of_ble_eq_true rfl) rfl ?_
          refine wx_ildn j38_36 rfl ?_
          refine wx_bpsh (v := nI 8) j38_37 (by decide) ?_
          refine wx_imul j38_39 ?_
          rw [pk_mul]
          refine wx_istn (L' := [_, _, some (.int _), _, _]) j38_40 (Nat.le_of_ble_eq_true rfl) rfl ?_
          refine wx_ild j38_41 rfl ?_
          refine wx_bpsh (v := nI 8) j38_43 (by decide) ?_
          refine wx_cmp 50 j38_45 (by decide) (fun c45 => ?_) (fun c45 => ?_)
          · simp only [ax_cn, Classical.not_not] at c45
            have hge : ¬ v < 8 := Nat.not_lt.mpr ((nI_leI (by decide) (by omega)).mp c45)
            rw [if_neg hge, he8]
            refine wx_iinc (v := nI (4 - g)) (L' := [_, _, _, some (.int _), _]) j38_50 rfl (by rw [show 4 - g = 4 - (g + 1) + 1 by omega]; exact nI_1 _) rfl ?_
            refine wx_goto 6 j38_53 (by decide) ?_
            refine ih _ _ _ _ (by omega) ?_ ht2.2 h42 hfr
            have h7 : 8 ^ (4 - (g + 1)) * (v % 8) ≤ 8 ^ (4 - (g + 1)) * 7 := Nat.mul_le_mul_left _ (by omega)
            omega
          · simp only [ax_cn, Classical.not_not] at c45
            have hlt : v < 8 := Nat.not_le.mp (fun q => c45 ((nI_leI (by decide) (by omega)).mpr q))
            rw [if_pos hlt]
            refine wx_ildn j38_48 rfl ?_
            refine wx_ri j38_49 rfl rfl ?_
            exact ⟨rfl, h42, hfr⟩
        · simp only [ax_cn, Classical.not_not] at c21
          exact absurd ((oi_neg (o := some v) (fun i2 e2 => by cases e2; omega)).mp c21) (by simp)
      -- 
theorem sp_takeNumber (hb : bt_is d 517 sl) (h4 : d 514 4 = nI t) (ht : t ≤ sl.length) : ax_E 38 [.ref 514] d (ax_Pi fun y d1 => y = oi (rNum sl t).1 ∧ d1 514 4 = nI (rNum sl t).2 ∧ tk d d1) := by
  show ax_W 38 0 [some (.ref 514), none, none, none, none] [] d _
  refine wx_icst (v := nI 0) j38_0 (by decide) ?_
  refine wx_istn (L' := [_, some (.int _), _, _, _]) j38_1 (Nat.le_of_ble_eq_true rfl) rfl ?_
  refine wx_icst (v := nI 1) j38_2 (by decide) ?_
  refine wx_istn (L' := [_, _, some (.int _), _, _]) j38_3 (Nat.le_of_ble_eq_true rfl) rfl ?_
  refine wx_icst (v := nI 0) j38_4 (by decide) ?_
  refine wx_istn (L' := [_, _, _, some (.int _), _]) j38_5 (Nat.le_of_ble_eq_true rfl) rfl ?_
  exact tn_loop hb 4 0 t d none (Nat.le_refl 4) (by decide) ht h4 (tk_rf d)
theorem tl_loop3 {C : Nat} (hb : bt_is d 517 sl) (hC : C ≤ 5) : ∀ k i x t (d1 : ax_D) (z : Option Value), i + k = C → x < 27 ^ i → t ≤ sl.length → d1 514 4 = nI t → tk d d1 → ax_W 37 18 [some (.ref 514), some (.int (nI C)), some (.int (nI x)), some (.int (nI (27 ^ i))), some (.int (nI i)), z] [] d1 (ax_Pi fun y d2 => y = oi (rLr sl k x (27 ^ i) t).1 ∧ d2 514 4 = nI (rLr sl k x (27 ^ i) t).2 ∧ tk d d2) := by
  intro k
  induction k with
  | zero =>
    intro i x t d1 z hi hx ht h4 hf
    obtain rfl : i = C := by omega
    refine wx_ild j37_18 rfl ?_
    refine wx_ildn j37_20 rfl ?_
    refine wx_cmp 63 j37_21 (by decide) (fun c21 => ?_) (fun c21 => ?_)
    · simp only [ax_cn, Classical.not_not] at c21
      refine wx_ildn j37_63 rfl ?_
      refine wx_ri j37_64 rfl rfl ?_
      exact ⟨rfl, h4, hf⟩
    · simp only [ax_cn, Classical.not_not] at c21
      exact absurd (Int32.le_refl _) c21
  | succ k ih =>
    intro i x t d1 z hi hx ht h4 hf
    have hb1 := bt_tk hb hf
    have h27 : 27 ^ i ≤ 27 ^ 4 := Nat.pow_le_pow_right (by decide) (by omega)
    refine wx_ild j37_18 rfl ?_
    refine wx_ildn j37_20 rfl ?_
    refine wx_cmp 63 j37_21 (by decide) (fun c21 => ?_) (fun c21 => ?_)
    · simp only [ax_cn, Classical.not_not] at c21
      exact absurd c21 (nI_ge (by omega) (by omega))
    · simp only [ax_cn, Classical.not_not] at c21
      refine wx_aldn j37_24 rfl ?_
      refine wx_i0 j37_25 rfl  (Nat.le_of_ble_eq_true rfl) rfl (sp_takeNumber hb1 h4 ht) ?_
      rintro _ d2 ⟨rfl, h42, hf2⟩
      have ht2 := rNum_t (sl := sl) ht
      have hfr := tk_tr hf hf2
      cases hr : (rNum sl t).1 with
      | none =>
        have e : rLr sl (k + 1) x (27 ^ i) t = (none, (rNum sl t).2) := by
          unfold rLr
          rw [show rNum sl t = (none, (rNum sl t).2) from Prod.ext hr rfl]
        rw [e]
        refine wx_ist (L' := [_, _, _, _, _, some (.int _)]) j37_28 (Nat.le_of_ble_eq_true rfl) rfl ?_
        refine wx_ild j37_30 rfl ?_
        refine wx_icst (v := nI 1) j37_32 (by decide) ?_
        refine wx_cmp 43 j37_33 (by decide) (fun c33 => ?_) (fun c33 => ?_)
        · simp only [ax_cn, Classical.not_not] at c33
          refine wx_icst (v := (-1)) j37_43 (by decide) ?_
          refine wx_ri j37_44 rfl rfl ?_
          exact ⟨rfl, h42, hfr⟩
        · simp only [ax_cn, Classical.not_not] at c33
          exact absurd (show oi none < nI 1 by decide) c33
      | some c =>
        have hc := rNum_v hr
        have e : rLr sl (k + 1) x (27 ^ i) t = (if 1 ≤ c ∧ c < 27 then rLr sl k (x + c * 27 ^ i) (27 ^ i * 27) (rNum sl t).2 else (none, (rNum sl t).2)) := by
          show (match rNum sl t with | (none, t1) => (none, t1) | (some c, t1) => if 1 ≤ c ∧ c < 27 then rLr sl k (x + c * 27 ^ i) (27 ^ i * 27) t1 else (none, t1)) = _
          rw [show rNum sl t = (some c, (rNum sl t).2) from Prod.ext hr rfl]
        rw [e]
        refine wx_ist (L' := [_, _, _, _, _, some (.int _)]) j37_28 (Nat.le_of_ble_eq_true rfl) rfl ?_
        refine wx_ild j37_30 rfl ?_
        refine wx_icst (v := nI 1) j37_32 (by decide) ?_
        refine wx_cmp 43 j37_33 (by decide) (fun c33 => ?_) (fun c33 => ?_)
        · simp only [ax_cn, Classical.not_not] at c33
          have hno : ¬ (1 ≤ c ∧ c < 27) := fun q => absurd ((nI_ltI (by omega) (by decide)).mp c33) (by omega)
          rw [if_neg hno]
          refine wx_icst (v := (-1)) j37_43 (by decide) ?_
          refine wx_ri j37_44 rfl rfl ?_
          exact ⟨rfl, h42, hfr⟩
        · simp only [ax_cn, Classical.not_not] at c33
          have h1 : 1 ≤ c := Nat.not_lt.mp (fun q => c33 (nI_lt q (by decide)))
          refine wx_ild j37_36 rfl ?_
          refine wx_bpsh (v := nI 27) j37_38 (by decide) ?_
          refine wx_cmp 45 j37_40 (by decide) (fun c40 => ?_) (fun c40 => ?_)
          · simp only [ax_cn, Classical.not_not] at c40
            have h26 : c < 27 := (nI_ltI (by omega) (by decide)).mp c40
            rw [if_pos ⟨h1, h26⟩]
            refine wx_ildn j37_45 rfl ?_
            refine wx_ild j37_46 rfl ?_
            refine wx_ildn j37_48 rfl ?_
            show ax_W 37 _ _ (.int (nI (27 ^ i)) :: .int (nI c) :: _) _ _
            refine wx_imul j37_49 ?_
            rw [pk_mul]
            refine wx_iadd j37_50 ?_
            rw [nI_add]
            refine wx_istn (L' := [_, _, some (.int _), _, _, _]) j37_51 (Nat.le_of_ble_eq_true rfl) rfl ?_
            refine wx_ildn j37_52 rfl ?_
            refine wx_bpsh (v := nI 27) j37_53 (by decide) ?_
            refine wx_imul j37_55 ?_
            rw [pk_mul, ← Nat.pow_succ]
            refine wx_istn (L' := [_, _, _, some (.int _), _, _]) j37_56 (Nat.le_of_ble_eq_true rfl) rfl ?_
            refine wx_iinc (v := nI (i + 1)) (L' := [_, _, _, _, some (.int _), _]) j37_57 rfl (nI_1 i) rfl ?_
            refine wx_goto 18 j37_60 (by decide) ?_
            refine ih (i + 1) _ _ _ _ (by omega) ?_ ht2.2 h42 hfr
            have h5 : c * 27 ^ i ≤ 26 * 27 ^ i := Nat.mul_le_mul_right _ (by omega)
            rw [Nat.pow_succ]
            omega
          · simp only [ax_cn, Classical.not_not] at c40
            have hno : ¬ (1 ≤ c ∧ c < 27) := fun q => c40 (nI_lt q.2 (by decide))
            rw [if_neg hno]
            refine wx_icst (v := (-1)) j37_43 (by decide) ?_
            refine wx_ri j37_44 rfl rfl ?_
            exact ⟨rfl, h42, hfr⟩
      -- 
theorem sp_takeLetters {n : Nat} (hb : bt_is d 517 sl) (h4 : d 514 4 = nI t) (ht : t ≤ sl.length) (hn : n < 2 ^ 31) : ax_E 37 [.ref 514, .int (nI n)] d (ax_Pi fun y d1 => y = oi (rL sl n t).1 ∧ d1 514 4 = nI (rL sl n t).2 ∧ tk d d1) := by
  show ax_W 37 0 [some (.ref 514), some (.int (nI n)), none, none, none, none] [] d _
  refine wx_ildn j37_0 rfl ?_
  refine wx_if 9 j37_1 (by decide) (fun c1 => ?_) (fun c1 => ?_)
  · simp only [ax_cn, Classical.not_not] at c1
    exact absurd c1 (nI_pos hn)
  · simp only [ax_cn, Classical.not_not] at c1
    refine wx_ildn j37_4 rfl ?_
    refine wx_icst (v := nI 5) j37_5 (by decide) ?_
    refine wx_cmp 11 j37_6 (by decide) (fun c6 => ?_) (fun c6 => ?_)
    · simp only [ax_cn, Classical.not_not] at c6
      have h5 : n ≤ 5 := (nI_leI hn (by decide)).mp c6
      have e : rL sl n t = rLr sl n 0 1 t := by unfold rL; rw [if_pos h5]
      rw [e]
      refine wx_icst (v := nI 0) j37_11 (by decide) ?_
      refine wx_istn (L' := [_, _, some (.int _), _, _, _]) j37_12 (Nat.le_of_ble_eq_true rfl) rfl ?_
      refine wx_icst (v := nI 1) j37_13 (by decide) ?_
      refine wx_istn (L' := [_, _, _, some (.int _), _, _]) j37_14 (Nat.le_of_ble_eq_true rfl) rfl ?_
      refine wx_icst (v := nI 0) j37_15 (by decide) ?_
      refine wx_ist (L' := [_, _, _, _, some (.int _), _]) j37_16 (Nat.le_of_ble_eq_true rfl) rfl ?_
      exact tl_loop3 hb h5 n 0 0 t d none (by omega) (by decide) ht h4 (tk_rf d)
    · simp only [ax_cn, Classical.not_not] at c6
      have h5 : ¬ n ≤ 5 := fun q => c6 ((nI_leI hn (by decide)).mpr q)
      have e : rL sl n t = (none, t) := by unfold rL; rw [if_neg h5]
      rw [e]
      refine wx_icst (v := (-1)) j37_9 (by decide) ?_
      refine wx_ri j37_10 rfl rfl ?_
      exact ⟨rfl, h4, tk_rf d⟩
theorem sp_takeLettersN : ax_E 37 [.ref 514, .int (-1)] d (ax_Pi fun y d1 => y = -1 ∧ d1 = d) := by
  show ax_W 37 0 [some (.ref 514), some (.int (-1)), none, none, none, none] [] d _
  refine wx_ildn j37_0 rfl ?_
  refine wx_if 9 j37_1 (by decide) (fun c1 => ?_) (fun c1 => ?_)
  · simp only [ax_cn, Classical.not_not] at c1
    refine wx_icst (v := (-1)) j37_9 (by decide) ?_
    refine wx_ri j37_10 rfl rfl ?_
    exact ⟨rfl, rfl⟩
  · simp only [ax_cn, Classical.not_not] at c1
    exact absurd (show (-1 : Int32) < 0 by decide) c1
end R1
