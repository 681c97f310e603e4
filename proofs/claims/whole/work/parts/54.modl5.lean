/-! THE REFERENCE: texts and bits. -/
def mb_is (d : ax_D) (l : List Nat) : Prop := l.length ≤ 4000 ∧ d 540 19 = nI l.length ∧ (∀ i, i < l.length → d 559 i = nI (l.getD i 0)) ∧ ∀ e, e ∈ l → e < 2
def mbf (d d1 : ax_D) : Prop := ∀ id i, ¬ (id = 559 ∨ (id = 540 ∧ i = 19)) → d1 id i = d id i
theorem mbf_rf (d : ax_D) : mbf d d := fun _ _ _ => rfl
theorem mbf_tr {d d1 d2 : ax_D} (h : mbf d d1) (h2 : mbf d1 d2) : mbf d d2 := fun id i a => (h2 id i a).trans (h id i a)
theorem mbf_id {d d1 : ax_D} {id : Nat} (h : mbf d d1) (h1 : id ≠ 559) (h2 : id ≠ 540) : d1 id = d id := funext fun i => h id i (fun q => q.elim h1 (fun q => h2 q.1))
theorem mt_bf {d d1 : ax_D} {c : Nat} {T : TT} (h : mt_is d c T) (hf : mbf d d1) : mt_is d1 c T := by
  unfold mt_is sg
  rw [mbf_id hf (id := 542) (by decide) (by decide), mbf_id hf (id := 543) (by decide) (by decide), mbf_id hf (id := 544) (by decide) (by decide), mbf_id hf (id := 545) (by decide) (by decide), mbf_id hf (id := 546) (by decide) (by decide), mbf_id hf (id := 547) (by decide) (by decide), mbf_id hf (id := 548) (by decide) (by decide), mbf_id hf (id := 549) (by decide) (by decide), mbf_id hf (id := 550) (by decide) (by decide), mbf_id hf (id := 551) (by decide) (by decide), mbf_id hf (id := 552) (by decide) (by decide), mbf_id hf (id := 553) (by decide) (by decide), mbf_id hf (id := 554) (by decide) (by decide)]
  exact h
theorem mg_bf {d d1 : ax_D} {c n : Nat} {nm : Nat → Nat} {fl : Nat → Bool} {b : Bool} (h : mg_is d c n nm fl b) (hf : mbf d d1) : mg_is d1 c n nm fl b := mg_id h (mbf_id hf (by decide) (by decide)) (mbf_id hf (by decide) (by decide)) (mbf_id hf (by decide) (by decide)) (mbf_id hf (by decide) (by decide))
theorem mb_mo {d d1 : ax_D} {c : Nat} {l : List Nat} (h : mb_is d l) (hf : mo d d1 c) : mb_is d1 l := by
  unfold mb_is
  rw [mo_id hf (id := 540) (by decide), mo_id hf (id := 559) (by decide)]
  exact h
theorem mg_mo_lt {d d1 : ax_D} {c n : Nat} {nm : Nat → Nat} {fl : Nat → Bool} {b : Bool} (h : mg_is d c n nm fl b) (hf : ∀ id, 555 ≤ id → d1 id = d id) : mg_is d1 c n nm fl b := mg_id h (hf _ (by decide)) (hf _ (by decide)) (hf _ (by decide)) (hf _ (by decide))
theorem clr_le_iff : ∀ f g t, g < f → (clr f t ≤ g ↔ t < 27 ^ g)
  | 0, g, t, h => by omega
  | f + 1, g, t, h => by
    unfold clr
    by_cases ht : t = 0
    · rw [if_pos ht, ht]
      exact ⟨fun _ => Nat.pow_pos (by decide), fun _ => Nat.zero_le _⟩
    · rw [if_neg ht]
      match g with
      | 0 => rw [Nat.pow_zero]; omega
      | g + 1 =>
        have h1 := clr_le_iff f g (t / 27) (by omega)
        rw [Nat.pow_succ]
        constructor
        · intro q
          have := h1.mp (by omega)
          omega
        · intro q
          have := h1.mpr (by omega)
          omega
theorem clr_st : ∀ f g t, f ≤ g → t < 27 ^ f → clr g t = clr f t
  | 0, g, t, _, h => by
    have h0 : t = 0 := by rw [Nat.pow_zero] at h; omega
    subst h0
    cases g <;> simp [clr]
  | f + 1, 0, t, hg, _ => by omega
  | f + 1, g + 1, t, hg, h => by
    unfold clr
    by_cases ht : t = 0
    · rw [if_pos ht, if_pos ht]
    · rw [if_neg ht, if_neg ht, clr_st f g (t / 27) (by omega) (by rw [Nat.pow_succ] at h; omega)]
section M5
variable {d : ax_D} {l : List Nat}
theorem mle2_loop {x : Int32} : ∀ f c t, t < 27 ^ f → t < 2 ^ 31 → ax_W 87 4 [some (.int x), some (.int (nI c)), some (.int (nI t))] [] d (ax_Pi fun y d1 => y = nI (c + clr f t) ∧ d1 = d) := by
  intro f
  induction f with
  | zero =>
    intro c t ht h31
    have h0 : t = 0 := by rw [Nat.pow_zero] at ht; omega
    subst h0
    refine wx_ildn j87_4 rfl ?_
    refine wx_if 19 j87_5 (by decide) (fun c5 => ?_) (fun c5 => ?_)
    · simp only [ax_cn, Classical.not_not] at c5
      refine wx_ildn j87_19 rfl ?_
      refine wx_ri j87_20 rfl rfl ?_
      exact ⟨rfl, rfl⟩
    · simp only [ax_cn, Classical.not_not] at c5
      exact absurd (show nI 0 ≤ 0 by decide) c5
  | succ f ih =>
    intro c t ht h31
    refine wx_ildn j87_4 rfl ?_
    refine wx_if 19 j87_5 (by decide) (fun c5 => ?_) (fun c5 => ?_)
    · simp only [ax_cn, Classical.not_not] at c5
      have ht0 : t = 0 := Nat.eq_zero_of_not_pos (fun q => nI_nle q h31 c5)
      refine wx_ildn j87_19 rfl ?_
      refine wx_ri j87_20 rfl rfl ?_
      exact ⟨by show nI c = nI (c + (if t = 0 then 0 else 1 + clr f (t / 27))); rw [if_pos ht0]; rfl, rfl⟩
    · simp only [ax_cn, Classical.not_not] at c5
      have ht0 : ¬ t = 0 := fun q => c5 (by rw [q]; decide)
      refine wx_iinc (v := nI (c + 1)) (L' := [_, some (.int _), _]) j87_8 rfl (nI_1 c) rfl ?_
      refine wx_ildn j87_11 rfl ?_
      refine wx_bpsh (v := nI 27) j87_12 (by decide) ?_
      refine wx_idiv j87_14 (by decide) ?_
      rw [pk_div h31 (by decide) (by decide)]
      refine wx_istn (L' := [_, _, some (.int _)]) j87_15 (Nat.le_of_ble_eq_true rfl) rfl ?_
      refine wx_goto 4 j87_16 (by decide) ?_
      have e : c + clr (f + 1) t = c + 1 + clr f (t / 27) := by show c + (if t = 0 then 0 else 1 + clr f (t / 27)) = _; rw [if_neg ht0]; omega
      rw [e]
      exact ih (c + 1) (t / 27) (by rw [Nat.pow_succ] at ht; omega) (by omega)
theorem sm_letters {t : Nat} (ht : t < 2 ^ 31) : ax_E 87 [.int (nI t)] d (ax_Pi fun y d1 => y = nI (clr 7 t) ∧ d1 = d) := by
  show ax_W 87 0 [some (.int (nI t)), none, none] [] d _
  refine wx_icst (v := nI 0) j87_0 (by decide) ?_
  refine wx_istn (L' := [_, some (.int _), _]) j87_1 (Nat.le_of_ble_eq_true rfl) rfl ?_
  refine wx_ildn j87_2 rfl ?_
  refine wx_istn (L' := [_, _, some (.int _)]) j87_3 (Nat.le_of_ble_eq_true rfl) rfl ?_
  have h2 := mle2_loop (d := d) (x := nI t) 7 0 t (Nat.lt_trans ht (by decide)) ht
  rw [Nat.zero_add] at h2
  exact h2
theorem sm_lettersT {t : Nat} (ht : t < tB) : ax_E 87 [.int (nI t)] d (ax_Pi fun y d1 => y = nI (cl t) ∧ d1 = d) := ax_E_i (sm_letters (tB_lt ht)) (fun y d1 ⟨h1, h2⟩ => ⟨by rw [h1, clr_st 5 7 t (by decide) ht]; rfl, h2⟩)
theorem mit_loop {x : Int32} : ∀ f t, t < 27 ^ f → t < 2 ^ 31 → ax_W 88 16 [some (.int x), some (.int (nI t))] [] d (ax_Pi fun y d1 => y = bB (dz f t) ∧ d1 = d) := by
  intro f
  induction f with
  | zero =>
    intro t ht h31
    have h0 : t = 0 := by rw [Nat.pow_zero] at ht; omega
    subst h0
    refine wx_ildn j88_16 rfl ?_
    refine wx_if 37 j88_17 (by decide) (fun c17 => ?_) (fun c17 => ?_)
    · simp only [ax_cn, Classical.not_not] at c17
      refine wx_icst (v := nI 1) j88_37 (by decide) ?_
      refine wx_ri j88_38 rfl rfl ?_
      exact ⟨rfl, rfl⟩
    · simp only [ax_cn, Classical.not_not] at c17
      exact absurd (show nI 0 ≤ 0 by decide) c17
  | succ f ih =>
    intro t ht h31
    refine wx_ildn j88_16 rfl ?_
    refine wx_if 37 j88_17 (by decide) (fun c17 => ?_) (fun c17 => ?_)
    · simp only [ax_cn, Classical.not_not] at c17
      have ht0 : t = 0 := Nat.eq_zero_of_not_pos (fun q => nI_nle q h31 c17)
      refine wx_icst (v := nI 1) j88_37 (by decide) ?_
      refine wx_ri j88_38 rfl rfl ?_
      exact ⟨by show nI 1 = bB (decide (t = 0) || (decide (t % 27 ≠ 0) && dz f (t / 27))); rw [decide_eq_true ht0]; rfl, rfl⟩
    · simp only [ax_cn, Classical.not_not] at c17
      have ht0 : ¬ t = 0 := fun q => c17 (by rw [q]; decide)
      refine wx_ildn j88_20 rfl ?_
      refine wx_bpsh (v := nI 27) j88_21 (by decide) ?_
      refine wx_irem j88_23 (by decide) ?_
      rw [pk_rem h31 (by decide) (by decide)]
      refine wx_if 29 j88_24 (by decide) (fun c24 => ?_) (fun c24 => ?_)
      · simp only [ax_cn, Classical.not_not] at c24
        have hr : ¬ t % 27 = 0 := fun q => c24 (by rw [q]; rfl)
        refine wx_ildn j88_29 rfl ?_
        refine wx_bpsh (v := nI 27) j88_30 (by decide) ?_
        refine wx_idiv j88_32 (by decide) ?_
        rw [pk_div h31 (by decide) (by decide)]
        refine wx_istn (L' := [_, some (.int _)]) j88_33 (Nat.le_of_ble_eq_true rfl) rfl ?_
        refine wx_goto 16 j88_34 (by decide) ?_
        have e : dz (f + 1) t = dz f (t / 27) := by show (decide (t = 0) || (decide (t % 27 ≠ 0) && dz f (t / 27))) = _; rw [decide_eq_false ht0, decide_eq_true hr]; rfl
        rw [e]
        exact ih (t / 27) (by rw [Nat.pow_succ] at ht; omega) (by omega)
      · simp only [ax_cn, Classical.not_not] at c24
        have hr : t % 27 = 0 := (nI_eq (by omega) (by decide)).mp (c24.trans nI_0.symm)
        refine wx_icst (v := nI 0) j88_27 (by decide) ?_
        refine wx_ri j88_28 rfl rfl ?_
        exact ⟨by show nI 0 = bB (decide (t = 0) || (decide (t % 27 ≠ 0) && dz f (t / 27))); rw [decide_eq_false ht0, decide_eq_false (fun q => q hr)]; rfl, rfl⟩
theorem sm_isText {x : Int32} : ax_E 88 [.int x] d (ax_Pi fun y d1 => y = bB (tx x) ∧ d1 = d) := by
  show ax_W 88 0 [some (.int x), none] [] d _
  refine wx_ildn j88_0 rfl ?_
  refine wx_if 12 j88_1 (by decide) (fun c1 => ?_) (fun c1 => ?_)
  · simp only [ax_cn, Classical.not_not] at c1
    have e : tx x = false := by unfold tx; rw [decide_eq_false (fun q => q c1)]; rfl
    rw [e]
    refine wx_icst (v := nI 0) j88_12 (by decide) ?_
    refine wx_ri j88_13 rfl rfl ?_
    exact ⟨rfl, rfl⟩
  · simp only [ax_cn, Classical.not_not] at c1
    obtain ⟨t, ht, rfl⟩ := nI_of c1
    rw [tx_nI ht]
    refine wx_ildn j88_4 rfl ?_
    refine wx_t1 j88_5 rfl rfl (Nat.le_of_ble_eq_true rfl) (sm_letters ht) ?_
    rintro _ d9 ⟨rfl, h9⟩
    obtain rfl := h9.symm
    refine wx_icst (v := nI 5) j88_8 (by decide) ?_
    have hc7 := clr_le 7 t
    refine wx_cmp 14 j88_9 (by decide) (fun c9 => ?_) (fun c9 => ?_)
    · simp only [ax_cn, Classical.not_not] at c9
      have h5 : t < 27 ^ 5 := (clr_le_iff 7 5 t (by decide)).mp ((nI_leI (by omega) (by decide)).mp c9)
      refine wx_ildn j88_14 rfl ?_
      refine wx_istn (L' := [_, some (.int _)]) j88_15 (Nat.le_of_ble_eq_true rfl) rfl ?_
      exact mit_loop 5 t h5 ht
    · simp only [ax_cn, Classical.not_not] at c9
      have h5 : ¬ t < 27 ^ 5 := fun q => c9 ((nI_leI (by omega) (by decide)).mpr ((clr_le_iff 7 5 t (by decide)).mpr q))
      have e : dz 5 t = false := by
        cases hd : dz 5 t with
        | false => rfl
        | true => exact absurd (dz_lt 5 t hd) h5
      rw [e]
      refine wx_icst (v := nI 0) j88_12 (by decide) ?_
      refine wx_ri j88_13 rfl rfl ?_
      exact ⟨rfl, rfl⟩
theorem sm_isName {x y : Int32} : ax_E 111 [.int x, .int y] d (ax_Pi fun z d1 => z = bB (tx x && (tx y && decide (y ≠ 0))) ∧ d1 = d) := by
  show ax_W 111 0 [some (.int x), some (.int y)] [] d _
  refine wx_ildn j111_0 rfl ?_
  refine wx_t1 j111_1 rfl rfl (Nat.le_of_ble_eq_true rfl) (sm_isText) ?_
  rintro _ d9 ⟨rfl, h9⟩
  obtain rfl := h9.symm
  refine wx_if 22 j111_4 (by decide) (fun c4 => ?_) (fun c4 => ?_)
  · simp only [ax_cn, Classical.not_not] at c4
    have e1 := bB_0.mp c4
    refine wx_icst (v := nI 0) j111_22 (by decide) ?_
    refine wx_ri j111_23 rfl rfl ?_
    exact ⟨by rw [e1]; rfl, rfl⟩
  · simp only [ax_cn, Classical.not_not] at c4
    have e1 := bB_1.mp c4
    refine wx_ildn j111_7 rfl ?_
    refine wx_t1 j111_8 rfl rfl (Nat.le_of_ble_eq_true rfl) (sm_isText) ?_
    rintro _ d9 ⟨rfl, h9⟩
    obtain rfl := h9.symm
    refine wx_if 22 j111_11 (by decide) (fun c11 => ?_) (fun c11 => ?_)
    · simp only [ax_cn, Classical.not_not] at c11
      have e2 := bB_0.mp c11
      refine wx_icst (v := nI 0) j111_22 (by decide) ?_
      refine wx_ri j111_23 rfl rfl ?_
      exact ⟨by rw [e1, e2]; rfl, rfl⟩
    · simp only [ax_cn, Classical.not_not] at c11
      have e2 := bB_1.mp c11
      obtain ⟨t, htB, rfl, -⟩ := tx_of e2
      refine wx_ildn j111_14 rfl ?_
      refine wx_if 22 j111_15 (by decide) (fun c15 => ?_) (fun c15 => ?_)
      · simp only [ax_cn, Classical.not_not] at c15
        have e3 : ¬ (nI t ≠ 0) := fun q => q (by rw [Nat.eq_zero_of_not_pos (fun q => nI_nle q (tB_lt htB) c15)]; rfl)
        refine wx_icst (v := nI 0) j111_22 (by decide) ?_
        refine wx_ri j111_23 rfl rfl ?_
        exact ⟨by rw [e1, e2, decide_eq_false e3]; rfl, rfl⟩
      · simp only [ax_cn, Classical.not_not] at c15
        have e3 : nI t ≠ 0 := fun q => c15 (by rw [q]; decide)
        refine wx_icst (v := nI 1) j111_18 (by decide) ?_
        refine wx_goto 23 j111_19 (by decide) ?_
        refine wx_ri j111_23 rfl rfl ?_
        exact ⟨by rw [e1, e2, decide_eq_true e3]; rfl, rfl⟩
theorem sm_opening {n : Nat} : ax_E 97 [.int (nI n)] d (ax_Pi fun y d1 => y = nI (2 + 2 * n) ∧ d1 = d) := by
  show ax_W 97 0 [some (.int (nI n))] [] d _
  refine wx_icst (v := nI 2) j97_0 (by decide) ?_
  refine wx_icst (v := nI 2) j97_1 (by decide) ?_
  refine wx_ildn j97_2 rfl ?_
  refine wx_imul j97_3 ?_
  rw [pk_mul]
  refine wx_iadd j97_4 ?_
  rw [nI_add]
  refine wx_ri j97_5 rfl rfl ?_
  exact ⟨rfl, rfl⟩
theorem sm_attributing {n : Nat} : ax_E 98 [.int (nI n)] d (ax_Pi fun y d1 => y = nI (3 + 2 * n) ∧ d1 = d) := by
  show ax_W 98 0 [some (.int (nI n))] [] d _
  refine wx_icst (v := nI 3) j98_0 (by decide) ?_
  refine wx_icst (v := nI 2) j98_1 (by decide) ?_
  refine wx_ildn j98_2 rfl ?_
  refine wx_imul j98_3 ?_
  rw [pk_mul]
  refine wx_iadd j98_4 ?_
  rw [nI_add]
  refine wx_ri j98_5 rfl rfl ?_
  exact ⟨rfl, rfl⟩
theorem mpp_loop {v m : Nat} {x3 : Int32} (hv : v < 2 ^ 31) : ∀ w (l : List Nat) (d1 : ax_D), w < 32 → mb_is d1 l → l.length + w ≤ 4000 → mbf d d1 → ax_W 103 20 [some (.ref 540), some (.int (nI v)), some (.int (nI m)), some (.int x3), some (.int (nI w - nI 1))] [] d1 (ax_Pv fun d2 => mb_is d2 (l ++ pb w v) ∧ mbf d d2) := by
  intro w
  induction w with
  | zero =>
    intro l d1 hw h hl hf
    refine wx_ild j103_20 rfl ?_
    refine wx_if 65 j103_22 (by decide) (fun c22 => ?_) (fun c22 => ?_)
    · simp only [ax_cn, Classical.not_not] at c22
      refine wx_rv j103_65 rfl ?_
      exact ⟨by rw [pb, List.append_nil]; exact h, hf⟩
    · simp only [ax_cn, Classical.not_not] at c22
      exact absurd (show nI 0 - nI 1 < 0 by decide) c22
  | succ w ih =>
    intro l d1 hw h hl hf
    rw [show nI (w + 1) - nI 1 = nI w from nI_pred w]
    have hbit : v / 2 ^ w % 2 < 2 := Nat.mod_lt _ (by decide)
    have step : ∀ d2 : ax_D, d2 = ax_up d1 559 l.length (nI (v / 2 ^ w % 2)) → ax_W 103 49 [some (.ref 540), some (.int (nI v)), some (.int (nI m)), some (.int x3), some (.int (nI w))] [] d2 (ax_Pv fun d2 => mb_is d2 (l ++ pb (w + 1) v) ∧ mbf d d2) := by
      intro d2 hd2
      have e0 : d2 540 19 = nI l.length := by rw [hd2, up_ni (by decide)]; exact h.2.1
      refine wx_aldn j103_49 rfl ?_
      refine wx_dupr j103_50 ?_
      refine wx_get (v := .int _) j103_51 rfl (Nat.le_of_ble_eq_true rfl) rfl ?_
      rw [e0]
      refine wx_icst (v := nI 1) j103_54 (by decide) ?_
      refine wx_iadd j103_55 ?_
      rw [nI_add]
      refine wx_put j103_56 rfl (Nat.le_of_ble_eq_true rfl) rfl rfl rfl ?_
      refine wx_iinc (v := nI w - nI 1) (L' := [_, _, _, _, some (.int _)]) j103_59 rfl (by rw [Int32.sub_eq_add_neg]; rfl) rfl ?_
      refine wx_goto 20 j103_62 (by decide) ?_
      have h3 : mb_is (ax_up d2 540 19 (nI (l.length + 1))) (l ++ [v / 2 ^ w % 2]) := by
        refine ⟨by rw [List.length_append]; simp; omega, by rw [up_at, List.length_append]; rfl, fun i hi => ?_, fun e he => ?_⟩
        · rw [up_ni (by decide), hd2, up_ap]
          by_cases hi2 : i = l.length
          · subst hi2; rw [if_pos ⟨rfl, rfl⟩, getD_app_1]
          · have hi3 : i < l.length := by rw [List.length_append] at hi; simp at hi; omega
            rw [if_neg (fun q => hi2 q.2), getD_app_l hi3]; exact h.2.2.1 i hi3
        · rcases List.mem_append.mp he with he | he
          · exact h.2.2.2 e he
          · rw [List.mem_singleton.mp he]; exact hbit
      have h4 := ih (l ++ [v / 2 ^ w % 2]) _ (by omega) h3 (by rw [List.length_append]; simp; omega) (fun id i hni => by
        rw [up_ap, if_neg (fun q => hni (Or.inr q)), hd2, up_ap, if_neg (fun q => hni (Or.inl q.1))]
        exact hf id i hni)
      rw [List.append_assoc] at h4
      exact h4
    refine wx_ild j103_20 rfl ?_
    refine wx_if 65 j103_22 (by decide) (fun c22 => ?_) (fun c22 => ?_)
    · simp only [ax_cn, Classical.not_not] at c22
      exact absurd c22 (nI_pos (by omega))
    · simp only [ax_cn, Classical.not_not] at c22
      refine wx_aldn j103_25 rfl ?_
      refine wx_get (v := .ref 559) j103_26 rfl (Nat.le_of_ble_eq_true rfl) rfl ?_
      refine wx_aldn j103_29 rfl ?_
      refine wx_get (v := .int _) j103_30 rfl (Nat.le_of_ble_eq_true rfl) rfl ?_
      rw [h.2.1]
      refine wx_ildn j103_33 rfl ?_
      refine wx_ild j103_34 rfl ?_
      refine wx_ishr j103_36 ?_
      refine wx_icst (v := nI 1) j103_37 (by decide) ?_
      refine wx_iand j103_38 ?_
      rw [bit_at hv (by omega)]
      refine wx_icst (v := nI 1) j103_39 (by decide) ?_
      refine wx_cmp 47 j103_40 (by decide) (fun c40 => ?_) (fun c40 => ?_)
      · simp only [ax_cn, Classical.not_not] at c40
        have hb0 : v / 2 ^ w % 2 = 0 := by
          have : ¬ v / 2 ^ w % 2 = 1 := fun q => c40 (by rw [q])
          omega
        refine wx_icst (v := nI 0) j103_47 (by decide) ?_
        refine wx_basx (l.length) j103_48 rfl rfl (by omega) (by decide) ?_
        exact step _ (by rw [hb0]; rfl)
      · simp only [ax_cn, Classical.not_not] at c40
        have hb1 : v / 2 ^ w % 2 = 1 := (nI_eq (by omega) (by decide)).mp c40
        refine wx_icst (v := nI 1) j103_43 (by decide) ?_
        refine wx_goto 48 j103_44 (by decide) ?_
        refine wx_basx (l.length) j103_48 rfl rfl (by omega) (by decide) ?_
        exact step _ (by rw [hb1]; rfl)
theorem mpw_loop {v m : Nat} (h : mb_is d l) (hv : v < 2 ^ 31) (hm : m ≤ 32) (hl : l.length + 5 ≤ 4000) : ∀ n b, 6 - b < n → b ≤ wd m → ax_W 103 2 [some (.ref 540), some (.int (nI v)), some (.int (nI m)), some (.int (nI b)), none] [] d (ax_Pv fun d1 => mb_is d1 (l ++ pb (wd m) v) ∧ mbf d d1) := by
  have h5 := wd_5 m
  intro n
  induction n with
  | zero => intro b h0; omega
  | succ n ih =>
    intro b h0 hb
    have hsh : nI 1 <<< (nI b &&& 31) = nI (2 ^ b) := by
      rw [pk_shlN (nI b &&& 31) b (sh_amt b (by omega)) (by rw [Nat.one_mul]; exact Nat.lt_of_le_of_lt (Nat.pow_le_pow_right (by decide) (show b ≤ 5 by omega)) (by decide)), Nat.one_mul]
    have hp : 2 ^ b < 2 ^ 31 := Nat.pow_lt_pow_right (by decide) (by omega)
    refine wx_icst (v := nI 1) j103_2 (by decide) ?_
    refine wx_ildn j103_3 rfl ?_
    refine wx_ishl j103_4 ?_
    rw [hsh]
    refine wx_ildn j103_5 rfl ?_
    refine wx_cmp 15 j103_6 (by decide) (fun c6 => ?_) (fun c6 => ?_)
    · simp only [ax_cn, Classical.not_not] at c6
      have he : b = wd m := Nat.le_antisymm hb (wd_le ((nI_leI (by omega) hp).mp c6) (by omega))
      rw [he]
      refine wx_ildn j103_15 rfl ?_
      refine wx_icst (v := nI 1) j103_16 (by decide) ?_
      refine wx_isub j103_17 ?_
      refine wx_ist (L' := [_, _, _, _, some (.int _)]) j103_18 (Nat.le_of_ble_eq_true rfl) rfl ?_
      exact mpp_loop hv (wd m) l d (by omega) h (by omega) (mbf_rf d)
    · simp only [ax_cn, Classical.not_not] at c6
      have he : b < wd m := wd_lt (fun q => c6 ((nI_leI (by omega) hp).mpr q)) hm
      refine wx_iinc (v := nI (b + 1)) (L' := [_, _, _, some (.int _), _]) j103_9 rfl (nI_1 b) rfl ?_
      refine wx_goto 2 j103_12 (by decide) ?_
      exact ih (b + 1) (by omega) he
theorem sm_putPlace {v m : Nat} (h : mb_is d l) (hv : v < 2 ^ 31) (hm : m ≤ 32) (hl : l.length + 5 ≤ 4000) : ax_E 103 [.ref 540, .int (nI v), .int (nI m)] d (ax_Pv fun d1 => mb_is d1 (l ++ pb (wd m) v) ∧ mbf d d1) := by
  show ax_W 103 0 [some (.ref 540), some (.int (nI v)), some (.int (nI m)), none, none] [] d _
  refine wx_icst (v := nI 0) j103_0 (by decide) ?_
  refine wx_istn (L' := [_, _, _, some (.int _), _]) j103_1 (Nat.le_of_ble_eq_true rfl) rfl ?_
  exact mpw_loop h hv hm hl 7 0 (by omega) (Nat.zero_le _)
end M5
