theorem and15 (x : Int32) : ∃ k, k < 16 ∧ x &&& nI 15 = nI k := by
  refine ⟨(x &&& nI 15).toBitVec.toNat, ?_, ?_⟩
  · rw [Int32.toBitVec_and, BitVec.toNat_and]
    exact Nat.lt_of_le_of_lt Nat.and_le_right (by decide)
  · unfold nI
    apply Int32.toBitVec_inj.mp
    apply BitVec.eq_of_toNat_eq
    simp
theorem law_le {Ln i : Nat} (hL : Ln ≤ 2048) (hi : i < 2 ^ 30) : (nI Ln - nI 4 < nI i) ↔ Ln < i + 4 := by
  by_cases h4 : 4 ≤ Ln
  · obtain ⟨n, rfl⟩ : ∃ n, Ln = n + 4 := ⟨Ln - 4, by omega⟩
    have e : nI (n + 4) - nI 4 = nI n := by
      rw [← nI_add]
      exact Int32.add_sub_cancel _ _
    rw [e, nI_ltI (by omega) (by omega)]
    omega
  · have h : nI Ln - nI 4 < nI 0 := by
      match Ln, h4 with
      | 0, _ => decide
      | 1, _ => decide
      | 2, _ => decide
      | 3, _ => decide
      | n + 4, h => omega
    have h2 : nI 0 ≤ nI i := (nI_leI (by omega) (by omega)).mpr (Nat.zero_le _)
    exact ⟨fun _ => by omega, fun _ => Int32.lt_of_lt_of_le h h2⟩
/-! the reference's calls, by the same functions as the class's -/
section RP
variable {d : ax_D} {S : WS} {sl : List Nat} {es : List Ev} {x y : Int32} {b : Nat}
theorem ix_cases {n : Nat} (hn : n < 2 ^ 31) (x : Int32) : (∃ j, j < n ∧ x = nI j ∧ (¬ x < 0 ∧ x < nI n)) ∨ ((x < 0 ∨ nI n ≤ x) ∧ ¬ (¬ x < 0 ∧ x < nI n)) := by
  rcases pk_ix x hn with q | q | ⟨j, hj, rfl⟩
  · exact Or.inr ⟨Or.inl q, fun z => z.1 q⟩
  · exact Or.inr ⟨Or.inr q, fun z => absurd z.2 (Int32.not_lt.mpr q)⟩
  · exact Or.inl ⟨j, hj, rfl, nI_pos (by omega), (nI_ltI (by omega) (by omega)).mpr hj⟩
theorem rp_push (h : ms_is d sl) (hb : b < 2) : ax_E 124 [.ref 540, .int (nI b)] d (ax_Pi fun y d1 => ((oP sl b).1 = 0 → y = nI (oP sl b).2.length) ∧ d1 540 0 = nI (oP sl b).1 ∧ ms_is d1 (oP sl b).2 ∧ mss d d1) :=
  ax_E_i (sm_push h hb) (fun y d1 ⟨q1, q2, q3⟩ => by
    unfold oP
    by_cases hl : sl.length < 4000
    · obtain ⟨a1, a2, a3⟩ := q2 hl
      rw [if_pos hl]
      exact ⟨fun _ => by rw [List.length_append]; exact a2, a1, a3, q3⟩
    · obtain ⟨a1, a2⟩ := q1 (by omega)
      rw [if_neg hl]
      exact ⟨fun z => absurd (show (1 : Nat) = 0 from z) (by decide), a1, a2, q3⟩)
theorem rp_bit (h : ms_is d sl) : ax_E 125 [.ref 540, .int x] d (ax_Pi fun y d1 => (oI sl.length x = 0 → y = nI (sl.getD x.toNatClampNeg 0)) ∧ d1 540 0 = nI (oI sl.length x) ∧ ms_is d1 sl ∧ mss d d1) :=
  ax_E_i (sm_bit h) (fun y d1 ⟨q1, q2, q3, q4⟩ => by
    have hl := h.1
    unfold oI
    rcases ix_cases (show sl.length < 2 ^ 31 by omega) x with ⟨j, hj, hx, hc⟩ | ⟨hx, hc⟩
    · obtain ⟨a1, a2⟩ := q1 j hj hx
      rw [if_pos hc, hx, nI_clamp (by omega)]
      exact ⟨fun _ => a2, a1, q3, q4⟩
    · rw [if_neg hc]
      exact ⟨fun z => absurd z (by decide), q2 hx, q3, q4⟩)
theorem rp_flip (h : ms_is d sl) : ax_E 126 [.ref 540, .int x] d (ax_Pv fun d1 => d1 540 0 = nI (oF sl x).1 ∧ ms_is d1 (oF sl x).2 ∧ mss d d1) :=
  ax_E_v (sm_flip h) (fun d1 ⟨q1, q2, q3⟩ => by
    have hl := h.1
    unfold oF
    rcases ix_cases (show sl.length < 2 ^ 31 by omega) x with ⟨j, hj, hx, hc⟩ | ⟨hx, hc⟩
    · obtain ⟨a1, a2⟩ := q1 j hj hx
      rw [if_pos hc, hx, nI_clamp (by omega)]
      exact ⟨a1, a2, q3⟩
    · rw [if_neg hc]
      exact ⟨(q2 hx).1, (q2 hx).2, q3⟩)
theorem rp_cut (h : ms_is d sl) : ax_E 127 [.ref 540, .int x] d (ax_Pv fun d1 => d1 540 0 = nI (oK sl x).1 ∧ ms_is d1 (oK sl x).2 ∧ mss d d1) :=
  ax_E_v (sm_cut h) (fun d1 ⟨q1, q2, q3⟩ => by
    have hl := h.1
    unfold oK
    rcases ix_cases (show sl.length + 1 < 2 ^ 31 by omega) x with ⟨j, hj, hx, hc⟩ | ⟨hx, hc⟩
    · obtain ⟨a1, a2⟩ := q1 j (by omega) hx
      have hc2 : ¬ x < 0 ∧ x ≤ nI sl.length := ⟨hc.1, by rw [hx]; exact (nI_leI (by omega) (by omega)).mpr (by omega)⟩
      rw [if_pos hc2, hx, nI_clamp (by omega)]
      exact ⟨a1, a2, q3⟩
    · have hc2 : ¬ (¬ x < 0 ∧ x ≤ nI sl.length) := fun z => hc ⟨z.1, Int32.lt_of_le_of_lt z.2 ((nI_ltI (by omega) (by omega)).mpr (Nat.lt_succ_self _))⟩
      rw [if_neg hc2]
      exact ⟨(q2 hx).1, (q2 hx).2, q3⟩)
theorem rp_event (h : me_is d es) : ax_E 140 [.ref 540, .int x, .int y] d (ax_Pi fun z d1 => (oE es x y = 0 → z = nI (evp (es.getD x.toNatClampNeg (0, 0, 0, 0)) y.toNatClampNeg)) ∧ d1 540 0 = nI (oE es x y) ∧ d1 = ax_up d 540 0 (d1 540 0)) :=
  ax_E_i (sm_event h) (fun z d1 ⟨q1, q2, q3, q4⟩ => by
    have hl := h.1
    unfold oE
    rcases ix_cases (show es.length < 2 ^ 31 by omega) x with ⟨i, hi, hx, hc⟩ | ⟨hx, hc⟩
    · rw [if_pos hc]
      rcases ix_cases (show 4 < 2 ^ 31 by decide) y with ⟨k, hk, hy, hd⟩ | ⟨hy, hd⟩
      · obtain ⟨a1, a2⟩ := q1 i k hi hk hx hy
        rw [if_pos hd, hx, hy, nI_clamp (by omega), nI_clamp (by omega)]
        exact ⟨fun _ => a1, a2, q4⟩
      · rw [if_neg hd]
        exact ⟨fun z => absurd z (by decide), q3 i hi hx hy, q4⟩
    · rw [if_neg hc]
      exact ⟨fun z => absurd z (by decide), q2 hx, q4⟩)
theorem rp_again (h : MX d S) (he : me_is d es) (hEV : ∀ e, e ∈ es → EVk e) (hl : es.length ≤ 200) : ax_E 141 [.ref 540] d (ax_Pi fun y d1 => ((oZ S es).1 = 0 → y = nI (oZ S es).2.2.2.2.2.2.length) ∧ xP d (oZ S es) d1) := by
  unfold oZ
  by_cases h0 : es.length = 0
  · obtain rfl := List.length_eq_zero_iff.mp h0
    rw [if_pos h0]
    exact ax_E_i (sm_again0 h he) (fun y d1 q => ⟨fun z => absurd (show (1 : Nat) = 0 from z) (by decide), q⟩)
  · rw [if_neg h0]
    exact ax_E_i (sm_again h he hEV hl (by omega)) (fun y d1 ⟨q1, q2, q3, q4, q5⟩ => ⟨q1, q2, q3, q4, q5⟩)
theorem oC_le : (oC S).1 ≤ 2 := by
  unfold oC
  rcases oW_le (S := S) (k := 4) (sp := 0) (lo := 0) (v := 0) with h | h | h <;> rw [h] <;> exact Nat.le_of_ble_eq_true rfl
theorem oP_le : (oP sl b).1 ≤ 1 := by unfold oP; split <;> exact Nat.le_of_ble_eq_true rfl
theorem oI_le {n : Nat} : oI n x ≤ 1 := by unfold oI; split <;> decide
theorem oE_le : oE es x y ≤ 2 := by
  unfold oE
  split
  · split <;> decide
  · decide
theorem rD_le : (rD sl).1 ≤ 2 := by
  rcases (rD_G (sl := sl)).2.2.2 with h | h | h <;> rw [h] <;> decide
theorem oA_le : (oA es).1 ≤ 2 := by unfold oA; split <;> exact Nat.le_of_ble_eq_true rfl
theorem oZ_le : (oZ S es).1 ≤ 2 := by
  unfold oZ
  split
  · exact Nat.le_of_ble_eq_true rfl
  · exact oA_le
theorem WI_oC (hI : WI S) : WI (oC S).2 := WI_oW hI (Or.inr (Or.inr (Or.inr rfl))) (by decide) (by decide) (by decide)
theorem WI_oZ (hI : WI S) (hE : ∀ e, e ∈ es → EVk e) : WI (oZ S es).2 := by
  unfold oZ
  split
  · exact hI
  · exact WI_oA hE
theorem nI_z {n : Nat} (hn : n ≤ 3) (h : nI n = 0) : n = 0 := (nI_eq (by omega) (by decide)).mp (h.trans nI_0.symm)
end RP
