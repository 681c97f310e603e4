/-! WHAT HOLDS OF THE TABLES at all times: of any document (BI), of a writer's (NI besides). -/
def vc (T : TT) (c : Nat) : Prop := ((c % 8 = 1 ∨ c % 8 = 2) ∧ c / 8 < (T 4 0).length) ∨ c = 3 ∨ c = 4
def CI (T : TT) : Prop := (∀ k c, c ∈ T 6 k → vc T c) ∧ ∀ k c, c ∈ T 7 k → vc T c ∧ (c % 8 = 1 ∨ c = 3)
def EI (T : TT) : Prop := (∀ k, (T 0 0).length ≤ k → T 1 k = []) ∧ ∀ k, (T 4 0).length ≤ k → T 2 k = [] ∧ T 6 k = [] ∧ T 7 k = []
def BI (T : TT) : Prop := TB T ∧ T45 T ∧ EI T ∧ LB T ∧ CI T
theorem CI_mono {T T' : TT} (h : CI T) (h6 : T' 6 = T 6) (h7 : T' 7 = T 7) (h4 : (T 4 0).length ≤ (T' 4 0).length) : CI T' := by
  have key : ∀ c, vc T c → vc T' c := fun c hc => hc.elim (fun q => Or.inl ⟨q.1, Nat.lt_of_lt_of_le q.2 h4⟩) Or.inr
  refine ⟨fun k c hc => key c (h.1 k c (by rw [← h6]; exact hc)), fun k c hc => ?_⟩
  have := h.2 k c (by rw [← h7]; exact hc)
  exact ⟨key c this.1, this.2⟩
theorem tst_row {T : TT} {j k j' : Nat} {l : List Nat} (h : j' ≠ j) : tst T j k l j' = T j' := funext fun k' => tst_ne (Or.inl h)
section PU
variable {T T' : TT} {x sp lo p n c k : Nat}
theorem BI_sp (h : BI T) (hx : x < tB) (hr : (T 0 0).length < 6) : BI (tst T 0 0 (T 0 0 ++ [x])) := by
  obtain ⟨h1, h2, h3, h4, h5⟩ := h
  refine ⟨TB_st h1 (mem_app1 (h1 0 0) hx), T45_st h2 (by decide) (by decide), ⟨fun k hk => ?_, fun k hk => ?_⟩, LB_st h4 (by rw [List.length_append]; exact hr), CI_mono h5 (tst_row (by decide)) (tst_row (by decide)) (by rw [tst_ne (Or.inl (by decide))]; exact Nat.le_refl _)⟩
  · rw [tst_at, List.length_append] at hk
    rw [tst_ne (Or.inl (by decide))]
    exact h3.1 k (by omega)
  · rw [tst_ne (Or.inl (by decide))] at hk
    rw [tst_ne (Or.inl (by decide)), tst_ne (Or.inl (by decide)), tst_ne (Or.inl (by decide))]
    exact h3.2 k hk
theorem BI_lo (h : BI T) (hx : x < tB) (hp : p < (T 0 0).length) (hr : (T 1 p).length < 10) : BI (tst T 1 p (T 1 p ++ [x])) := by
  obtain ⟨h1, h2, h3, h4, h5⟩ := h
  refine ⟨TB_st h1 (mem_app1 (h1 1 p) hx), T45_st h2 (by decide) (by decide), ⟨fun k hk => ?_, fun k hk => ?_⟩, LB_st h4 (by rw [List.length_append]; exact hr), CI_mono h5 (tst_row (by decide)) (tst_row (by decide)) (by rw [tst_ne (Or.inl (by decide))]; exact Nat.le_refl _)⟩
  · rw [tst_ne (Or.inl (by decide))] at hk
    rw [tst_ne (Or.inr (by omega))]
    exact h3.1 k hk
  · rw [tst_ne (Or.inl (by decide))] at hk
    rw [tst_ne (Or.inl (by decide)), tst_ne (Or.inl (by decide)), tst_ne (Or.inl (by decide))]
    exact h3.2 k hk
theorem tnm_4 : tnm T sp lo 4 0 = T 4 0 ++ [sp] := by unfold tnm; rw [tst_ne (Or.inl (by decide)), tst_at]
theorem tnm_5 : tnm T sp lo 5 0 = T 5 0 ++ [lo] := by unfold tnm; rw [tst_at]
theorem tnm_n {j : Nat} (h4 : j ≠ 4) (h5 : j ≠ 5) : tnm T sp lo j = T j := by unfold tnm; rw [tst_row h5, tst_row h4]
theorem BI_nm (h : BI T) (hs : sp < tB) (hl : lo < tB) (hr : (T 4 0).length < 20) : BI (tnm T sp lo) := by
  obtain ⟨h1, h2, h3, h4, h5⟩ := h
  refine ⟨tnm_TB h1 hs hl, tnm_45 h2, ⟨fun k hk => ?_, fun k hk => ?_⟩, LB_st (LB_st h4 (by rw [List.length_append]; exact hr)) (by rw [List.length_append, ← show (T 4 0).length = (T 5 0).length from h2]; exact hr), CI_mono h5 (tnm_n (by decide) (by decide)) (tnm_n (by decide) (by decide)) (by rw [tnm_4, List.length_append]; exact Nat.le_add_right _ _)⟩
  · rw [tnm_n (by decide) (by decide)] at hk ⊢
    exact h3.1 k hk
  · rw [tnm_4, List.length_append] at hk
    rw [tnm_n (by decide) (by decide), tnm_n (by decide) (by decide), tnm_n (by decide) (by decide)]
    exact h3.2 k (by omega)
theorem tln_c (T : TT) (j k c : Nat) : tln T j k c = T ∨ ∃ l, tln T j k c = tst T j k l ∧ (∀ e, e ∈ l → e ∈ T j k ∨ e = c) ∧ ((T j k).length ≤ 12 → l.length ≤ 12) := by
  cases hf : fi (T j k) c with
  | some q => exact Or.inl (by unfold tln; rw [hf])
  | none =>
    by_cases hl : (T j k).length < 12
    · refine Or.inr ⟨c :: T j k, by unfold tln; rw [hf, if_pos hl], fun e he => ?_, fun _ => hl⟩
      rcases List.mem_cons.mp he with h | h
      · exact Or.inr h
      · exact Or.inl h
    · exact Or.inr ⟨T j k, by unfold tln; rw [hf, if_neg hl], fun e he => Or.inl he, fun h => h⟩
theorem tln_row {j j' : Nat} (h : j' ≠ j) : tln T j k c j' = T j' := by
  rcases tln_c T j k c with e | ⟨l, e, -, -⟩
  · rw [e]
  · rw [e]; exact tst_row h
theorem tln_mem {j c' k' : Nat} (h : c' ∈ tln T j k c j k') : c' ∈ T j k' ∨ (c' = c ∧ k' = k) := by
  rcases tln_c T j k c with e | ⟨l, e, hl, -⟩
  · rw [e] at h; exact Or.inl h
  · rw [e] at h
    by_cases hk : k' = k
    · subst hk
      rw [tst_at] at h
      exact (hl c' h).elim Or.inl (fun q => Or.inr ⟨q, rfl⟩)
    · rw [tst_ne (Or.inr hk)] at h; exact Or.inl h
theorem tln_ne {j k' : Nat} (h : k' ≠ k) : tln T j k c j k' = T j k' := by
  rcases tln_c T j k c with e | ⟨l, e, -, -⟩
  · rw [e]
  · rw [e]; exact tst_ne (Or.inr h)
theorem BI_ln {f : Bool} (h : BI T) (hc : c < tB) (hv : vc T c) (hv7 : f = true → c % 8 = 1 ∨ c = 3) (hk : k < (T 4 0).length) : BI (tln T (kj f) k c) := by
  obtain ⟨h1, h2, h3, h4, h5⟩ := h
  have e4 : tln T (kj f) k c 4 = T 4 := tln_row (kj_4 f).symm
  refine ⟨tln_TB h1 hc, tln_45 h2 (kj_4 f) (kj_5 f), ⟨fun q hq => ?_, fun q hq => ?_⟩, ?_, ?_⟩
  · rw [tln_row (by cases f <;> decide)] at hq ⊢
    exact h3.1 q hq
  · rw [e4] at hq
    have := h3.2 q hq
    rw [tln_row (by cases f <;> decide)]
    refine ⟨this.1, ?_, ?_⟩
    · cases f
      · exact (tln_ne (j := 6) (by omega)).trans this.2.1
      · exact (congrFun (tln_row (j := 7) (j' := 6) (by decide)) q).trans this.2.1
    · cases f
      · exact (congrFun (tln_row (j := 6) (j' := 7) (by decide)) q).trans this.2.2
      · exact (tln_ne (j := 7) (by omega)).trans this.2.2
  · rcases tln_c T (kj f) k c with e | ⟨l, e, -, hl⟩
    · rw [e]; exact h4
    · rw [e]
      refine LB_st h4 ?_
      have : (T 4 0).length ≤ 20 := lb4 h4
      have h6 := h4 (kj f) (kj_lt f) k (kj_nr f (by omega))
      rw [kj_rm] at h6 ⊢
      exact hl h6
  · have key2 : ∀ c', vc T c' → vc (tln T (kj f) k c) c' := fun c' hc => by unfold vc; rw [e4]; exact hc
    cases f
    · refine ⟨fun q c' hc' => ?_, fun q c' hc' => ?_⟩
      · rcases tln_mem (j := 6) hc' with hq | ⟨rfl, -⟩
        · exact key2 c' (h5.1 q c' hq)
        · exact key2 c' hv
      · have hq : c' ∈ T 7 q := by rw [show tln T (kj false) k c 7 = T 7 from tln_row (by decide)] at hc'; exact hc'
        exact ⟨key2 c' (h5.2 q c' hq).1, (h5.2 q c' hq).2⟩
    · refine ⟨fun q c' hc' => ?_, fun q c' hc' => ?_⟩
      · have hq : c' ∈ T 6 q := by rw [show tln T (kj true) k c 6 = T 6 from tln_row (by decide)] at hc'; exact hc'
        exact key2 c' (h5.1 q c' hq)
      · rcases tln_mem (j := 7) hc' with hq | ⟨rfl, -⟩
        · exact ⟨key2 c' (h5.2 q c' hq).1, (h5.2 q c' hq).2⟩
        · exact ⟨key2 c' hv, hv7 rfl⟩
theorem tav_row {j v : Nat} (h2 : j ≠ 2) (h3 : j ≠ 3) : tav T n v j = T j := by
  unfold tav
  split
  · rfl
  · rw [tst_row h3, tst_row h2]
theorem BI_av {v : Nat} (h : BI T) (hv : v < tB) (hn : n < (T 4 0).length) : BI (tav T n v) := by
  obtain ⟨h1, h2, h3, h4, h5⟩ := h
  have l4 := lb4 h4
  refine ⟨tav_TB h1 hv, tav_45 h2, ⟨fun q hq => ?_, fun q hq => ?_⟩, ?_, CI_mono h5 (tav_row (by decide) (by decide)) (tav_row (by decide) (by decide)) (by rw [tav_row (by decide) (by decide)]; exact Nat.le_refl _)⟩
  · rw [tav_row (by decide) (by decide)] at hq ⊢
    exact h3.1 q hq
  · rw [tav_row (by decide) (by decide)] at hq
    rw [tav_row (j := 6) (by decide) (by decide), tav_row (j := 7) (by decide) (by decide)]
    refine ⟨?_, (h3.2 q hq).2⟩
    unfold tav
    split
    · exact (h3.2 q hq).1
    · rw [tst_ne (Or.inl (by decide)), tst_ne (Or.inr (by omega))]
      exact (h3.2 q hq).1
  · unfold tav
    split
    · exact h4
    · refine LB_st (LB_st h4 ?_) ?_
      · split
        · rename_i q; rw [List.length_append]; exact q
        · exact lb2 h4 (by omega)
      · split
        · rename_i q; rw [List.length_append]; exact q
        · exact lb3 h4
theorem BI_00 : BI t00 := by
  refine ⟨TB_00, rfl, ⟨fun k hk => rfl, fun k hk => ⟨rfl, rfl, rfl⟩⟩, ?_, ⟨fun k c hc => (by cases hc), fun k c hc => (by cases hc)⟩⟩
  intro j hj k hk
  unfold t00
  split
  · rename_i q; rw [q.1]; decide
  · exact Nat.zero_le _
/-! codes of the class and of the reference -/
def vc1 (c : Nat) : Prop := c % 8 = 1 ∨ c % 8 = 2 ∨ c = 3 ∨ c = 4
theorem vc_1 (h : vc T c) : vc1 c := by unfold vc1; rcases h with h | h | h <;> omega
theorem mc_inj {a b : Nat} (ha : vc1 a) (hb : vc1 b) (h : mc a = mc b) : a = b := by
  unfold mc at h
  rcases ha with ha | ha | rfl | rfl <;> rcases hb with hb | hb | rfl | rfl <;> (repeat' split at h) <;> omega
theorem fi_mc {l : List Nat} (hl : ∀ e, e ∈ l → vc1 e) (hc : vc1 c) : fi (l.map mc) (mc c) = fi l c := by
  unfold fi
  rw [List.findIdx?_map]
  apply fIdx_congr
  intro y hy
  show (mc y == mc c) = (y == c)
  by_cases h2 : y = c
  · subst h2; simp
  · have h3 : ¬ mc y = mc c := fun q => h2 (mc_inj (hl y hy) hc q)
    exact (beq_false_of_ne h3).trans (beq_false_of_ne h2).symm
theorem mc_1 (i : Nat) : mc (i * 8 + 1) = 2 + 2 * i := by unfold mc; rw [if_pos (by omega)]; omega
theorem mc_2 (i : Nat) : mc (i * 8 + 2) = 3 + 2 * i := by unfold mc; rw [if_neg (by omega), if_pos (by omega)]; omega
theorem CI_row {f : Bool} (h : CI T) (k : Nat) : ∀ e, e ∈ T (kj f) k → vc T e := by
  cases f
  · exact h.1 k
  · exact fun e he => (h.2 k e he).1
theorem vc_lt (h : vc T c) (h4 : (T 4 0).length ≤ 20) : c < 1000 := by rcases h with h | h | h <;> omega
theorem mc_lt (h : c < 1000) : mc c < tB := mc_tB h
theorem fi_mcT {f : Bool} (h : CI T) (hc : vc1 c) : fi ((T (kj f) k).map mc) (mc c) = fi (T (kj f) k) c := fi_mc (fun e he => vc_1 (CI_row h k e he)) hc
/-- in content there is no code of CLOSE -/
theorem fi_c0 (h : CI T) : fi ((T 7 k).map mc) (mc 4) = none := by
  rw [fi_mc (fun e he => vc_1 (h.2 k e he).1) (Or.inr (Or.inr (Or.inr rfl))), fi_none]
  intro q
  rcases (h.2 k 4 q).2 with h | h <;> omega
end PU
