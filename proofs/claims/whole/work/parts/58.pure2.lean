/-! WHAT HOLDS OF A WRITER'S TABLES: names. -/
section PV
variable {T T' : TT} {x sp lo p n c k : Nat}
theorem fi_ap {l m : List Nat} {i : Nat} (h : fi l x = some i) : fi (l ++ m) x = some i := by
  unfold fi at h ⊢
  rw [List.findIdx?_append, h]
  rfl
theorem fi_ap1 {l : List Nat} (h : fi l x = none) : fi (l ++ [x]) x = some l.length := by
  unfold fi at h ⊢
  rw [List.findIdx?_append, h]
  simp [List.findIdx?_cons]
theorem fi_ap0 {l : List Nat} {y : Nat} (h : fi l x = none) (hy : y ≠ x) : fi (l ++ [y]) x = none := by
  unfold fi at h ⊢
  rw [List.findIdx?_append, h]
  simp [List.findIdx?_cons, hy]
theorem fn_in {i : Nat} (hi : i < (T 4 0).length) (h1 : (T 4 0).getD i 0 = sp) (h2 : (T 5 0).getD i 0 = lo) : fn T sp lo ≠ none := fun h => fn_no h i hi ⟨h1, h2⟩
theorem sSp_p : fi ((sSp T sp).2.1 0 0) sp = some (sSp T sp).2.2 := by
  cases hq : fi (T 0 0) sp with
  | some q => unfold sSp; rw [hq]; exact hq
  | none => unfold sSp; rw [hq]; show fi (tst T 0 0 (T 0 0 ++ [sp]) 0 0) sp = _; rw [tst_at]; exact fi_ap1 hq
theorem sSp_old {s q : Nat} (h : fi (T 0 0) s = some q) : fi ((sSp T sp).2.1 0 0) s = some q := by
  cases hq : fi (T 0 0) sp with
  | some q => unfold sSp; rw [hq]; exact h
  | none => unfold sSp; rw [hq]; show fi (tst T 0 0 (T 0 0 ++ [sp]) 0 0) s = _; rw [tst_at]; exact fi_ap h
theorem sSp_new {s q : Nat} (h : fi ((sSp T sp).2.1 0 0) s = some q) : fi (T 0 0) s = some q ∨ (s = sp ∧ fi (T 0 0) sp = none ∧ q = (T 0 0).length) := by
  cases hq : fi (T 0 0) sp with
  | some w =>
    have e : (sSp T sp).2.1 = T := by unfold sSp; rw [hq]
    rw [e] at h
    exact Or.inl h
  | none =>
    have e : (sSp T sp).2.1 0 0 = T 0 0 ++ [sp] := by unfold sSp; rw [hq]; show tst T 0 0 (T 0 0 ++ [sp]) 0 0 = _; exact tst_at _ _ _ _
    rw [e] at h
    cases hs : fi (T 0 0) s with
    | some w => rw [fi_ap hs] at h; exact Or.inl h
    | none =>
      by_cases hss : sp = s
      · subst hss
        rw [fi_ap1 hs] at h
        exact Or.inr ⟨rfl, rfl, (Option.some.inj h).symm⟩
      · rw [fi_ap0 hs hss] at h; cases h
theorem sSp_len0 : (T 0 0).length ≤ ((sSp T sp).2.1 0 0).length := by
  cases hq : fi (T 0 0) sp with
  | some w =>
    have e : (sSp T sp).2.1 = T := by unfold sSp; rw [hq]
    rw [e]; exact Nat.le_refl _
  | none =>
    have e : (sSp T sp).2.1 0 0 = T 0 0 ++ [sp] := by unfold sSp; rw [hq]; show tst T 0 0 (T 0 0 ++ [sp]) 0 0 = _; exact tst_at _ _ _ _
    rw [e, List.length_append]; exact Nat.le_add_right _ _
theorem sLo_old {q : Nat} (h : x ∈ T 1 q) : x ∈ (sLo T p lo).2 1 q := by
  cases hq : fi (T 1 p) lo with
  | some w =>
    have e : (sLo T p lo).2 = T := by unfold sLo; rw [hq]
    rw [e]; exact h
  | none =>
    have e : (sLo T p lo).2 = tst T 1 p (T 1 p ++ [lo]) := by unfold sLo; rw [hq]
    rw [e]
    by_cases hp : q = p
    · subst hp; rw [tst_at]; exact List.mem_append_left _ h
    · rw [tst_ne (Or.inr hp)]; exact h
theorem sLo_new {q : Nat} (h : x ∈ (sLo T p lo).2 1 q) : x ∈ T 1 q ∨ (x = lo ∧ q = p) := by
  cases hq : fi (T 1 p) lo with
  | some w =>
    have e : (sLo T p lo).2 = T := by unfold sLo; rw [hq]
    rw [e] at h; exact Or.inl h
  | none =>
    have e : (sLo T p lo).2 = tst T 1 p (T 1 p ++ [lo]) := by unfold sLo; rw [hq]
    rw [e] at h
    by_cases hp : q = p
    · subst hp
      rw [tst_at] at h
      rcases List.mem_append.mp h with h | h
      · exact Or.inl h
      · exact Or.inr ⟨List.mem_singleton.mp h, rfl⟩
    · rw [tst_ne (Or.inr hp)] at h; exact Or.inl h
theorem fi_mem {l : List Nat} {i : Nat} (h : fi l x = some i) : x ∈ l := by
  have := getD_mem (fi_lt h)
  rw [fi_at h] at this
  exact this
theorem sLo_lo : lo ∈ (sLo T p lo).2 1 p := by
  cases hq : fi (T 1 p) lo with
  | some w =>
    have e : (sLo T p lo).2 = T := by unfold sLo; rw [hq]
    rw [e]; exact fi_mem hq
  | none =>
    have e : (sLo T p lo).2 = tst T 1 p (T 1 p ++ [lo]) := by unfold sLo; rw [hq]
    rw [e, tst_at]; exact List.mem_append_right _ (List.mem_singleton.mpr rfl)
theorem sFo_c : ((sFo T sp lo).1 = T ∧ fn T sp lo = some (sFo T sp lo).2) ∨ ((sFo T sp lo).1 = tnm T sp lo ∧ (sFo T sp lo).2 = (T 4 0).length ∧ fn T sp lo = none) := by
  cases hq : fn T sp lo with
  | some w => exact Or.inl ⟨by unfold sFo; rw [hq], by unfold sFo; rw [hq]⟩
  | none => exact Or.inr ⟨by unfold sFo; rw [hq], by unfold sFo; rw [hq], rfl⟩
theorem sFo_row {j : Nat} (h4 : j ≠ 4) (h5 : j ≠ 5) : (sFo T sp lo).1 j = T j := by
  rcases sFo_c (T := T) (sp := sp) (lo := lo) with ⟨e, -⟩ | ⟨e, -⟩
  · rw [e]
  · rw [e]; exact tnm_n h4 h5
theorem sFo_i : (sFo T sp lo).2 < ((sFo T sp lo).1 4 0).length := by
  rcases sFo_c (T := T) (sp := sp) (lo := lo) with ⟨e, e2⟩ | ⟨e, e2, -⟩
  · rw [e]; exact (fn_spec e2).1
  · rw [e, e2, tnm_4, List.length_append]; exact Nat.lt_succ_self _
theorem sFo_len : (T 4 0).length ≤ ((sFo T sp lo).1 4 0).length := by
  rcases sFo_c (T := T) (sp := sp) (lo := lo) with ⟨e, e2⟩ | ⟨e, e2, -⟩
  · rw [e]; exact Nat.le_refl _
  · rw [e, tnm_4, List.length_append]; exact Nat.le_add_right _ _
theorem sFo_it (h : T45 T) : fn (sFo T sp lo).1 sp lo ≠ none := by
  rcases sFo_c (T := T) (sp := sp) (lo := lo) with ⟨e, e2⟩ | ⟨e, e2, -⟩
  · rw [e, e2]; exact fun q => by cases q
  · rw [e]
    refine fn_in (i := (T 4 0).length) (by rw [tnm_4, List.length_append]; exact Nat.lt_succ_self _) (by rw [tnm_4]; exact getD_app_1) ?_
    rw [tnm_5, show (T 4 0).length = (T 5 0).length from h]; exact getD_app_1
theorem sFo_old {s l : Nat} (h45 : T45 T) (h : fn T s l ≠ none) : fn (sFo T sp lo).1 s l ≠ none := by
  rcases sFo_c (T := T) (sp := sp) (lo := lo) with ⟨e, e2⟩ | ⟨e, e2, -⟩
  · rw [e]; exact h
  · rw [e]
    cases hq : fn T s l with
    | none => exact absurd hq h
    | some i =>
      obtain ⟨h1, h2, h3⟩ := fn_spec hq
      exact fn_in (i := i) (by rw [tnm_4, List.length_append]; omega) (by rw [tnm_4, getD_app_l h1]; exact h2) (by rw [tnm_5, getD_app_l (by rw [← show (T 4 0).length = (T 5 0).length from h45]; exact h1)]; exact h3)
theorem sFo_nm {i : Nat} (h45 : T45 T) (h : i < ((sFo T sp lo).1 4 0).length) : (i < (T 4 0).length ∧ ((sFo T sp lo).1 4 0).getD i 0 = (T 4 0).getD i 0 ∧ ((sFo T sp lo).1 5 0).getD i 0 = (T 5 0).getD i 0) ∨ (((sFo T sp lo).1 4 0).getD i 0 = sp ∧ ((sFo T sp lo).1 5 0).getD i 0 = lo) := by
  rcases sFo_c (T := T) (sp := sp) (lo := lo) with ⟨e, e2⟩ | ⟨e, e2, -⟩
  · rw [e] at h ⊢; exact Or.inl ⟨h, rfl, rfl⟩
  · rw [e] at h ⊢
    rw [tnm_4] at h ⊢
    rw [tnm_5]
    rw [List.length_append] at h
    by_cases hi : i < (T 4 0).length
    · exact Or.inl ⟨hi, getD_app_l hi, getD_app_l (by rw [← show (T 4 0).length = (T 5 0).length from h45]; exact hi)⟩
    · obtain rfl : i = (T 4 0).length := by simp at h; omega
      refine Or.inr ⟨getD_app_1, ?_⟩
      rw [show (T 4 0).length = (T 5 0).length from h45]
      exact getD_app_1
theorem sNa_row {j : Nat} (h0 : j ≠ 0) (h1 : j ≠ 1) (h4 : j ≠ 4) (h5 : j ≠ 5) : (sNa T sp lo).2.1 j = T j := by
  show (sFo _ sp lo).1 j = T j
  rw [sFo_row h4 h5]
  funext k
  rw [sLo_4 _ _ _ _ _ h1, sSp_4 _ _ _ _ h0]
theorem sNa_len4 : (T 4 0).length ≤ ((sNa T sp lo).2.1 4 0).length := by
  show _ ≤ ((sFo _ sp lo).1 4 0).length
  refine Nat.le_trans ?_ sFo_len
  rw [sLo_4 _ _ _ _ _ (by decide), sSp_4 _ _ _ _ (by decide)]
  exact Nat.le_refl _
theorem sNa_i : (sNa T sp lo).2.2 < ((sNa T sp lo).2.1 4 0).length := sFo_i
theorem NI_sNa (h : NI T) (hsp : sp < tB) (hlo : lo < tB) : NI (sNa T sp lo).2.1 := by
  obtain ⟨h1, h2, h3, h4, h5, h6⟩ := h
  have e0 : (sNa T sp lo).2.1 0 0 = (sSp T sp).2.1 0 0 := by
    show (sFo _ sp lo).1 0 0 = _
    rw [sFo_row (by decide) (by decide), sLo_4 _ _ _ _ _ (by decide)]
  have e1 : (sNa T sp lo).2.1 1 = (sLo (sSp T sp).2.1 (sSp T sp).2.2 lo).2 1 := by
    show (sFo _ sp lo).1 1 = _
    rw [sFo_row (by decide) (by decide)]
  have s1 : ∀ q, (sSp T sp).2.1 1 q = T 1 q := fun q => sSp_4 _ _ _ _ (by decide)
  have D : ∀ q x, x ∈ T 1 q → x ∈ (sNa T sp lo).2.1 1 q := fun q x hx => by rw [e1]; exact sLo_old (by rw [s1]; exact hx)
  have E : ∀ q x, x ∈ (sNa T sp lo).2.1 1 q → x ∈ T 1 q ∨ (x = lo ∧ q = (sSp T sp).2.2) := fun q x hx => by
    rw [e1] at hx
    have := sLo_new hx
    rw [s1] at this
    exact this
  have t45 : T45 (sLo (sSp T sp).2.1 (sSp T sp).2.2 lo).2 := sLo_45 (sSp_45 h2)
  have f4 := sFo_e T (sSp T sp).2.2 sp lo
  refine ⟨sNa_TB h1 hsp hlo, sNa_45 h2, fun k hk => ?_, fun i hi => ?_, fun s q x hs hx => ?_, fun k hk => ?_⟩
  · rw [e0] at hk
    have hp := fi_lt (sSp_p (T := T) (sp := sp))
    have hl := sSp_len0 (T := T) (sp := sp)
    rw [List.eq_nil_iff_forall_not_mem]
    intro x hx
    rcases E k x hx with q | ⟨-, q⟩
    · rw [h3 k (by omega)] at q; cases q
    · omega
  · rcases sFo_nm t45 hi with ⟨a, b, c⟩ | ⟨b, c⟩
    · rw [f4.1] at a b
      rw [f4.2] at c
      obtain ⟨p, hp, hm⟩ := h4 i a
      refine ⟨p, ?_, ?_⟩
      · rw [e0]
        show fi _ (((sFo _ sp lo).1 4 0).getD i 0) = _
        rw [b]
        exact sSp_old hp
      · show ((sFo _ sp lo).1 5 0).getD i 0 ∈ _
        rw [c]
        exact D p _ hm
    · refine ⟨(sSp T sp).2.2, ?_, ?_⟩
      · rw [e0]
        show fi _ (((sFo _ sp lo).1 4 0).getD i 0) = _
        rw [b]
        exact sSp_p
      · show ((sFo _ sp lo).1 5 0).getD i 0 ∈ _
        rw [c, e1]
        exact sLo_lo
  · rw [e0] at hs
    have old : ∀ s l, fn T s l ≠ none → fn (sNa T sp lo).2.1 s l ≠ none := fun s l hn => sFo_old t45 (by rw [fn_congr f4.1 f4.2]; exact hn)
    rcases E q x hx with hx | ⟨rfl, rfl⟩
    · rcases sSp_new hs with hs | ⟨-, -, rfl⟩
      · exact old s x (h5 s q x hs hx)
      · rw [h3 _ (Nat.le_refl _)] at hx; cases hx
    · have a1 := fi_at hs
      have a2 := fi_at (sSp_p (T := T) (sp := sp))
      obtain rfl : s = sp := a1.symm.trans a2
      exact sFo_it t45
  · have := h6 k (Nat.le_trans sNa_len4 hk)
    rw [sNa_row (by decide) (by decide) (by decide) (by decide), sNa_row (by decide) (by decide) (by decide) (by decide), sNa_row (by decide) (by decide) (by decide) (by decide)]
    exact this
theorem NI_67 (h : NI T) (hTB : TB T') (h0 : T' 0 = T 0) (h1 : T' 1 = T 1) (h4 : T' 4 = T 4) (h5 : T' 5 = T 5) (he : EI T') : NI T' := by
  obtain ⟨a1, a2, a3, a4, a5, a6⟩ := h
  refine ⟨hTB, by unfold T45; rw [h4, h5]; exact a2, he.1, ?_, ?_, he.2⟩
  · rw [h0, h1, h4, h5]; exact a4
  · intro s p l
    rw [h0, h1, fn_congr (congrFun h4 0) (congrFun h5 0)]
    exact a5 s p l
theorem rm3_p (hr : rm3 T sp lo) (h0 : (T 0 0).length ≤ 6) : (sSp T sp).2.2 < ((sSp T sp).2.1 0 0).length := fi_lt sSp_p
theorem BI_sNa (h : BI T) (hsp : sp < tB) (hlo : lo < tB) (hr : rm3 T sp lo) : BI (sNa T sp lo).2.1 := by
  obtain ⟨r1, r2, r3⟩ := hr
  have b1 : BI (sSp T sp).2.1 := by
    cases hq : fi (T 0 0) sp with
    | some w =>
      have e : (sSp T sp).2.1 = T := by unfold sSp; rw [hq]
      rw [e]; exact h
    | none =>
      have e : (sSp T sp).2.1 = tst T 0 0 (T 0 0 ++ [sp]) := by unfold sSp; rw [hq]
      rw [e]; exact BI_sp h hsp (r1 hq)
  have hp : (sSp T sp).2.2 < ((sSp T sp).2.1 0 0).length := fi_lt sSp_p
  have b2 : BI (sLo (sSp T sp).2.1 (sSp T sp).2.2 lo).2 := by
    cases hq : fi ((sSp T sp).2.1 1 (sSp T sp).2.2) lo with
    | some w =>
      have e : (sLo (sSp T sp).2.1 (sSp T sp).2.2 lo).2 = (sSp T sp).2.1 := by unfold sLo; rw [hq]
      rw [e]; exact b1
    | none =>
      have e : (sLo (sSp T sp).2.1 (sSp T sp).2.2 lo).2 = tst (sSp T sp).2.1 1 (sSp T sp).2.2 ((sSp T sp).2.1 1 (sSp T sp).2.2 ++ [lo]) := by unfold sLo; rw [hq]
      rw [e]; exact BI_lo b1 hlo hp (r2 hq)
  have f4 := sFo_e T (sSp T sp).2.2 sp lo
  show BI (sFo _ sp lo).1
  rcases sFo_c (T := (sLo (sSp T sp).2.1 (sSp T sp).2.2 lo).2) (sp := sp) (lo := lo) with ⟨e, e2⟩ | ⟨e, e2, e3⟩
  · rw [e]; exact b2
  · rw [e]
    rw [fn_congr f4.1 f4.2] at e3
    exact BI_nm b2 hsp hlo (by rw [f4.1]; exact r3 e3)
/-- whether a name lacks room: as the class and as the reference has it -/
theorem lk_rfn (h : NI T) (hL : LB T) : lk T sp lo = !rfn T sp lo := by
  obtain ⟨h1, h2, h3, h4, h5, h6⟩ := h
  have l0 := lb0 hL
  have l4 := lb4 hL
  cases hn : fn T sp lo with
  | some i =>
    obtain ⟨a, b, c⟩ := fn_spec hn
    obtain ⟨p, hp, hm⟩ := h4 i a
    rw [b] at hp
    rw [c] at hm
    obtain ⟨w, hw⟩ := fi_some hm
    unfold lk rfn
    rw [hn, hp]
    simp only [hw]
    rfl
  | none =>
    unfold lk rfn
    rw [hn]
    cases hs : fi (T 0 0) sp with
    | none =>
      simp only [Option.isSome_none, Bool.false_or]
      by_cases q1 : (T 0 0).length = 6 <;> by_cases q2 : (T 4 0).length = 20
      · rw [decide_eq_true q1, decide_eq_true q2, decide_eq_false (show ¬ (T 4 0).length < 20 by omega)]; rfl
      · rw [decide_eq_true q1, decide_eq_false q2, decide_eq_false (show ¬ (T 0 0).length < 6 by omega), Bool.and_false]; rfl
      · rw [decide_eq_false q1, decide_eq_true q2, decide_eq_false (show ¬ (T 4 0).length < 20 by omega)]; rfl
      · rw [decide_eq_false q1, decide_eq_false q2, decide_eq_true (show (T 4 0).length < 20 by omega), decide_eq_true (show (T 0 0).length < 6 by omega)]; rfl
    | some p =>
      have l1 := lb1 hL (Nat.lt_of_lt_of_le (fi_lt hs) l0)
      have hw : fi (T 1 p) lo = none := fi_none.mpr (fun q => h5 sp p lo hs q hn)
      simp only [hw, Option.isSome_none, Bool.false_or, Option.isNone_none, Bool.true_and]
      by_cases q1 : (T 1 p).length = 10 <;> by_cases q2 : (T 4 0).length = 20
      · rw [decide_eq_true q1, decide_eq_true q2, decide_eq_false (show ¬ (T 4 0).length < 20 by omega)]; rfl
      · rw [decide_eq_true q1, decide_eq_false q2, decide_eq_false (show ¬ (T 1 p).length < 10 by omega), Bool.and_false]; rfl
      · rw [decide_eq_false q1, decide_eq_true q2, decide_eq_false (show ¬ (T 4 0).length < 20 by omega)]; rfl
      · rw [decide_eq_false q1, decide_eq_false q2, decide_eq_true (show (T 4 0).length < 20 by omega), decide_eq_true (show (T 1 p).length < 10 by omega)]; rfl
end PV
