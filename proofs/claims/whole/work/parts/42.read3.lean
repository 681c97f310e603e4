/-! READING, codes and events. -/
def rTk (sl : List Nat) (t : Nat) : Option Nat × Nat := match (rP sl 4 t).1 with
  | some p => (some (if p = 0 then 4 else if p = 1 then 2 else if p = 2 then 1 else 3), (rP sl 4 t).2)
  | none => (none, (rP sl 4 t).2)
def rCk (sl : List Nat) (t : Nat) : Option Nat × Nat := match (rP sl 2 t).1 with
  | some p => (some (if p = 0 then 1 else 3), (rP sl 2 t).2)
  | none => (none, (rP sl 2 t).2)
def rKd (sl : List Nat) (f : Bool) (t : Nat) : Option Nat × Nat := if f then rCk sl t else rTk sl t
def rNc (sl : List Nat) (T : TT) (f : Bool) (k kind t : Nat) : Option Nat × TT × Nat := match (rNa sl T t).1 with
  | none => (none, T, (rNa sl T t).2.2)
  | some i => (some (i * 8 + kind), tln (rNa sl T t).2.1 (kj f) k (i * 8 + kind), (rNa sl T t).2.2)
def rLc (sl : List Nat) (T : TT) (f : Bool) (k t : Nat) : Option Nat × TT × Nat := match (rKd sl f t).1 with
  | none => (none, T, (rKd sl f t).2)
  | some kind => if kind = 1 ∨ kind = 2 then rNc sl T f k kind (rKd sl f t).2 else (some kind, tln T (kj f) k kind, (rKd sl f t).2)
def rCo (sl : List Nat) (T : TT) (f : Bool) (k t : Nat) : Option Nat × TT × Nat := match (rP sl (cho T f k) t).1 with
  | none => (none, T, (rP sl (cho T f k) t).2)
  | some p => if p < (T (kj f) k).length then (some ((T (kj f) k).getD p 0), T, (rP sl (cho T f k) t).2) else if f = true ∧ p = (T (kj f) k).length then (some 4, T, (rP sl (cho T f k) t).2) else rLc sl T f k (rP sl (cho T f k) t).2
theorem rTk_v {sl : List Nat} {t v : Nat} (h : (rTk sl t).1 = some v) : v = 1 ∨ v = 2 ∨ v = 3 ∨ v = 4 := by
  unfold rTk at h
  split at h
  · cases h
    (repeat' split) <;> simp
  · cases h
theorem rCk_v {sl : List Nat} {t v : Nat} (h : (rCk sl t).1 = some v) : v = 1 ∨ v = 3 := by
  unfold rCk at h
  split at h
  · cases h
    split <;> simp
  · cases h
theorem rKd_v {sl : List Nat} {f : Bool} {t v : Nat} (h : (rKd sl f t).1 = some v) : v = 1 ∨ v = 2 ∨ v = 3 ∨ v = 4 := by
  unfold rKd at h
  split at h
  · rcases rCk_v h with q | q <;> simp [q]
  · exact rTk_v h
theorem rTk_t {sl : List Nat} {t : Nat} (h : t ≤ sl.length) : t ≤ (rTk sl t).2 ∧ (rTk sl t).2 ≤ sl.length := by
  have h1 := rP_t (m := 4) h
  unfold rTk
  split <;> exact h1
theorem rCk_t {sl : List Nat} {t : Nat} (h : t ≤ sl.length) : t ≤ (rCk sl t).2 ∧ (rCk sl t).2 ≤ sl.length := by
  have h1 := rP_t (m := 2) h
  unfold rCk
  split <;> exact h1
theorem rKd_t {sl : List Nat} {f : Bool} {t : Nat} (h : t ≤ sl.length) : t ≤ (rKd sl f t).2 ∧ (rKd sl f t).2 ≤ sl.length := by
  unfold rKd
  split
  · exact rCk_t h
  · exact rTk_t h
theorem rNc_t {sl : List Nat} {T : TT} {f : Bool} {k kind t : Nat} (h : t ≤ sl.length) : t ≤ (rNc sl T f k kind t).2.2 ∧ (rNc sl T f k kind t).2.2 ≤ sl.length := by
  have h1 := rNa_t (T := T) h
  unfold rNc
  split <;> exact h1
theorem rLc_t {sl : List Nat} {T : TT} {f : Bool} {k t : Nat} (h : t ≤ sl.length) : t ≤ (rLc sl T f k t).2.2 ∧ (rLc sl T f k t).2.2 ≤ sl.length := by
  have h1 := rKd_t (f := f) h
  unfold rLc
  split
  · exact h1
  · split
    · rename_i kind _ _
      have h2 := rNc_t (T := T) (f := f) (k := k) (kind := kind) h1.2
      exact ⟨Nat.le_trans h1.1 h2.1, h2.2⟩
    · exact h1
theorem rCo_t {sl : List Nat} {T : TT} {f : Bool} {k t : Nat} (h : t ≤ sl.length) : t ≤ (rCo sl T f k t).2.2 ∧ (rCo sl T f k t).2.2 ≤ sl.length := by
  have h1 := rP_t (m := cho T f k) h
  unfold rCo
  split
  · exact h1
  · split
    · exact h1
    · split
      · exact h1
      · have h2 := rLc_t (T := T) (f := f) (k := k) h1.2
        exact ⟨Nat.le_trans h1.1 h2.1, h2.2⟩
section R3
variable {d d1 : ax_D} {sl : List Nat} {t m n : Nat} {T : TT} {nm : Nat → Nat} {fl : Nat → Bool} {b : Bool}
theorem sp_tagKind (hs : bt_is d 517 sl) (h4 : d 514 4 = nI t) (hts : t ≤ sl.length) : ax_E 30 [.ref 514] d (ax_Pi fun y d1 => y = oi (rTk sl t).1 ∧ d1 514 4 = nI (rTk sl t).2 ∧ tk d d1) := by
  show ax_W 30 0 [some (.ref 514)] [] d _
  refine wx_aldn j30_0 rfl ?_
  refine wx_icst (v := nI 4) j30_1 (by decide) ?_
  refine wx_i1 j30_2 rfl rfl (Nat.le_of_ble_eq_true rfl) rfl (sp_takePlace (m := 4) hs h4 hts (by decide)) ?_
  rintro _ d1 ⟨rfl, h41, hf1⟩
  cases hr : (rP sl 4 t).1 with
  | none =>
    have e : rTk sl t = (none, (rP sl 4 t).2) := by unfold rTk; rw [hr]
    rw [e]
    simp only [oi]
    refine wx_tsw j30_5 (fun _ => ⟨44, by decide, ?_⟩) (fun q => absurd (by decide) q)
    refine wx_icst (v := (-1)) j30_44 (by decide) ?_
    refine wx_ri j30_45 rfl rfl ?_
    exact ⟨rfl, h41, hf1⟩
  | some q =>
    have e : rTk sl t = (some (if q = 0 then 4 else if q = 1 then 2 else if q = 2 then 1 else 3), (rP sl 4 t).2) := by unfold rTk; rw [hr]
    rw [e]
    simp only [oi]
    have hq := rP_v hr
    rcases (show q = 0 ∨ q = 1 ∨ q = 2 ∨ q = 3 by omega) with rfl | rfl | rfl | rfl
    · refine wx_tsw j30_5 (fun q => absurd q (by decide)) (fun _ => ⟨31, 36, by decide, by decide, ?_⟩)
      refine wx_icst (v := nI 4) j30_36 (by decide) ?_
      refine wx_ri j30_37 rfl rfl ?_
      exact ⟨rfl, h41, hf1⟩
    · refine wx_tsw j30_5 (fun q => absurd q (by decide)) (fun _ => ⟨33, 38, by decide, by decide, ?_⟩)
      refine wx_icst (v := nI 2) j30_38 (by decide) ?_
      refine wx_ri j30_39 rfl rfl ?_
      exact ⟨rfl, h41, hf1⟩
    · refine wx_tsw j30_5 (fun q => absurd q (by decide)) (fun _ => ⟨35, 40, by decide, by decide, ?_⟩)
      refine wx_icst (v := nI 1) j30_40 (by decide) ?_
      refine wx_ri j30_41 rfl rfl ?_
      exact ⟨rfl, h41, hf1⟩
    · refine wx_tsw j30_5 (fun q => absurd q (by decide)) (fun _ => ⟨37, 42, by decide, by decide, ?_⟩)
      refine wx_icst (v := nI 3) j30_42 (by decide) ?_
      refine wx_ri j30_43 rfl rfl ?_
      exact ⟨rfl, h41, hf1⟩
  -- 
theorem sp_conKind (hs : bt_is d 517 sl) (h4 : d 514 4 = nI t) (hts : t ≤ sl.length) : ax_E 31 [.ref 514] d (ax_Pi fun y d1 => y = oi (rCk sl t).1 ∧ d1 514 4 = nI (rCk sl t).2 ∧ tk d d1) := by
  show ax_W 31 0 [some (.ref 514)] [] d _
  refine wx_aldn j31_0 rfl ?_
  refine wx_icst (v := nI 2) j31_1 (by decide) ?_
  refine wx_i1 j31_2 rfl rfl (Nat.le_of_ble_eq_true rfl) rfl (sp_takePlace (m := 2) hs h4 hts (by decide)) ?_
  rintro _ d1 ⟨rfl, h41, hf1⟩
  cases hr : (rP sl 2 t).1 with
  | none =>
    have e : rCk sl t = (none, (rP sl 2 t).2) := by unfold rCk; rw [hr]
    rw [e]
    simp only [oi]
    refine wx_lsw 36 j31_5 (by decide) (by decide) ?_
    refine wx_icst (v := (-1)) j31_36 (by decide) ?_
    refine wx_ri j31_37 rfl rfl ?_
    exact ⟨rfl, h41, hf1⟩
  | some q =>
    have e : rCk sl t = (some (if q = 0 then 1 else 3), (rP sl 2 t).2) := by unfold rCk; rw [hr]
    rw [e]
    simp only [oi]
    have hq := rP_v hr
    rcases (show q = 0 ∨ q = 1 by omega) with rfl | rfl
    · refine wx_lsw 32 j31_5 (by decide) (by decide) ?_
      refine wx_icst (v := nI 1) j31_32 (by decide) ?_
      refine wx_ri j31_33 rfl rfl ?_
      exact ⟨rfl, h41, hf1⟩
    · refine wx_lsw 34 j31_5 (by decide) (by decide) ?_
      refine wx_icst (v := nI 3) j31_34 (by decide) ?_
      refine wx_ri j31_35 rfl rfl ?_
      exact ⟨rfl, h41, hf1⟩
  -- 
theorem rFo_TB {sp lo : Nat} (hb : TB T) (hs : sp < tB) (hl : lo < tB) : TB (rFo T sp lo).2 := by
  unfold rFo
  split
  · exact hb
  · split
    · exact tnm_TB hb hs hl
    · exact hb
theorem rFo_45 {sp lo : Nat} (h : T45 T) : T45 (rFo T sp lo).2 := by
  unfold rFo
  split
  · exact h
  · split
    · exact tnm_45 h
    · exact h
theorem rNa_TB (hb : TB T) : TB (rNa sl T t).2.1 := by
  unfold rNa
  split
  · exact hb
  · rename_i p hp
    have h1 := rSp_TB (sl := sl) (t := t) hb
    have h2 := rSp_p hp
    unfold rNx
    split
    · exact h1
    · rename_i lo hlo
      have h3 := rLo_TB (sl := sl) (t := (rSp sl T t).2.2) (p := p) h1
      refine rFo_TB h3 (h3 0 0 _ (getD_mem ?_)) (rLo_v h1 hlo)
      rw [rLo_00]
      exact h2
theorem rNa_45 (h : T45 T) : T45 (rNa sl T t).2.1 := by
  unfold rNa
  split
  · exact h
  · have h1 := rSp_45 (sl := sl) (t := t) h
    unfold rNx
    split
    · exact h1
    · exact rFo_45 (rLo_45 h1)
theorem rFo_i {sp lo i : Nat} (h : (rFo T sp lo).1 = some i) : i < ((rFo T sp lo).2 4 0).length := by
  unfold rFo at h ⊢
  cases hf : fn T sp lo with
  | some j =>
    rw [hf] at h
    simp only at h ⊢
    cases h
    exact (fn_spec hf).1
  | none =>
    rw [hf] at h
    simp only at h ⊢
    split at h
    · rename_i h20
      rw [if_pos h20]
      cases h
      simp only
      unfold tnm
      rw [tst_ne (Or.inl (by decide)), tst_at, List.length_append]
      simp
    · cases h
theorem rNa_i {i : Nat} (h : (rNa sl T t).1 = some i) : i < ((rNa sl T t).2.1 4 0).length := by
  unfold rNa at h ⊢
  cases hp : (rSp sl T t).1 with
  | none => rw [hp] at h; cases h
  | some p =>
    rw [hp] at h
    simp only at h ⊢
    unfold rNx at h ⊢
    cases hl : (rLo sl (rSp sl T t).2.1 p (rSp sl T t).2.2).1 with
    | none => rw [hl] at h; cases h
    | some lo =>
      rw [hl] at h
      simp only at h ⊢
      exact rFo_i h
theorem sp_isNamedN : ax_E 81 [.int (-1)] d (ax_Pi fun y d1 => y = bB false ∧ d1 = d) := by
  show ax_W 81 0 [some (.int (-1))] [] d _
  refine wx_ildn j81_0 rfl ?_
  refine wx_icst (v := nI 1) j81_1 (by decide) ?_
  refine wx_cmp 10 j81_2 (by decide) (fun c2 => ?_) (fun c2 => ?_)
  · simp only [ax_cn, Classical.not_not] at c2
    exact absurd c2 (by decide)
  · simp only [ax_cn, Classical.not_not] at c2
    refine wx_ildn j81_5 rfl ?_
    refine wx_icst (v := nI 2) j81_6 (by decide) ?_
    refine wx_cmp 14 j81_7 (by decide) (fun c7 => ?_) (fun c7 => ?_)
    · simp only [ax_cn, Classical.not_not] at c7
      refine wx_icst (v := nI 0) j81_14 (by decide) ?_
      refine wx_ri j81_15 rfl rfl ?_
      exact ⟨rfl, rfl⟩
    · simp only [ax_cn, Classical.not_not] at c7
      exact absurd c7 (by decide)
theorem tc_kind {x1 : Int32} (hg : gr_is d 1 (m + 1) nm fl b) (ht : tb_is d 1 T) (hs : bt_is d 517 sl) (h4 : d 514 4 = nI t) (hts : t ≤ sl.length) (hb : TB T) (h45 : T45 T) : ax_W 29 64 [some (.ref 514), some (.int x1), none, none] [] d (ax_Pi fun y d1 => y = oi (rLc sl T (fl m) (nm m) t).1 ∧ d1 514 4 = nI (rLc sl T (fl m) (nm m) t).2.2 ∧ (∀ q, (rLc sl T (fl m) (nm m) t).1 = some q → tb_is d1 1 (rLc sl T (fl m) (nm m) t).2.1) ∧ rf d d1) := by
  have hn20 := (hg.2.2.2 m (Nat.lt_succ_self m)).2.1
  refine wx_aldn j29_64 rfl ?_
  refine wx_get (v := .ref _) j29_65 rfl (Nat.le_of_ble_eq_true rfl) rfl ?_
  refine wx_i0 j29_68 rfl  (Nat.le_of_ble_eq_true rfl) rfl (sp_isInTag (s := 1) (by decide) hg) ?_
  rintro _ d9 ⟨rfl, h9⟩
  obtain rfl := h9.symm
  refine wx_if 81 j29_71 (by decide) (fun c71 => ?_) (fun c71 => ?_)
  · simp only [ax_cn, Classical.not_not] at c71
    have hf : fl m = true := by
      have := bB_0.mp c71
      simpa using this
    have ek : rKd sl (fl m) t = rCk sl t := by unfold rKd; rw [if_pos hf]
    refine wx_aldn j29_81 rfl ?_
    refine wx_i0 j29_82 rfl  (Nat.le_of_ble_eq_true rfl) rfl (sp_conKind hs h4 hts) ?_
    rintro _ d1 ⟨rfl, h41, hf1⟩
    rw [← ek] at h41
    rw [← ek]
    have htt := rKd_t (sl := sl) (f := fl m) hts
    cases hr : (rKd sl (fl m) t).1 with
    | none =>
      have e : rLc sl T (fl m) (nm m) t = (none, T, (rKd sl (fl m) t).2) := by unfold rLc; rw [hr]
      rw [e]
      simp only [oi]
      refine wx_istn (L' := [_, _, some (.int _), _]) j29_85 (Nat.le_of_ble_eq_true rfl) rfl ?_
      refine wx_ildn j29_86 rfl ?_
      refine wx_t1 j29_87 rfl rfl (Nat.le_of_ble_eq_true rfl) (sp_isNamedN) ?_
      rintro _ d9 ⟨rfl, h9⟩
      obtain rfl := h9.symm
      refine wx_if 100 j29_90 (by decide) (fun c90 => ?_) (fun c90 => ?_)
      · simp only [ax_cn, Classical.not_not] at c90
        refine wx_icst (v := nI 0) j29_100 (by decide) ?_
        refine wx_istn (L' := [_, _, _, some (.int _)]) j29_101 (Nat.le_of_ble_eq_true rfl) rfl ?_
        refine wx_ildn j29_102 rfl ?_
        refine wx_icst (v := (-1)) j29_103 (by decide) ?_
        refine wx_cmp 112 j29_104 (by decide) (fun c104 => ?_) (fun c104 => ?_)
        · simp only [ax_cn, Classical.not_not] at c104
          refine wx_icst (v := (-1)) j29_112 (by decide) ?_
          refine wx_ri j29_113 rfl rfl ?_
          exact ⟨rfl, h41, fun q e => (by cases e), rf_tk hf1⟩
        · simp only [ax_cn, Classical.not_not] at c104
          exact absurd trivial c104
      · simp only [ax_cn, Classical.not_not] at c90
        exact absurd (show bB false = 0 from rfl) c90
    | some kind =>
      have hkv := rKd_v hr
      simp only [oi]
      refine wx_istn (L' := [_, _, some (.int _), _]) j29_85 (Nat.le_of_ble_eq_true rfl) rfl ?_
      refine wx_ildn j29_86 rfl ?_
      refine wx_t1 j29_87 rfl rfl (Nat.le_of_ble_eq_true rfl) (sp_isNamed (by omega)) ?_
      rintro _ d9 ⟨rfl, h9⟩
      obtain rfl := h9.symm
      refine wx_if 100 j29_90 (by decide) (fun c90 => ?_) (fun c90 => ?_)
      · simp only [ax_cn, Classical.not_not] at c90
        have hnn := of_decide_eq_false (bB_0.mp c90)
        have e : rLc sl T (fl m) (nm m) t = (some kind, tln T (kj (fl m)) (nm m) kind, (rKd sl (fl m) t).2) := by unfold rLc; rw [hr]; simp only [if_neg hnn]
        rw [e]
        refine wx_icst (v := nI 0) j29_100 (by decide) ?_
        refine wx_istn (L' := [_, _, _, some (.int _)]) j29_101 (Nat.le_of_ble_eq_true rfl) rfl ?_
        refine wx_ildn j29_102 rfl ?_
        refine wx_icst (v := (-1)) j29_103 (by decide) ?_
        refine wx_cmp 112 j29_104 (by decide) (fun c104 => ?_) (fun c104 => ?_)
        · simp only [ax_cn, Classical.not_not] at c104
          exact absurd (show oi (some kind) = -1 from c104) (fun q2 => by have := (oi_neg (o := some kind) (fun i2 e2 => by cases e2; exact (by omega))).mp q2; cases this)
        · simp only [ax_cn, Classical.not_not] at c104
          refine wx_ildn j29_107 rfl ?_
          refine wx_icst (v := (-1)) j29_108 (by decide) ?_
          refine wx_cmp 114 j29_109 (by decide) (fun c109 => ?_) (fun c109 => ?_)
          · simp only [ax_cn, Classical.not_not] at c109
            refine wx_aldn j29_114 rfl ?_
            refine wx_get (v := .ref _) j29_115 rfl (Nat.le_of_ble_eq_true rfl) rfl ?_
            refine wx_ildn j29_118 rfl ?_
            refine wx_ildn j29_119 rfl ?_
            refine wx_t2 j29_120 rfl rfl rfl (Nat.le_of_ble_eq_true rfl) (sp_codeOf) ?_
            rintro _ d9 ⟨rfl, h9⟩
            obtain rfl := h9.symm
            rw [show 0 * 8 + kind = kind by omega]
            refine wx_v1 j29_123 rfl rfl (Nat.le_of_ble_eq_true rfl) rfl (sp_learn (s := 1) (by decide) (gr_tk hg hf1) (tb_tk ht hf1) hb (Nat.lt_trans (show kind < 1000 by omega) (by decide))) ?_
            rintro d2 ⟨h2, hf2⟩
            refine wx_ildn j29_126 rfl ?_
            refine wx_ildn j29_127 rfl ?_
            refine wx_t2 j29_128 rfl rfl rfl (Nat.le_of_ble_eq_true rfl) (sp_codeOf) ?_
            rintro _ d9 ⟨rfl, h9⟩
            obtain rfl := h9.symm
            rw [show 0 * 8 + kind = kind by omega]
            refine wx_ri j29_131 rfl rfl ?_
            exact ⟨rfl, by rw [tk_tb1 hf2]; exact h41, fun q e => h2, rf_tr (rf_tk hf1) (rf_tb hf2)⟩
          · simp only [ax_cn, Classical.not_not] at c109
            exact absurd c109 (by decide)
      · simp only [ax_cn, Classical.not_not] at c90
        have hnn := of_decide_eq_true (bB_1.mp c90)
        have e : rLc sl T (fl m) (nm m) t = rNc sl T (fl m) (nm m) kind (rKd sl (fl m) t).2 := by unfold rLc; rw [hr]; simp only [if_pos hnn]
        rw [e]
        refine wx_aldn j29_93 rfl ?_
        refine wx_i0 j29_94 rfl  (Nat.le_of_ble_eq_true rfl) rfl (sp_takeName (tb_tk ht hf1) (bt_tk hs hf1) h41 htt.2 hb h45) ?_
        rintro _ d2 ⟨rfl, h42, ht2, hf2⟩
        have hr0 := hr
        cases hr : (rNa sl T (rKd sl (fl m) t).2).1 with
        | none =>
          have e : rNc sl T (fl m) (nm m) kind (rKd sl (fl m) t).2 = (none, T, (rNa sl T (rKd sl (fl m) t).2).2.2) := by unfold rNc; rw [hr]
          rw [e]
          simp only [oi]
          refine wx_goto 101 j29_97 (by decide) ?_
          refine wx_istn (L' := [_, _, _, some (.int _)]) j29_101 (Nat.le_of_ble_eq_true rfl) rfl ?_
          refine wx_ildn j29_102 rfl ?_
          refine wx_icst (v := (-1)) j29_103 (by decide) ?_
          refine wx_cmp 112 j29_104 (by decide) (fun c104 => ?_) (fun c104 => ?_)
          · simp only [ax_cn, Classical.not_not] at c104
            exact absurd (show oi (some kind) = -1 from c104) (fun q2 => by have := (oi_neg (o := some kind) (fun i2 e2 => by cases e2; exact (by omega))).mp q2; cases this)
          · simp only [ax_cn, Classical.not_not] at c104
            refine wx_ildn j29_107 rfl ?_
            refine wx_icst (v := (-1)) j29_108 (by decide) ?_
            refine wx_cmp 114 j29_109 (by decide) (fun c109 => ?_) (fun c109 => ?_)
            · simp only [ax_cn, Classical.not_not] at c109
              exact absurd trivial c109
            · simp only [ax_cn, Classical.not_not] at c109
              refine wx_icst (v := (-1)) j29_112 (by decide) ?_
              refine wx_ri j29_113 rfl rfl ?_
              exact ⟨rfl, h42, fun q e => (by cases e), rf_tr (rf_tk hf1) hf2⟩
        | some i =>
          have ht2 := ht2 i hr
          have hi := Nat.lt_of_lt_of_le (rNa_i hr) (tb_l20 ht2 (j := 4) (k := 0) (by decide) (by decide))
          have e : rNc sl T (fl m) (nm m) kind (rKd sl (fl m) t).2 = (some (i * 8 + kind), tln (rNa sl T (rKd sl (fl m) t).2).2.1 (kj (fl m)) (nm m) (i * 8 + kind), (rNa sl T (rKd sl (fl m) t).2).2.2) := by unfold rNc; rw [hr]
          rw [e]
          simp only [oi]
          refine wx_goto 101 j29_97 (by decide) ?_
          refine wx_istn (L' := [_, _, _, some (.int _)]) j29_101 (Nat.le_of_ble_eq_true rfl) rfl ?_
          refine wx_ildn j29_102 rfl ?_
          refine wx_icst (v := (-1)) j29_103 (by decide) ?_
          refine wx_cmp 112 j29_104 (by decide) (fun c104 => ?_) (fun c104 => ?_)
          · simp only [ax_cn, Classical.not_not] at c104
            exact absurd (show oi (some kind) = -1 from c104) (fun q2 => by have := (oi_neg (o := some kind) (fun i2 e2 => by cases e2; exact (by omega))).mp q2; cases this)
          · simp only [ax_cn, Classical.not_not] at c104
            refine wx_ildn j29_107 rfl ?_
            refine wx_icst (v := (-1)) j29_108 (by decide) ?_
            refine wx_cmp 114 j29_109 (by decide) (fun c109 => ?_) (fun c109 => ?_)
            · simp only [ax_cn, Classical.not_not] at c109
              refine wx_aldn j29_114 rfl ?_
              refine wx_get (v := .ref _) j29_115 rfl (Nat.le_of_ble_eq_true rfl) rfl ?_
              refine wx_ildn j29_118 rfl ?_
              refine wx_ildn j29_119 rfl ?_
              refine wx_t2 j29_120 rfl rfl rfl (Nat.le_of_ble_eq_true rfl) (sp_codeOf) ?_
              rintro _ d9 ⟨rfl, h9⟩
              obtain rfl := h9.symm
              refine wx_v1 j29_123 rfl rfl (Nat.le_of_ble_eq_true rfl) rfl (sp_learn (s := 1) (by decide) (gr_rf (gr_tk hg hf1) hf2) ht2 (rNa_TB hb) (Nat.lt_trans (show i * 8 + kind < 1000 by omega) (by decide))) ?_
              rintro d3 ⟨h3, hf3⟩
              refine wx_ildn j29_126 rfl ?_
              refine wx_ildn j29_127 rfl ?_
              refine wx_t2 j29_128 rfl rfl rfl (Nat.le_of_ble_eq_true rfl) (sp_codeOf) ?_
              rintro _ d9 ⟨rfl, h9⟩
              obtain rfl := h9.symm
              refine wx_ri j29_131 rfl rfl ?_
              exact ⟨rfl, by rw [tk_tb1 hf3]; exact h42, fun q e => h3, rf_tr (rf_tr (rf_tk hf1) hf2) (rf_tb hf3)⟩
            · simp only [ax_cn, Classical.not_not] at c109
              exact absurd (show oi (some i) = -1 from c109) (fun q2 => by have := (oi_neg (o := some i) (fun i2 e2 => by cases e2; exact (by omega))).mp q2; cases this)
        -- 
    -- 
  · simp only [ax_cn, Classical.not_not] at c71
    have hf : fl m = false := by
      have := bB_1.mp c71
      simpa using this
    have ek : rKd sl (fl m) t = rTk sl t := by unfold rKd; rw [if_neg (by rw [hf]; decide)]
    refine wx_aldn j29_74 rfl ?_
    refine wx_i0 j29_75 rfl  (Nat.le_of_ble_eq_true rfl) rfl (sp_tagKind hs h4 hts) ?_
    rintro _ d1 ⟨rfl, h41, hf1⟩
    refine wx_goto 85 j29_78 (by decide) ?_
    rw [← ek] at h41
    rw [← ek]
    have htt := rKd_t (sl := sl) (f := fl m) hts
    cases hr : (rKd sl (fl m) t).1 with
    | none =>
      have e : rLc sl T (fl m) (nm m) t = (none, T, (rKd sl (fl m) t).2) := by unfold rLc; rw [hr]
      rw [e]
      simp only [oi]
      refine wx_istn (L' := [_, _, some (.int _), _]) j29_85 (Nat.le_of_ble_eq_true rfl) rfl ?_
      refine wx_ildn j29_86 rfl ?_
      refine wx_t1 j29_87 rfl rfl (Nat.le_of_ble_eq_true rfl) (sp_isNamedN) ?_
      rintro _ d9 ⟨rfl, h9⟩
      obtain rfl := h9.symm
      refine wx_if 100 j29_90 (by decide) (fun c90 => ?_) (fun c90 => ?_)
      · simp only [ax_cn, Classical.not_not] at c90
        refine wx_icst (v := nI 0) j29_100 (by decide) ?_
        refine wx_istn (L' := [_, _, _, some (.int _)]) j29_101 (Nat.le_of_ble_eq_true rfl) rfl ?_
        refine wx_ildn j29_102 rfl ?_
        refine wx_icst (v := (-1)) j29_103 (by decide) ?_
        refine wx_cmp 112 j29_104 (by decide) (fun c104 => ?_) (fun c104 => ?_)
        · simp only [ax_cn, Classical.not_not] at c104
          refine wx_icst (v := (-1)) j29_112 (by decide) ?_
          refine wx_ri j29_113 rfl rfl ?_
          exact ⟨rfl, h41, fun q e => (by cases e), rf_tk hf1⟩
        · simp only [ax_cn, Classical.not_not] at c104
          exact absurd trivial c104
      · simp only [ax_cn, Classical.not_not] at c90
        exact absurd (show bB false = 0 from rfl) c90
    | some kind =>
      have hkv := rKd_v hr
      simp only [oi]
      refine wx_istn (L' := [_, _, some (.int _), _]) j29_85 (Nat.le_of_ble_eq_true rfl) rfl ?_
      refine wx_ildn j29_86 rfl ?_
      refine wx_t1 j29_87 rfl rfl (Nat.le_of_ble_eq_true rfl) (sp_isNamed (by omega)) ?_
      rintro _ d9 ⟨rfl, h9⟩
      obtain rfl := h9.symm
      refine wx_if 100 j29_90 (by decide) (fun c90 => ?_) (fun c90 => ?_)
      · simp only [ax_cn, Classical.not_not] at c90
        have hnn := of_decide_eq_false (bB_0.mp c90)
        have e : rLc sl T (fl m) (nm m) t = (some kind, tln T (kj (fl m)) (nm m) kind, (rKd sl (fl m) t).2) := by unfold rLc; rw [hr]; simp only [if_neg hnn]
        rw [e]
        refine wx_icst (v := nI 0) j29_100 (by decide) ?_
        refine wx_istn (L' := [_, _, _, some (.int _)]) j29_101 (Nat.le_of_ble_eq_true rfl) rfl ?_
        refine wx_ildn j29_102 rfl ?_
        refine wx_icst (v := (-1)) j29_103 (by decide) ?_
        refine wx_cmp 112 j29_104 (by decide) (fun c104 => ?_) (fun c104 => ?_)
        · simp only [ax_cn, Classical.not_not] at c104
          exact absurd (show oi (some kind) = -1 from c104) (fun q2 => by have := (oi_neg (o := some kind) (fun i2 e2 => by cases e2; exact (by omega))).mp q2; cases this)
        · simp only [ax_cn, Classical.not_not] at c104
          refine wx_ildn j29_107 rfl ?_
          refine wx_icst (v := (-1)) j29_108 (by decide) ?_
          refine wx_cmp 114 j29_109 (by decide) (fun c109 => ?_) (fun c109 => ?_)
          · simp only [ax_cn, Classical.not_not] at c109
            refine wx_aldn j29_114 rfl ?_
            refine wx_get (v := .ref _) j29_115 rfl (Nat.le_of_ble_eq_true rfl) rfl ?_
            refine wx_ildn j29_118 rfl ?_
            refine wx_ildn j29_119 rfl ?_
            refine wx_t2 j29_120 rfl rfl rfl (Nat.le_of_ble_eq_true rfl) (sp_codeOf) ?_
            rintro _ d9 ⟨rfl, h9⟩
            obtain rfl := h9.symm
            rw [show 0 * 8 + kind = kind by omega]
            refine wx_v1 j29_123 rfl rfl (Nat.le_of_ble_eq_true rfl) rfl (sp_learn (s := 1) (by decide) (gr_tk hg hf1) (tb_tk ht hf1) hb (Nat.lt_trans (show kind < 1000 by omega) (by decide))) ?_
            rintro d2 ⟨h2, hf2⟩
            refine wx_ildn j29_126 rfl ?_
            refine wx_ildn j29_127 rfl ?_
            refine wx_t2 j29_128 rfl rfl rfl (Nat.le_of_ble_eq_true rfl) (sp_codeOf) ?_
            rintro _ d9 ⟨rfl, h9⟩
            obtain rfl := h9.symm
            rw [show 0 * 8 + kind = kind by omega]
            refine wx_ri j29_131 rfl rfl ?_
            exact ⟨rfl, by rw [tk_tb1 hf2]; exact h41, fun q e => h2, rf_tr (rf_tk hf1) (rf_tb hf2)⟩
          · simp only [ax_cn, Classical.not_not] at c109
            exact absurd c109 (by decide)
      · simp only [ax_cn, Classical.not_not] at c90
        have hnn := of_decide_eq_true (bB_1.mp c90)
        have e : rLc sl T (fl m) (nm m) t = rNc sl T (fl m) (nm m) kind (rKd sl (fl m) t).2 := by unfold rLc; rw [hr]; simp only [if_pos hnn]
        rw [e]
        refine wx_aldn j29_93 rfl ?_
        refine wx_i0 j29_94 rfl  (Nat.le_of_ble_eq_true rfl) rfl (sp_takeName (tb_tk ht hf1) (bt_tk hs hf1) h41 htt.2 hb h45) ?_
        rintro _ d2 ⟨rfl, h42, ht2, hf2⟩
        have hr0 := hr
        cases hr : (rNa sl T (rKd sl (fl m) t).2).1 with
        | none =>
          have e : rNc sl T (fl m) (nm m) kind (rKd sl (fl m) t).2 = (none, T, (rNa sl T (rKd sl (fl m) t).2).2.2) := by unfold rNc; rw [hr]
          rw [e]
          simp only [oi]
          refine wx_goto 101 j29_97 (by decide) ?_
          refine wx_istn (L' := [_, _, _, some (.int _)]) j29_101 (Nat.le_of_ble_eq_true rfl) rfl ?_
          refine wx_ildn j29_102 rfl ?_
          refine wx_icst (v := (-1)) j29_103 (by decide) ?_
          refine wx_cmp 112 j29_104 (by decide) (fun c104 => ?_) (fun c104 => ?_)
          · simp only [ax_cn, Classical.not_not] at c104
            exact absurd (show oi (some kind) = -1 from c104) (fun q2 => by have := (oi_neg (o := some kind) (fun i2 e2 => by cases e2; exact (by omega))).mp q2; cases this)
          · simp only [ax_cn, Classical.not_not] at c104
            refine wx_ildn j29_107 rfl ?_
            refine wx_icst (v := (-1)) j29_108 (by decide) ?_
            refine wx_cmp 114 j29_109 (by decide) (fun c109 => ?_) (fun c109 => ?_)
            · simp only [ax_cn, Classical.not_not] at c109
              exact absurd trivial c109
            · simp only [ax_cn, Classical.not_not] at c109
              refine wx_icst (v := (-1)) j29_112 (by decide) ?_
              refine wx_ri j29_113 rfl rfl ?_
              exact ⟨rfl, h42, fun q e => (by cases e), rf_tr (rf_tk hf1) hf2⟩
        | some i =>
          have ht2 := ht2 i hr
          have hi := Nat.lt_of_lt_of_le (rNa_i hr) (tb_l20 ht2 (j := 4) (k := 0) (by decide) (by decide))
          have e : rNc sl T (fl m) (nm m) kind (rKd sl (fl m) t).2 = (some (i * 8 + kind), tln (rNa sl T (rKd sl (fl m) t).2).2.1 (kj (fl m)) (nm m) (i * 8 + kind), (rNa sl T (rKd sl (fl m) t).2).2.2) := by unfold rNc; rw [hr]
          rw [e]
          simp only [oi]
          refine wx_goto 101 j29_97 (by decide) ?_
          refine wx_istn (L' := [_, _, _, some (.int _)]) j29_101 (Nat.le_of_ble_eq_true rfl) rfl ?_
          refine wx_ildn j29_102 rfl ?_
          refine wx_icst (v := (-1)) j29_103 (by decide) ?_
          refine wx_cmp 112 j29_104 (by decide) (fun c104 => ?_) (fun c104 => ?_)
          · simp only [ax_cn, Classical.not_not] at c104
            exact absurd (show oi (some kind) = -1 from c104) (fun q2 => by have := (oi_neg (o := some kind) (fun i2 e2 => by cases e2; exact (by omega))).mp q2; cases this)
          · simp only [ax_cn, Classical.not_not] at c104
            refine wx_ildn j29_107 rfl ?_
            refine wx_icst (v := (-1)) j29_108 (by decide) ?_
            refine wx_cmp 114 j29_109 (by decide) (fun c109 => ?_) (fun c109 => ?_)
            · simp only [ax_cn, Classical.not_not] at c109
              refine wx_aldn j29_114 rfl ?_
              refine wx_get (v := .ref _) j29_115 rfl (Nat.le_of_ble_eq_true rfl) rfl ?_
              refine wx_ildn j29_118 rfl ?_
              refine wx_ildn j29_119 rfl ?_
              refine wx_t2 j29_120 rfl rfl rfl (Nat.le_of_ble_eq_true rfl) (sp_codeOf) ?_
              rintro _ d9 ⟨rfl, h9⟩
              obtain rfl := h9.symm
              refine wx_v1 j29_123 rfl rfl (Nat.le_of_ble_eq_true rfl) rfl (sp_learn (s := 1) (by decide) (gr_rf (gr_tk hg hf1) hf2) ht2 (rNa_TB hb) (Nat.lt_trans (show i * 8 + kind < 1000 by omega) (by decide))) ?_
              rintro d3 ⟨h3, hf3⟩
              refine wx_ildn j29_126 rfl ?_
              refine wx_ildn j29_127 rfl ?_
              refine wx_t2 j29_128 rfl rfl rfl (Nat.le_of_ble_eq_true rfl) (sp_codeOf) ?_
              rintro _ d9 ⟨rfl, h9⟩
              obtain rfl := h9.symm
              refine wx_ri j29_131 rfl rfl ?_
              exact ⟨rfl, by rw [tk_tb1 hf3]; exact h42, fun q e => h3, rf_tr (rf_tr (rf_tk hf1) hf2) (rf_tb hf3)⟩
            · simp only [ax_cn, Classical.not_not] at c109
              exact absurd (show oi (some i) = -1 from c109) (fun q2 => by have := (oi_neg (o := some i) (fun i2 e2 => by cases e2; exact (by omega))).mp q2; cases this)
        -- 
    -- 
end R3
