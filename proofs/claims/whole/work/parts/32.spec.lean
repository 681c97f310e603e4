/-! THE DOCUMENT'S WORDS, as numbers and lists: what the class and the reference both are held against. -/
/-- the tables of a document: kind j (0 spaces, 1 local parts by a space's place, 2 values by name, 3 all values, 4 and 5 the names' spaces and local parts, 6 and 7 the codes that a name learned: tag, content), row -/
abbrev TT : Type := Nat → Nat → List Nat
def tst (T : TT) (j k : Nat) (l : List Nat) : TT := fun j' k' => if j' = j ∧ k' = k then l else T j' k'
def t00 : TT := fun j k => if j = 0 ∧ k = 0 then [0] else []
theorem tst_at (T : TT) (j k : Nat) (l : List Nat) : tst T j k l j k = l := by simp [tst]
theorem tst_ne {T : TT} {j k j' k' : Nat} {l : List Nat} (h : j' ≠ j ∨ k' ≠ k) : tst T j k l j' k' = T j' k' := by
  unfold tst
  rw [if_neg (fun q => h.elim (fun h => h q.1) (fun h => h q.2))]
def fi (l : List Nat) (x : Nat) : Option Nat := l.findIdx? (· == x)
def oi (o : Option Nat) : Int32 := match o with
  | some i => nI i
  | none => -1
def bB (b : Bool) : Int32 := match b with
  | true => nI 1
  | false => nI 0
theorem bB_0 {b : Bool} : bB b = 0 ↔ b = false := by cases b <;> decide
theorem bB_1 {b : Bool} : ¬ bB b = 0 ↔ b = true := by cases b <;> decide
theorem bB_nar (b : Bool) : narrow .boolean (.int (bB b)) = .int (bB b) := by cases b <;> rfl
theorem bB_fit (b : Bool) : fits .boolean (.int (bB b)) = true := by cases b <;> rfl
theorem oi_neg {o : Option Nat} (h : ∀ i, o = some i → i < 2 ^ 31) : oi o = -1 ↔ o = none := by
  cases o with
  | none => exact ⟨fun _ => rfl, fun _ => rfl⟩
  | some i =>
    refine ⟨fun q => ?_, fun q => by cases q⟩
    exfalso
    have h1 : ¬ nI i < 0 := nI_pos (h i rfl)
    have h2 : nI i = -1 := q
    rw [h2] at h1
    exact h1 (by decide)
theorem fi_lt {l : List Nat} {x i : Nat} (h : fi l x = some i) : i < l.length := (List.findIdx?_eq_some_iff_getElem.mp h).1
theorem fi_at {l : List Nat} {x i : Nat} (h : fi l x = some i) : l.getD i 0 = x := by
  obtain ⟨h1, h2, -⟩ := List.findIdx?_eq_some_iff_getElem.mp h
  rw [List.getD_eq_getElem?_getD, List.getElem?_eq_getElem h1]
  exact eq_of_beq h2
theorem fi_none {l : List Nat} {x : Nat} : fi l x = none ↔ x ∉ l := by
  unfold fi
  rw [List.findIdx?_eq_none_iff]
  refine ⟨fun h hx => ?_, fun h y hy => ?_⟩
  · have := h x hx
    simp at this
  · simp only [beq_eq_false_iff_ne, ne_eq]
    rintro rfl
    exact h hy
theorem fi_some {l : List Nat} {x : Nat} (h : x ∈ l) : ∃ i, fi l x = some i := by
  cases hf : fi l x with
  | none => exact absurd h (fi_none.mp hf)
  | some i => exact ⟨i, rfl⟩
/-- 27 to the power of five: texts are below -/
def tB : Nat := 14348907
theorem tB_lt {x : Nat} (h : x < tB) : x < 2 ^ 31 := Nat.lt_trans h (by decide)
def TB (T : TT) : Prop := ∀ j k e, e ∈ T j k → e < tB
theorem TB_00 : TB t00 := by
  intro j k e h
  unfold t00 at h
  split at h
  · rw [List.mem_singleton.mp h]; decide
  · cases h
theorem TB_st {T : TT} {j k : Nat} {l : List Nat} (h : TB T) (hl : ∀ e, e ∈ l → e < tB) : TB (tst T j k l) := by
  intro j' k' e he
  unfold tst at he
  split at he
  · exact hl e he
  · exact h j' k' e he
theorem fIdx_congr {α : Type} {l : List α} {p q : α → Bool} (h : ∀ y, y ∈ l → p y = q y) : l.findIdx? p = l.findIdx? q := by
  induction l with
  | nil => rfl
  | cons a t ih => rw [List.findIdx?_cons, List.findIdx?_cons, h a List.mem_cons_self, ih (fun y hy => h y (List.mem_cons_of_mem _ hy))]
theorem fi_map {l : List Nat} {x : Nat} (hl : ∀ e, e ∈ l → e < tB) (hx : x < tB) : rw_fi (l.map nI) (nI x) = oi (fi l x) := by
  unfold rw_fi fi oi
  have h : (l.map nI).findIdx? (· == nI x) = l.findIdx? (· == x) := by
    rw [List.findIdx?_map]
    apply fIdx_congr
    intro y hy
    show (nI y == nI x) = (y == x)
    by_cases h2 : y = x
    · subst h2; simp
    · have h3 : ¬ nI y = nI x := fun q => h2 ((nI_eq (tB_lt (hl y hy)) (tB_lt hx)).mp q)
      exact (beq_false_of_ne h3).trans (beq_false_of_ne h2).symm
  rw [h]
  cases l.findIdx? (· == x) <;> rfl
theorem gt_map {l : List Nat} {p : Nat} (hp : p < l.length) (h31 : p < 2 ^ 31) : rw_gt (l.map nI) (nI p) = nI (l.getD p 0) := by
  unfold rw_gt
  rw [if_neg (nI_pos h31), nI_clamp h31, List.getD_eq_getElem?_getD, List.getElem?_map, List.getD_eq_getElem?_getD, List.getElem?_eq_getElem hp]
  rfl
/-- side s of the class holds the tables T -/
def tb_is (d : ax_D) (s : Nat) (T : TT) : Prop := ∀ j, j < 8 → rw_is d (8 * s + j) (fun k => (T j k).map nI)
def tb_fr (d d1 : ax_D) (s : Nat) : Prop := ∀ id, (id < 256 * s ∨ 256 * s + 256 ≤ id) → d1 id = d id
theorem tb_fr_rf (d : ax_D) (s : Nat) : tb_fr d d s := fun _ _ => rfl
theorem tb_fr_tr {d d1 d2 : ax_D} {s : Nat} (h : tb_fr d d1 s) (h2 : tb_fr d1 d2 s) : tb_fr d d2 s := fun id hi => (h2 id hi).trans (h id hi)
theorem rw_tb {d d1 : ax_D} {s j : Nat} (h : rw_fr d d1 (8 * s + j)) (hj : j < 8) : tb_fr d d1 s := fun id hi => h id (by omega)
theorem tb_keep {d d1 : ax_D} {s s' : Nat} {T : TT} (h : tb_is d s T) (hf : tb_fr d d1 s') (hs : s ≠ s') : tb_is d1 s T := by
  intro j hj k hk
  have h20 := nr_le (8 * s + j)
  obtain ⟨h1, h2, h3⟩ := h j hj k hk
  refine ⟨h1, ?_, fun i hi => ?_⟩
  · rw [hf (32 * (8 * s + j) + 2) (by omega)]; exact h2
  · rw [hf (32 * (8 * s + j) + 3 + k) (by omega)]; exact h3 i hi
theorem tb_same {d d1 : ax_D} {s : Nat} {T : TT} (h : tb_is d s T) (hf : ∀ id, id < 512 → d1 id = d id) (hs : s < 2) : tb_is d1 s T := by
  intro j hj k hk
  have h20 := nr_le (8 * s + j)
  obtain ⟨h1, h2, h3⟩ := h j hj k hk
  refine ⟨h1, ?_, fun i hi => ?_⟩
  · rw [hf (32 * (8 * s + j) + 2) (by omega)]; exact h2
  · rw [hf (32 * (8 * s + j) + 3 + k) (by omega)]; exact h3 i hi
theorem rw_congr {d : ax_D} {r : Nat} {LL LL' : Nat → List Int32} (h : rw_is d r LL) (he : ∀ k, k < ax_nr r → LL' k = LL k) : rw_is d r LL' := by
  intro k hk
  rw [he k hk]
  exact h k hk
theorem tb_set {d d1 : ax_D} {s j k : Nat} {T : TT} {l : List Nat} (h : tb_is d s T) (hj : j < 8) (h1 : rw_is d1 (8 * s + j) (rw_up (fun k => (T j k).map nI) k (l.map nI))) (hf : rw_fr d d1 (8 * s + j)) : tb_is d1 s (tst T j k l) := by
  intro j' hj'
  by_cases hjj : j' = j
  · subst hjj
    refine rw_congr h1 (fun k' _ => ?_)
    unfold rw_up tst
    by_cases hk : k' = k
    · subst hk; simp
    · simp [hk]
  · refine rw_congr (rw_keep (h j' hj') hf (by omega)) (fun k' _ => ?_)
    rw [tst_ne (Or.inl hjj)]
theorem nr_8 (s j : Nat) : ax_nr (8 * s + j) = ax_nr j := by unfold ax_nr; rw [show (8 * s + j) % 8 = j % 8 by omega]
theorem rm_8 (s j : Nat) : ax_rm (8 * s + j) = ax_rm j := by unfold ax_rm; rw [show (8 * s + j) % 8 = j % 8 by omega]
section TP
variable {d : ax_D} {s j k x : Nat} {T : TT}
theorem tp_cnt (hs : s < 2) (hj : j < 8) (hk : k < ax_nr j) (h : tb_is d s T) : ax_E 42 [.ref (32 * (8 * s + j)), .int (nI k)] d (ax_Pi fun x d1 => x = nI (T j k).length ∧ d1 = d) :=
  ax_E_i (sp_cnt (by omega) (by rw [nr_8]; exact hk) (h j hj)) (fun x d1 ⟨h1, h2⟩ => ⟨by rw [h1, List.length_map], h2⟩)
theorem tp_full (hs : s < 2) (hj : j < 8) (hk : k < ax_nr j) (h : tb_is d s T) : ax_E 43 [.ref (32 * (8 * s + j)), .int (nI k)] d (ax_Pi fun x d1 => x = bB (decide (ax_rm j ≤ (T j k).length)) ∧ d1 = d) :=
  ax_E_i (sp_isFull (by omega) (by rw [nr_8]; exact hk) (h j hj)) (fun x d1 ⟨h1, h2⟩ => ⟨by
    rw [h1, List.length_map, rm_8]
    by_cases hq : (T j k).length < ax_rm j
    · rw [if_pos hq, decide_eq_false (by omega)]; rfl
    · rw [if_neg hq, decide_eq_true (by omega)]; rfl, h2⟩)
theorem tp_find (hs : s < 2) (hj : j < 8) (hk : k < ax_nr j) (h : tb_is d s T) (hb : TB T) (hx : x < tB) : ax_E 45 [.ref (32 * (8 * s + j)), .int (nI k), .int (nI x)] d (ax_Pi fun y d1 => y = oi (fi (T j k) x) ∧ d1 = d) :=
  ax_E_i (sp_find (by omega) (by rw [nr_8]; exact hk) (h j hj)) (fun y d1 ⟨h1, h2⟩ => ⟨by rw [h1]; exact fi_map (hb j k) hx, h2⟩)
theorem tp_get (hs : s < 2) (hj : j < 8) (hk : k < ax_nr j) (h : tb_is d s T) (hx : x < (T j k).length) : ax_E 44 [.ref (32 * (8 * s + j)), .int (nI k), .int (nI x)] d (ax_Pi fun y d1 => y = nI ((T j k).getD x 0) ∧ d1 = d) := by
  have hl := (h j hj k (by rw [nr_8]; exact hk)).1
  have hr := rm_le (8 * s + j)
  rw [List.length_map] at hl
  exact ax_E_i (sp_get (by omega) (by rw [nr_8]; exact hk) (h j hj)) (fun y d1 ⟨h1, h2⟩ => ⟨by rw [h1]; exact gt_map hx (by omega), h2⟩)
/-- a place that is none -/
theorem tp_getN (hs : s < 2) (hj : j < 8) (hk : k < ax_nr j) (h : tb_is d s T) : ax_E 44 [.ref (32 * (8 * s + j)), .int (nI k), .int (-1)] d (ax_Pi fun y d1 => y = -1 ∧ d1 = d) :=
  ax_E_i (sp_get (by omega) (by rw [nr_8]; exact hk) (h j hj)) (fun y d1 ⟨h1, h2⟩ => ⟨by rw [h1]; rfl, h2⟩)
theorem tp_last (hs : s < 2) (hj : j < 8) (hk : k < ax_nr j) (h : tb_is d s T) : ax_E 46 [.ref (32 * (8 * s + j)), .int (nI k), .int (nI x)] d (ax_Pv fun d1 => tb_is d1 s (tst T j k (if (T j k).length < ax_rm j then T j k ++ [x] else T j k)) ∧ rw_fr d d1 (8 * s + j)) :=
  ax_E_v (sp_addLast (by omega) (by rw [nr_8]; exact hk) (h j hj)) (fun d1 ⟨h1, h2⟩ => ⟨by
    refine tb_set h hj ?_ h2
    rw [List.length_map, rm_8] at h1
    by_cases hq : (T j k).length < ax_rm j
    · rw [if_pos hq] at h1 ⊢
      rw [List.map_append]
      exact h1
    · rw [if_neg hq] at h1 ⊢
      exact h1, h2⟩)
theorem tp_first (hs : s < 2) (hj : j < 8) (hk : k < ax_nr j) (h : tb_is d s T) : ax_E 47 [.ref (32 * (8 * s + j)), .int (nI k), .int (nI x)] d (ax_Pv fun d1 => tb_is d1 s (tst T j k (if (T j k).length < ax_rm j then x :: T j k else T j k)) ∧ rw_fr d d1 (8 * s + j)) :=
  ax_E_v (sp_addFirst (by omega) (by rw [nr_8]; exact hk) (h j hj)) (fun d1 ⟨h1, h2⟩ => ⟨by
    refine tb_set h hj ?_ h2
    rw [List.length_map, rm_8] at h1
    by_cases hq : (T j k).length < ax_rm j
    · rw [if_pos hq] at h1 ⊢
      rw [List.map_cons]
      exact h1
    · rw [if_neg hq] at h1 ⊢
      exact h1, h2⟩)
theorem tb_len (h : tb_is d s T) (hj : j < 8) (hk : k < ax_nr j) : (T j k).length ≤ ax_rm j := by
  have := (h j hj k (by rw [nr_8]; exact hk)).1
  rw [List.length_map, rm_8] at this
  exact this
theorem tb_l20 (h : tb_is d s T) (hj : j < 8) (hk : k < ax_nr j) : (T j k).length ≤ 20 := Nat.le_trans (tb_len h hj hk) (rm_le j)
end TP
