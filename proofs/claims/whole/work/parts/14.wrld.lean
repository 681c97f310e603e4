/-! THE WORLD: every cell of the class, of the reference, and the law's long array has a number; 'ax_sh' says what stands there; what changes is whole numbers alone ('ax_D': cell, place). Rows r (0..15, eight of the writer, eight of the reader): 32 r the object, + 1 the array of rows, + 2 the sizes, + 3 + k row k. -/
abbrev ax_D : Type := Nat → Nat → Int32
/-- a field or a place: a cell, a number that changes, a number that stays -/
abbrev ax_X : Type := Nat ⊕ Option Int32
abbrev ax_S : Type := Nat × Nat × (Nat → ax_X)
def ax_nr (r : Nat) : Nat := match r % 8 with | 0 => 1 | 1 => 6 | 2 => 20 | 3 => 1 | 4 => 1 | 5 => 1 | _ => 20
def ax_rm (r : Nat) : Nat := match r % 8 with | 0 => 6 | 1 => 10 | 2 => 5 | 3 => 20 | 4 => 20 | 5 => 20 | _ => 12
def ax_dt : Nat → ax_X := fun _ => .inr none
def ax_of (l : List ax_X) : Nat → ax_X := fun k => l.getD k (.inr none)
def ax_rw (r j : Nat) : Option ax_S :=
  if j = 0 then some (8, 3, ax_of [.inl (32 * r + 1), .inl (32 * r + 2), .inr (some (nI (ax_rm r)))])
  else if j = 1 then some (3, ax_nr r, fun k => .inl (32 * r + 3 + k))
  else if j = 2 then some (0, ax_nr r, ax_dt)
  else if j < 3 + ax_nr r then some (0, ax_rm r, ax_dt) else none
def ax_so : List (Nat × ax_S) := [(512, 11, 2, ax_of [.inl 513, .inl 514]), (513, 10, 3, ax_of [.inl 515, .inl 519, .inl 521]), (514, 7, 5, ax_of [.inl 517, .inl 527, .inl 520, .inl 522, .inr none]),
  (515, 4, 2, ax_of [.inl 516, .inr none]), (516, 0, 4000, ax_dt), (517, 4, 2, ax_of [.inl 518, .inr none]), (518, 0, 4000, ax_dt),
  (519, 9, 6, ax_of [.inl 0, .inl 32, .inl 64, .inl 96, .inl 128, .inl 160]), (520, 9, 6, ax_of [.inl 256, .inl 288, .inl 320, .inl 352, .inl 384, .inl 416]),
  (521, 6, 6, ax_of [.inl 192, .inl 224, .inl 523, .inl 525, .inr none, .inr none]), (522, 6, 6, ax_of [.inl 448, .inl 480, .inl 524, .inl 526, .inr none, .inr none]),
  (523, 0, 8, ax_dt), (524, 0, 8, ax_dt), (525, 1, 8, ax_dt), (526, 1, 8, ax_dt),
  (527, 5, 2, ax_of [.inl 528, .inr none]), (528, 3, 4, fun k => .inl (529 + k)), (529, 0, 200, ax_dt), (530, 0, 200, ax_dt), (531, 0, 200, ax_dt), (532, 0, 200, ax_dt),
  (540, 12, 30, fun k => if k = 0 ∨ k = 19 ∨ k = 21 ∨ k = 22 ∨ k = 23 ∨ k = 24 ∨ k = 29 then .inr none else .inl (541 + k)),
  (542, 0, 2, ax_dt), (543, 0, 12, ax_dt), (544, 0, 12, ax_dt), (545, 0, 120, ax_dt), (546, 0, 2, ax_dt), (547, 0, 40, ax_dt), (548, 0, 40, ax_dt), (549, 0, 40, ax_dt), (550, 0, 200, ax_dt), (551, 0, 2, ax_dt), (552, 0, 40, ax_dt), (553, 0, 80, ax_dt), (554, 0, 960, ax_dt), (555, 0, 2, ax_dt), (556, 0, 16, ax_dt), (557, 1, 16, ax_dt), (558, 1, 2, ax_dt), (559, 1, 4400, ax_dt), (561, 1, 4400, ax_dt), (566, 0, 201, ax_dt), (567, 0, 201, ax_dt), (568, 0, 201, ax_dt), (569, 0, 201, ax_dt), (580, 2, 1, ax_dt)]
def ax_sh (i : Nat) : Option ax_S := if i < 512 then ax_rw (i / 32) (i % 32) else if i < 600 then ax_so.lookup i else none
def ax_ids : List Nat := (List.range 600).filter (fun i => (ax_sh i).isSome)
theorem ax_sh_lt {i : Nat} {q : ax_S} (h : ax_sh i = some q) : i < 600 := by
  unfold ax_sh at h
  split at h
  · omega
  · split at h
    · assumption
    · cases h
theorem ax_sh_in {i : Nat} {q : ax_S} (h : ax_sh i = some q) : i ∈ ax_ids := by
  unfold ax_ids
  rw [List.mem_filter, List.mem_range, h]
  exact ⟨ax_sh_lt h, rfl⟩
/-- values with cells by their numbers, and the same by their addresses -/
def ax_cv (ad : Nat → Nat) (v : Value) : Value := match v with
  | .ref j => .ref (ad j)
  | w => w
def ax_av (d : ax_D) (id : Nat) (f : Nat → ax_X) (k : Nat) : Value := match f k with
  | .inl j => .ref j
  | .inr none => .int (d id k)
  | .inr (some c) => .int c
def ax_rf (ad : Nat → Nat) (x : ax_X) : Option Nat := match x with
  | .inl j => some (ad j)
  | .inr _ => none
def ax_cl (ad : Nat → Nat) (ca : Nat → ClassId) (d : ax_D) (id : Nat) : va_E := match ax_sh id with
  | none => .inr (0, [])
  | some (0, n, _) => .inl (ca 0, n, .inl (d id))
  | some (1, n, _) => .inl (ca 1, n, .inl (d id))
  | some (2, n, _) => .inl (ca 2, n, .inr (.inl (fun i => (d id i).toInt64)))
  | some (3, n, f) => .inl (ca 3, n, .inr (.inr (.inr (.inr (fun i => ax_rf ad (f i))))))
  | some (t + 4, n, f) => .inr (t, (List.range n).map (fun k => ax_cv ad (ax_av d id f k)))
def ax_w (ad : Nat → Nat) (ca : Nat → ClassId) (d : ax_D) : va_W := ax_ids.map (fun i => (ad i, ax_cl ad ca d i))
def ax_up (d : ax_D) (id k : Nat) (x : Int32) : ax_D := va_up d id (upd (d id) k x)
theorem ax_up_at (d : ax_D) (id k : Nat) (x : Int32) : ax_up d id k x id = upd (d id) k x := by simp [ax_up, va_up]
theorem ax_up_ne {d : ax_D} {id k j : Nat} {x : Int32} (h : j ≠ id) : ax_up d id k x j = d j := by simp [ax_up, va_up, h]
theorem ax_cl_eq {ad : Nat → Nat} {ca : Nat → ClassId} {d d' : ax_D} {i : Nat} (h : d' i = d i) : ax_cl ad ca d' i = ax_cl ad ca d i := by
  unfold ax_cl
  split <;> first | rfl | (simp only [h]) | (simp only [ax_av, h])
theorem ax_w_get (ad : Nat → Nat) (ca : Nat → ClassId) (d : ax_D) {i : Nat} {q : ax_S} (h : ax_sh i = some q) : ∃ k : Nat, ax_ids[k]? = some i ∧ (ax_w ad ca d)[k]? = some (ad i, ax_cl ad ca d i) := by
  obtain ⟨k, hk⟩ := List.getElem?_of_mem (ax_sh_in h)
  exact ⟨k, hk, by unfold ax_w; rw [List.getElem?_map, hk]; rfl⟩
theorem ax_w_set {ad : Nat → Nat} {ca : Nat → ClassId} {d d' : ax_D} {A : Nat → Prop} {i k : Nat} (hD : va_D A (ax_w ad ca d)) (hk : ax_ids[k]? = some i) (he : ∀ j, j ≠ i → d' j = d j) : (ax_w ad ca d).set k (ad i, ax_cl ad ca d' i) = ax_w ad ca d' := by
  have hkl : k < ax_ids.length := (List.getElem?_eq_some_iff.mp hk).1
  have hwk : (ax_w ad ca d)[k]? = some (ad i, ax_cl ad ca d i) := by unfold ax_w; rw [List.getElem?_map, hk]; rfl
  apply List.ext_getElem?
  intro j
  by_cases hj : j = k
  · subst hj
    rw [List.getElem?_set_self (by unfold ax_w; rw [List.length_map]; exact hkl)]
    unfold ax_w
    rw [List.getElem?_map, hk]
    rfl
  · rw [List.getElem?_set_ne (Ne.symm hj)]
    unfold ax_w
    rw [List.getElem?_map, List.getElem?_map]
    cases hji : ax_ids[j]? with
    | none => rfl
    | some b =>
      have hb : b ≠ i := by
        rintro rfl
        exact hj (hD.1 j k _ _ (by unfold ax_w; rw [List.getElem?_map, hji]; rfl) hwk rfl)
      show some (ad b, ax_cl ad ca d b) = some (ad b, ax_cl ad ca d' b)
      rw [ax_cl_eq (he b hb)]
theorem ax_w_D {ad : Nat → Nat} {ca : Nat → ClassId} {d d' : ax_D} {A : Nat → Prop} (hD : va_D A (ax_w ad ca d)) : va_D A (ax_w ad ca d') := by
  have key : ∀ (k : Nat) (q : Nat × va_E), (ax_w ad ca d')[k]? = some q → ∃ e, (ax_w ad ca d)[k]? = some (q.1, e) := by
    intro k q hk
    unfold ax_w at hk ⊢
    rw [List.getElem?_map] at hk ⊢
    cases h : ax_ids[k]? with
    | none => rw [h] at hk; cases hk
    | some b =>
      rw [h] at hk
      cases hk
      exact ⟨_, rfl⟩
  refine ⟨fun i j x y hi hj hxy => ?_, fun k q hk => ?_⟩
  · obtain ⟨e1, h1⟩ := key i x hi
    obtain ⟨e2, h2⟩ := key j y hj
    exact hD.1 i j _ _ h1 h2 hxy
  · obtain ⟨e1, h1⟩ := key k q hk
    exact hD.2 k (q.1, e1) h1
/-- which cells the methods may change -/
def ax_A (ad : Nat → Nat) (sz : Nat) : Nat → Prop := fun q => (∃ i, i ∈ ax_ids ∧ q = ad i) ∨ sz ≤ q
theorem ax_A_D {ad : Nat → Nat} {ca : Nat → ClassId} {d : ax_D} {A : Nat → Prop} {sz : Nat} (hD : va_D A (ax_w ad ca d)) : va_D (ax_A ad sz) (ax_w ad ca d) := by
  refine ⟨hD.1, fun k q hk => Or.inl ?_⟩
  unfold ax_w at hk
  rw [List.getElem?_map] at hk
  cases h : ax_ids[k]? with
  | none => rw [h] at hk; cases hk
  | some b =>
    rw [h] at hk
    cases hk
    exact ⟨b, List.mem_of_getElem? h, rfl⟩
theorem ax_A_le {ad : Nat → Nat} {sz sz' : Nat} (h : sz ≤ sz') : ∀ q, ax_A ad sz' q → ax_A ad sz q := fun q hq => hq.elim Or.inl (fun h2 => Or.inr (Nat.le_trans h h2))
abbrev ax_ts (ca : Nat → ClassId) : List (ClassId × FieldType) := [(ca 0, .int), (ca 1, .boolean), (ca 2, .long), (ca 3, .array .int)]
