/-! READING a whole stream; writing events again. -/
def rStep (sl : List Nat) (T : TT) (n : Nat) (nm : Nat → Nat) (fl : Nat → Bool) (b : Bool) (t : Nat) : RS := if b = true then rEv2 sl T (n - 1) nm fl t else rEv1 sl T nm fl t
/-- how a reading ends (0, or why not), the events, the bits taken -/
def rAll (sl : List Nat) : Nat → TT → Nat → (Nat → Nat) → (Nat → Bool) → Bool → Nat → List Ev → Nat × List Ev × Nat
  | 0, _, _, _, _, _, t, _ => (2, [], t)
  | g + 1, T, n, nm, fl, b, t, es => match (rStep sl T n nm fl b t).1 with
    | none => (1, [], (rStep sl T n nm fl b t).2)
    | some q => if q.2.1 = 0 ∧ es.length < 200 then (0, es ++ [q.2.2.2.2], (rStep sl T n nm fl b t).2) else rAll sl g q.1 q.2.1 q.2.2.1 q.2.2.2.1 true (rStep sl T n nm fl b t).2 (es ++ [q.2.2.2.2])
def rD (sl : List Nat) : Nat × List Ev × Nat := rAll sl 201 t00 0 (fun _ => 0) (fun _ => false) false 0 []
/-- an event as a reader makes one -/
def EVk (e : Ev) : Prop := ((e.1 = 1 ∧ e.2.2.2 = 0) ∨ e.1 = 2 ∨ (e.1 = 3 ∧ e.2.1 = 0 ∧ e.2.2.1 = 0) ∨ e = (4, 0, 0, 0)) ∧ e.2.1 < tB ∧ e.2.2.1 < tB ∧ e.2.2.2 < tB
def shk (k n : Nat) (fl : Nat → Bool) : Nat × (Nat → Bool) := if k = 1 then (n + 1, va_up (fll fl n) n false) else if k = 2 then (n, fl) else if k = 3 then (n, fll fl n) else (n - 1, fl)
def ELg (n : Nat) (fl : Nat → Bool) (b : Bool) : List Ev → Prop
  | [] => True
  | e :: es => wl n fl b e.1 = true ∧ EVk e ∧ ELg (shk e.1 n fl).1 (shk e.1 n fl).2 true es
def shR (n : Nat) (fl : Nat → Bool) (b : Bool) : List Ev → Nat × (Nat → Bool) × Bool
  | [] => (n, fl, b)
  | e :: es => shR (shk e.1 n fl).1 (shk e.1 n fl).2 true es
theorem ELg_app : ∀ (es : List Ev) (e : Ev) (n : Nat) (fl : Nat → Bool) (b : Bool), ELg n fl b es → wl (shR n fl b es).1 (shR n fl b es).2.1 (shR n fl b es).2.2 e.1 = true → EVk e → ELg n fl b (es ++ [e])
  | [], e, n, fl, b, _, h2, h3 => ⟨h2, h3, trivial⟩
  | x :: es, e, n, fl, b, h1, h2, h3 => ⟨h1.1, h1.2.1, ELg_app es e _ _ _ h1.2.2 h2 h3⟩
theorem shR_app : ∀ (es : List Ev) (e : Ev) (n : Nat) (fl : Nat → Bool) (b : Bool), shR n fl b (es ++ [e]) = ((shk e.1 (shR n fl b es).1 (shR n fl b es).2.1).1, (shk e.1 (shR n fl b es).1 (shR n fl b es).2.1).2, true)
  | [], e, n, fl, b => rfl
  | x :: es, e, n, fl, b => shR_app es e _ _ _
section RI
variable {sl : List Nat} {T : TT} {t n m c : Nat} {nm : Nat → Nat} {fl : Nat → Bool} {b : Bool}
/-- what an event leaves -/
def rOK (sl : List Nat) (n : Nat) (fl : Nat → Bool) (b : Bool) (r : RS) : Prop := r.2 ≤ sl.length ∧ ∀ q, r.1 = some q → BI q.1 ∧ (∀ i, i < q.2.1 → q.2.2.1 i < (q.1 4 0).length) ∧ EVk q.2.2.2.2 ∧ wl n fl b q.2.2.2.2.1 = true ∧ (q.2.1, q.2.2.2.1) = shk q.2.2.2.2.1 n fl
theorem rFi_OK (hB : BI T) (hnm : ∀ i, i < n → nm i < (T 4 0).length) (ht : t ≤ sl.length) (hc : c % 8 = 1 ∨ c % 8 = 2 → c / 8 < (T 4 0).length) (h1 : c % 8 = 1 → wl n fl b 1 = true) (h2 : c % 8 = 2 → wl n fl b 2 = true) (h3 : ¬ c % 8 = 1 → ¬ c % 8 = 2 → 0 < n) : rOK sl n fl b (rFi sl T n nm fl c t) := by
  have h45 : ∀ {i}, i < (T 4 0).length → i < (T 5 0).length := fun hi => by rw [← show (T 4 0).length = (T 5 0).length from hB.2.1]; exact hi
  have tB0 : (0 : Nat) < tB := by decide
  unfold rFi
  by_cases c1 : c % 8 = 1
  · rw [if_pos c1]
    by_cases hn8 : n = 8
    · rw [if_pos hn8]; exact ⟨ht, fun q hq => by cases hq⟩
    · rw [if_neg hn8]
      have hlt := hc (Or.inl c1)
      refine ⟨ht, fun q hq => ?_⟩
      obtain rfl := Option.some.inj hq
      refine ⟨hB, fun i hi => ?_, ⟨Or.inl ⟨rfl, rfl⟩, hB.1 4 0 _ (getD_mem hlt), hB.1 5 0 _ (getD_mem (h45 hlt)), tB0⟩, h1 c1, rfl⟩
      show va_up nm n (c / 8) i < _
      unfold va_up
      by_cases him : i = n
      · rw [if_pos him]; exact hlt
      · rw [if_neg him]
        have hi2 : i < n + 1 := hi
        exact hnm i (by omega)
  · rw [if_neg c1]
    by_cases c2 : c % 8 = 2
    · rw [if_pos c2]
      have hlt := hc (Or.inr c2)
      have hVt := (rVa_t (sl := sl) (T := T) (n := c / 8) ht).2
      cases hv : (rVa sl T (c / 8) t).1 with
      | none => exact ⟨hVt, fun q hq => by cases hq⟩
      | some v =>
        refine ⟨hVt, fun q hq => ?_⟩
        obtain rfl := Option.some.inj hq
        have hBV := rVa_BI hB hlt hv
        refine ⟨hBV.1, fun i hi => ?_, ⟨Or.inr (Or.inl rfl), hB.1 4 0 _ (getD_mem hlt), hB.1 5 0 _ (getD_mem (h45 hlt)), rVa_v hB.1 hv⟩, h2 c2, rfl⟩
        show nm i < ((rVa sl T (c / 8) t).2.1 4 0).length
        rw [hBV.2]
        exact hnm i hi
    · rw [if_neg c2]
      have hpos := h3 c1 c2
      by_cases c3 : c % 8 = 3
      · rw [if_pos c3]
        have hlt : nm (n - 1) < (T 4 0).length := hnm (n - 1) (by omega)
        have hVt := (rVa_t (sl := sl) (T := T) (n := nm (n - 1)) ht).2
        cases hv : (rVa sl T (nm (n - 1)) t).1 with
        | none => exact ⟨hVt, fun q hq => by cases hq⟩
        | some v =>
          refine ⟨hVt, fun q hq => ?_⟩
          obtain rfl := Option.some.inj hq
          have hBV := rVa_BI hB hlt hv
          refine ⟨hBV.1, fun i hi => ?_, ⟨Or.inr (Or.inr (Or.inl ⟨rfl, rfl, rfl⟩)), tB0, tB0, rVa_v hB.1 hv⟩, ?_, rfl⟩
          · show nm i < ((rVa sl T (nm (n - 1)) t).2.1 4 0).length
            rw [hBV.2]
            exact hnm i hi
          · show decide (0 < n) = true
            exact decide_eq_true hpos
      · rw [if_neg c3]
        refine ⟨ht, fun q hq => ?_⟩
        obtain rfl := Option.some.inj hq
        refine ⟨hB, fun i hi => ?_, ⟨Or.inr (Or.inr (Or.inr rfl)), tB0, tB0, tB0⟩, ?_, rfl⟩
        · have hi2 : i < n - 1 := hi
          exact hnm i (by omega)
        · show decide (0 < n) = true
          exact decide_eq_true hpos
theorem rEv1_OK (hB : BI T) (ht : t ≤ sl.length) : rOK sl 0 fl false (rEv1 sl T nm fl t) := by
  have htN := (rNa_t (sl := sl) (T := T) ht).2
  unfold rEv1
  cases hN : (rNa sl T t).1 with
  | none => exact ⟨htN, fun q hq => by cases hq⟩
  | some i =>
    have hb := rNa_BI hB hN
    exact rFi_OK hb.1 (fun j hj => absurd hj (Nat.not_lt_zero j)) htN (fun _ => by rw [show (i * 8 + 1) / 8 = i by omega]; exact hb.2.1) (fun _ => rfl) (fun q => by omega) (fun q => by omega)
/-- what takeCode leaves -/
theorem rCo_OK (hB : BI T) (hnm : nm m < (T 4 0).length) (ht : t ≤ sl.length) : (rCo sl T (fl m) (nm m) t).2.2 ≤ sl.length ∧ ∀ c, (rCo sl T (fl m) (nm m) t).1 = some c → BI (rCo sl T (fl m) (nm m) t).2.1 ∧ (T 4 0).length ≤ ((rCo sl T (fl m) (nm m) t).2.1 4 0).length ∧ vc (rCo sl T (fl m) (nm m) t).2.1 c ∧ (fl m = true → c % 8 = 1 ∨ c = 3 ∨ c = 4) := by
  refine ⟨(rCo_t ht).2, ?_⟩
  rw [rCo_C]
  have hv := fun q (hq : (rC sl T (fl m) (nm m) t).1 = some q) => rC_v hq
  have htC := rC_t (sl := sl) (T := T) (f := fl m) (k := nm m) ht
  cases hC : rC sl T (fl m) (nm m) t with
  | mk o t1 =>
    rw [hC] at hv htC
    cases o with
    | none => exact fun c hc => by cases hc
    | some q =>
      obtain ⟨qa, c0⟩ := q
      simp only
      rcases hv _ rfl with ⟨ha, hm⟩ | ⟨ha, hff⟩ | ⟨ha, hk⟩
      · obtain rfl : qa = 0 := ha
        intro c hc
        rw [if_pos rfl] at hc ⊢
        obtain rfl := Option.some.inj hc
        refine ⟨hB, Nat.le_refl _, CI_row hB.2.2.2.2 (nm m) _ hm, fun hf => ?_⟩
        have hm7 : c0 ∈ T 7 (nm m) := by rw [hf] at hm; exact hm
        rcases (hB.2.2.2.2.2 (nm m) c0 hm7).2 with h | h
        · exact Or.inl h
        · exact Or.inr (Or.inl h)
      · cases ha
        intro c hc
        rw [if_neg (by decide), if_pos rfl] at hc ⊢
        obtain rfl := Option.some.inj hc
        exact ⟨hB, Nat.le_refl _, Or.inr (Or.inr rfl), fun _ => Or.inr (Or.inr rfl)⟩
      · obtain rfl : qa = 2 := ha
        intro c hc
        have hk : c0 = 1 ∨ c0 = 3 ∨ (fl m = false ∧ (c0 = 2 ∨ c0 = 4)) := hk
        rw [if_neg (by decide), if_neg (by decide)] at hc ⊢
        by_cases h12 : c0 = 1 ∨ c0 = 2
        · rw [if_pos h12] at hc ⊢
          unfold rNc at hc ⊢
          cases hN : (rNa sl T t1).1 with
          | none => rw [hN] at hc; cases hc
          | some i =>
            rw [hN] at hc
            obtain rfl := Option.some.inj hc
            have hb := rNa_BI hB hN
            have hvc : vc (rNa sl T t1).2.1 (i * 8 + c0) := Or.inl ⟨by omega, by rw [show (i * 8 + c0) / 8 = i by omega]; exact hb.2.1⟩
            have hi20 := lb4 hb.1.2.2.2.1
            have hi2 := hb.2.1
            have h7 : fl m = true → (i * 8 + c0) % 8 = 1 ∨ i * 8 + c0 = 3 := fun hf => by
              rcases hk with h | h | ⟨h, -⟩
              · exact Or.inl (by omega)
              · omega
              · rw [hf] at h; cases h
            have e4 : tln (rNa sl T t1).2.1 (kj (fl m)) (nm m) (i * 8 + c0) 4 = (rNa sl T t1).2.1 4 := tln_row (kj_4 (fl m)).symm
            refine ⟨BI_ln hb.1 (by have : tB = 14348907 := rfl; omega) hvc h7 (Nat.lt_of_lt_of_le hnm hb.2.2), ?_, ?_, fun hf => ?_⟩
            · show _ ≤ (tln (rNa sl T t1).2.1 (kj (fl m)) (nm m) (i * 8 + c0) 4 0).length
              rw [e4]; exact hb.2.2
            · show vc (tln (rNa sl T t1).2.1 (kj (fl m)) (nm m) (i * 8 + c0)) _
              unfold vc; rw [e4]; exact hvc
            · rcases h7 hf with h | h
              · exact Or.inl h
              · exact Or.inr (Or.inl h)
        · rw [if_neg h12] at hc ⊢
          obtain rfl := Option.some.inj hc
          have hc34 : c0 = 3 ∨ (fl m = false ∧ c0 = 4) := by
            rcases hk with h | h | ⟨hf, h | h⟩
            · exact absurd (Or.inl h) h12
            · exact Or.inl h
            · exact absurd (Or.inr h) h12
            · exact Or.inr ⟨hf, h⟩
          have e4 : tln T (kj (fl m)) (nm m) c0 4 = T 4 := tln_row (kj_4 (fl m)).symm
          have hvc : vc T c0 := by rcases hc34 with h | h; exact Or.inr (Or.inl h); exact Or.inr (Or.inr h.2)
          refine ⟨BI_ln hB (by have : tB = 14348907 := rfl; omega) hvc (fun hf => ?_) hnm, ?_, ?_, fun hf => ?_⟩
          · rcases hc34 with h | h
            · exact Or.inr h
            · rw [hf] at h; cases h.1
          · show _ ≤ (tln T (kj (fl m)) (nm m) c0 4 0).length
            rw [e4]; exact Nat.le_refl _
          · show vc (tln T (kj (fl m)) (nm m) c0) _
            unfold vc; rw [e4]; exact hvc
          · rcases hc34 with h | h
            · exact Or.inr (Or.inl h)
            · rw [hf] at h; cases h.1
theorem rEv2_OK (hB : BI T) (hnm : ∀ i, i < m + 1 → nm i < (T 4 0).length) (ht : t ≤ sl.length) : rOK sl (m + 1) fl true (rEv2 sl T m nm fl t) := by
  have hC := rCo_OK (fl := fl) hB (hnm m (Nat.lt_succ_self m)) ht
  unfold rEv2
  cases hc : (rCo sl T (fl m) (nm m) t).1 with
  | none => exact ⟨hC.1, fun q hq => by cases hq⟩
  | some c =>
    obtain ⟨b1, b2, b3, b4⟩ := hC.2 c hc
    refine rFi_OK b1 (fun i hi => Nat.lt_of_lt_of_le (hnm i hi) b2) hC.1 (fun q => ?_) (fun _ => ?_) (fun q => ?_) (fun _ _ => Nat.succ_pos m)
    · rcases b3 with h | h | h
      · exact h.2
      · omega
      · omega
    · show (!(true && decide (m + 1 = 0))) = true
      rw [decide_eq_false (Nat.succ_ne_zero m)]; rfl
    · show (decide (0 < m + 1) && !fl m) = true
      rw [decide_eq_true (Nat.succ_pos m)]
      cases hf : fl m with
      | false => rfl
      | true => have := b4 hf; omega
theorem rCo_vc (hB : BI T) (hnm : nm m < (T 4 0).length) (ht : t ≤ sl.length) (hc : (rCo sl T (fl m) (nm m) t).1 = some c) : c < 2 ^ 31 ∧ TB (rCo sl T (fl m) (nm m) t).2.1 ∧ T45 (rCo sl T (fl m) (nm m) t).2.1 ∧ (c % 8 = 1 ∨ c % 8 = 2 → c / 8 < ((rCo sl T (fl m) (nm m) t).2.1 4 0).length) := by
  obtain ⟨b1, b2, b3, b4⟩ := (rCo_OK (fl := fl) hB hnm ht).2 c hc
  refine ⟨Nat.lt_trans (vc_lt b3 (lb4 b1.2.2.2.1)) (by decide), b1.1, b1.2.1, fun q => ?_⟩
  rcases b3 with h | h | h
  · exact h.2
  · omega
  · omega
end RI
