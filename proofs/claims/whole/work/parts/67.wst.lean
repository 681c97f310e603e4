/-! A WRITER'S STATE as one thing: tables, open elements, their names, filled, begun, bits. -/
abbrev WS : Type := TT × Nat × (Nat → Nat) × (Nat → Bool) × Bool × List Nat
def CW (d : ax_D) (S : WS) : Prop := tb_is d 0 S.1 ∧ gr_is d 0 S.2.1 S.2.2.1 S.2.2.2.1 S.2.2.2.2.1 ∧ bt_is d 515 S.2.2.2.2.2
def MW (d : ax_D) (S : WS) : Prop := mt_is d 0 S.1 ∧ mg_is d 0 S.2.1 S.2.2.1 S.2.2.2.1 S.2.2.2.2.1 ∧ mb_is d S.2.2.2.2.2
def WI (S : WS) : Prop := BI S.1 ∧ NI S.1 ∧ (∀ i, i < S.2.1 → S.2.2.1 i < (S.1 4 0).length) ∧ (S.2.2.2.2.1 = false → S.2.1 = 0)
def wS0 : WS := (t00, 0, fun _ => 0, fun _ => false, false, [])
def wEv1 (T : TT) (n : Nat) (nm : Nat → Nat) (fl : Nat → Bool) (l : List Nat) (sp lo : Nat) : WS := match n with
  | 0 => ((sNa T sp lo).2.1, 1, va_up nm 0 (sNa T sp lo).2.2, va_up fl 0 false, true, l ++ (sNa T sp lo).1)
  | m + 1 => ((sNd T (fl m) (nm m) 1 sp lo).2.1, m + 1 + 1, va_up nm (m + 1) (sNd T (fl m) (nm m) 1 sp lo).2.2, va_up (va_up fl m true) (m + 1) false, true, l ++ (sNd T (fl m) (nm m) 1 sp lo).1)
def wEv2 (T : TT) (n : Nat) (nm : Nat → Nat) (fl : Nat → Bool) (b : Bool) (l : List Nat) (sp lo v : Nat) : WS := match n with
  | 0 => (T, n, nm, fl, b, l)
  | m + 1 => ((sVa (sNd T (fl m) (nm m) 2 sp lo).2.1 (sNd T (fl m) (nm m) 2 sp lo).2.2 v).2, m + 1, nm, fl, b, l ++ ((sNd T (fl m) (nm m) 2 sp lo).1 ++ (sVa (sNd T (fl m) (nm m) 2 sp lo).2.1 (sNd T (fl m) (nm m) 2 sp lo).2.2 v).1))
def wEv3 (T : TT) (n : Nat) (nm : Nat → Nat) (fl : Nat → Bool) (b : Bool) (l : List Nat) (v : Nat) : WS := match n with
  | 0 => (T, n, nm, fl, b, l)
  | m + 1 => ((sVa (sNl T (fl m) (nm m) 3).2 (nm m) v).2, m + 1, nm, va_up fl m true, b, l ++ ((sNl T (fl m) (nm m) 3).1 ++ (sVa (sNl T (fl m) (nm m) 3).2 (nm m) v).1))
def wEv4 (T : TT) (n : Nat) (nm : Nat → Nat) (fl : Nat → Bool) (b : Bool) (l : List Nat) : WS := match n with
  | 0 => (T, n, nm, fl, b, l)
  | m + 1 => ((sCl T (fl m) (nm m)).2, m, nm, fl, b, l ++ (sCl T (fl m) (nm m)).1)
def wEv (S : WS) (k sp lo v : Nat) : WS :=
  if k = 1 then wEv1 S.1 S.2.1 S.2.2.1 S.2.2.2.1 S.2.2.2.2.2 sp lo
  else if k = 2 then wEv2 S.1 S.2.1 S.2.2.1 S.2.2.2.1 S.2.2.2.2.1 S.2.2.2.2.2 sp lo v
  else if k = 3 then wEv3 S.1 S.2.1 S.2.2.1 S.2.2.2.1 S.2.2.2.2.1 S.2.2.2.2.2 v
  else wEv4 S.1 S.2.1 S.2.2.1 S.2.2.2.1 S.2.2.2.2.1 S.2.2.2.2.2
/-- whether an event may come: what the open elements alone say -/
def wl (n : Nat) (fl : Nat → Bool) (b : Bool) (k : Nat) : Bool := if k = 1 then !(b && decide (n = 0)) else if k = 2 then decide (0 < n) && !fl (n - 1) else decide (0 < n)
def wL (S : WS) (k : Nat) : Bool := wl S.2.1 S.2.2.2.1 S.2.2.2.2.1 k
def wQ (S : WS) (k sp lo : Nat) : Bool := hrf S.1 S.2.1 S.2.2.2.2.2 k sp lo
section WT
variable {d : ax_D} {S : WS} {k sp lo v : Nat}
theorem CW_mk {T : TT} {n : Nat} {nm : Nat → Nat} {fl : Nat → Bool} {b : Bool} {l : List Nat} (h1 : tb_is d 0 T) (h2 : gr_is d 0 n nm fl b) (h3 : bt_is d 515 l) : CW d (T, n, nm, fl, b, l) := ⟨h1, h2, h3⟩
theorem MW_mk {T : TT} {n : Nat} {nm : Nat → Nat} {fl : Nat → Bool} {b : Bool} {l : List Nat} (h1 : mt_is d 0 T) (h2 : mg_is d 0 n nm fl b) (h3 : mb_is d l) : MW d (T, n, nm, fl, b, l) := ⟨h1, h2, h3⟩
/-- THE CLASS writes an event that may come -/
theorem sp_wev (hC : CW d S) (hI : WI S) (hL : wL S k = true) (hk : k = 1 ∨ k = 2 ∨ k = 3 ∨ k = 4) (hsp : sp < tB) (hlo : lo < tB) (hv : v < tB) : ax_E 60 [.ref 513, .int (nI k), .int (nI sp), .int (nI lo), .int (nI v)] d (ax_Pi fun y d1 => (wQ S k sp lo = false → y = nI 0 ∧ d1 = d) ∧ (wQ S k sp lo = true → y = nI 1 ∧ CW d1 (wEv S k sp lo v) ∧ we d d1)) := by
  obtain ⟨T, n, nm, fl, b, l⟩ := S
  obtain ⟨h1, h2, h3⟩ := hC
  obtain ⟨hB, hN, hnm, hb⟩ := hI
  rcases hk with rfl | rfl | rfl | rfl
  · match n, h2, hL, hnm, hb with
    | 0, h2, hL, hnm, hb =>
      have hbf : b = false := by
        cases b with
        | false => rfl
        | true => exact absurd (show false = true from hL) Bool.false_ne_true
      exact ax_E_i (sp_we1a hbf h1 h2 h3 hN hsp hlo hv) (fun y d1 ⟨a1, a2⟩ => ⟨a1, fun q => ⟨(a2 q).1, CW_mk (a2 q).2.1 (a2 q).2.2.1 (a2 q).2.2.2.1, (a2 q).2.2.2.2⟩⟩)
    | m + 1, h2, hL, hnm, hb =>
      have hbt : b = true := by
        cases b with
        | true => rfl
        | false => exact absurd (hb rfl) (Nat.succ_ne_zero m)
      exact ax_E_i (sp_we1b hbt h1 h2 h3 hN hsp hlo hv) (fun y d1 ⟨a1, a2⟩ => ⟨a1, fun q => ⟨(a2 q).1, CW_mk (a2 q).2.1 (a2 q).2.2.1 (a2 q).2.2.2.1, (a2 q).2.2.2.2⟩⟩)
  · match n, h2, hL, hnm, hb with
    | 0, h2, hL, hnm, hb => exact absurd (show false = true from hL) Bool.false_ne_true
    | m + 1, h2, hL, hnm, hb => exact ax_E_i (sp_we2 h1 h2 h3 hN hsp hlo hv) (fun y d1 ⟨a1, a2⟩ => ⟨a1, fun q => ⟨(a2 q).1, CW_mk (a2 q).2.1 (a2 q).2.2.1 (a2 q).2.2.2.1, (a2 q).2.2.2.2⟩⟩)
  · match n, h2, hL, hnm, hb with
    | 0, h2, hL, hnm, hb => exact absurd (show false = true from hL) Bool.false_ne_true
    | m + 1, h2, hL, hnm, hb => exact ax_E_i (sp_we3 h1 h2 h3 hN hsp hlo hv) (fun y d1 ⟨a1, a2⟩ => ⟨a1, fun q => ⟨(a2 q).1, CW_mk (a2 q).2.1 (a2 q).2.2.1 (a2 q).2.2.2.1, (a2 q).2.2.2.2⟩⟩)
  · match n, h2, hL, hnm, hb with
    | 0, h2, hL, hnm, hb => exact absurd (show false = true from hL) Bool.false_ne_true
    | m + 1, h2, hL, hnm, hb => exact ax_E_i (sp_we4 h1 h2 h3 hN hsp hlo hv) (fun y d1 ⟨a1, a2⟩ => ⟨a1, fun q => ⟨(a2 q).1, CW_mk (a2 q).2.1 (a2 q).2.2.1 (a2 q).2.2.2.1, (a2 q).2.2.2.2⟩⟩)
/-- what a call of the writer does: how it ends (0, or why not), and the state behind it -/
def oW (S : WS) (k : Nat) (sp lo v : Nat) : Nat × WS := if wL S k = true then (if wQ S k sp lo = true then (0, wEv S k sp lo v) else (3, S)) else (2, S)
def mP (d : ax_D) (S : WS) (r : Nat × WS) : Int32 → ax_D → Prop := fun y d1 => y = nI r.1 ∧ MW d1 r.2 ∧ mwe d d1
theorem oW_2 (h : wL S k = false) : oW S k sp lo v = (2, S) := by unfold oW; rw [if_neg (by rw [h]; decide)]
theorem oW_3 (h : wL S k = true) (h2 : wQ S k sp lo = false) : oW S k sp lo v = (3, S) := by unfold oW; rw [if_pos h, if_neg (by rw [h2]; decide)]
theorem oW_0 (h : wL S k = true) (h2 : wQ S k sp lo = true) : oW S k sp lo v = (0, wEv S k sp lo v) := by unfold oW; rw [if_pos h, if_pos h2]
theorem mP_of {y : Int32} {d1 : ax_D} (hM : MW d S) (hL : wL S k = true) (h : (wQ S k sp lo = false → y = nI 3 ∧ d1 = d) ∧ (wQ S k sp lo = true → y = nI 0 ∧ MW d1 (wEv S k sp lo v) ∧ mwe d d1)) : mP d S (oW S k sp lo v) y d1 := by
  cases hq : wQ S k sp lo with
  | false =>
    obtain ⟨h1, rfl⟩ := h.1 hq
    rw [oW_3 hL hq]
    exact ⟨h1, hM, mwe_rf _⟩
  | true =>
    rw [oW_0 hL hq]
    exact h.2 hq
theorem mP_2 {y : Int32} {d1 : ax_D} (hM : MW d S) (hL : wL S k = false) (h : y = nI 2 ∧ d1 = d) : mP d S (oW S k sp lo v) y d1 := by
  obtain ⟨h1, rfl⟩ := h
  rw [oW_2 hL]
  exact ⟨h1, hM, mwe_rf _⟩
/-- THE REFERENCE the same, whether it may come or not -/
theorem sm_wOpen (hM : MW d S) (hI : WI S) (hsp : sp < tB) (hlo : lo < tB) : ax_E 112 [.ref 540, .int (nI sp), .int (nI lo)] d (ax_Pi (mP d S (oW S 1 sp lo 0))) := by
  obtain ⟨T, n, nm, fl, b, l⟩ := S
  have hM' := hM
  obtain ⟨h1, h2, h3⟩ := hM
  obtain ⟨hB, hN, hnm, hb⟩ := hI
  match n, h2, hnm, hb, hM' with
  | 0, h2, hnm, hb, hM' =>
    cases b with
    | true => exact ax_E_i (sm_we1w h2) (fun y d1 q => mP_2 (lo := lo) (sp := sp) (v := 0) hM' rfl q)
    | false => exact ax_E_i (sm_we1a h1 h2 h3 hB hN hsp hlo) (fun y d1 ⟨a1, a2⟩ => mP_of hM' rfl ⟨a1, fun q => ⟨(a2 q).1, MW_mk (a2 q).2.1 (a2 q).2.2.1 (a2 q).2.2.2.1, (a2 q).2.2.2.2⟩⟩)
  | m + 1, h2, hnm, hb, hM' =>
    cases b with
    | false => exact absurd (hb rfl) (Nat.succ_ne_zero m)
    | true => exact ax_E_i (sm_we1b h1 h2 h3 hB hN hsp hlo (hnm m (Nat.lt_succ_self m))) (fun y d1 ⟨a1, a2⟩ => mP_of hM' (by show (!(true && decide (m + 1 = 0))) = true; rw [decide_eq_false (Nat.succ_ne_zero m)]; rfl) ⟨a1, fun q => ⟨(a2 q).1, MW_mk (a2 q).2.1 (a2 q).2.2.1 (a2 q).2.2.2.1, (a2 q).2.2.2.2⟩⟩)
theorem sm_wAttr (hM : MW d S) (hI : WI S) (hsp : sp < tB) (hlo : lo < tB) (hv : v < tB) : ax_E 113 [.ref 540, .int (nI sp), .int (nI lo), .int (nI v)] d (ax_Pi (mP d S (oW S 2 sp lo v))) := by
  obtain ⟨T, n, nm, fl, b, l⟩ := S
  have hM' := hM
  obtain ⟨h1, h2, h3⟩ := hM
  obtain ⟨hB, hN, hnm, hb⟩ := hI
  match n, h2, hnm, hb, hM' with
  | 0, h2, hnm, hb, hM' => exact ax_E_i (sm_we2i0 h2) (fun y d1 q => mP_2 hM' rfl q)
  | m + 1, h2, hnm, hb, hM' =>
    cases hf : fl m with
    | true => exact ax_E_i (sm_we2i h2 hf) (fun y d1 q => mP_2 hM' (by show (decide (0 < m + 1) && !fl m) = false; rw [hf, Bool.not_true, Bool.and_false]) q)
    | false => exact ax_E_i (sm_we2 h1 h2 h3 hB hN hsp hlo hv hf (hnm m (Nat.lt_succ_self m))) (fun y d1 ⟨a1, a2⟩ => mP_of hM' (by show (decide (0 < m + 1) && !fl m) = true; rw [hf, decide_eq_true (Nat.succ_pos m)]; rfl) ⟨a1, fun q => ⟨(a2 q).1, MW_mk (a2 q).2.1 (a2 q).2.2.1 (a2 q).2.2.2.1, (a2 q).2.2.2.2⟩⟩)
theorem sm_wText (hM : MW d S) (hI : WI S) (hv : v < tB) : ax_E 114 [.ref 540, .int (nI v)] d (ax_Pi (mP d S (oW S 3 0 0 v))) := by
  obtain ⟨T, n, nm, fl, b, l⟩ := S
  have hM' := hM
  obtain ⟨h1, h2, h3⟩ := hM
  obtain ⟨hB, hN, hnm, hb⟩ := hI
  match n, h2, hnm, hb, hM' with
  | 0, h2, hnm, hb, hM' => exact ax_E_i (sm_we3i h2) (fun y d1 q => mP_2 hM' rfl q)
  | m + 1, h2, hnm, hb, hM' => exact ax_E_i (sm_we3 (sp := 0) (lo := 0) h1 h2 h3 hB hN hv (hnm m (Nat.lt_succ_self m))) (fun y d1 ⟨a1, a2⟩ => mP_of hM' (by show decide (0 < m + 1) = true; exact decide_eq_true (Nat.succ_pos m)) ⟨a1, fun q => ⟨(a2 q).1, MW_mk (a2 q).2.1 (a2 q).2.2.1 (a2 q).2.2.2.1, (a2 q).2.2.2.2⟩⟩)
theorem sm_wClose (hM : MW d S) (hI : WI S) : ax_E 115 [.ref 540] d (ax_Pi (mP d S (oW S 4 0 0 0))) := by
  obtain ⟨T, n, nm, fl, b, l⟩ := S
  have hM' := hM
  obtain ⟨h1, h2, h3⟩ := hM
  obtain ⟨hB, hN, hnm, hb⟩ := hI
  match n, h2, hnm, hb, hM' with
  | 0, h2, hnm, hb, hM' => exact ax_E_i (sm_we4i h2) (fun y d1 q => mP_2 hM' rfl q)
  | m + 1, h2, hnm, hb, hM' =>
    cases b with
    | false => exact absurd (hb rfl) (Nat.succ_ne_zero m)
    | true => exact ax_E_i (sm_we4 (sp := 0) (lo := 0) h1 h2 h3 hB hN (hnm m (Nat.lt_succ_self m))) (fun y d1 ⟨a1, a2⟩ => mP_of hM' (by show decide (0 < m + 1) = true; exact decide_eq_true (Nat.succ_pos m)) ⟨a1, fun q => ⟨(a2 q).1, MW_mk (a2 q).2.1 (a2 q).2.2.1 (a2 q).2.2.2.1, (a2 q).2.2.2.2⟩⟩)
theorem NI_sVa {T : TT} {n v : Nat} (hB : BI T) (hN : NI T) (hv : v < tB) (hn : n < (T 4 0).length) : BI (sVa T n v).2 ∧ NI (sVa T n v).2 ∧ (sVa T n v).2 4 = T 4 := by
  unfold sVa
  cases hq : fi (T 2 n) v with
  | some p => exact ⟨hB, hN, rfl⟩
  | none =>
    cases hq3 : fi (T 3 0) v with
    | some p => exact ⟨hB, hN, rfl⟩
    | none =>
      have hB2 := BI_av hB hv hn
      exact ⟨hB2, NI_67 hN hB2.1 (tav_row (by decide) (by decide)) (tav_row (by decide) (by decide)) (tav_row (by decide) (by decide)) (tav_row (by decide) (by decide)) hB2.2.2.1, tav_row (by decide) (by decide)⟩
theorem WI_wEv (hI : WI S) (hL : wL S k = true) (hQ : wQ S k sp lo = true) (hk : k = 1 ∨ k = 2 ∨ k = 3 ∨ k = 4) (hsp : sp < tB) (hlo : lo < tB) (hv : v < tB) : WI (wEv S k sp lo v) := by
  obtain ⟨T, n, nm, fl, b, l⟩ := S
  obtain ⟨hB, hN, hnm, hb⟩ := hI
  have hh := hrf_of hQ
  rcases hk with rfl | rfl | rfl | rfl
  · have hr := rm3_of hN (hh.2.2 (Or.inl rfl))
    match n, hL, hnm, hb with
    | 0, hL, hnm, hb =>
      refine ⟨BI_sNa hB hsp hlo hr, NI_sNa hN hsp hlo, fun i hi => ?_, fun q => by cases q⟩
      obtain rfl : i = 0 := Nat.lt_one_iff.mp hi
      exact sNa_i
    | m + 1, hL, hnm, hb =>
      obtain ⟨b1, b2, b3, b4⟩ := sNd_BI (f := fl m) (kind := 1) hB hN hsp hlo hr (hnm m (Nat.lt_succ_self m)) (Or.inl rfl)
      refine ⟨b1, b2, fun i hi => ?_, fun q => by cases q⟩
      show va_up nm (m + 1) (sNd T (fl m) (nm m) 1 sp lo).2.2 i < _
      unfold va_up
      by_cases him : i = m + 1
      · rw [if_pos him]; exact b3
      · rw [if_neg him]
        have hi2 : i < m + 1 + 1 := hi
        exact Nat.lt_of_lt_of_le (hnm i (show i < m + 1 by omega)) b4
  · have hr := rm3_of hN (hh.2.2 (Or.inr rfl))
    match n, hL, hnm, hb with
    | 0, hL, hnm, hb => exact absurd (show false = true from hL) Bool.false_ne_true
    | m + 1, hL, hnm, hb =>
      have hfm : fl m = false := by
        have : (decide (0 < m + 1) && !fl m) = true := hL
        cases hf : fl m with
        | false => rfl
        | true => rw [hf, Bool.not_true, Bool.and_false] at this; cases this
      obtain ⟨b1, b2, b3, b4⟩ := sNd_BI (f := fl m) (kind := 2) hB hN hsp hlo hr (hnm m (Nat.lt_succ_self m)) (Or.inr ⟨rfl, hfm⟩)
      obtain ⟨c1, c2, c3⟩ := NI_sVa b1 b2 hv b3
      refine ⟨c1, c2, fun i hi => ?_, hb⟩
      show nm i < ((sVa (sNd T (fl m) (nm m) 2 sp lo).2.1 (sNd T (fl m) (nm m) 2 sp lo).2.2 v).2 4 0).length
      rw [c3]
      exact Nat.lt_of_lt_of_le (hnm i hi) b4
  · match n, hL, hnm, hb with
    | 0, hL, hnm, hb => exact absurd (show false = true from hL) Bool.false_ne_true
    | m + 1, hL, hnm, hb =>
      obtain ⟨b1, b2, b3⟩ := sNl_BI (f := fl m) (kind := 3) hB hN (hnm m (Nat.lt_succ_self m)) (Or.inl rfl)
      obtain ⟨c1, c2, c3⟩ := NI_sVa (n := nm m) b1 b2 hv (by rw [b3]; exact hnm m (Nat.lt_succ_self m))
      refine ⟨c1, c2, fun i hi => ?_, hb⟩
      show nm i < ((sVa (sNl T (fl m) (nm m) 3).2 (nm m) v).2 4 0).length
      rw [c3, b3]
      exact hnm i hi
  · match n, hL, hnm, hb with
    | 0, hL, hnm, hb => exact absurd (show false = true from hL) Bool.false_ne_true
    | m + 1, hL, hnm, hb =>
      have key : BI (sCl T (fl m) (nm m)).2 ∧ NI (sCl T (fl m) (nm m)).2 ∧ (sCl T (fl m) (nm m)).2 4 = T 4 := by
        cases hf : fl m with
        | true => unfold sCl; rw [if_pos rfl]; exact ⟨hB, hN, rfl⟩
        | false => unfold sCl; rw [if_neg (by decide)]; exact sNl_BI (f := false) (kind := 4) hB hN (hnm m (Nat.lt_succ_self m)) (Or.inr ⟨rfl, rfl⟩)
      refine ⟨key.1, key.2.1, fun i hi => ?_, fun q => ?_⟩
      · show nm i < ((sCl T (fl m) (nm m)).2 4 0).length
        rw [key.2.2]
        have hi2 : i < m := hi
        exact hnm i (show i < m + 1 by omega)
      · exact absurd (hb q) (Nat.succ_ne_zero m)
theorem WI_oW (hI : WI S) (hk : k = 1 ∨ k = 2 ∨ k = 3 ∨ k = 4) (hsp : sp < tB) (hlo : lo < tB) (hv : v < tB) : WI (oW S k sp lo v).2 := by
  cases hL : wL S k with
  | false => rw [oW_2 hL]; exact hI
  | true =>
    cases hQ : wQ S k sp lo with
    | false => rw [oW_3 hL hQ]; exact hI
    | true => rw [oW_0 hL hQ]; exact WI_wEv hI hL hQ hk hsp hlo hv
theorem NI_00 : NI t00 := by
  refine ⟨TB_00, rfl, fun k _ => rfl, fun i hi => absurd hi (Nat.not_lt_zero i), fun s q x hs hx => ?_, fun k _ => ⟨rfl, rfl, rfl⟩⟩
  have : t00 1 q = [] := by unfold t00; rw [if_neg (fun z => by omega)]
  rw [this] at hx
  cases hx
theorem WI_0 : WI wS0 := ⟨BI_00, NI_00, fun i hi => absurd hi (Nat.not_lt_zero i), fun _ => rfl⟩
end WT
