/-! THE REFERENCE'S WHOLE STATE, and what leaves it. -/
def MS (d : ax_D) (S : WS) (sl : List Nat) (t : Nat) (es : List Ev) : Prop := MX d S ∧ ms_is d sl ∧ d 540 22 = nI t ∧ me_is d es
section FR
variable {d d1 : ax_D} {S S1 : WS} {sl sl1 : List Nat} {t t1 : Nat} {es es1 : List Ev} {T : TT} {c n : Nat} {nm : Nat → Nat} {fl : Nat → Bool} {b : Bool} {l : List Nat}
theorem mt_f (h : mt_is d c T) (hf : ∀ id, 542 ≤ id → id ≤ 554 → d1 id = d id) : mt_is d1 c T := by
  have e0 := hf 542 (by decide) (by decide)
  have e1 := hf 543 (by decide) (by decide)
  have e2 := hf 544 (by decide) (by decide)
  have e3 := hf 545 (by decide) (by decide)
  have e4 := hf 546 (by decide) (by decide)
  have e5 := hf 547 (by decide) (by decide)
  have e6 := hf 548 (by decide) (by decide)
  have e7 := hf 549 (by decide) (by decide)
  have e8 := hf 550 (by decide) (by decide)
  have e9 := hf 551 (by decide) (by decide)
  have e10 := hf 552 (by decide) (by decide)
  have e11 := hf 553 (by decide) (by decide)
  have e12 := hf 554 (by decide) (by decide)
  unfold mt_is sg at h ⊢
  rw [e0, e1, e2, e3, e4, e5, e6, e7, e8, e9, e10, e11, e12]
  exact h
theorem mg_f (h : mg_is d c n nm fl b) (hf : ∀ id, 555 ≤ id → id ≤ 558 → d1 id = d id) : mg_is d1 c n nm fl b := by
  unfold mg_is at h ⊢
  rw [hf 555 (by decide) (by decide), hf 556 (by decide) (by decide), hf 557 (by decide) (by decide), hf 558 (by decide) (by decide)]
  exact h
theorem mb_f (h : mb_is d l) (h1 : d1 540 19 = d 540 19) (h2 : d1 559 = d 559) : mb_is d1 l := by
  unfold mb_is at h ⊢
  rw [h1, h2]
  exact h
theorem ms_f (h : ms_is d sl) (h1 : d1 540 21 = d 540 21) (h2 : d1 561 = d 561) : ms_is d1 sl := by
  unfold ms_is at h ⊢
  rw [h1, h2]
  exact h
theorem MW_f (h : MW d S) (hf : ∀ id, 542 ≤ id → id ≤ 558 → d1 id = d id) (h1 : d1 540 19 = d 540 19) (h2 : d1 559 = d 559) : MW d1 S := ⟨mt_f h.1 (fun id a b => hf id a (by omega)), mg_f h.2.1 (fun id a b => hf id (by omega) b), mb_f h.2.2 h1 h2⟩
theorem MX_f (h : MX d S) (hf : ∀ id, 542 ≤ id → id ≤ 558 → d1 id = d id) (h1 : d1 540 19 = d 540 19) (h2 : d1 559 = d 559) (h3 : d1 540 29 = d 540 29) : MX d1 S := by
  rcases h with ⟨a, b⟩ | ⟨a, b, m⟩
  · exact Or.inl ⟨h3.trans a, MW_f b hf h1 h2⟩
  · exact Or.inr ⟨h3.trans a, b, mb_f m h1 h2⟩
/-- a call of the class -/
theorem MS_cG (h : MS d S sl t es) (hf : cG d d1) : MS d1 S sl t es := by
  have k : ∀ id, 540 ≤ id → id ≤ 579 → d1 id = d id := fun id a b => hf id a (by omega)
  have k0 := k 540 (by decide) (by decide)
  exact ⟨MX_f h.1 (fun id a b => k id (by omega) (by omega)) (by rw [k0]) (k 559 (by decide) (by decide)) (by rw [k0]), ms_f h.2.1 (by rw [k0]) (k 561 (by decide) (by decide)), by rw [k0]; exact h.2.2.1, me_k h.2.2.2 (by rw [k0]) (k _ (by decide) (by decide)) (k _ (by decide) (by decide)) (k _ (by decide) (by decide)) (k _ (by decide) (by decide))⟩
/-- a call of the reference's writer -/
theorem ms_wx (h : ms_is d sl) (hf : mwx d d1) : ms_is d1 sl := ms_f h (hf 540 21 (by decide) (by decide) (by decide)) (funext fun i => hf 561 i (fun q => absurd q.2.1 (by decide)) (by decide) (fun q => absurd q.1 (by decide)))
theorem MS_wx (h : MS d S sl t es) (h1 : d1 540 29 = nI 1) (h2 : MW d1 S1) (hf : mwx d d1) : MS d1 S1 sl t es := ⟨Or.inl ⟨h1, h2⟩, ms_wx h.2.1 hf, (hf 540 22 (by decide) (by decide) (by decide)).trans h.2.2.1, me_wx h.2.2.2 hf⟩
/-- a call on the reference's stream -/
theorem MS_ss (h : MS d S sl t es) (h1 : ms_is d1 sl1) (hf : mss d d1) : MS d1 S sl1 t es := by
  have k : ∀ id, id ≠ 561 → id ≠ 540 → d1 id = d id := fun id a b => funext fun i => hf id i a (fun q => b q.1)
  exact ⟨MX_f h.1 (fun id a b => k id (by omega) (by omega)) (hf 540 19 (by decide) (by decide)) (k 559 (by decide) (by decide)) (hf 540 29 (by decide) (by decide)), h1, (hf 540 22 (by decide) (by decide)).trans h.2.2.1, me_k h.2.2.2 (hf 540 24 (by decide) (by decide)) (k _ (by decide) (by decide)) (k _ (by decide) (by decide)) (k _ (by decide) (by decide)) (k _ (by decide) (by decide))⟩
theorem mss_up0 {x : Int32} : mss d (ax_up d 540 0 x) := by
  intro id i _ hn
  rw [up_ap, if_neg]
  rintro ⟨rfl, rfl⟩
  exact hn ⟨rfl, Or.inl rfl⟩
theorem MS_up0 {x : Int32} (h : MS d S sl t es) : MS (ax_up d 540 0 x) S sl t es := MS_ss h (ms_up h.2.1 (by decide)) mss_up0
/-- the reference reads -/
theorem MS_rx (h : MS d S sl t es) (hI : WI S) (h2 : d1 540 22 = nI t1) (h3 : me_is d1 es1) (hf : mrx d d1) : MS d1 S sl t1 es1 := by
  have k0 : ∀ i, i ≠ 0 → i ≠ 22 → i ≠ 23 → i ≠ 24 → d1 540 i = d 540 i := fun i a b c e => hf 540 i (fun q => absurd q.1 (by decide)) (by decide) (by decide) (by decide) (by decide) (fun q => by omega)
  have k1 : ∀ id, 558 < id → id < 566 → d1 id = d id := fun id a b => funext fun i => hf id i (fun q => by omega) (by omega) (by omega) (by omega) (by omega) (fun q => by omega)
  have hX : MX d1 S := by
    rcases h.1 with ⟨a, bT, bG, bB⟩ | ⟨a, b, m⟩
    · refine Or.inl ⟨(k0 29 (by decide) (by decide) (by decide) (by decide)).trans a, ?_, ?_, mb_f bB (k0 19 (by decide) (by decide) (by decide) (by decide)) (k1 559 (by decide) (by decide))⟩
      · have h2 : mt_is (fun id => if 542 ≤ id ∧ id ≤ 558 then d1 id else d id) 0 S.1 := by
          refine mt_oth (c := 1) bT hI.1.2.2.2.1 (fun id i hn => ?_) (by decide)
          show (if 542 ≤ id ∧ id ≤ 558 then d1 id else d id) i = d id i
          by_cases hc : 542 ≤ id ∧ id ≤ 558
          · rw [if_pos hc]
            exact hf id i hn (by omega) (by omega) (by omega) (by omega) (fun q => by omega)
          · rw [if_neg hc]
        exact mt_f h2 (fun id a b => by show d1 id = (if 542 ≤ id ∧ id ≤ 558 then d1 id else d id); rw [if_pos ⟨a, by omega⟩])
      · have k : ∀ id i, 555 ≤ id → id ≤ 558 → i / msz id = 0 → d1 id i = d id i := fun id i a b c => hf id i (fun q => by omega) (by omega) (by omega) (by omega) (by omega) (fun q => by omega)
        obtain ⟨g1, g2, g3, g4⟩ := bG
        refine ⟨g1, (k 555 0 (by decide) (by decide) (by decide)).trans g2, (k 558 0 (by decide) (by decide) (by decide)).trans g3, fun i hi => ?_⟩
        have hi8 : (8 * 0 + i) / 8 = 0 := by omega
        obtain ⟨e1, e2, e3⟩ := g4 i hi
        exact ⟨(k 556 _ (by decide) (by decide) hi8).trans e1, e2, (k 557 _ (by decide) (by decide) hi8).trans e3⟩
    · exact Or.inr ⟨(k0 29 (by decide) (by decide) (by decide) (by decide)).trans a, b, mb_f m (k0 19 (by decide) (by decide) (by decide) (by decide)) (k1 559 (by decide) (by decide))⟩
  exact ⟨hX, ms_f h.2.1 (k0 21 (by decide) (by decide) (by decide) (by decide)) (k1 561 (by decide) (by decide)), h2, h3⟩
/-! the class's cells stay -/
theorem cC_wx (h : cC d S sl t es) (hf : mwx d d1) : cC d1 S sl t es := cC_same h (fun id hi => funext fun i => hf id i (fun q => by omega) (by omega) (fun q => by omega))
theorem cC_ss (h : cC d S sl t es) (hf : mss d d1) : cC d1 S sl t es := cC_same h (fun id hi => funext fun i => hf id i (by omega) (fun q => by omega))
theorem cC_rx (h : cC d S sl t es) (hf : mrx d d1) : cC d1 S sl t es := cC_same h (fun id hi => funext fun i => hf id i (fun q => by omega) (by omega) (by omega) (by omega) (by omega) (fun q => by omega))
theorem o580 (hf : mwx d d1) : d1 580 0 = d 580 0 := hf 580 0 (fun q => absurd q.2.1 (by decide)) (by decide) (fun q => absurd q.1 (by decide))
theorem o580s (hf : mss d d1) : d1 580 0 = d 580 0 := hf 580 0 (by decide) (fun q => absurd q.1 (by decide))
theorem o580r (hf : mrx d d1) : d1 580 0 = d 580 0 := hf 580 0 (fun q => absurd q.2.1 (by decide)) (by decide) (by decide) (by decide) (by decide) (fun q => absurd q.1 (by decide))
/-- both sides, and what holds of the state -/
def LV (d : ax_D) (S : WS) (sl : List Nat) (t : Nat) (es : List Ev) : Prop := cC d S sl t es ∧ MS d S sl t es ∧ WI S ∧ ELg 0 (fun _ => false) false es
theorem cX_up {y : Int32} (h : cX d S sl t es d1) : cX d S sl t es (ax_up d1 580 0 y) := ⟨cC_same h.1 (fun id hi => ax_up_ne (by omega)), fun id a b => (ax_up_ne b).trans (h.2 id a b)⟩
theorem WI_oN {ok : Bool} {k sp lo v : Nat} (hI : WI S) (hk : k = 1 ∨ k = 2 ∨ k = 3 ∨ k = 4) (h : ok = true → sp < tB ∧ lo < tB ∧ v < tB) : WI (oN ok (oW S k sp lo v) S).2 := by
  cases ok with
  | false => exact hI
  | true => exact WI_oW hI hk (h rfl).1 (h rfl).2.1 (h rfl).2.2
theorem wAll_WI : ∀ (es : List Ev) (S S1 : WS), WI S → (∀ e, e ∈ es → EVk e) → wAll S es = some S1 → WI S1
  | [], S, S1, hI, _, h => by obtain rfl := Option.some.inj h; exact hI
  | e :: es, S, S1, hI, hE, h => by
    have h2 : (if (oW S e.1 e.2.1 e.2.2.1 e.2.2.2).1 = 0 then wAll (oW S e.1 e.2.1 e.2.2.1 e.2.2.2).2 es else none) = some S1 := h
    have he := hE e List.mem_cons_self
    by_cases hz : (oW S e.1 e.2.1 e.2.2.1 e.2.2.2).1 = 0
    · rw [if_pos hz] at h2
      exact wAll_WI es _ S1 (WI_oW hI (EVk_k he) he.2.1 he.2.2.1 he.2.2.2) (fun x hx => hE x (List.mem_cons_of_mem _ hx)) h2
    · rw [if_neg hz] at h2
      cases h2
theorem WI_oA (hE : ∀ e, e ∈ es → EVk e) : WI (oA es).2 := by
  unfold oA
  cases h : wAll wS0 es with
  | none => exact WI_0
  | some S1 => exact wAll_WI es wS0 S1 WI_0 hE h
end FR
