/-! THE REFERENCE reads: names, values. -/
def mrf (d d1 : ax_D) : Prop := ∀ id i, ¬ (542 ≤ id ∧ id ≤ 554 ∧ i / msz id = 1) → ¬ (id = 540 ∧ (i = 22 ∨ i = 23)) → d1 id i = d id i
theorem mrf_rf (d : ax_D) : mrf d d := fun _ _ _ _ => rfl
theorem mrf_tr {d d1 d2 : ax_D} (h : mrf d d1) (h2 : mrf d1 d2) : mrf d d2 := fun id i a b => (h2 id i a b).trans (h id i a b)
theorem mrf_tk {d d1 : ax_D} (h : mtk d d1) : mrf d d1 := fun id i _ b => h id i b
theorem mrf_mq {d d1 : ax_D} (h : mq d d1 1) : mrf d d1 := fun id i a _ => h id i a
theorem mrf_id {d d1 : ax_D} {id : Nat} (h : mrf d d1) (h1 : id < 540 ∨ 554 < id) : d1 id = d id := funext fun i => h id i (by omega) (by omega)
theorem ms_rf {d d1 : ax_D} {sl : List Nat} (h : ms_is d sl) (hf : mrf d d1) : ms_is d1 sl := by
  unfold ms_is
  rw [hf 540 21 (by decide) (by decide), mrf_id hf (id := 561) (by decide)]
  exact h
theorem ms_mq {d d1 : ax_D} {c : Nat} {sl : List Nat} (h : ms_is d sl) (hf : mq d d1 c) : ms_is d1 sl := by
  unfold ms_is
  rw [mq_id hf (id := 540) (by decide), mq_id hf (id := 561) (by decide)]
  exact h
theorem mr_mq {d d1 : ax_D} {c t : Nat} {w : Bool} (h : mr d t w) (hf : mq d d1 c) : mr d1 t w := by
  unfold mr
  rw [mq_id hf (id := 540) (by decide)]
  exact h
theorem mg_rf {d d1 : ax_D} {c n : Nat} {nm : Nat → Nat} {fl : Nat → Bool} {b : Bool} (h : mg_is d c n nm fl b) (hf : mrf d d1) : mg_is d1 c n nm fl b := mg_id h (mrf_id hf (by decide)) (mrf_id hf (by decide)) (mrf_id hf (by decide)) (mrf_id hf (by decide))
theorem mr_w {d : ax_D} {t : Nat} {w : Bool} {x : Int32} {w2 : Bool} (h : mr d t w) (hx : x = bB w2) : mr (ax_up d 540 23 x) t w2 := ⟨by rw [up_nk (by decide)]; exact h.1, by rw [up_at]; exact hx⟩
section MC
variable {d d0 : ax_D} {sl : List Nat} {t : Nat} {T : TT}
theorem mtn3 {p lo : Nat} {x1 x3 : Int32} {z5 z6 : Option Value} (hr : mr d t false) (h : mt_is d 1 T) (hB : BI T) (hp : p < (T 0 0).length) (hlo : lo < tB) (hf0 : mrf d0 d) : ax_W 132 183 [some (.ref 540), some (.int x1), some (.int (nI (6 + p))), some (.int x3), some (.int (nI lo)), z5, z6] [] d (ax_Pi fun y d1 => y = oi (rFo T ((T 0 0).getD p 0) lo).1 ∧ mr d1 t (rFo T ((T 0 0).getD p 0) lo).1.isNone ∧ (∀ q, (rFo T ((T 0 0).getD p 0) lo).1 = some q → mt_is d1 1 (rFo T ((T 0 0).getD p 0) lo).2) ∧ mrf d0 d1) := by
  have hL := hB.2.2.2.1
  have l0 := lb0 hL
  have l4 := lb4 hL
  have hsp : (T 0 0).getD p 0 < tB := hB.1 0 0 _ (getD_mem hp)
  refine wx_aldn j132_183 rfl ?_
  refine wx_get (v := .ref 543) j132_184 rfl (Nat.le_of_ble_eq_true rfl) rfl ?_
  refine wx_ildn j132_187 rfl ?_
  refine wx_ialx (6 * 1 + p) j132_188 rfl rfl (by omega) (by decide) ?_
  rw [h.1.2 p hp]
  refine wx_ist (L' := [_, _, _, _, _, some (.int _), _]) j132_189 (Nat.le_of_ble_eq_true rfl) rfl ?_
  refine wx_aldn j132_191 rfl ?_
  refine wx_icst (v := nI 1) j132_192 (by decide) ?_
  refine wx_ild j132_193 rfl ?_
  refine wx_ild j132_195 rfl ?_
  refine wx_i3 j132_197 rfl rfl rfl rfl (Nat.le_of_ble_eq_true rfl) rfl (sm_findName (c := 1) (by decide) h hL hB.1 hB.2.1 hsp hlo) ?_
  rintro _ d9 ⟨rfl, h9⟩
  obtain rfl := h9.symm
  refine wx_ist (L' := [_, _, _, _, _, _, some (.int _)]) j132_200 (Nat.le_of_ble_eq_true rfl) rfl ?_
  refine wx_aldn j132_202 rfl ?_
  refine wx_ild j132_203 rfl ?_
  refine wx_if 223 j132_205 (by decide) (fun c205 => ?_) (fun c205 => ?_)
  · simp only [ax_cn, Classical.not_not] at c205
    obtain ⟨w, hw⟩ := oi_ge c205
    have e : rFo T ((T 0 0).getD p 0) lo = (some w, T) := by unfold rFo; rw [hw]
    rw [e]
    rw [hw]
    refine wx_icst (v := nI 0) j132_223 (by decide) ?_
    refine wx_put j132_224 rfl (Nat.le_of_ble_eq_true rfl) rfl rfl rfl ?_
    refine wx_aldn j132_227 rfl ?_
    refine wx_get (v := .int _) j132_228 rfl (Nat.le_of_ble_eq_true rfl) rfl ?_
    rw [up_at]
    refine wx_if 238 j132_231 (by decide) (fun c231 => ?_) (fun c231 => ?_)
    · simp only [ax_cn, Classical.not_not] at c231
      have h231 := c231
      refine wx_ild j132_238 rfl ?_
      refine wx_if 255 j132_240 (by decide) (fun c240 => ?_) (fun c240 => ?_)
      · simp only [ax_cn, Classical.not_not] at c240
        refine wx_ild j132_255 rfl ?_
        refine wx_ri j132_257 rfl rfl ?_
        exact ⟨rfl, mr_w hr rfl, fun q hq => mt_up h (Or.inl (by decide)), mrf_tr hf0 (mrf_tk (mtk_up (Or.inr rfl)))⟩
      · simp only [ax_cn, Classical.not_not] at c240
        exact absurd (by simp only [oi]; exact nI_pos' (by have := (fn_spec hw).1; omega)) c240
    · simp only [ax_cn, Classical.not_not] at c231
      have h231 := c231
      refine wx_icst (v := (-1)) j132_234 (by decide) ?_
      refine wx_goto 257 j132_235 (by decide) ?_
      refine wx_ri j132_257 rfl rfl ?_
      exact absurd rfl h231
  · simp only [ax_cn, Classical.not_not] at c205
    have hw := oi_lt c205 (fun i hi => by have := (fn_spec hi).1; omega)
    refine wx_aldn j132_208 rfl ?_
    refine wx_get (v := .ref 546) j132_209 rfl (Nat.le_of_ble_eq_true rfl) rfl ?_
    refine wx_icst (v := nI 1) j132_212 (by decide) ?_
    refine wx_ialx (1) j132_213 rfl rfl (by decide) (by decide) ?_
    rw [h.2.2.1.1]
    refine wx_bpsh (v := nI 20) j132_214 (by decide) ?_
    refine wx_cmp 223 j132_216 (by decide) (fun c216 => ?_) (fun c216 => ?_)
    · simp only [ax_cn, Classical.not_not] at c216
      have h20 : ¬ (T 4 0).length = 20 := fun q => c216 (by rw [q])
      have e : rFo T ((T 0 0).getD p 0) lo = (some (T 4 0).length, tnm T ((T 0 0).getD p 0) lo) := by unfold rFo; rw [hw]; simp only; rw [if_pos (by omega)]
      rw [e]
      refine wx_icst (v := nI 0) j132_223 (by decide) ?_
      refine wx_put j132_224 rfl (Nat.le_of_ble_eq_true rfl) rfl rfl rfl ?_
      refine wx_aldn j132_227 rfl ?_
      refine wx_get (v := .int _) j132_228 rfl (Nat.le_of_ble_eq_true rfl) rfl ?_
      rw [up_at]
      refine wx_if 238 j132_231 (by decide) (fun c231 => ?_) (fun c231 => ?_)
      · simp only [ax_cn, Classical.not_not] at c231
        have h231 := c231
        refine wx_ild j132_238 rfl ?_
        refine wx_if 255 j132_240 (by decide) (fun c240 => ?_) (fun c240 => ?_)
        · simp only [ax_cn, Classical.not_not] at c240
          exact absurd c240 (by rw [hw]; decide)
        · simp only [ax_cn, Classical.not_not] at c240
          refine wx_aldn j132_243 rfl ?_
          refine wx_icst (v := nI 1) j132_244 (by decide) ?_
          refine wx_ild j132_245 rfl ?_
          refine wx_ild j132_247 rfl ?_
          refine wx_i3 j132_249 rfl rfl rfl rfl (Nat.le_of_ble_eq_true rfl) rfl (sm_newName (c := 1) (by decide) (mt_up h (Or.inl (by decide))) hL hB.2.1 (by omega) (hB.2.2.1.2 _ (Nat.le_refl _))) ?_
          rintro _ d2 ⟨rfl, t2, f2⟩
          refine wx_goto 257 j132_252 (by decide) ?_
          refine wx_ri j132_257 rfl rfl ?_
          exact ⟨rfl, mr_mq (mr_w hr rfl) f2, fun q hq => t2, mrf_tr hf0 (mrf_tr (mrf_tk (mtk_up (Or.inr rfl))) (mrf_mq f2))⟩
      · simp only [ax_cn, Classical.not_not] at c231
        have h231 := c231
        refine wx_icst (v := (-1)) j132_234 (by decide) ?_
        refine wx_goto 257 j132_235 (by decide) ?_
        refine wx_ri j132_257 rfl rfl ?_
        exact absurd rfl h231
    · simp only [ax_cn, Classical.not_not] at c216
      have h20 : (T 4 0).length = 20 := (nI_eq (by omega) (by decide)).mp c216
      have e : rFo T ((T 0 0).getD p 0) lo = (none, T) := by unfold rFo; rw [hw]; simp only; rw [if_neg (by omega)]
      rw [e]
      refine wx_icst (v := nI 1) j132_219 (by decide) ?_
      refine wx_goto 224 j132_220 (by decide) ?_
      refine wx_put j132_224 rfl (Nat.le_of_ble_eq_true rfl) rfl rfl rfl ?_
      refine wx_aldn j132_227 rfl ?_
      refine wx_get (v := .int _) j132_228 rfl (Nat.le_of_ble_eq_true rfl) rfl ?_
      rw [up_at]
      refine wx_if 238 j132_231 (by decide) (fun c231 => ?_) (fun c231 => ?_)
      · simp only [ax_cn, Classical.not_not] at c231
        have h231 := c231
        exact absurd h231 (by decide)
      · simp only [ax_cn, Classical.not_not] at c231
        have h231 := c231
        refine wx_icst (v := (-1)) j132_234 (by decide) ?_
        refine wx_goto 257 j132_235 (by decide) ?_
        refine wx_ri j132_257 rfl rfl ?_
        exact ⟨rfl, mr_w hr rfl, fun q hq => (by cases hq), mrf_tr hf0 (mrf_tk (mtk_up (Or.inr rfl)))⟩
theorem mtn2 {p : Nat} {z2 z3 z4 z5 z6 : Option Value} (hs : ms_is d sl) (hr : mr d t false) (ht : t ≤ sl.length) (h : mt_is d 1 T) (hB : BI T) (hp : p < (T 0 0).length) (hf0 : mrf d0 d) : ax_W 132 77 [some (.ref 540), some (.int (nI p)), z2, z3, z4, z5, z6] [] d (ax_Pi fun y d1 => y = oi (rNx sl T p t).1 ∧ mr d1 (rNx sl T p t).2.2 (rNx sl T p t).1.isNone ∧ (∀ q, (rNx sl T p t).1 = some q → mt_is d1 1 (rNx sl T p t).2.1) ∧ mrf d0 d1) := by
  have hL := hB.2.2.2.1
  have l0 := lb0 hL
  have l1 := lb1 hL (show p < 6 by omega)
  have tN := rNum_t (sl := sl) (t := t) ht
  have vN : ∀ v, (rNum sl t).1 = some v → v < 4096 := fun v hv => rNum_v hv
  refine wx_bpsh (v := nI 6) j132_77 (by decide) ?_
  refine wx_ildn j132_79 rfl ?_
  refine wx_iadd j132_80 ?_
  rw [nI_add]
  refine wx_istn (L' := [_, _, some (.int _), _, _, _, _]) j132_81 (Nat.le_of_ble_eq_true rfl) rfl ?_
  refine wx_aldn j132_82 rfl ?_
  refine wx_i0 j132_83 rfl  (Nat.le_of_ble_eq_true rfl) rfl (sm_takeNumber hs hr ht) ?_
  rintro y d2 ⟨h1, r2, f2⟩
  cases hN : rNum sl t with
  | mk o t1 =>
  rw [hN] at h1 r2 tN vN
  cases o with
  | none =>
    have eL : rLo sl T p t = (none, T, t1) := by unfold rLo; rw [hN]
    have eN : rNx sl T p t = (none, T, t1) := by unfold rNx; rw [eL]
    rw [eN]
    simp only [Option.isNone_none] at r2
    refine wx_istn (L' := [_, _, _, some (.int _), _, _, _]) j132_86 (Nat.le_of_ble_eq_true rfl) rfl ?_
    refine wx_aldn j132_87 rfl ?_
    refine wx_get (v := .int _) j132_88 rfl (Nat.le_of_ble_eq_true rfl) rfl ?_
    rw [r2.2]
    refine wx_if 96 j132_91 (by decide) (fun c91 => ?_) (fun c91 => ?_)
    · simp only [ax_cn, Classical.not_not] at c91
      exact absurd c91 (by decide)
    · simp only [ax_cn, Classical.not_not] at c91
      refine wx_icst (v := (-1)) j132_94 (by decide) ?_
      refine wx_ri j132_95 rfl rfl ?_
      exact ⟨rfl, r2, fun q hq => (by cases hq), mrf_tr hf0 (mrf_tk f2)⟩
  | some n0 =>
  have hn4 := vN n0 rfl
  obtain rfl := h1 n0 rfl
  simp only [Option.isNone_some] at r2 tN
  match n0, hN, hn4 with
  | 0, hN, _ =>
    refine wx_istn (L' := [_, _, _, some (.int _), _, _, _]) j132_86 (Nat.le_of_ble_eq_true rfl) rfl ?_
    refine wx_aldn j132_87 rfl ?_
    refine wx_get (v := .int _) j132_88 rfl (Nat.le_of_ble_eq_true rfl) rfl ?_
    rw [r2.2]
    refine wx_if 96 j132_91 (by decide) (fun c91 => ?_) (fun c91 => ?_)
    · simp only [ax_cn, Classical.not_not] at c91
      refine wx_ildn j132_96 rfl ?_
      refine wx_if 125 j132_97 (by decide) (fun c97 => ?_) (fun c97 => ?_)
      · simp only [ax_cn, Classical.not_not] at c97
        exact absurd rfl c97
      · simp only [ax_cn, Classical.not_not] at c97
        refine wx_aldn j132_100 rfl ?_
        refine wx_get (v := .ref 545) j132_101 rfl (Nat.le_of_ble_eq_true rfl) rfl ?_
        refine wx_bpsh (v := nI 10) j132_104 (by decide) ?_
        refine wx_ildn j132_106 rfl ?_
        refine wx_imul j132_107 ?_
        rw [pk_mul]
        refine wx_aldn j132_108 rfl ?_
        refine wx_aldn j132_109 rfl ?_
        refine wx_get (v := .ref 544) j132_110 rfl (Nat.le_of_ble_eq_true rfl) rfl ?_
        refine wx_ildn j132_113 rfl ?_
        refine wx_ialx (6 * 1 + p) j132_114 rfl rfl (by omega) (by decide) ?_
        rw [((mt_tk h f2).2.1 p (by omega)).1]
        refine wx_i1 j132_115 rfl rfl (Nat.le_of_ble_eq_true rfl) rfl (sm_takePlace (ms_tk hs f2) r2 tN.2 (by omega)) ?_
        rintro _ d3 ⟨rfl, r3, f3⟩
        have hP : ∀ v, (rP sl (T 1 p).length t1).1 = some v → v < (T 1 p).length := fun v hv => rP_v hv
        cases hPq : rP sl (T 1 p).length t1 with
        | mk o2 t2 =>
        rw [hPq] at r3 hP
        cases o2 with
        | none =>
          have eL : rLo sl T p t = (none, T, t2) := by unfold rLo; rw [hN]; simp only; unfold rFr; rw [hPq]
          have eN : rNx sl T p t = (none, T, t2) := by unfold rNx; rw [eL]
          rw [eN]
          simp only [Option.isNone_none, Option.getD_none] at r3 ⊢
          refine wx_iadd j132_118 ?_
          rw [nI_add]
          refine wx_ialx (10 * (6 + p) + 0) j132_119 rfl rfl (by omega) (by decide) ?_
          refine wx_ist (L' := [_, _, _, _, some (.int _), _, _]) j132_120 (Nat.le_of_ble_eq_true rfl) rfl ?_
          refine wx_goto 174 j132_122 (by decide) ?_
          refine wx_aldn j132_174 rfl ?_
          refine wx_get (v := .int _) j132_175 rfl (Nat.le_of_ble_eq_true rfl) rfl ?_
          rw [r3.2]
          refine wx_if 183 j132_178 (by decide) (fun c178 => ?_) (fun c178 => ?_)
          · simp only [ax_cn, Classical.not_not] at c178
            exact absurd c178 (by decide)
          · simp only [ax_cn, Classical.not_not] at c178
            refine wx_icst (v := (-1)) j132_181 (by decide) ?_
            refine wx_ri j132_182 rfl rfl ?_
            exact ⟨rfl, r3, fun q hq => (by cases hq), mrf_tr hf0 (mrf_tk (mtk_tr f2 f3))⟩
        | some k =>
          have hk := hP k rfl
          have eL : rLo sl T p t = (some ((T 1 p).getD k 0), T, t2) := by unfold rLo; rw [hN]; simp only; unfold rFr; rw [hPq]
          have eN : rNx sl T p t = ((rFo T ((T 0 0).getD p 0) ((T 1 p).getD k 0)).1, (rFo T ((T 0 0).getD p 0) ((T 1 p).getD k 0)).2, t2) := by unfold rNx; rw [eL]
          rw [eN]
          simp only [Option.isNone_some, Option.getD_some] at r3 ⊢
          have t3 := mt_tk (mt_tk h f2) f3
          refine wx_iadd j132_118 ?_
          rw [nI_add]
          refine wx_ialx (10 * (6 * 1 + p) + k) j132_119 rfl rfl (by omega) (by decide) ?_
          rw [(t3.2.1 p (by omega)).2 k hk]
          refine wx_ist (L' := [_, _, _, _, some (.int _), _, _]) j132_120 (Nat.le_of_ble_eq_true rfl) rfl ?_
          refine wx_goto 174 j132_122 (by decide) ?_
          refine wx_aldn j132_174 rfl ?_
          refine wx_get (v := .int _) j132_175 rfl (Nat.le_of_ble_eq_true rfl) rfl ?_
          rw [r3.2]
          refine wx_if 183 j132_178 (by decide) (fun c178 => ?_) (fun c178 => ?_)
          · simp only [ax_cn, Classical.not_not] at c178
            exact mtn3 r3 t3 hB hp (hB.1 1 p _ (getD_mem hk)) (mrf_tr hf0 (mrf_tk (mtk_tr f2 f3)))
          · simp only [ax_cn, Classical.not_not] at c178
            exact absurd rfl c178
        
    · simp only [ax_cn, Classical.not_not] at c91
      exact absurd rfl c91
  | n + 1, hN, hn4 =>
    refine wx_istn (L' := [_, _, _, some (.int _), _, _, _]) j132_86 (Nat.le_of_ble_eq_true rfl) rfl ?_
    refine wx_aldn j132_87 rfl ?_
    refine wx_get (v := .int _) j132_88 rfl (Nat.le_of_ble_eq_true rfl) rfl ?_
    rw [r2.2]
    refine wx_if 96 j132_91 (by decide) (fun c91 => ?_) (fun c91 => ?_)
    · simp only [ax_cn, Classical.not_not] at c91
      refine wx_ildn j132_96 rfl ?_
      refine wx_if 125 j132_97 (by decide) (fun c97 => ?_) (fun c97 => ?_)
      · simp only [ax_cn, Classical.not_not] at c97
        refine wx_aldn j132_125 rfl ?_
        refine wx_ildn j132_126 rfl ?_
        refine wx_i1 j132_127 rfl rfl (Nat.le_of_ble_eq_true rfl) rfl (sm_takeLetters (ms_tk hs f2) r2 tN.2 (by omega)) ?_
        rintro y d3 ⟨h3, r3, f3⟩
        have hLv : ∀ v, (rL sl (n + 1) t1).1 = some v → v < tB := fun v hv => rL_v hv
        cases hLq : rL sl (n + 1) t1 with
        | mk o2 t2 =>
        rw [hLq] at r3 h3 hLv
        have t3 := mt_tk (mt_tk h f2) f3
        cases o2 with
        | none =>
          have eL : rLo sl T p t = (none, T, t2) := by unfold rLo; rw [hN]; simp only; unfold rLx; rw [hLq]
          have eN : rNx sl T p t = (none, T, t2) := by unfold rNx; rw [eL]
          rw [eN]
          simp only [Option.isNone_none] at r3
          refine wx_ist (L' := [_, _, _, _, some (.int _), _, _]) j132_130 (Nat.le_of_ble_eq_true rfl) rfl ?_
          refine wx_aldn j132_132 rfl ?_
          refine wx_aldn j132_133 rfl ?_
          refine wx_get (v := .int _) j132_134 rfl (Nat.le_of_ble_eq_true rfl) rfl ?_
          rw [r3.2]
          refine wx_if 151 j132_137 (by decide) (fun c137 => ?_) (fun c137 => ?_)
          · simp only [ax_cn, Classical.not_not] at c137
            refine wx_icst (v := nI 1) j132_151 (by decide) ?_
            refine wx_goto 156 j132_152 (by decide) ?_
            refine wx_put j132_156 rfl (Nat.le_of_ble_eq_true rfl) rfl rfl rfl ?_
            refine wx_aldn j132_159 rfl ?_
            refine wx_get (v := .int _) j132_160 rfl (Nat.le_of_ble_eq_true rfl) rfl ?_
            rw [up_at]
            refine wx_if 174 j132_163 (by decide) (fun c163 => ?_) (fun c163 => ?_)
            · simp only [ax_cn, Classical.not_not] at c163
              refine wx_aldn j132_174 rfl ?_
              refine wx_get (v := .int _) j132_175 rfl (Nat.le_of_ble_eq_true rfl) rfl ?_
              rw [up_at]
              refine wx_if 183 j132_178 (by decide) (fun c178 => ?_) (fun c178 => ?_)
              · simp only [ax_cn, Classical.not_not] at c178
                exact absurd c178 (by decide)
              · simp only [ax_cn, Classical.not_not] at c178
                refine wx_icst (v := (-1)) j132_181 (by decide) ?_
                refine wx_ri j132_182 rfl rfl ?_
                exact ⟨rfl, mr_w r3 rfl, fun q hq => (by cases hq), mrf_tr hf0 (mrf_tk (mtk_tr (mtk_tr f2 f3) (mtk_up (Or.inr rfl))))⟩
            · simp only [ax_cn, Classical.not_not] at c163
              exact absurd c163 (by decide)
          · simp only [ax_cn, Classical.not_not] at c137
            exact absurd c137 (by decide)
        | some x =>
          have hx := hLv x rfl
          obtain rfl := h3 x rfl
          simp only [Option.isNone_some] at r3
          refine wx_ist (L' := [_, _, _, _, some (.int _), _, _]) j132_130 (Nat.le_of_ble_eq_true rfl) rfl ?_
          refine wx_aldn j132_132 rfl ?_
          refine wx_aldn j132_133 rfl ?_
          refine wx_get (v := .int _) j132_134 rfl (Nat.le_of_ble_eq_true rfl) rfl ?_
          rw [r3.2]
          refine wx_if 151 j132_137 (by decide) (fun c137 => ?_) (fun c137 => ?_)
          · simp only [ax_cn, Classical.not_not] at c137
            exact absurd rfl c137
          · simp only [ax_cn, Classical.not_not] at c137
            refine wx_aldn j132_140 rfl ?_
            refine wx_get (v := .ref 544) j132_141 rfl (Nat.le_of_ble_eq_true rfl) rfl ?_
            refine wx_ildn j132_144 rfl ?_
            refine wx_ialx (6 * 1 + p) j132_145 rfl rfl (by omega) (by decide) ?_
            rw [(t3.2.1 p (by omega)).1]
            refine wx_bpsh (v := nI 10) j132_146 (by decide) ?_
            refine wx_cmp 155 j132_148 (by decide) (fun c148 => ?_) (fun c148 => ?_)
            · simp only [ax_cn, Classical.not_not] at c148
              have h10 : (T 1 p).length < 10 := by
                have : ¬ (T 1 p).length = 10 := fun q => c148 (by rw [q])
                omega
              have eL : rLo sl T p t = (some x, tst T 1 p (T 1 p ++ [x]), t2) := by unfold rLo; rw [hN]; simp only; unfold rLx; rw [hLq]; simp only; rw [if_pos h10]
              have eN : rNx sl T p t = ((rFo (tst T 1 p (T 1 p ++ [x])) ((tst T 1 p (T 1 p ++ [x]) 0 0).getD p 0) x).1, (rFo (tst T 1 p (T 1 p ++ [x])) ((tst T 1 p (T 1 p ++ [x]) 0 0).getD p 0) x).2, t2) := by unfold rNx; rw [eL]
              rw [eN]
              refine wx_icst (v := nI 0) j132_155 (by decide) ?_
              refine wx_put j132_156 rfl (Nat.le_of_ble_eq_true rfl) rfl rfl rfl ?_
              refine wx_aldn j132_159 rfl ?_
              refine wx_get (v := .int _) j132_160 rfl (Nat.le_of_ble_eq_true rfl) rfl ?_
              rw [up_at]
              refine wx_if 174 j132_163 (by decide) (fun c163 => ?_) (fun c163 => ?_)
              · simp only [ax_cn, Classical.not_not] at c163
                have h163 := c163
                exact absurd rfl h163
              · simp only [ax_cn, Classical.not_not] at c163
                have h163 := c163
                refine wx_aldn j132_166 rfl ?_
                refine wx_icst (v := nI 1) j132_167 (by decide) ?_
                refine wx_ildn j132_168 rfl ?_
                refine wx_ild j132_169 rfl ?_
                refine wx_v3 j132_171 rfl rfl rfl rfl (Nat.le_of_ble_eq_true rfl) rfl (sm_addLocal (c := 1) (by decide) (mt_up t3 (Or.inl (by decide))) hL (by omega) h10) ?_
                rintro d4 ⟨t4, f4⟩
                refine wx_aldn j132_174 rfl ?_
                refine wx_get (v := .int _) j132_175 rfl (Nat.le_of_ble_eq_true rfl) rfl ?_
                rw [mq_id f4 (by decide), up_at]
                refine wx_if 183 j132_178 (by decide) (fun c178 => ?_) (fun c178 => ?_)
                · simp only [ax_cn, Classical.not_not] at c178
                  exact mtn3 (mr_mq (mr_w r3 rfl) f4) t4 (BI_lo hB hx hp h10) (by rw [tst_ne (Or.inl (by decide))]; exact hp) hx (mrf_tr hf0 (mrf_tr (mrf_tk (mtk_tr (mtk_tr f2 f3) (mtk_up (Or.inr rfl)))) (mrf_mq f4)))
                · simp only [ax_cn, Classical.not_not] at c178
                  exact absurd rfl c178
            · simp only [ax_cn, Classical.not_not] at c148
              have h10 : (T 1 p).length = 10 := (nI_eq (by omega) (by decide)).mp c148
              have eL : rLo sl T p t = (none, T, t2) := by unfold rLo; rw [hN]; simp only; unfold rLx; rw [hLq]; simp only; rw [if_neg (by omega)]
              have eN : rNx sl T p t = (none, T, t2) := by unfold rNx; rw [eL]
              rw [eN]
              refine wx_icst (v := nI 1) j132_151 (by decide) ?_
              refine wx_goto 156 j132_152 (by decide) ?_
              refine wx_put j132_156 rfl (Nat.le_of_ble_eq_true rfl) rfl rfl rfl ?_
              refine wx_aldn j132_159 rfl ?_
              refine wx_get (v := .int _) j132_160 rfl (Nat.le_of_ble_eq_true rfl) rfl ?_
              rw [up_at]
              refine wx_if 174 j132_163 (by decide) (fun c163 => ?_) (fun c163 => ?_)
              · simp only [ax_cn, Classical.not_not] at c163
                have h163 := c163
                refine wx_aldn j132_174 rfl ?_
                refine wx_get (v := .int _) j132_175 rfl (Nat.le_of_ble_eq_true rfl) rfl ?_
                rw [up_at]
                refine wx_if 183 j132_178 (by decide) (fun c178 => ?_) (fun c178 => ?_)
                · simp only [ax_cn, Classical.not_not] at c178
                  exact absurd c178 (by decide)
                · simp only [ax_cn, Classical.not_not] at c178
                  refine wx_icst (v := (-1)) j132_181 (by decide) ?_
                  refine wx_ri j132_182 rfl rfl ?_
                  exact ⟨rfl, mr_w r3 rfl, fun q hq => (by cases hq), mrf_tr hf0 (mrf_tk (mtk_tr (mtk_tr f2 f3) (mtk_up (Or.inr rfl))))⟩
              · simp only [ax_cn, Classical.not_not] at c163
                have h163 := c163
                exact absurd h163 (by decide)
        
      · simp only [ax_cn, Classical.not_not] at c97
        exact absurd c97 (nI_ne0 (by omega) (by omega))
    · simp only [ax_cn, Classical.not_not] at c91
      exact absurd rfl c91
theorem sm_takeName (hs : ms_is d sl) (hr : mr d t false) (ht : t ≤ sl.length) (h : mt_is d 1 T) (hB : BI T) : ax_E 132 [.ref 540] d (ax_Pi fun y d1 => y = oi (rNa sl T t).1 ∧ mr d1 (rNa sl T t).2.2 (rNa sl T t).1.isNone ∧ (∀ q, (rNa sl T t).1 = some q → mt_is d1 1 (rNa sl T t).2.1) ∧ mrf d d1) := by
  show ax_W 132 0 [some (.ref 540), none, none, none, none, none, none] [] d _
  have hL := hB.2.2.2.1
  have l0 := lb0 hL
  have tP := rP_t (sl := sl) (m := (T 0 0).length + 1) (t := t) ht
  have vP : ∀ v, (rP sl ((T 0 0).length + 1) t).1 = some v → v < (T 0 0).length + 1 := fun v hv => rP_v hv
  refine wx_aldn j132_0 rfl ?_
  refine wx_aldn j132_1 rfl ?_
  refine wx_get (v := .ref 542) j132_2 rfl (Nat.le_of_ble_eq_true rfl) rfl ?_
  refine wx_icst (v := nI 1) j132_5 (by decide) ?_
  refine wx_ialx (1) j132_6 rfl rfl (by decide) (by decide) ?_
  rw [h.1.1]
  refine wx_icst (v := nI 1) j132_7 (by decide) ?_
  refine wx_iadd j132_8 ?_
  rw [nI_add]
  refine wx_i1 j132_9 rfl rfl (Nat.le_of_ble_eq_true rfl) rfl (sm_takePlace hs hr ht (by omega)) ?_
  rintro _ d2 ⟨rfl, r2, f2⟩
  cases hP : rP sl ((T 0 0).length + 1) t with
  | mk o t1 =>
  rw [hP] at r2 tP vP
  cases o with
  | none =>
    have eS : rSp sl T t = (none, T, t1) := by unfold rSp; rw [hP]
    have eN : rNa sl T t = (none, T, t1) := by unfold rNa; rw [eS]
    rw [eN]
    simp only [Option.isNone_none, Option.getD_none] at r2 ⊢
    refine wx_icst (v := nI 1) j132_12 (by decide) ?_
    refine wx_isub j132_13 ?_
    rw [show nI 0 - nI 1 = -1 by decide]
    refine wx_istn (L' := [_, some (.int _), _, _, _, _, _]) j132_14 (Nat.le_of_ble_eq_true rfl) rfl ?_
    refine wx_ildn j132_15 rfl ?_
    refine wx_if 77 j132_16 (by decide) (fun c16 => ?_) (fun c16 => ?_)
    · simp only [ax_cn, Classical.not_not] at c16
      exact absurd c16 (by decide)
    · simp only [ax_cn, Classical.not_not] at c16
      refine wx_aldn j132_19 rfl ?_
      refine wx_aldn j132_20 rfl ?_
      refine wx_i0 j132_21 rfl  (Nat.le_of_ble_eq_true rfl) rfl (sm_takeNumberB r2) ?_
      rintro y d3 h9
      obtain rfl := h9.symm
      refine wx_i1 j132_24 rfl rfl (Nat.le_of_ble_eq_true rfl) rfl (sm_takeLettersB r2) ?_
      rintro y4 d4 ⟨r4, f4b⟩
      have f4 := mtk_tr f2 f4b
      refine wx_istn (L' := [_, _, some (.int _), _, _, _, _]) j132_27 (Nat.le_of_ble_eq_true rfl) rfl ?_
      refine wx_aldn j132_28 rfl ?_
      refine wx_aldn j132_29 rfl ?_
      refine wx_get (v := .int _) j132_30 rfl (Nat.le_of_ble_eq_true rfl) rfl ?_
      rw [r4.2]
      refine wx_if 47 j132_33 (by decide) (fun c33 => ?_) (fun c33 => ?_)
      · simp only [ax_cn, Classical.not_not] at c33
        refine wx_icst (v := nI 1) j132_47 (by decide) ?_
        refine wx_goto 52 j132_48 (by decide) ?_
        refine wx_put j132_52 rfl (Nat.le_of_ble_eq_true rfl) rfl rfl rfl ?_
        refine wx_aldn j132_55 rfl ?_
        refine wx_get (v := .int _) j132_56 rfl (Nat.le_of_ble_eq_true rfl) rfl ?_
        rw [up_at]
        refine wx_if 64 j132_59 (by decide) (fun c59 => ?_) (fun c59 => ?_)
        · simp only [ax_cn, Classical.not_not] at c59
          exact absurd c59 (by decide)
        · simp only [ax_cn, Classical.not_not] at c59
          refine wx_icst (v := (-1)) j132_62 (by decide) ?_
          refine wx_ri j132_63 rfl rfl ?_
          exact ⟨rfl, mr_w r4 rfl, fun q hq => (by cases hq), mrf_tk (mtk_tr f4 (mtk_up (Or.inr rfl)))⟩
      · simp only [ax_cn, Classical.not_not] at c33
        exact absurd c33 (by decide)
  | some p0 =>
  have hp0 := vP p0 rfl
  simp only [Option.isNone_some, Option.getD_some] at r2 tP ⊢
  match p0, hP, hp0 with
  | 0, hP, _ =>
    refine wx_icst (v := nI 1) j132_12 (by decide) ?_
    refine wx_isub j132_13 ?_
    rw [show nI 0 - nI 1 = -1 by decide]
    refine wx_istn (L' := [_, some (.int _), _, _, _, _, _]) j132_14 (Nat.le_of_ble_eq_true rfl) rfl ?_
    refine wx_ildn j132_15 rfl ?_
    refine wx_if 77 j132_16 (by decide) (fun c16 => ?_) (fun c16 => ?_)
    · simp only [ax_cn, Classical.not_not] at c16
      exact absurd c16 (by decide)
    · simp only [ax_cn, Classical.not_not] at c16
      refine wx_aldn j132_19 rfl ?_
      refine wx_aldn j132_20 rfl ?_
      refine wx_i0 j132_21 rfl  (Nat.le_of_ble_eq_true rfl) rfl (sm_takeNumber (ms_tk hs f2) r2 tP.2) ?_
      rintro y d3 ⟨h3, r3, f3⟩
      have tN := rNum_t (sl := sl) (t := t1) tP.2
      have vN : ∀ v, (rNum sl t1).1 = some v → v < 4096 := fun v hv => rNum_v hv
      cases hN : rNum sl t1 with
      | mk o2 t2 =>
      rw [hN] at h3 r3 tN vN
      cases o2 with
      | none =>
        have eS : rSp sl T t = (none, T, t2) := by unfold rSp; rw [hP]; simp only; unfold rSn; rw [hN]
        have eN : rNa sl T t = (none, T, t2) := by unfold rNa; rw [eS]
        rw [eN]
        simp only [Option.isNone_none] at r3
        refine wx_i1 j132_24 rfl rfl (Nat.le_of_ble_eq_true rfl) rfl (sm_takeLettersB r3) ?_
        rintro y4 d4 ⟨r4, f4b⟩
        have f4 := mtk_tr (mtk_tr f2 f3) f4b
        refine wx_istn (L' := [_, _, some (.int _), _, _, _, _]) j132_27 (Nat.le_of_ble_eq_true rfl) rfl ?_
        refine wx_aldn j132_28 rfl ?_
        refine wx_aldn j132_29 rfl ?_
        refine wx_get (v := .int _) j132_30 rfl (Nat.le_of_ble_eq_true rfl) rfl ?_
        rw [r4.2]
        refine wx_if 47 j132_33 (by decide) (fun c33 => ?_) (fun c33 => ?_)
        · simp only [ax_cn, Classical.not_not] at c33
          refine wx_icst (v := nI 1) j132_47 (by decide) ?_
          refine wx_goto 52 j132_48 (by decide) ?_
          refine wx_put j132_52 rfl (Nat.le_of_ble_eq_true rfl) rfl rfl rfl ?_
          refine wx_aldn j132_55 rfl ?_
          refine wx_get (v := .int _) j132_56 rfl (Nat.le_of_ble_eq_true rfl) rfl ?_
          rw [up_at]
          refine wx_if 64 j132_59 (by decide) (fun c59 => ?_) (fun c59 => ?_)
          · simp only [ax_cn, Classical.not_not] at c59
            exact absurd c59 (by decide)
          · simp only [ax_cn, Classical.not_not] at c59
            refine wx_icst (v := (-1)) j132_62 (by decide) ?_
            refine wx_ri j132_63 rfl rfl ?_
            exact ⟨rfl, mr_w r4 rfl, fun q hq => (by cases hq), mrf_tk (mtk_tr f4 (mtk_up (Or.inr rfl)))⟩
        · simp only [ax_cn, Classical.not_not] at c33
          exact absurd c33 (by decide)
      | some n =>
      have hn4 := vN n rfl
      obtain rfl := h3 n rfl
      simp only [Option.isNone_some] at r3 tN
      refine wx_i1 j132_24 rfl rfl (Nat.le_of_ble_eq_true rfl) rfl (sm_takeLetters (ms_tk hs (mtk_tr f2 f3)) r3 tN.2 (by omega)) ?_
      rintro y d4 ⟨h4, r4, f4b⟩
      have f4 := mtk_tr (mtk_tr f2 f3) f4b
      have tL := rL_t (sl := sl) (n := n) (t := t2) tN.2
      have vL : ∀ v, (rL sl n t2).1 = some v → v < tB := fun v hv => rL_v hv
      cases hLq : rL sl n t2 with
      | mk o3 t3 =>
      rw [hLq] at h4 r4 tL vL
      cases o3 with
      | none =>
        have eS : rSp sl T t = (none, T, t3) := by unfold rSp; rw [hP]; simp only; unfold rSn; rw [hN]; simp only; rw [hLq]
        have eN : rNa sl T t = (none, T, t3) := by unfold rNa; rw [eS]
        rw [eN]
        simp only [Option.isNone_none] at r4
        refine wx_istn (L' := [_, _, some (.int _), _, _, _, _]) j132_27 (Nat.le_of_ble_eq_true rfl) rfl ?_
        refine wx_aldn j132_28 rfl ?_
        refine wx_aldn j132_29 rfl ?_
        refine wx_get (v := .int _) j132_30 rfl (Nat.le_of_ble_eq_true rfl) rfl ?_
        rw [r4.2]
        refine wx_if 47 j132_33 (by decide) (fun c33 => ?_) (fun c33 => ?_)
        · simp only [ax_cn, Classical.not_not] at c33
          refine wx_icst (v := nI 1) j132_47 (by decide) ?_
          refine wx_goto 52 j132_48 (by decide) ?_
          refine wx_put j132_52 rfl (Nat.le_of_ble_eq_true rfl) rfl rfl rfl ?_
          refine wx_aldn j132_55 rfl ?_
          refine wx_get (v := .int _) j132_56 rfl (Nat.le_of_ble_eq_true rfl) rfl ?_
          rw [up_at]
          refine wx_if 64 j132_59 (by decide) (fun c59 => ?_) (fun c59 => ?_)
          · simp only [ax_cn, Classical.not_not] at c59
            exact absurd c59 (by decide)
          · simp only [ax_cn, Classical.not_not] at c59
            refine wx_icst (v := (-1)) j132_62 (by decide) ?_
            refine wx_ri j132_63 rfl rfl ?_
            exact ⟨rfl, mr_w r4 rfl, fun q hq => (by cases hq), mrf_tk (mtk_tr f4 (mtk_up (Or.inr rfl)))⟩
        · simp only [ax_cn, Classical.not_not] at c33
          exact absurd c33 (by decide)
      | some x =>
        have hx := vL x rfl
        obtain rfl := h4 x rfl
        simp only [Option.isNone_some] at r4
        have tt4 := mt_tk h f4
        refine wx_istn (L' := [_, _, some (.int _), _, _, _, _]) j132_27 (Nat.le_of_ble_eq_true rfl) rfl ?_
        refine wx_aldn j132_28 rfl ?_
        refine wx_aldn j132_29 rfl ?_
        refine wx_get (v := .int _) j132_30 rfl (Nat.le_of_ble_eq_true rfl) rfl ?_
        rw [r4.2]
        refine wx_if 47 j132_33 (by decide) (fun c33 => ?_) (fun c33 => ?_)
        · simp only [ax_cn, Classical.not_not] at c33
          exact absurd rfl c33
        · simp only [ax_cn, Classical.not_not] at c33
          refine wx_aldn j132_36 rfl ?_
          refine wx_get (v := .ref 542) j132_37 rfl (Nat.le_of_ble_eq_true rfl) rfl ?_
          refine wx_icst (v := nI 1) j132_40 (by decide) ?_
          refine wx_ialx (1) j132_41 rfl rfl (by decide) (by decide) ?_
          rw [tt4.1.1]
          refine wx_bpsh (v := nI 6) j132_42 (by decide) ?_
          refine wx_cmp 51 j132_44 (by decide) (fun c44 => ?_) (fun c44 => ?_)
          · simp only [ax_cn, Classical.not_not] at c44
            have h6 : (T 0 0).length < 6 := by
              have : ¬ (T 0 0).length = 6 := fun q => c44 (by rw [q])
              omega
            have eS : rSp sl T t = (some (T 0 0).length, tst T 0 0 (T 0 0 ++ [x]), t3) := by unfold rSp; rw [hP]; simp only; unfold rSn; rw [hN]; simp only; rw [hLq]; simp only; rw [if_pos h6]
            have eN : rNa sl T t = rNx sl (tst T 0 0 (T 0 0 ++ [x])) (T 0 0).length t3 := by unfold rNa; rw [eS]
            rw [eN]
            refine wx_icst (v := nI 0) j132_51 (by decide) ?_
            refine wx_put j132_52 rfl (Nat.le_of_ble_eq_true rfl) rfl rfl rfl ?_
            refine wx_aldn j132_55 rfl ?_
            refine wx_get (v := .int _) j132_56 rfl (Nat.le_of_ble_eq_true rfl) rfl ?_
            rw [up_at]
            refine wx_if 64 j132_59 (by decide) (fun c59 => ?_) (fun c59 => ?_)
            · simp only [ax_cn, Classical.not_not] at c59
              have h59 := c59
              refine wx_aldn j132_64 rfl ?_
              refine wx_get (v := .ref 542) j132_65 rfl (Nat.le_of_ble_eq_true rfl) rfl ?_
              refine wx_icst (v := nI 1) j132_68 (by decide) ?_
              refine wx_ialx (1) j132_69 rfl rfl (by decide) (by decide) ?_
              rw [up_ni (by decide), tt4.1.1]
              refine wx_istn (L' := [_, some (.int _), _, _, _, _, _]) j132_70 (Nat.le_of_ble_eq_true rfl) rfl ?_
              refine wx_aldn j132_71 rfl ?_
              refine wx_icst (v := nI 1) j132_72 (by decide) ?_
              refine wx_ildn j132_73 rfl ?_
              refine wx_v2 j132_74 rfl rfl rfl (Nat.le_of_ble_eq_true rfl) rfl (sm_addSpace (c := 1) (by decide) (mt_up tt4 (Or.inl (by decide))) hL h6 (hB.2.2.1.1 _ (Nat.le_refl _))) ?_
              rintro d5 ⟨t5, f5⟩
              exact mtn2 (ms_mq (ms_tk hs (mtk_tr f4 (mtk_up (Or.inr rfl)))) f5) (mr_mq (mr_w r4 rfl) f5) tL.2 t5 (BI_sp hB hx h6) (by rw [tst_at, List.length_append]; exact Nat.lt_succ_self _) (mrf_tr (mrf_tk (mtk_tr f4 (mtk_up (Or.inr rfl)))) (mrf_mq f5))
            · simp only [ax_cn, Classical.not_not] at c59
              have h59 := c59
              refine wx_icst (v := (-1)) j132_62 (by decide) ?_
              refine wx_ri j132_63 rfl rfl ?_
              exact absurd rfl h59
          · simp only [ax_cn, Classical.not_not] at c44
            have h6 : (T 0 0).length = 6 := (nI_eq (by omega) (by decide)).mp c44
            have eS : rSp sl T t = (none, T, t3) := by unfold rSp; rw [hP]; simp only; unfold rSn; rw [hN]; simp only; rw [hLq]; simp only; rw [if_neg (by omega)]
            have eN : rNa sl T t = (none, T, t3) := by unfold rNa; rw [eS]
            rw [eN]
            refine wx_icst (v := nI 1) j132_47 (by decide) ?_
            refine wx_goto 52 j132_48 (by decide) ?_
            refine wx_put j132_52 rfl (Nat.le_of_ble_eq_true rfl) rfl rfl rfl ?_
            refine wx_aldn j132_55 rfl ?_
            refine wx_get (v := .int _) j132_56 rfl (Nat.le_of_ble_eq_true rfl) rfl ?_
            rw [up_at]
            refine wx_if 64 j132_59 (by decide) (fun c59 => ?_) (fun c59 => ?_)
            · simp only [ax_cn, Classical.not_not] at c59
              have h59 := c59
              exact absurd h59 (by decide)
            · simp only [ax_cn, Classical.not_not] at c59
              have h59 := c59
              refine wx_icst (v := (-1)) j132_62 (by decide) ?_
              refine wx_ri j132_63 rfl rfl ?_
              exact ⟨rfl, mr_w r4 rfl, fun q hq => (by cases hq), mrf_tk (mtk_tr f4 (mtk_up (Or.inr rfl)))⟩
  | p + 1, hP, hp0 =>
    have eS : rSp sl T t = (some p, T, t1) := by unfold rSp; rw [hP]
    have eN : rNa sl T t = rNx sl T p t1 := by unfold rNa; rw [eS]
    rw [eN]
    refine wx_icst (v := nI 1) j132_12 (by decide) ?_
    refine wx_isub j132_13 ?_
    rw [nI_s1]
    refine wx_istn (L' := [_, some (.int _), _, _, _, _, _]) j132_14 (Nat.le_of_ble_eq_true rfl) rfl ?_
    refine wx_ildn j132_15 rfl ?_
    refine wx_if 77 j132_16 (by decide) (fun c16 => ?_) (fun c16 => ?_)
    · simp only [ax_cn, Classical.not_not] at c16
      exact mtn2 (ms_tk hs f2) r2 tP.2 (mt_tk h f2) hB (by omega) (mrf_tk f2)
    · simp only [ax_cn, Classical.not_not] at c16
      exact absurd (nI_pos' (by omega)) c16
end MC
