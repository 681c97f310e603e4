/-! THE LAW'S STEPS: one for each kind of call. -/
theorem zlw_open : zLw RL 61 zw_open hh_open 3 := by
  refine ⟨fun w hw => ?_, by decide +kernel, by decide +kernel, by decide +kernel, by decide +kernel, by decide, by decide⟩
  unfold va_wsS at hw
  rcases List.mem_append.mp hw with h | h
  · simp only [List.mem_cons, List.not_mem_nil, or_false] at h
    rcases h with h | h | h <;> rw [h]
    · exact zmw_open
    · exact zst_open
    · exact zin_L
  · rcases List.mem_cons.mp h with h | h
    · rw [h]; exact zcw_open
    · exact h
theorem zlw_attribute : zLw RL 70 zw_attribute hh_attribute 4 := by
  refine ⟨fun w hw => ?_, by decide +kernel, by decide +kernel, by decide +kernel, by decide +kernel, by decide, by decide⟩
  unfold va_wsS at hw
  rcases List.mem_append.mp hw with h | h
  · simp only [List.mem_cons, List.not_mem_nil, or_false] at h
    rcases h with h | h | h <;> rw [h]
    · exact zmw_attribute
    · exact zst_attribute
    · exact zin_L
  · rcases List.mem_cons.mp h with h | h
    · rw [h]; exact zcw_attribute
    · exact h
theorem zlw_text : zLw RL 74 zw_text hh_text 2 := by
  refine ⟨fun w hw => ?_, by decide +kernel, by decide +kernel, by decide +kernel, by decide +kernel, by decide, by decide⟩
  unfold va_wsS at hw
  rcases List.mem_append.mp hw with h | h
  · simp only [List.mem_cons, List.not_mem_nil, or_false] at h
    rcases h with h | h | h <;> rw [h]
    · exact zmw_text
    · exact zst_text
    · exact zin_L
  · rcases List.mem_cons.mp h with h | h
    · rw [h]; exact zcw_text
    · exact h
theorem zlw_close : zLw RL 78 zw_close hh_close 2 := by
  refine ⟨fun w hw => ?_, by decide +kernel, by decide +kernel, by decide +kernel, by decide +kernel, by decide, by decide⟩
  unfold va_wsS at hw
  rcases List.mem_append.mp hw with h | h
  · simp only [List.mem_cons, List.not_mem_nil, or_false] at h
    rcases h with h | h | h <;> rw [h]
    · exact zmw_close
    · exact zst_close
    · exact zin_L
  · rcases List.mem_cons.mp h with h | h
    · rw [h]; exact zcw_close
    · exact h
theorem zlw_push : zLw RL 94 zw_push hh_push 3 := by
  refine ⟨fun w hw => ?_, by decide +kernel, by decide +kernel, by decide +kernel, by decide +kernel, by decide, by decide⟩
  unfold va_wsS at hw
  rcases List.mem_append.mp hw with h | h
  · simp only [List.mem_cons, List.not_mem_nil, or_false] at h
    rcases h with h | h | h <;> rw [h]
    · exact zmw_push
    · exact zst_push
    · exact zin_L
  · rcases List.mem_cons.mp h with h | h
    · rw [h]; exact zcw_push
    · exact h
theorem zlw_bit : zLw RL 98 zw_bit hh_bit 3 := by
  refine ⟨fun w hw => ?_, by decide +kernel, by decide +kernel, by decide +kernel, by decide +kernel, by decide, by decide⟩
  unfold va_wsS at hw
  rcases List.mem_append.mp hw with h | h
  · simp only [List.mem_cons, List.not_mem_nil, or_false] at h
    rcases h with h | h | h <;> rw [h]
    · exact zmw_bit
    · exact zst_bit
    · exact zin_L
  · rcases List.mem_cons.mp h with h | h
    · rw [h]; exact zcw_bit
    · exact h
theorem zlw_flip : zLw RL 102 zw_flip hh_flip 2 := by
  refine ⟨fun w hw => ?_, by decide +kernel, by decide +kernel, by decide +kernel, by decide +kernel, by decide, by decide⟩
  unfold va_wsS at hw
  rcases List.mem_append.mp hw with h | h
  · simp only [List.mem_cons, List.not_mem_nil, or_false] at h
    rcases h with h | h | h <;> rw [h]
    · exact zmw_flip
    · exact zst_flip
    · exact zin_L
  · rcases List.mem_cons.mp h with h | h
    · rw [h]; exact zcw_flip
    · exact h
theorem zlw_cut : zLw RL 105 zw_cut hh_cut 2 := by
  refine ⟨fun w hw => ?_, by decide +kernel, by decide +kernel, by decide +kernel, by decide +kernel, by decide, by decide⟩
  unfold va_wsS at hw
  rcases List.mem_append.mp hw with h | h
  · simp only [List.mem_cons, List.not_mem_nil, or_false] at h
    rcases h with h | h | h <;> rw [h]
    · exact zmw_cut
    · exact zst_cut
    · exact zin_L
  · rcases List.mem_cons.mp h with h | h
    · rw [h]; exact zcw_cut
    · exact h
theorem zlw_read : zLw RL 108 zw_read hh_read 2 := by
  refine ⟨fun w hw => ?_, by decide +kernel, by decide +kernel, by decide +kernel, by decide +kernel, by decide, by decide⟩
  unfold va_wsS at hw
  rcases List.mem_append.mp hw with h | h
  · simp only [List.mem_cons, List.not_mem_nil, or_false] at h
    rcases h with h | h | h <;> rw [h]
    · exact zmw_read
    · exact zst_read
    · exact zin_L
  · rcases List.mem_cons.mp h with h | h
    · rw [h]; exact zcw_read
    · exact h
theorem zlw_event : zLw RL 115 zw_event hh_event 4 := by
  refine ⟨fun w hw => ?_, by decide +kernel, by decide +kernel, by decide +kernel, by decide +kernel, by decide, by decide⟩
  unfold va_wsS at hw
  rcases List.mem_append.mp hw with h | h
  · simp only [List.mem_cons, List.not_mem_nil, or_false] at h
    rcases h with h | h | h <;> rw [h]
    · exact zmw_event
    · exact zst_event
    · exact zin_L
  · rcases List.mem_cons.mp h with h | h
    · rw [h]; exact zcw_event
    · exact h
theorem zlw_again : zLw RL 119 zw_again hh_again 2 := by
  refine ⟨fun w hw => ?_, by decide +kernel, by decide +kernel, by decide +kernel, by decide +kernel, by decide, by decide⟩
  unfold va_wsS at hw
  rcases List.mem_append.mp hw with h | h
  · simp only [List.mem_cons, List.not_mem_nil, or_false] at h
    rcases h with h | h | h <;> rw [h]
    · exact zmw_again
    · exact zst_again
    · exact zin_L
  · rcases List.mem_cons.mp h with h | h
    · rw [h]; exact zcw_again
    · exact h
theorem and_l {a b : Bool} (h : (a && b) = true) : a = true ∧ b = true := by rw [Bool.and_eq_true] at h; exact h
section ST
variable {p : Program} {l : Launch} {e : Env} {s : State} {m : MethodId} {b : Nat} {below : List Frame} {meth : Method} {c : Code} {D : va_G} {ad : Nat → Nat} {ca : Nat → ClassId} {Ln : Nat} {xs : Nat → Int32} {cells slots i : Nat} {d : ax_D} {S : WS} {sl : List Nat} {t : Nat} {es : List Ev} {z5 z6 : Option Value}
theorem LC_K {p : Program} {l : Launch} {e : Env} {s : State} {m : MethodId} {b : Nat} {below : List Frame} {meth : Method} {c : Code} {D : va_G} {ad : Nat → Nat} {ca : Nat → ClassId} {Ln : Nat} {xs : Nat → Int32} {cells slots : Nat} (hC : LC p l e s m b below meth c D ad ca Ln xs) (h1 : cells ≤ 601024) (h2 : slots ≤ 7293034) : zK (zlg p l e s m b below meth c D ad ca) cells slots := ⟨hC.1, Nat.le_of_ble_eq_true rfl, Nat.le_of_ble_eq_true rfl, h1, h2⟩
/-- how the law goes on behind a call -/
def KK (g : zG) (cells slots i : Nat) : Prop := ∀ (z5 z6 : Option Value) (d1 : ax_D) (S1 : WS) (sl1 : List Nat) (t1 : Nat) (es1 : List Ev), LV d1 S1 sl1 t1 es1 → zx g (cells + 1) (slots + 6) 706 [some (.ref 600), some (.ref 512), some (.ref 540), some (.ref 580), some (.int (nI i)), z5, z6] [] d1
theorem ls_open (hC : LC p l e s m b below meth c D ad ca Ln xs) (hl : l.stackTraces = false) (h : LV d S sl t es) (hi : i + 4 ≤ Ln) (hcs : cells + 1 ≤ 601024) (hss : slots + 6 ≤ 7293034) (kk : KK (zlg p l e s m b below meth c D ad ca) cells slots i) : zx (zlg p l e s m b below meth c D ad ca) cells slots 112 [some (.ref 600), some (.ref 512), some (.ref 540), some (.ref 580), some (.int (nI i)), z5, z6] [] d := by
  have h2k := hC.2.2.2.2.2.2.2
  refine zx_aldn hC.1 dL_law_112 rfl ?_
  refine zx_aldn hC.1 dL_law_113 rfl ?_
  refine zx_ild hC.1 dL_law_114 rfl ?_
  refine zx_icst (v := nI 1) hC.1 dL_law_116 (by decide) ?_
  refine zx_iadd hC.1 dL_law_117 ?_
  rw [nI_add]
  refine zx_sld (i + 1) hC dL_law_118 rfl (by omega) ?_
  refine zx_aldn hC.1 dL_law_119 rfl ?_
  refine zx_ild hC.1 dL_law_120 rfl ?_
  refine zx_icst (v := nI 2) hC.1 dL_law_122 (by decide) ?_
  refine zx_iadd hC.1 dL_law_123 ?_
  rw [nI_add]
  refine zx_sld (i + 2) hC dL_law_124 rfl (by omega) ?_
  refine zx_ws (as := [.ref 512, .int (xs (i + 1)), .int (xs (i + 2))]) (rest := []) (q := zw_open) (hh := hh_open) hC.1 ⟨Nat.le_of_ble_eq_true rfl, Nat.le_of_ble_eq_true rfl, hcs, hss⟩ rfl hC.2.1 hC.2.2.1 dL_law_125 zlw_open (List.forall_mem_cons.mpr ⟨rfl, List.forall_mem_cons.mpr ⟨rfl, List.forall_mem_cons.mpr ⟨rfl, fun _ h => absurd h List.not_mem_nil⟩⟩⟩) (Nat.le_of_ble_eq_true rfl) (zl_open (zt_open hl h.1 h.2.2.1)) ?_
  rintro _ d1 ⟨_, rfl, rfl, hc1, hg1⟩
  have hm1 := MS_cG h.2.1 hg1
  refine zx_ist (L' := [_, _, _, _, _, some (.int _), _]) hC.1 dL_law_128 (Nat.le_of_ble_eq_true rfl) rfl ?_
  refine zx_aldn hC.1 dL_law_130 rfl ?_
  refine zx_aldn hC.1 dL_law_131 rfl ?_
  refine zx_ild hC.1 dL_law_132 rfl ?_
  refine zx_icst (v := nI 1) hC.1 dL_law_134 (by decide) ?_
  refine zx_iadd hC.1 dL_law_135 ?_
  rw [nI_add]
  refine zx_sld (i + 1) hC dL_law_136 rfl (by omega) ?_
  refine zx_aldn hC.1 dL_law_137 rfl ?_
  refine zx_ild hC.1 dL_law_138 rfl ?_
  refine zx_icst (v := nI 2) hC.1 dL_law_140 (by decide) ?_
  refine zx_iadd hC.1 dL_law_141 ?_
  rw [nI_add]
  refine zx_sld (i + 2) hC dL_law_142 rfl (by omega) ?_
  refine zx_v2 (LC_K hC (by omega) (by omega)) dL_law_143 (zLL_66 rfl) rfl rfl rfl (Nat.le_of_ble_eq_true rfl) rfl (sm_open hm1.1 h.2.2.1) ?_
  rintro d2 ⟨a1, a2, a3, a4⟩
  refine zx_aldn hC.1 dL_law_146 rfl ?_
  refine zx_i0 (LC_K hC (by omega) (by omega)) dL_law_147 (zLL_67 rfl) rfl  (Nat.le_of_ble_eq_true rfl) rfl (sm_thrown) ?_
  rintro _ d9 ⟨rfl, h9⟩
  obtain rfl := h9.symm
  refine zx_ild hC.1 dL_law_150 rfl ?_
  refine zx_cmp 157 hC.1 dL_law_152 (by decide) (fun c152 => ?_) (fun c152 => ?_)
  · simp only [ax_cn, Classical.not_not] at c152
    refine zx_goto 706 hC.1 dL_law_157 (by decide) ?_
    exact kk _ _ _ _ _ _ _ ⟨cC_wx hc1 a4, MS_wx hm1 a2 a3 a4, WI_oN h.2.2.1 (Or.inl rfl) (fun q => ⟨(tx_n (okN_l q).1).2, (tx_n (okN_l q).2).2, by decide⟩), h.2.2.2⟩
  · simp only [ax_cn, Classical.not_not] at c152
    exact absurd a1 c152
theorem ls_attribute (hC : LC p l e s m b below meth c D ad ca Ln xs) (hl : l.stackTraces = false) (h : LV d S sl t es) (hi : i + 4 ≤ Ln) (hcs : cells + 1 ≤ 601024) (hss : slots + 6 ≤ 7293034) (kk : KK (zlg p l e s m b below meth c D ad ca) cells slots i) : zx (zlg p l e s m b below meth c D ad ca) cells slots 160 [some (.ref 600), some (.ref 512), some (.ref 540), some (.ref 580), some (.int (nI i)), z5, z6] [] d := by
  have h2k := hC.2.2.2.2.2.2.2
  refine zx_aldn hC.1 dL_law_160 rfl ?_
  refine zx_aldn hC.1 dL_law_161 rfl ?_
  refine zx_ild hC.1 dL_law_162 rfl ?_
  refine zx_icst (v := nI 1) hC.1 dL_law_164 (by decide) ?_
  refine zx_iadd hC.1 dL_law_165 ?_
  rw [nI_add]
  refine zx_sld (i + 1) hC dL_law_166 rfl (by omega) ?_
  refine zx_aldn hC.1 dL_law_167 rfl ?_
  refine zx_ild hC.1 dL_law_168 rfl ?_
  refine zx_icst (v := nI 2) hC.1 dL_law_170 (by decide) ?_
  refine zx_iadd hC.1 dL_law_171 ?_
  rw [nI_add]
  refine zx_sld (i + 2) hC dL_law_172 rfl (by omega) ?_
  refine zx_aldn hC.1 dL_law_173 rfl ?_
  refine zx_ild hC.1 dL_law_174 rfl ?_
  refine zx_icst (v := nI 3) hC.1 dL_law_176 (by decide) ?_
  refine zx_iadd hC.1 dL_law_177 ?_
  rw [nI_add]
  refine zx_sld (i + 3) hC dL_law_178 rfl (by omega) ?_
  refine zx_ws (as := [.ref 512, .int (xs (i + 1)), .int (xs (i + 2)), .int (xs (i + 3))]) (rest := []) (q := zw_attribute) (hh := hh_attribute) hC.1 ⟨Nat.le_of_ble_eq_true rfl, Nat.le_of_ble_eq_true rfl, hcs, hss⟩ rfl hC.2.1 hC.2.2.1 dL_law_179 zlw_attribute (List.forall_mem_cons.mpr ⟨rfl, List.forall_mem_cons.mpr ⟨rfl, List.forall_mem_cons.mpr ⟨rfl, List.forall_mem_cons.mpr ⟨rfl, fun _ h => absurd h List.not_mem_nil⟩⟩⟩⟩) (Nat.le_of_ble_eq_true rfl) (zl_attribute (zt_attribute hl h.1 h.2.2.1)) ?_
  rintro _ d1 ⟨_, rfl, rfl, hc1, hg1⟩
  have hm1 := MS_cG h.2.1 hg1
  refine zx_ist (L' := [_, _, _, _, _, some (.int _), _]) hC.1 dL_law_182 (Nat.le_of_ble_eq_true rfl) rfl ?_
  refine zx_aldn hC.1 dL_law_184 rfl ?_
  refine zx_aldn hC.1 dL_law_185 rfl ?_
  refine zx_ild hC.1 dL_law_186 rfl ?_
  refine zx_icst (v := nI 1) hC.1 dL_law_188 (by decide) ?_
  refine zx_iadd hC.1 dL_law_189 ?_
  rw [nI_add]
  refine zx_sld (i + 1) hC dL_law_190 rfl (by omega) ?_
  refine zx_aldn hC.1 dL_law_191 rfl ?_
  refine zx_ild hC.1 dL_law_192 rfl ?_
  refine zx_icst (v := nI 2) hC.1 dL_law_194 (by decide) ?_
  refine zx_iadd hC.1 dL_law_195 ?_
  rw [nI_add]
  refine zx_sld (i + 2) hC dL_law_196 rfl (by omega) ?_
  refine zx_aldn hC.1 dL_law_197 rfl ?_
  refine zx_ild hC.1 dL_law_198 rfl ?_
  refine zx_icst (v := nI 3) hC.1 dL_law_200 (by decide) ?_
  refine zx_iadd hC.1 dL_law_201 ?_
  rw [nI_add]
  refine zx_sld (i + 3) hC dL_law_202 rfl (by omega) ?_
  refine zx_v3 (LC_K hC (by omega) (by omega)) dL_law_203 (zLL_73 rfl) rfl rfl rfl rfl (Nat.le_of_ble_eq_true rfl) rfl (sm_attribute hm1.1 h.2.2.1) ?_
  rintro d2 ⟨a1, a2, a3, a4⟩
  refine zx_aldn hC.1 dL_law_206 rfl ?_
  refine zx_i0 (LC_K hC (by omega) (by omega)) dL_law_207 (zLL_67 rfl) rfl  (Nat.le_of_ble_eq_true rfl) rfl (sm_thrown) ?_
  rintro _ d9 ⟨rfl, h9⟩
  obtain rfl := h9.symm
  refine zx_ild hC.1 dL_law_210 rfl ?_
  refine zx_cmp 217 hC.1 dL_law_212 (by decide) (fun c212 => ?_) (fun c212 => ?_)
  · simp only [ax_cn, Classical.not_not] at c212
    refine zx_goto 706 hC.1 dL_law_217 (by decide) ?_
    exact kk _ _ _ _ _ _ _ ⟨cC_wx hc1 a4, MS_wx hm1 a2 a3 a4, WI_oN h.2.2.1 (Or.inr (Or.inl rfl)) (fun q => ⟨(tx_n (okN_l (and_l q).1).1).2, (tx_n (okN_l (and_l q).1).2).2, (tx_n (and_l q).2).2⟩), h.2.2.2⟩
  · simp only [ax_cn, Classical.not_not] at c212
    exact absurd a1 c212
theorem ls_text (hC : LC p l e s m b below meth c D ad ca Ln xs) (hl : l.stackTraces = false) (h : LV d S sl t es) (hi : i + 4 ≤ Ln) (hcs : cells + 1 ≤ 601024) (hss : slots + 6 ≤ 7293034) (kk : KK (zlg p l e s m b below meth c D ad ca) cells slots i) : zx (zlg p l e s m b below meth c D ad ca) cells slots 220 [some (.ref 600), some (.ref 512), some (.ref 540), some (.ref 580), some (.int (nI i)), z5, z6] [] d := by
  have h2k := hC.2.2.2.2.2.2.2
  refine zx_aldn hC.1 dL_law_220 rfl ?_
  refine zx_aldn hC.1 dL_law_221 rfl ?_
  refine zx_ild hC.1 dL_law_222 rfl ?_
  refine zx_icst (v := nI 1) hC.1 dL_law_224 (by decide) ?_
  refine zx_iadd hC.1 dL_law_225 ?_
  rw [nI_add]
  refine zx_sld (i + 1) hC dL_law_226 rfl (by omega) ?_
  refine zx_ws (as := [.ref 512, .int (xs (i + 1))]) (rest := []) (q := zw_text) (hh := hh_text) hC.1 ⟨Nat.le_of_ble_eq_true rfl, Nat.le_of_ble_eq_true rfl, hcs, hss⟩ rfl hC.2.1 hC.2.2.1 dL_law_227 zlw_text (List.forall_mem_cons.mpr ⟨rfl, List.forall_mem_cons.mpr ⟨rfl, fun _ h => absurd h List.not_mem_nil⟩⟩) (Nat.le_of_ble_eq_true rfl) (zl_text (zt_text hl h.1 h.2.2.1)) ?_
  rintro _ d1 ⟨_, rfl, rfl, hc1, hg1⟩
  have hm1 := MS_cG h.2.1 hg1
  refine zx_ist (L' := [_, _, _, _, _, some (.int _), _]) hC.1 dL_law_230 (Nat.le_of_ble_eq_true rfl) rfl ?_
  refine zx_aldn hC.1 dL_law_232 rfl ?_
  refine zx_aldn hC.1 dL_law_233 rfl ?_
  refine zx_ild hC.1 dL_law_234 rfl ?_
  refine zx_icst (v := nI 1) hC.1 dL_law_236 (by decide) ?_
  refine zx_iadd hC.1 dL_law_237 ?_
  rw [nI_add]
  refine zx_sld (i + 1) hC dL_law_238 rfl (by omega) ?_
  refine zx_v1 (LC_K hC (by omega) (by omega)) dL_law_239 (zLL_77 rfl) rfl rfl (Nat.le_of_ble_eq_true rfl) rfl (sm_text hm1.1 h.2.2.1) ?_
  rintro d2 ⟨a1, a2, a3, a4⟩
  refine zx_aldn hC.1 dL_law_242 rfl ?_
  refine zx_i0 (LC_K hC (by omega) (by omega)) dL_law_243 (zLL_67 rfl) rfl  (Nat.le_of_ble_eq_true rfl) rfl (sm_thrown) ?_
  rintro _ d9 ⟨rfl, h9⟩
  obtain rfl := h9.symm
  refine zx_ild hC.1 dL_law_246 rfl ?_
  refine zx_cmp 253 hC.1 dL_law_248 (by decide) (fun c248 => ?_) (fun c248 => ?_)
  · simp only [ax_cn, Classical.not_not] at c248
    refine zx_goto 706 hC.1 dL_law_253 (by decide) ?_
    exact kk _ _ _ _ _ _ _ ⟨cC_wx hc1 a4, MS_wx hm1 a2 a3 a4, WI_oN h.2.2.1 (Or.inr (Or.inr (Or.inl rfl))) (fun q => ⟨by decide, by decide, (tx_n q).2⟩), h.2.2.2⟩
  · simp only [ax_cn, Classical.not_not] at c248
    exact absurd a1 c248
theorem ls_close (hC : LC p l e s m b below meth c D ad ca Ln xs) (hl : l.stackTraces = false) (h : LV d S sl t es) (hi : i + 4 ≤ Ln) (hcs : cells + 1 ≤ 601024) (hss : slots + 6 ≤ 7293034) (kk : KK (zlg p l e s m b below meth c D ad ca) cells slots i) : zx (zlg p l e s m b below meth c D ad ca) cells slots 256 [some (.ref 600), some (.ref 512), some (.ref 540), some (.ref 580), some (.int (nI i)), z5, z6] [] d := by
  have h2k := hC.2.2.2.2.2.2.2
  refine zx_aldn hC.1 dL_law_256 rfl ?_
  refine zx_aldn hC.1 dL_law_257 rfl ?_
  refine zx_ws (as := [.ref 512, .ref 580]) (rest := []) (q := zw_close) (hh := hh_close) hC.1 ⟨Nat.le_of_ble_eq_true rfl, Nat.le_of_ble_eq_true rfl, hcs, hss⟩ rfl hC.2.1 hC.2.2.1 dL_law_258 zlw_close (List.forall_mem_cons.mpr ⟨rfl, List.forall_mem_cons.mpr ⟨rfl, fun _ h => absurd h List.not_mem_nil⟩⟩) (Nat.le_of_ble_eq_true rfl) (zl_close (zt_close hl h.1 h.2.2.1) (fun _ _ => cX_up)) ?_
  rintro _ d1 ⟨_, rfl, rfl, hv1, hc1, hg1⟩
  have hm1 := MS_cG h.2.1 hg1
  refine zx_ist (L' := [_, _, _, _, _, some (.int _), _]) hC.1 dL_law_261 (Nat.le_of_ble_eq_true rfl) rfl ?_
  refine zx_aldn hC.1 dL_law_263 rfl ?_
  refine zx_i0 (LC_K hC (by omega) (by omega)) dL_law_264 (zLL_81 rfl) rfl  (Nat.le_of_ble_eq_true rfl) rfl (sm_close hm1.1 h.2.2.1) ?_
  rintro y2 d2 ⟨v2, a1, a2, a3, a4⟩
  refine zx_ist (L' := [_, _, _, _, _, _, some (.int _)]) hC.1 dL_law_267 (Nat.le_of_ble_eq_true rfl) rfl ?_
  refine zx_aldn hC.1 dL_law_269 rfl ?_
  refine zx_i0 (LC_K hC (by omega) (by omega)) dL_law_270 (zLL_67 rfl) rfl  (Nat.le_of_ble_eq_true rfl) rfl (sm_thrown) ?_
  rintro _ d9 ⟨rfl, h9⟩
  obtain rfl := h9.symm
  refine zx_ild hC.1 dL_law_273 rfl ?_
  refine zx_cmp 280 hC.1 dL_law_275 (by decide) (fun c275 => ?_) (fun c275 => ?_)
  · simp only [ax_cn, Classical.not_not] at c275
    refine zx_ild hC.1 dL_law_280 rfl ?_
    refine zx_if 297 hC.1 dL_law_282 (by decide) (fun c282 => ?_) (fun c282 => ?_)
    · simp only [ax_cn, Classical.not_not] at c282
      refine zx_goto 706 hC.1 dL_law_297 (by decide) ?_
      exact kk _ _ _ _ _ _ _ ⟨cC_wx hc1 a4, MS_wx hm1 a2 a3 a4, WI_oC h.2.2.1, h.2.2.2⟩
    · simp only [ax_cn, Classical.not_not] at c282
      have hz := nI_z (Nat.le_trans oC_le (by decide)) c282
      refine zx_aldn hC.1 dL_law_285 rfl ?_
      refine zx_icst (v := nI 0) hC.1 dL_law_286 (by decide) ?_
      refine zx_same hC dL_law_287 dL_law_288 rfl dL_law_290 dL_law_291 (by rw [o580 a4]; exact (hv1 hz).trans (v2 hz).symm) ?_
      -- 
      -- 
      -- 
      refine zx_if 297 hC.1 dL_law_292 (by decide) (fun c292 => ?_) (fun c292 => ?_)
      · simp only [ax_cn, Classical.not_not] at c292
        refine zx_goto 706 hC.1 dL_law_297 (by decide) ?_
        exact kk _ _ _ _ _ _ _ ⟨cC_wx hc1 a4, MS_wx hm1 a2 a3 a4, WI_oC h.2.2.1, h.2.2.2⟩
      · simp only [ax_cn, Classical.not_not] at c292
        exact absurd trivial c292
  · simp only [ax_cn, Classical.not_not] at c275
    exact absurd a1 c275
theorem ls_clear (hC : LC p l e s m b below meth c D ad ca Ln xs) (hl : l.stackTraces = false) (h : LV d S sl t es) (hi : i + 4 ≤ Ln) (hcs : cells + 1 ≤ 601024) (hss : slots + 6 ≤ 7293034) (kk : KK (zlg p l e s m b below meth c D ad ca) cells slots i) : zx (zlg p l e s m b below meth c D ad ca) cells slots 300 [some (.ref 600), some (.ref 512), some (.ref 540), some (.ref 580), some (.int (nI i)), z5, z6] [] d := by
  have h2k := hC.2.2.2.2.2.2.2
  refine zx_aldn hC.1 dL_law_300 rfl ?_
  refine zx_v0 (LC_K hC (by omega) (by omega)) dL_law_301 (zLL_82 rfl) rfl  (Nat.le_of_ble_eq_true rfl) rfl (sp_clear) ?_
  rintro d1 ⟨a1, a2, a3, f1⟩
  have hm1 := MS_cG h.2.1 (cG_we f1)
  refine zx_aldn hC.1 dL_law_304 rfl ?_
  refine zx_v0 (LC_K hC (by omega) (by omega)) dL_law_305 (zLL_85 rfl) rfl  (Nat.le_of_ble_eq_true rfl) rfl (sm_clear hm1.1) ?_
  rintro d2 ⟨b1, b2, b3⟩
  refine zx_goto 706 hC.1 dL_law_308 (by decide) ?_
  exact zx_widen (Nat.le_succ _) (by omega) (kk _ _ _ _ _ _ _ ⟨cC_wx (cC_we h.1 (CW_b a1 a2 a3) f1) b3, MS_wx hm1 b1 b2 b3, WI_0, h.2.2.2⟩)
theorem ls_written (hC : LC p l e s m b below meth c D ad ca Ln xs) (hl : l.stackTraces = false) (h : LV d S sl t es) (hi : i + 4 ≤ Ln) (hcs : cells + 1 ≤ 601024) (hss : slots + 6 ≤ 7293034) (kk : KK (zlg p l e s m b below meth c D ad ca) cells slots i) : zx (zlg p l e s m b below meth c D ad ca) cells slots 311 [some (.ref 600), some (.ref 512), some (.ref 540), some (.ref 580), some (.int (nI i)), z5, z6] [] d := by
  have h2k := hC.2.2.2.2.2.2.2
  refine zx_aldn hC.1 dL_law_311 rfl ?_
  refine zx_i0 (LC_K hC (by omega) (by omega)) dL_law_312 (zLL_86 rfl) rfl  (Nat.le_of_ble_eq_true rfl) rfl (sp_written h.1.1.2.2) ?_
  rintro _ d9 ⟨rfl, h9⟩
  obtain rfl := h9.symm
  refine zx_aldn hC.1 dL_law_315 rfl ?_
  refine zx_i0 (LC_K hC (by omega) (by omega)) dL_law_316 (zLL_89 rfl) rfl  (Nat.le_of_ble_eq_true rfl) rfl (sm_written (MX_mb h.2.1.1)) ?_
  rintro _ d2 ⟨rfl, rfl⟩
  refine zx_cmp 706 hC.1 dL_law_319 (by decide) (fun c319 => ?_) (fun c319 => ?_)
  · simp only [ax_cn, Classical.not_not] at c319
    exact zx_widen (Nat.le_succ _) (by omega) (kk _ _ _ _ _ _ _ ⟨cC_ss h.1 mss_up0, MS_up0 h.2.1, h.2.2.1, h.2.2.2⟩)
  · simp only [ax_cn, Classical.not_not] at c319
    exact absurd trivial c319
theorem ls_keep (hC : LC p l e s m b below meth c D ad ca Ln xs) (hl : l.stackTraces = false) (h : LV d S sl t es) (hi : i + 4 ≤ Ln) (hcs : cells + 1 ≤ 601024) (hss : slots + 6 ≤ 7293034) (kk : KK (zlg p l e s m b below meth c D ad ca) cells slots i) : zx (zlg p l e s m b below meth c D ad ca) cells slots 324 [some (.ref 600), some (.ref 512), some (.ref 540), some (.ref 580), some (.int (nI i)), z5, z6] [] d := by
  have h2k := hC.2.2.2.2.2.2.2
  refine zx_aldn hC.1 dL_law_324 rfl ?_
  refine zx_i0 (LC_K hC (by omega) (by omega)) dL_law_325 (zLL_90 rfl) rfl  (Nat.le_of_ble_eq_true rfl) rfl (sp_keep h.1.1.2.2) ?_
  rintro _ d1 ⟨rfl, a1, f1⟩
  have hm1 := MS_cG h.2.1 (cG_bt f1)
  refine zx_aldn hC.1 dL_law_328 rfl ?_
  refine zx_i0 (LC_K hC (by omega) (by omega)) dL_law_329 (zLL_93 rfl) rfl  (Nat.le_of_ble_eq_true rfl) rfl (sm_keep (MX_mb hm1.1)) ?_
  rintro _ d2 ⟨rfl, b1, b2, b3⟩
  refine zx_cmp 706 hC.1 dL_law_332 (by decide) (fun c332 => ?_) (fun c332 => ?_)
  · simp only [ax_cn, Classical.not_not] at c332
    exact zx_widen (Nat.le_succ _) (by omega) (kk _ _ _ _ _ _ _ ⟨cC_ss (cC_bt h.1 a1 f1) b3, MS_ss hm1 b1 b3, h.2.2.1, h.2.2.2⟩)
  · simp only [ax_cn, Classical.not_not] at c332
    exact absurd trivial c332
theorem ls_taken (hC : LC p l e s m b below meth c D ad ca Ln xs) (hl : l.stackTraces = false) (h : LV d S sl t es) (hi : i + 4 ≤ Ln) (hcs : cells + 1 ≤ 601024) (hss : slots + 6 ≤ 7293034) (kk : KK (zlg p l e s m b below meth c D ad ca) cells slots i) : zx (zlg p l e s m b below meth c D ad ca) cells slots 581 [some (.ref 600), some (.ref 512), some (.ref 540), some (.ref 580), some (.int (nI i)), z5, z6] [] d := by
  have h2k := hC.2.2.2.2.2.2.2
  refine zx_aldn hC.1 dL_law_581 rfl ?_
  refine zx_i0 (LC_K hC (by omega) (by omega)) dL_law_582 (zLL_111 rfl) rfl  (Nat.le_of_ble_eq_true rfl) rfl (sp_taken) ?_
  rintro _ d9 ⟨rfl, h9⟩
  obtain rfl := h9.symm
  refine zx_aldn hC.1 dL_law_585 rfl ?_
  refine zx_i0 (LC_K hC (by omega) (by omega)) dL_law_586 (zLL_114 rfl) rfl  (Nat.le_of_ble_eq_true rfl) rfl (sm_taken h.2.1.2.2.1) ?_
  rintro _ d2 ⟨rfl, rfl⟩
  refine zx_cmp 706 hC.1 dL_law_589 (by decide) (fun c589 => ?_) (fun c589 => ?_)
  · simp only [ax_cn, Classical.not_not] at c589
    exact zx_widen (Nat.le_succ _) (by omega) (kk _ _ _ _ _ _ _ ⟨cC_ss h.1 mss_up0, MS_up0 h.2.1, h.2.2.1, h.2.2.2⟩)
  · simp only [ax_cn, Classical.not_not] at c589
    exact absurd h.1.2.2.1 c589
theorem ls_push (hC : LC p l e s m b below meth c D ad ca Ln xs) (hl : l.stackTraces = false) (h : LV d S sl t es) (hi : i + 4 ≤ Ln) (hcs : cells + 1 ≤ 601024) (hss : slots + 6 ≤ 7293034) (kk : KK (zlg p l e s m b below meth c D ad ca) cells slots i) : zx (zlg p l e s m b below meth c D ad ca) cells slots 337 [some (.ref 600), some (.ref 512), some (.ref 540), some (.ref 580), some (.int (nI i)), z5, z6] [] d := by
  have h2k := hC.2.2.2.2.2.2.2
  refine zx_aldn hC.1 dL_law_337 rfl ?_
  refine zx_aldn hC.1 dL_law_338 rfl ?_
  refine zx_ild hC.1 dL_law_339 rfl ?_
  refine zx_icst (v := nI 1) hC.1 dL_law_341 (by decide) ?_
  refine zx_iadd hC.1 dL_law_342 ?_
  rw [nI_add]
  refine zx_sld (i + 1) hC dL_law_343 rfl (by omega) ?_
  refine zx_if 351 hC.1 dL_law_344 (by decide) (fun c344 => ?_) (fun c344 => ?_)
  · simp only [ax_cn, Classical.not_not] at c344
    refine zx_icst (v := nI 0) hC.1 dL_law_351 (by decide) ?_
    refine zx_aldn hC.1 dL_law_352 rfl ?_
    refine zx_ws (as := [.ref 512, .int (nI 0), .ref 580]) (rest := []) (q := zw_push) (hh := hh_push) hC.1 ⟨Nat.le_of_ble_eq_true rfl, Nat.le_of_ble_eq_true rfl, hcs, hss⟩ rfl hC.2.1 hC.2.2.1 dL_law_353 zlw_push (List.forall_mem_cons.mpr ⟨rfl, List.forall_mem_cons.mpr ⟨rfl, List.forall_mem_cons.mpr ⟨rfl, fun _ h => absurd h List.not_mem_nil⟩⟩⟩) (Nat.le_of_ble_eq_true rfl) (zl_push (zt_push hl h.1 (show 0 < 2 by decide)) (fun _ _ => cX_up)) ?_
    rintro _ d1 ⟨_, rfl, rfl, hv1, hc1, hg1⟩
    have hm1 := MS_cG h.2.1 hg1
    refine zx_ist (L' := [_, _, _, _, _, some (.int _), _]) hC.1 dL_law_356 (Nat.le_of_ble_eq_true rfl) rfl ?_
    refine zx_aldn hC.1 dL_law_358 rfl ?_
    refine zx_aldn hC.1 dL_law_359 rfl ?_
    refine zx_ild hC.1 dL_law_360 rfl ?_
    refine zx_icst (v := nI 1) hC.1 dL_law_362 (by decide) ?_
    refine zx_iadd hC.1 dL_law_363 ?_
    rw [nI_add]
    refine zx_sld (i + 1) hC dL_law_364 rfl (by omega) ?_
    refine zx_if 372 hC.1 dL_law_365 (by decide) (fun c365 => ?_) (fun c365 => ?_)
    · simp only [ax_cn, Classical.not_not] at c365
      refine zx_icst (v := nI 0) hC.1 dL_law_372 (by decide) ?_
      refine zx_i1 (LC_K hC (by omega) (by omega)) dL_law_373 (zLL_97 rfl) rfl rfl (Nat.le_of_ble_eq_true rfl) rfl (rp_push hm1.2.1 (show 0 < 2 by decide)) ?_
      rintro y2 d2 ⟨v2, a1, a2, a3⟩
      refine zx_ist (L' := [_, _, _, _, _, _, some (.int _)]) hC.1 dL_law_376 (Nat.le_of_ble_eq_true rfl) rfl ?_
      refine zx_aldn hC.1 dL_law_378 rfl ?_
      refine zx_i0 (LC_K hC (by omega) (by omega)) dL_law_379 (zLL_67 rfl) rfl  (Nat.le_of_ble_eq_true rfl) rfl (sm_thrown) ?_
      rintro _ d9 ⟨rfl, h9⟩
      obtain rfl := h9.symm
      refine zx_ild hC.1 dL_law_382 rfl ?_
      refine zx_cmp 389 hC.1 dL_law_384 (by decide) (fun c384 => ?_) (fun c384 => ?_)
      · simp only [ax_cn, Classical.not_not] at c384
        refine zx_ild hC.1 dL_law_389 rfl ?_
        refine zx_if 406 hC.1 dL_law_391 (by decide) (fun c391 => ?_) (fun c391 => ?_)
        · simp only [ax_cn, Classical.not_not] at c391
          refine zx_goto 706 hC.1 dL_law_406 (by decide) ?_
          exact kk _ _ _ _ _ _ _ ⟨cC_ss hc1 a3, MS_ss hm1 a2 a3, h.2.2.1, h.2.2.2⟩
        · simp only [ax_cn, Classical.not_not] at c391
          have hz := nI_z (Nat.le_trans oP_le (by decide)) c391
          refine zx_aldn hC.1 dL_law_394 rfl ?_
          refine zx_icst (v := nI 0) hC.1 dL_law_395 (by decide) ?_
          refine zx_same hC dL_law_396 dL_law_397 rfl dL_law_399 dL_law_400 (by rw [o580s a3]; exact (hv1 hz).trans (v2 hz).symm) ?_
          -- 
          -- 
          -- 
          refine zx_if 406 hC.1 dL_law_401 (by decide) (fun c401 => ?_) (fun c401 => ?_)
          · simp only [ax_cn, Classical.not_not] at c401
            refine zx_goto 706 hC.1 dL_law_406 (by decide) ?_
            exact kk _ _ _ _ _ _ _ ⟨cC_ss hc1 a3, MS_ss hm1 a2 a3, h.2.2.1, h.2.2.2⟩
          · simp only [ax_cn, Classical.not_not] at c401
            exact absurd trivial c401
      · simp only [ax_cn, Classical.not_not] at c384
        exact absurd a1 c384
    · simp only [ax_cn, Classical.not_not] at c365
      exact absurd c344 c365
  · simp only [ax_cn, Classical.not_not] at c344
    refine zx_icst (v := nI 1) hC.1 dL_law_347 (by decide) ?_
    refine zx_goto 352 hC.1 dL_law_348 (by decide) ?_
    refine zx_aldn hC.1 dL_law_352 rfl ?_
    refine zx_ws (as := [.ref 512, .int (nI 1), .ref 580]) (rest := []) (q := zw_push) (hh := hh_push) hC.1 ⟨Nat.le_of_ble_eq_true rfl, Nat.le_of_ble_eq_true rfl, hcs, hss⟩ rfl hC.2.1 hC.2.2.1 dL_law_353 zlw_push (List.forall_mem_cons.mpr ⟨rfl, List.forall_mem_cons.mpr ⟨rfl, List.forall_mem_cons.mpr ⟨rfl, fun _ h => absurd h List.not_mem_nil⟩⟩⟩) (Nat.le_of_ble_eq_true rfl) (zl_push (zt_push hl h.1 (show 1 < 2 by decide)) (fun _ _ => cX_up)) ?_
    rintro _ d1 ⟨_, rfl, rfl, hv1, hc1, hg1⟩
    have hm1 := MS_cG h.2.1 hg1
    refine zx_ist (L' := [_, _, _, _, _, some (.int _), _]) hC.1 dL_law_356 (Nat.le_of_ble_eq_true rfl) rfl ?_
    refine zx_aldn hC.1 dL_law_358 rfl ?_
    refine zx_aldn hC.1 dL_law_359 rfl ?_
    refine zx_ild hC.1 dL_law_360 rfl ?_
    refine zx_icst (v := nI 1) hC.1 dL_law_362 (by decide) ?_
    refine zx_iadd hC.1 dL_law_363 ?_
    rw [nI_add]
    refine zx_sld (i + 1) hC dL_law_364 rfl (by omega) ?_
    refine zx_if 372 hC.1 dL_law_365 (by decide) (fun c365 => ?_) (fun c365 => ?_)
    · simp only [ax_cn, Classical.not_not] at c365
      exact absurd c365 c344
    · simp only [ax_cn, Classical.not_not] at c365
      refine zx_icst (v := nI 1) hC.1 dL_law_368 (by decide) ?_
      refine zx_goto 373 hC.1 dL_law_369 (by decide) ?_
      refine zx_i1 (LC_K hC (by omega) (by omega)) dL_law_373 (zLL_97 rfl) rfl rfl (Nat.le_of_ble_eq_true rfl) rfl (rp_push hm1.2.1 (show 1 < 2 by decide)) ?_
      rintro y2 d2 ⟨v2, a1, a2, a3⟩
      refine zx_ist (L' := [_, _, _, _, _, _, some (.int _)]) hC.1 dL_law_376 (Nat.le_of_ble_eq_true rfl) rfl ?_
      refine zx_aldn hC.1 dL_law_378 rfl ?_
      refine zx_i0 (LC_K hC (by omega) (by omega)) dL_law_379 (zLL_67 rfl) rfl  (Nat.le_of_ble_eq_true rfl) rfl (sm_thrown) ?_
      rintro _ d9 ⟨rfl, h9⟩
      obtain rfl := h9.symm
      refine zx_ild hC.1 dL_law_382 rfl ?_
      refine zx_cmp 389 hC.1 dL_law_384 (by decide) (fun c384 => ?_) (fun c384 => ?_)
      · simp only [ax_cn, Classical.not_not] at c384
        refine zx_ild hC.1 dL_law_389 rfl ?_
        refine zx_if 406 hC.1 dL_law_391 (by decide) (fun c391 => ?_) (fun c391 => ?_)
        · simp only [ax_cn, Classical.not_not] at c391
          refine zx_goto 706 hC.1 dL_law_406 (by decide) ?_
          exact kk _ _ _ _ _ _ _ ⟨cC_ss hc1 a3, MS_ss hm1 a2 a3, h.2.2.1, h.2.2.2⟩
        · simp only [ax_cn, Classical.not_not] at c391
          have hz := nI_z (Nat.le_trans oP_le (by decide)) c391
          refine zx_aldn hC.1 dL_law_394 rfl ?_
          refine zx_icst (v := nI 0) hC.1 dL_law_395 (by decide) ?_
          refine zx_same hC dL_law_396 dL_law_397 rfl dL_law_399 dL_law_400 (by rw [o580s a3]; exact (hv1 hz).trans (v2 hz).symm) ?_
          -- 
          -- 
          -- 
          refine zx_if 406 hC.1 dL_law_401 (by decide) (fun c401 => ?_) (fun c401 => ?_)
          · simp only [ax_cn, Classical.not_not] at c401
            refine zx_goto 706 hC.1 dL_law_406 (by decide) ?_
            exact kk _ _ _ _ _ _ _ ⟨cC_ss hc1 a3, MS_ss hm1 a2 a3, h.2.2.1, h.2.2.2⟩
          · simp only [ax_cn, Classical.not_not] at c401
            exact absurd trivial c401
      · simp only [ax_cn, Classical.not_not] at c384
        exact absurd a1 c384
theorem ls_bit (hC : LC p l e s m b below meth c D ad ca Ln xs) (hl : l.stackTraces = false) (h : LV d S sl t es) (hi : i + 4 ≤ Ln) (hcs : cells + 1 ≤ 601024) (hss : slots + 6 ≤ 7293034) (kk : KK (zlg p l e s m b below meth c D ad ca) cells slots i) : zx (zlg p l e s m b below meth c D ad ca) cells slots 409 [some (.ref 600), some (.ref 512), some (.ref 540), some (.ref 580), some (.int (nI i)), z5, z6] [] d := by
  have h2k := hC.2.2.2.2.2.2.2
  refine zx_aldn hC.1 dL_law_409 rfl ?_
  refine zx_aldn hC.1 dL_law_410 rfl ?_
  refine zx_ild hC.1 dL_law_411 rfl ?_
  refine zx_icst (v := nI 1) hC.1 dL_law_413 (by decide) ?_
  refine zx_iadd hC.1 dL_law_414 ?_
  rw [nI_add]
  refine zx_sld (i + 1) hC dL_law_415 rfl (by omega) ?_
  refine zx_aldn hC.1 dL_law_416 rfl ?_
  refine zx_ws (as := [.ref 512, .int (xs (i + 1)), .ref 580]) (rest := []) (q := zw_bit) (hh := hh_bit) hC.1 ⟨Nat.le_of_ble_eq_true rfl, Nat.le_of_ble_eq_true rfl, hcs, hss⟩ rfl hC.2.1 hC.2.2.1 dL_law_417 zlw_bit (List.forall_mem_cons.mpr ⟨rfl, List.forall_mem_cons.mpr ⟨rfl, List.forall_mem_cons.mpr ⟨rfl, fun _ h => absurd h List.not_mem_nil⟩⟩⟩) (Nat.le_of_ble_eq_true rfl) (zl_bit (zt_bit hl h.1) (fun _ _ => cX_up)) ?_
  rintro _ d1 ⟨_, rfl, rfl, hv1, hc1, hg1⟩
  have hm1 := MS_cG h.2.1 hg1
  refine zx_ist (L' := [_, _, _, _, _, some (.int _), _]) hC.1 dL_law_420 (Nat.le_of_ble_eq_true rfl) rfl ?_
  refine zx_aldn hC.1 dL_law_422 rfl ?_
  refine zx_aldn hC.1 dL_law_423 rfl ?_
  refine zx_ild hC.1 dL_law_424 rfl ?_
  refine zx_icst (v := nI 1) hC.1 dL_law_426 (by decide) ?_
  refine zx_iadd hC.1 dL_law_427 ?_
  rw [nI_add]
  refine zx_sld (i + 1) hC dL_law_428 rfl (by omega) ?_
  refine zx_i1 (LC_K hC (by omega) (by omega)) dL_law_429 (zLL_101 rfl) rfl rfl (Nat.le_of_ble_eq_true rfl) rfl (rp_bit hm1.2.1) ?_
  rintro y2 d2 ⟨v2, a1, a2, a3⟩
  refine zx_ist (L' := [_, _, _, _, _, _, some (.int _)]) hC.1 dL_law_432 (Nat.le_of_ble_eq_true rfl) rfl ?_
  refine zx_aldn hC.1 dL_law_434 rfl ?_
  refine zx_i0 (LC_K hC (by omega) (by omega)) dL_law_435 (zLL_67 rfl) rfl  (Nat.le_of_ble_eq_true rfl) rfl (sm_thrown) ?_
  rintro _ d9 ⟨rfl, h9⟩
  obtain rfl := h9.symm
  refine zx_ild hC.1 dL_law_438 rfl ?_
  refine zx_cmp 445 hC.1 dL_law_440 (by decide) (fun c440 => ?_) (fun c440 => ?_)
  · simp only [ax_cn, Classical.not_not] at c440
    refine zx_ild hC.1 dL_law_445 rfl ?_
    refine zx_if 462 hC.1 dL_law_447 (by decide) (fun c447 => ?_) (fun c447 => ?_)
    · simp only [ax_cn, Classical.not_not] at c447
      refine zx_goto 706 hC.1 dL_law_462 (by decide) ?_
      exact kk _ _ _ _ _ _ _ ⟨cC_ss hc1 a3, MS_ss hm1 a2 a3, h.2.2.1, h.2.2.2⟩
    · simp only [ax_cn, Classical.not_not] at c447
      have hz := nI_z (Nat.le_trans oI_le (by decide)) c447
      refine zx_aldn hC.1 dL_law_450 rfl ?_
      refine zx_icst (v := nI 0) hC.1 dL_law_451 (by decide) ?_
      refine zx_same hC dL_law_452 dL_law_453 rfl dL_law_455 dL_law_456 (by rw [o580s a3]; exact (hv1 hz).trans (v2 hz).symm) ?_
      -- 
      -- 
      -- 
      refine zx_if 462 hC.1 dL_law_457 (by decide) (fun c457 => ?_) (fun c457 => ?_)
      · simp only [ax_cn, Classical.not_not] at c457
        refine zx_goto 706 hC.1 dL_law_462 (by decide) ?_
        exact kk _ _ _ _ _ _ _ ⟨cC_ss hc1 a3, MS_ss hm1 a2 a3, h.2.2.1, h.2.2.2⟩
      · simp only [ax_cn, Classical.not_not] at c457
        exact absurd trivial c457
  · simp only [ax_cn, Classical.not_not] at c440
    exact absurd a1 c440
theorem ls_flip (hC : LC p l e s m b below meth c D ad ca Ln xs) (hl : l.stackTraces = false) (h : LV d S sl t es) (hi : i + 4 ≤ Ln) (hcs : cells + 1 ≤ 601024) (hss : slots + 6 ≤ 7293034) (kk : KK (zlg p l e s m b below meth c D ad ca) cells slots i) : zx (zlg p l e s m b below meth c D ad ca) cells slots 465 [some (.ref 600), some (.ref 512), some (.ref 540), some (.ref 580), some (.int (nI i)), z5, z6] [] d := by
  have h2k := hC.2.2.2.2.2.2.2
  refine zx_aldn hC.1 dL_law_465 rfl ?_
  refine zx_aldn hC.1 dL_law_466 rfl ?_
  refine zx_ild hC.1 dL_law_467 rfl ?_
  refine zx_icst (v := nI 1) hC.1 dL_law_469 (by decide) ?_
  refine zx_iadd hC.1 dL_law_470 ?_
  rw [nI_add]
  refine zx_sld (i + 1) hC dL_law_471 rfl (by omega) ?_
  refine zx_ws (as := [.ref 512, .int (xs (i + 1))]) (rest := []) (q := zw_flip) (hh := hh_flip) hC.1 ⟨Nat.le_of_ble_eq_true rfl, Nat.le_of_ble_eq_true rfl, hcs, hss⟩ rfl hC.2.1 hC.2.2.1 dL_law_472 zlw_flip (List.forall_mem_cons.mpr ⟨rfl, List.forall_mem_cons.mpr ⟨rfl, fun _ h => absurd h List.not_mem_nil⟩⟩) (Nat.le_of_ble_eq_true rfl) (zl_flip (zt_flip hl h.1)) ?_
  rintro _ d1 ⟨_, rfl, rfl, hc1, hg1⟩
  have hm1 := MS_cG h.2.1 hg1
  refine zx_ist (L' := [_, _, _, _, _, some (.int _), _]) hC.1 dL_law_475 (Nat.le_of_ble_eq_true rfl) rfl ?_
  refine zx_aldn hC.1 dL_law_477 rfl ?_
  refine zx_aldn hC.1 dL_law_478 rfl ?_
  refine zx_ild hC.1 dL_law_479 rfl ?_
  refine zx_icst (v := nI 1) hC.1 dL_law_481 (by decide) ?_
  refine zx_iadd hC.1 dL_law_482 ?_
  rw [nI_add]
  refine zx_sld (i + 1) hC dL_law_483 rfl (by omega) ?_
  refine zx_v1 (LC_K hC (by omega) (by omega)) dL_law_484 (zLL_104 rfl) rfl rfl (Nat.le_of_ble_eq_true rfl) rfl (rp_flip hm1.2.1) ?_
  rintro d2 ⟨a1, a2, a3⟩
  refine zx_aldn hC.1 dL_law_487 rfl ?_
  refine zx_i0 (LC_K hC (by omega) (by omega)) dL_law_488 (zLL_67 rfl) rfl  (Nat.le_of_ble_eq_true rfl) rfl (sm_thrown) ?_
  rintro _ d9 ⟨rfl, h9⟩
  obtain rfl := h9.symm
  refine zx_ild hC.1 dL_law_491 rfl ?_
  refine zx_cmp 498 hC.1 dL_law_493 (by decide) (fun c493 => ?_) (fun c493 => ?_)
  · simp only [ax_cn, Classical.not_not] at c493
    refine zx_goto 706 hC.1 dL_law_498 (by decide) ?_
    exact kk _ _ _ _ _ _ _ ⟨cC_ss hc1 a3, MS_ss hm1 a2 a3, h.2.2.1, h.2.2.2⟩
  · simp only [ax_cn, Classical.not_not] at c493
    exact absurd a1 c493
theorem ls_cut (hC : LC p l e s m b below meth c D ad ca Ln xs) (hl : l.stackTraces = false) (h : LV d S sl t es) (hi : i + 4 ≤ Ln) (hcs : cells + 1 ≤ 601024) (hss : slots + 6 ≤ 7293034) (kk : KK (zlg p l e s m b below meth c D ad ca) cells slots i) : zx (zlg p l e s m b below meth c D ad ca) cells slots 501 [some (.ref 600), some (.ref 512), some (.ref 540), some (.ref 580), some (.int (nI i)), z5, z6] [] d := by
  have h2k := hC.2.2.2.2.2.2.2
  refine zx_aldn hC.1 dL_law_501 rfl ?_
  refine zx_aldn hC.1 dL_law_502 rfl ?_
  refine zx_ild hC.1 dL_law_503 rfl ?_
  refine zx_icst (v := nI 1) hC.1 dL_law_505 (by decide) ?_
  refine zx_iadd hC.1 dL_law_506 ?_
  rw [nI_add]
  refine zx_sld (i + 1) hC dL_law_507 rfl (by omega) ?_
  refine zx_ws (as := [.ref 512, .int (xs (i + 1))]) (rest := []) (q := zw_cut) (hh := hh_cut) hC.1 ⟨Nat.le_of_ble_eq_true rfl, Nat.le_of_ble_eq_true rfl, hcs, hss⟩ rfl hC.2.1 hC.2.2.1 dL_law_508 zlw_cut (List.forall_mem_cons.mpr ⟨rfl, List.forall_mem_cons.mpr ⟨rfl, fun _ h => absurd h List.not_mem_nil⟩⟩) (Nat.le_of_ble_eq_true rfl) (zl_cut (zt_cut hl h.1)) ?_
  rintro _ d1 ⟨_, rfl, rfl, hc1, hg1⟩
  have hm1 := MS_cG h.2.1 hg1
  refine zx_ist (L' := [_, _, _, _, _, some (.int _), _]) hC.1 dL_law_511 (Nat.le_of_ble_eq_true rfl) rfl ?_
  refine zx_aldn hC.1 dL_law_513 rfl ?_
  refine zx_aldn hC.1 dL_law_514 rfl ?_
  refine zx_ild hC.1 dL_law_515 rfl ?_
  refine zx_icst (v := nI 1) hC.1 dL_law_517 (by decide) ?_
  refine zx_iadd hC.1 dL_law_518 ?_
  rw [nI_add]
  refine zx_sld (i + 1) hC dL_law_519 rfl (by omega) ?_
  refine zx_v1 (LC_K hC (by omega) (by omega)) dL_law_520 (zLL_107 rfl) rfl rfl (Nat.le_of_ble_eq_true rfl) rfl (rp_cut hm1.2.1) ?_
  rintro d2 ⟨a1, a2, a3⟩
  refine zx_aldn hC.1 dL_law_523 rfl ?_
  refine zx_i0 (LC_K hC (by omega) (by omega)) dL_law_524 (zLL_67 rfl) rfl  (Nat.le_of_ble_eq_true rfl) rfl (sm_thrown) ?_
  rintro _ d9 ⟨rfl, h9⟩
  obtain rfl := h9.symm
  refine zx_ild hC.1 dL_law_527 rfl ?_
  refine zx_cmp 534 hC.1 dL_law_529 (by decide) (fun c529 => ?_) (fun c529 => ?_)
  · simp only [ax_cn, Classical.not_not] at c529
    refine zx_goto 706 hC.1 dL_law_534 (by decide) ?_
    exact kk _ _ _ _ _ _ _ ⟨cC_ss hc1 a3, MS_ss hm1 a2 a3, h.2.2.1, h.2.2.2⟩
  · simp only [ax_cn, Classical.not_not] at c529
    exact absurd a1 c529
theorem ls_read (hC : LC p l e s m b below meth c D ad ca Ln xs) (hl : l.stackTraces = false) (h : LV d S sl t es) (hi : i + 4 ≤ Ln) (hcs : cells + 1 ≤ 601024) (hss : slots + 6 ≤ 7293034) (kk : KK (zlg p l e s m b below meth c D ad ca) cells slots i) : zx (zlg p l e s m b below meth c D ad ca) cells slots 537 [some (.ref 600), some (.ref 512), some (.ref 540), some (.ref 580), some (.int (nI i)), z5, z6] [] d := by
  have h2k := hC.2.2.2.2.2.2.2
  refine zx_aldn hC.1 dL_law_537 rfl ?_
  refine zx_aldn hC.1 dL_law_538 rfl ?_
  refine zx_ws (as := [.ref 512, .ref 580]) (rest := []) (q := zw_read) (hh := hh_read) hC.1 ⟨Nat.le_of_ble_eq_true rfl, Nat.le_of_ble_eq_true rfl, hcs, hss⟩ rfl hC.2.1 hC.2.2.1 dL_law_539 zlw_read (List.forall_mem_cons.mpr ⟨rfl, List.forall_mem_cons.mpr ⟨rfl, fun _ h => absurd h List.not_mem_nil⟩⟩) (Nat.le_of_ble_eq_true rfl) (zl_read (zt_read hl h.1) (fun _ _ => cX_up)) ?_
  rintro _ d1 ⟨_, rfl, rfl, hv1, hc1, hg1⟩
  have hm1 := MS_cG h.2.1 hg1
  refine zx_ist (L' := [_, _, _, _, _, some (.int _), _]) hC.1 dL_law_542 (Nat.le_of_ble_eq_true rfl) rfl ?_
  refine zx_aldn hC.1 dL_law_544 rfl ?_
  refine zx_i0 (LC_K hC (by omega) (by omega)) dL_law_545 (zLL_110 rfl) rfl  (Nat.le_of_ble_eq_true rfl) rfl (sm_read hm1.2.1) ?_
  rintro y2 d2 ⟨w2, a1, a2, a3, a4⟩
  have v2 : (rD sl).1 = 0 → y2 = nI (rD sl).2.1.length := fun _ => w2
  refine zx_ist (L' := [_, _, _, _, _, _, some (.int _)]) hC.1 dL_law_548 (Nat.le_of_ble_eq_true rfl) rfl ?_
  refine zx_aldn hC.1 dL_law_550 rfl ?_
  refine zx_i0 (LC_K hC (by omega) (by omega)) dL_law_551 (zLL_67 rfl) rfl  (Nat.le_of_ble_eq_true rfl) rfl (sm_thrown) ?_
  rintro _ d9 ⟨rfl, h9⟩
  obtain rfl := h9.symm
  refine zx_ild hC.1 dL_law_554 rfl ?_
  refine zx_cmp 561 hC.1 dL_law_556 (by decide) (fun c556 => ?_) (fun c556 => ?_)
  · simp only [ax_cn, Classical.not_not] at c556
    refine zx_ild hC.1 dL_law_561 rfl ?_
    refine zx_if 578 hC.1 dL_law_563 (by decide) (fun c563 => ?_) (fun c563 => ?_)
    · simp only [ax_cn, Classical.not_not] at c563
      refine zx_goto 706 hC.1 dL_law_578 (by decide) ?_
      exact kk _ _ _ _ _ _ _ ⟨cC_rx hc1 a4, MS_rx hm1 h.2.2.1 a3 a2 a4, h.2.2.1, rD_G.1⟩
    · simp only [ax_cn, Classical.not_not] at c563
      have hz := nI_z (Nat.le_trans rD_le (by decide)) c563
      refine zx_aldn hC.1 dL_law_566 rfl ?_
      refine zx_icst (v := nI 0) hC.1 dL_law_567 (by decide) ?_
      refine zx_same hC dL_law_568 dL_law_569 rfl dL_law_571 dL_law_572 (by rw [o580r a4]; exact (hv1 hz).trans (v2 hz).symm) ?_
      -- 
      -- 
      -- 
      refine zx_if 578 hC.1 dL_law_573 (by decide) (fun c573 => ?_) (fun c573 => ?_)
      · simp only [ax_cn, Classical.not_not] at c573
        refine zx_goto 706 hC.1 dL_law_578 (by decide) ?_
        exact kk _ _ _ _ _ _ _ ⟨cC_rx hc1 a4, MS_rx hm1 h.2.2.1 a3 a2 a4, h.2.2.1, rD_G.1⟩
      · simp only [ax_cn, Classical.not_not] at c573
        exact absurd trivial c573
  · simp only [ax_cn, Classical.not_not] at c556
    exact absurd a1 c556
theorem ls_event (hC : LC p l e s m b below meth c D ad ca Ln xs) (hl : l.stackTraces = false) (h : LV d S sl t es) (hi : i + 4 ≤ Ln) (hcs : cells + 1 ≤ 601024) (hss : slots + 6 ≤ 7293034) (kk : KK (zlg p l e s m b below meth c D ad ca) cells slots i) : zx (zlg p l e s m b below meth c D ad ca) cells slots 594 [some (.ref 600), some (.ref 512), some (.ref 540), some (.ref 580), some (.int (nI i)), z5, z6] [] d := by
  have h2k := hC.2.2.2.2.2.2.2
  refine zx_aldn hC.1 dL_law_594 rfl ?_
  refine zx_aldn hC.1 dL_law_595 rfl ?_
  refine zx_ild hC.1 dL_law_596 rfl ?_
  refine zx_icst (v := nI 1) hC.1 dL_law_598 (by decide) ?_
  refine zx_iadd hC.1 dL_law_599 ?_
  rw [nI_add]
  refine zx_sld (i + 1) hC dL_law_600 rfl (by omega) ?_
  refine zx_aldn hC.1 dL_law_601 rfl ?_
  refine zx_ild hC.1 dL_law_602 rfl ?_
  refine zx_icst (v := nI 2) hC.1 dL_law_604 (by decide) ?_
  refine zx_iadd hC.1 dL_law_605 ?_
  rw [nI_add]
  refine zx_sld (i + 2) hC dL_law_606 rfl (by omega) ?_
  refine zx_aldn hC.1 dL_law_607 rfl ?_
  refine zx_ws (as := [.ref 512, .int (xs (i + 1)), .int (xs (i + 2)), .ref 580]) (rest := []) (q := zw_event) (hh := hh_event) hC.1 ⟨Nat.le_of_ble_eq_true rfl, Nat.le_of_ble_eq_true rfl, hcs, hss⟩ rfl hC.2.1 hC.2.2.1 dL_law_608 zlw_event (List.forall_mem_cons.mpr ⟨rfl, List.forall_mem_cons.mpr ⟨rfl, List.forall_mem_cons.mpr ⟨rfl, List.forall_mem_cons.mpr ⟨rfl, fun _ h => absurd h List.not_mem_nil⟩⟩⟩⟩) (Nat.le_of_ble_eq_true rfl) (zl_event (zt_event hl h.1) (fun _ _ => cX_up)) ?_
  rintro _ d1 ⟨_, rfl, rfl, hv1, hc1, hg1⟩
  have hm1 := MS_cG h.2.1 hg1
  refine zx_ist (L' := [_, _, _, _, _, some (.int _), _]) hC.1 dL_law_611 (Nat.le_of_ble_eq_true rfl) rfl ?_
  refine zx_aldn hC.1 dL_law_613 rfl ?_
  refine zx_aldn hC.1 dL_law_614 rfl ?_
  refine zx_ild hC.1 dL_law_615 rfl ?_
  refine zx_icst (v := nI 1) hC.1 dL_law_617 (by decide) ?_
  refine zx_iadd hC.1 dL_law_618 ?_
  rw [nI_add]
  refine zx_sld (i + 1) hC dL_law_619 rfl (by omega) ?_
  refine zx_aldn hC.1 dL_law_620 rfl ?_
  refine zx_ild hC.1 dL_law_621 rfl ?_
  refine zx_icst (v := nI 2) hC.1 dL_law_623 (by decide) ?_
  refine zx_iadd hC.1 dL_law_624 ?_
  rw [nI_add]
  refine zx_sld (i + 2) hC dL_law_625 rfl (by omega) ?_
  refine zx_i2 (LC_K hC (by omega) (by omega)) dL_law_626 (zLL_118 rfl) rfl rfl rfl (Nat.le_of_ble_eq_true rfl) rfl (rp_event hm1.2.2.2) ?_
  rintro y2 d2 ⟨v2, a1, a3⟩
  have a4 : mss d1 d2 := by rw [a3]; exact mss_up0
  refine zx_ist (L' := [_, _, _, _, _, _, some (.int _)]) hC.1 dL_law_629 (Nat.le_of_ble_eq_true rfl) rfl ?_
  refine zx_aldn hC.1 dL_law_631 rfl ?_
  refine zx_i0 (LC_K hC (by omega) (by omega)) dL_law_632 (zLL_67 rfl) rfl  (Nat.le_of_ble_eq_true rfl) rfl (sm_thrown) ?_
  rintro _ d9 ⟨rfl, h9⟩
  obtain rfl := h9.symm
  refine zx_ild hC.1 dL_law_635 rfl ?_
  refine zx_cmp 642 hC.1 dL_law_637 (by decide) (fun c637 => ?_) (fun c637 => ?_)
  · simp only [ax_cn, Classical.not_not] at c637
    refine zx_ild hC.1 dL_law_642 rfl ?_
    refine zx_if 659 hC.1 dL_law_644 (by decide) (fun c644 => ?_) (fun c644 => ?_)
    · simp only [ax_cn, Classical.not_not] at c644
      refine zx_goto 706 hC.1 dL_law_659 (by decide) ?_
      exact kk _ _ _ _ _ _ _ ⟨cC_ss hc1 a4, by rw [a3]; exact MS_up0 hm1, h.2.2.1, h.2.2.2⟩
    · simp only [ax_cn, Classical.not_not] at c644
      have hz := nI_z (Nat.le_trans oE_le (by decide)) c644
      refine zx_aldn hC.1 dL_law_647 rfl ?_
      refine zx_icst (v := nI 0) hC.1 dL_law_648 (by decide) ?_
      refine zx_same hC dL_law_649 dL_law_650 rfl dL_law_652 dL_law_653 (by rw [o580s a4]; exact (hv1 hz).trans (v2 hz).symm) ?_
      -- 
      -- 
      -- 
      refine zx_if 659 hC.1 dL_law_654 (by decide) (fun c654 => ?_) (fun c654 => ?_)
      · simp only [ax_cn, Classical.not_not] at c654
        refine zx_goto 706 hC.1 dL_law_659 (by decide) ?_
        exact kk _ _ _ _ _ _ _ ⟨cC_ss hc1 a4, by rw [a3]; exact MS_up0 hm1, h.2.2.1, h.2.2.2⟩
      · simp only [ax_cn, Classical.not_not] at c654
        exact absurd trivial c654
  · simp only [ax_cn, Classical.not_not] at c637
    exact absurd a1 c637
theorem ls_again (hC : LC p l e s m b below meth c D ad ca Ln xs) (hl : l.stackTraces = false) (h : LV d S sl t es) (hi : i + 4 ≤ Ln) (hcs : cells + 1 ≤ 601024) (hss : slots + 6 ≤ 7293034) (kk : KK (zlg p l e s m b below meth c D ad ca) cells slots i) : zx (zlg p l e s m b below meth c D ad ca) cells slots 662 [some (.ref 600), some (.ref 512), some (.ref 540), some (.ref 580), some (.int (nI i)), z5, z6] [] d := by
  have h2k := hC.2.2.2.2.2.2.2
  refine zx_aldn hC.1 dL_law_662 rfl ?_
  refine zx_aldn hC.1 dL_law_663 rfl ?_
  refine zx_ws (as := [.ref 512, .ref 580]) (rest := []) (q := zw_again) (hh := hh_again) hC.1 ⟨Nat.le_of_ble_eq_true rfl, Nat.le_of_ble_eq_true rfl, hcs, hss⟩ rfl hC.2.1 hC.2.2.1 dL_law_664 zlw_again (List.forall_mem_cons.mpr ⟨rfl, List.forall_mem_cons.mpr ⟨rfl, fun _ h => absurd h List.not_mem_nil⟩⟩) (Nat.le_of_ble_eq_true rfl) (zl_again (zt_again hl h.1 h.2.2.2) (fun _ _ => cX_up)) ?_
  rintro _ d1 ⟨_, rfl, rfl, hv1, hc1, hg1⟩
  have hm1 := MS_cG h.2.1 hg1
  refine zx_ist (L' := [_, _, _, _, _, some (.int _), _]) hC.1 dL_law_667 (Nat.le_of_ble_eq_true rfl) rfl ?_
  refine zx_aldn hC.1 dL_law_669 rfl ?_
  refine zx_i0 (LC_K hC (by omega) (by omega)) dL_law_670 (zLL_121 rfl) rfl  (Nat.le_of_ble_eq_true rfl) rfl (rp_again hm1.1 hm1.2.2.2 (ELg_ev es _ _ _ h.2.2.2) h.1.2.2.2.1) ?_
  rintro y2 d2 ⟨v2, a1, a2, a3, a4⟩
  refine zx_ist (L' := [_, _, _, _, _, _, some (.int _)]) hC.1 dL_law_673 (Nat.le_of_ble_eq_true rfl) rfl ?_
  refine zx_aldn hC.1 dL_law_675 rfl ?_
  refine zx_i0 (LC_K hC (by omega) (by omega)) dL_law_676 (zLL_67 rfl) rfl  (Nat.le_of_ble_eq_true rfl) rfl (sm_thrown) ?_
  rintro _ d9 ⟨rfl, h9⟩
  obtain rfl := h9.symm
  refine zx_ild hC.1 dL_law_679 rfl ?_
  refine zx_cmp 686 hC.1 dL_law_681 (by decide) (fun c681 => ?_) (fun c681 => ?_)
  · simp only [ax_cn, Classical.not_not] at c681
    refine zx_ild hC.1 dL_law_686 rfl ?_
    refine zx_if 703 hC.1 dL_law_688 (by decide) (fun c688 => ?_) (fun c688 => ?_)
    · simp only [ax_cn, Classical.not_not] at c688
      refine zx_goto 706 hC.1 dL_law_703 (by decide) ?_
      exact kk _ _ _ _ _ _ _ ⟨cC_wx hc1 a4, MS_wx hm1 a2 a3 a4, WI_oZ h.2.2.1 (ELg_ev es _ _ _ h.2.2.2), h.2.2.2⟩
    · simp only [ax_cn, Classical.not_not] at c688
      have hz := nI_z (Nat.le_trans oZ_le (by decide)) c688
      refine zx_aldn hC.1 dL_law_691 rfl ?_
      refine zx_icst (v := nI 0) hC.1 dL_law_692 (by decide) ?_
      refine zx_same hC dL_law_693 dL_law_694 rfl dL_law_696 dL_law_697 (by rw [o580 a4]; exact (hv1 hz).trans (v2 hz).symm) ?_
      -- 
      -- 
      -- 
      refine zx_if 703 hC.1 dL_law_698 (by decide) (fun c698 => ?_) (fun c698 => ?_)
      · simp only [ax_cn, Classical.not_not] at c698
        refine zx_goto 706 hC.1 dL_law_703 (by decide) ?_
        exact kk _ _ _ _ _ _ _ ⟨cC_wx hc1 a4, MS_wx hm1 a2 a3 a4, WI_oZ h.2.2.1 (ELg_ev es _ _ _ h.2.2.2), h.2.2.2⟩
      · simp only [ax_cn, Classical.not_not] at c698
        exact absurd trivial c698
  · simp only [ax_cn, Classical.not_not] at c681
    exact absurd a1 c681
end ST
