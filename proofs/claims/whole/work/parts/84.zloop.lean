/-! THE LAW'S LOOP. -/
section LP
variable {p : Program} {l : Launch} {e : Env} {s : State} {m : MethodId} {b : Nat} {below : List Frame} {meth : Method} {c : Code} {D : va_G} {ad : Nat → Nat} {ca : Nat → ClassId} {Ln : Nat} {xs : Nat → Int32} {cells slots i : Nat} {d : ax_D} {L : ax_L1} {r : List Value}
theorem zx_tabI {x : Int32} {off : Int} {tgt : Nat} {offs : Array Int} {dflt lo hi : Int} {len : Nat} (hC : LC p l e s m b below meth c D ad ca Ln xs) (h : decode cL_law 39 = .ok (.tableswitch dflt lo hi offs, len)) (h1 : ¬ x.toInt < lo) (h2 : ¬ hi < x.toInt) (ho : offs[(x.toInt - lo).toNat]? = some off) (ht : ((39 : Nat) : Int) + off = (tgt : Int)) (kk : zx (zlg p l e s m b below meth c D ad ca) cells slots tgt L r d) : zx (zlg p l e s m b below meth c D ad ca) cells slots 39 L (.int x :: r) d :=
  fun H locs ls hP hD hS hL hl => lv_tableIn hC.1.1 hC.1.2.1 h h1 h2 ho ht (kk H locs ls hP hD hS hL hl)
theorem zx_tabO {x : Int32} {tgt : Nat} {offs : Array Int} {dflt lo hi : Int} {len : Nat} (hC : LC p l e s m b below meth c D ad ca Ln xs) (h : decode cL_law 39 = .ok (.tableswitch dflt lo hi offs, len)) (h1 : x.toInt < lo ∨ hi < x.toInt) (ht : ((39 : Nat) : Int) + dflt = (tgt : Int)) (kk : zx (zlg p l e s m b below meth c D ad ca) cells slots tgt L r d) : zx (zlg p l e s m b below meth c D ad ca) cells slots 39 L (.int x :: r) d :=
  fun H locs ls hP hD hS hL hl => lv_tableOut hC.1.1 hC.1.2.1 h h1 ht (kk H locs ls hP hD hS hL hl)
theorem law_loop (hC : LC p l e s m b below meth c D ad ca Ln xs) (hl : l.stackTraces = false) : ∀ (n i cells slots : Nat) (z5 z6 : Option Value) (d : ax_D) (S : WS) (sl : List Nat) (t : Nat) (es : List Ev), Ln < i + 4 * n + 4 → i ≤ Ln + 4 → cells + n ≤ 601024 → slots + 6 * n ≤ 7293034 → LV d S sl t es → zx (zlg p l e s m b below meth c D ad ca) cells slots 23 [some (.ref 600), some (.ref 512), some (.ref 540), some (.ref 580), some (.int (nI i)), z5, z6] [] d := by
  have h2k := hC.2.2.2.2.2.2.2
  intro n
  induction n with
  | zero =>
    intro i cells slots z5 z6 d S sl t es h1 h2 h3 h4 h
    refine zx_ild hC.1 dL_law_23 rfl ?_
    refine zx_aldn hC.1 dL_law_25 rfl ?_
    refine zx_slen hC dL_law_26 ?_
    refine zx_icst (v := nI 4) hC.1 dL_law_27 (by decide) ?_
    refine zx_isub hC.1 dL_law_28 ?_
    refine zx_cmp 712 hC.1 dL_law_29 (by decide) (fun c29 => ?_) (fun c29 => ?_)
    · exact zx_end hC (by omega) (by omega)
    · simp only [ax_cn, Classical.not_not] at c29
      exact absurd ((law_le h2k (by omega)).mpr (by omega)) c29
  | succ n ih =>
    intro i cells slots z5 z6 d S sl t es h1 h2 h3 h4 h
    refine zx_ild hC.1 dL_law_23 rfl ?_
    refine zx_aldn hC.1 dL_law_25 rfl ?_
    refine zx_slen hC dL_law_26 ?_
    refine zx_icst (v := nI 4) hC.1 dL_law_27 (by decide) ?_
    refine zx_isub hC.1 dL_law_28 ?_
    refine zx_cmp 712 hC.1 dL_law_29 (by decide) (fun c29 => ?_) (fun c29 => ?_)
    · exact zx_end hC (by omega) (by omega)
    · simp only [ax_cn, Classical.not_not] at c29
      have hi : i + 4 ≤ Ln := by
        have : ¬ Ln < i + 4 := fun q => c29 ((law_le h2k (by omega)).mpr q)
        omega
      have kk : KK (zlg p l e s m b below meth c D ad ca) cells slots i := fun z5 z6 d1 S1 sl1 t1 es1 hV => by
        refine zx_iinc (v := nI (i + 4)) (L' := [_, _, _, _, some (.int _), _, _]) hC.1 dL_law_706 rfl (nI_add i 4) rfl ?_
        refine zx_goto 23 hC.1 dL_law_709 (by decide) ?_
        exact ih (i + 4) (cells + 1) (slots + 6) z5 z6 d1 S1 sl1 t1 es1 (by omega) (by omega) (by omega) (by omega) hV
      have hcs : cells + 1 ≤ 601024 := by omega
      have hss : slots + 6 ≤ 7293034 := by omega
      refine zx_aldn hC.1 dL_law_32 rfl ?_
      refine zx_ild hC.1 dL_law_33 rfl ?_
      refine zx_sld i hC dL_law_35 rfl (by omega) ?_
      refine zx_bpsh (v := nI 15) hC.1 dL_law_36 (by decide) ?_
      refine zx_iand hC.1 dL_law_38 ?_
      obtain ⟨k, hk, hx⟩ := and15 (xs i)
      rw [hx]
      match k, hk with
      | 0, _ => exact zx_tabI (off := 73) (tgt := 112) hC dL_law_39 (by decide) (by decide) (by decide) (by decide) (ls_open hC hl h hi hcs hss kk)
      | 1, _ => exact zx_tabI (off := 121) (tgt := 160) hC dL_law_39 (by decide) (by decide) (by decide) (by decide) (ls_attribute hC hl h hi hcs hss kk)
      | 2, _ => exact zx_tabI (off := 181) (tgt := 220) hC dL_law_39 (by decide) (by decide) (by decide) (by decide) (ls_text hC hl h hi hcs hss kk)
      | 3, _ => exact zx_tabI (off := 217) (tgt := 256) hC dL_law_39 (by decide) (by decide) (by decide) (by decide) (ls_close hC hl h hi hcs hss kk)
      | 4, _ => exact zx_tabI (off := 261) (tgt := 300) hC dL_law_39 (by decide) (by decide) (by decide) (by decide) (ls_clear hC hl h hi hcs hss kk)
      | 5, _ => exact zx_tabI (off := 272) (tgt := 311) hC dL_law_39 (by decide) (by decide) (by decide) (by decide) (ls_written hC hl h hi hcs hss kk)
      | 6, _ => exact zx_tabI (off := 285) (tgt := 324) hC dL_law_39 (by decide) (by decide) (by decide) (by decide) (ls_keep hC hl h hi hcs hss kk)
      | 7, _ => exact zx_tabI (off := 298) (tgt := 337) hC dL_law_39 (by decide) (by decide) (by decide) (by decide) (ls_push hC hl h hi hcs hss kk)
      | 8, _ => exact zx_tabI (off := 370) (tgt := 409) hC dL_law_39 (by decide) (by decide) (by decide) (by decide) (ls_bit hC hl h hi hcs hss kk)
      | 9, _ => exact zx_tabI (off := 426) (tgt := 465) hC dL_law_39 (by decide) (by decide) (by decide) (by decide) (ls_flip hC hl h hi hcs hss kk)
      | 10, _ => exact zx_tabI (off := 462) (tgt := 501) hC dL_law_39 (by decide) (by decide) (by decide) (by decide) (ls_cut hC hl h hi hcs hss kk)
      | 11, _ => exact zx_tabI (off := 498) (tgt := 537) hC dL_law_39 (by decide) (by decide) (by decide) (by decide) (ls_read hC hl h hi hcs hss kk)
      | 12, _ => exact zx_tabI (off := 542) (tgt := 581) hC dL_law_39 (by decide) (by decide) (by decide) (by decide) (ls_taken hC hl h hi hcs hss kk)
      | 13, _ => exact zx_tabI (off := 555) (tgt := 594) hC dL_law_39 (by decide) (by decide) (by decide) (by decide) (ls_event hC hl h hi hcs hss kk)
      | 14, _ => exact zx_tabI (off := 623) (tgt := 662) hC dL_law_39 (by decide) (by decide) (by decide) (by decide) (ls_again hC hl h hi hcs hss kk)
      | 15, _ => exact zx_tabO (tgt := 706) hC dL_law_39 (Or.inr (by decide)) (by decide) (zx_widen (Nat.le_succ _) (by omega) (kk _ _ _ _ _ _ _ h))
      | k + 16, h => exact absurd h (by omega)
end LP
