/-! THE REFERENCE: values, codes, room. -/
/-- what a code is told by, where 'r' is its place -/
def cb (T : TT) (f : Bool) (k kind : Nat) (r : Option Nat) : List Nat := match r with
  | some p => pb (wd (cho T f k)) p
  | none => if f = true ∧ kind = 4 then pb (wd (cho T f k)) (T 7 k).length else sKi T f k kind
def lk (T : TT) (sp lo : Nat) : Bool := match fi (T 0 0) sp with
  | none => decide ((T 0 0).length = 6) || decide ((T 4 0).length = 20)
  | some p => (((fi (T 1 p) lo).isNone && decide ((T 1 p).length = 10)) || ((fn T sp lo).isNone && decide ((T 4 0).length = 20)))
section M7
variable {d : ax_D} {l : List Nat} {T : TT} {m n : Nat} {nm : Nat → Nat} {fl : Nat → Bool} {b : Bool}
theorem mpv_end {x3 : Int32} {n v : Nat} (h : mt_is d 0 T) (hm : mb_is d l) (hL : LB T) (hb : TB T) (hn : n < (T 4 0).length) (hv : v < tB) (hl : l.length + 60 ≤ 4000) (h2 : fi (T 2 n) v = none) (h3 : fi (T 3 0) v = none) : ax_W 107 94 [some (.ref 540), some (.int (nI n)), some (.int (nI v)), some (.int x3)] [] d (ax_Pv fun d1 => mt_is d1 0 (sVa T n v).2 ∧ mb_is d1 (l ++ (sVa T n v).1) ∧ mwf d d1) := by
  have hn20 : n < 20 := Nat.lt_of_lt_of_le hn (lb4 hL)
  have l2 := lb2 hL hn20
  have l3 := lb3 hL
  have hn0 := nb_len 0
  have hn1 := nb_len 1
  have hn8 := nb_len (cl v + 2)
  have hc5 := cl_le v
  refine wx_aldn j107_94 rfl ?_
  refine wx_ildn j107_95 rfl ?_
  refine wx_t1 j107_96 rfl rfl (Nat.le_of_ble_eq_true rfl) (sm_lettersT hv) ?_
  rintro _ d9 ⟨rfl, h9⟩
  obtain rfl := h9.symm
  refine wx_icst (v := nI 2) j107_99 (by decide) ?_
  refine wx_iadd j107_100 ?_
  rw [nI_add]
  refine wx_v1 j107_101 rfl rfl (Nat.le_of_ble_eq_true rfl) rfl (sm_putNumber hm (by omega) (by omega)) ?_
  rintro d1 ⟨b1, f1⟩
  refine wx_aldn j107_104 rfl ?_
  refine wx_ildn j107_105 rfl ?_
  refine wx_v1 j107_106 rfl rfl (Nat.le_of_ble_eq_true rfl) rfl (sm_putLetters b1 hv (by rw [List.length_append]; omega)) ?_
  rintro d2 ⟨b2, f2⟩
  rw [List.append_assoc] at b2
  refine wx_aldn j107_109 rfl ?_
  refine wx_icst (v := nI 0) j107_110 (by decide) ?_
  refine wx_ildn j107_111 rfl ?_
  refine wx_ildn j107_112 rfl ?_
  refine wx_v3 j107_113 rfl rfl rfl rfl (Nat.le_of_ble_eq_true rfl) rfl (sm_addValue (c := 0) (by decide) (mt_bf (mt_bf h f1) f2) hL hn hv) ?_
  rintro d3 ⟨t3, f3⟩
  refine wx_rv j107_116 rfl ?_
  have e : sVa T n v = (nb (cl v + 2) ++ lts v, tav T n v) := by unfold sVa; rw [h2, h3]
  rw [e]
  exact ⟨t3, mb_mq b2 f3, mwf_tr (mwf_tr (mwf_bf f1) (mwf_bf f2)) (mwf_mq f3)⟩
theorem mpv_l3 {n v : Nat} (h : mt_is d 0 T) (hm : mb_is d l) (hL : LB T) (hb : TB T) (hn : n < (T 4 0).length) (hv : v < tB) (hl : l.length + 60 ≤ 4000) (h2 : fi (T 2 n) v = none) : ∀ g i, (T 3 0).length - i < g → i ≤ (T 3 0).length → (∀ j, j < i → (T 3 0).getD j 0 ≠ v) → ax_W 107 51 [some (.ref 540), some (.int (nI n)), some (.int (nI v)), some (.int (nI i))] [] d (ax_Pv fun d1 => mt_is d1 0 (sVa T n v).2 ∧ mb_is d1 (l ++ (sVa T n v).1) ∧ mwf d d1) := by
  have hn20 : n < 20 := Nat.lt_of_lt_of_le hn (lb4 hL)
  have l2 := lb2 hL hn20
  have l3 := lb3 hL
  have hn0 := nb_len 0
  have hn1 := nb_len 1
  have hn8 := nb_len (cl v + 2)
  have hc5 := cl_le v
  intro g
  induction g with
  | zero => intro i h0; omega
  | succ g ih =>
    intro i h0 hi hno
    refine wx_ildn j107_51 rfl ?_
    refine wx_aldn j107_52 rfl ?_
    refine wx_get (v := .ref 551) j107_53 rfl (Nat.le_of_ble_eq_true rfl) rfl ?_
    refine wx_icst (v := nI 0) j107_56 (by decide) ?_
    refine wx_ialx (0) j107_57 rfl rfl (by decide) (by decide) ?_
    rw [(mt0_a h).1]
    refine wx_cmp 94 j107_58 (by decide) (fun c58 => ?_) (fun c58 => ?_)
    · simp only [ax_cn, Classical.not_not] at c58
      have hil : i = (T 3 0).length := Nat.le_antisymm hi ((nI_leI (by omega) (by omega)).mp c58)
      exact mpv_end h hm hL hb hn hv hl h2 (fi_no (by rw [← hil]; exact hno))
    · simp only [ax_cn, Classical.not_not] at c58
      have hil : i < (T 3 0).length := Nat.not_le.mp (fun q => c58 ((nI_leI (by omega) (by omega)).mpr q))
      refine wx_aldn j107_61 rfl ?_
      refine wx_get (v := .ref 552) j107_62 rfl (Nat.le_of_ble_eq_true rfl) rfl ?_
      refine wx_ildn j107_65 rfl ?_
      refine wx_ialx (i) j107_66 rfl rfl (by omega) (by decide) ?_
      refine wx_ildn j107_67 rfl ?_
      rw [(mt0_a h).2 i hil]
      refine wx_cmp 88 j107_68 (by decide) (fun c68 => ?_) (fun c68 => ?_)
      · simp only [ax_cn, Classical.not_not] at c68
        have hne : (T 3 0).getD i 0 ≠ v := fun q => c68 (by rw [q])
        refine wx_iinc (v := nI (i + 1)) (L' := [_, _, _, some (.int _)]) j107_88 rfl (nI_1 i) rfl ?_
        refine wx_goto 51 j107_91 (by decide) ?_
        exact ih (i + 1) (by omega) (by omega) (lt_s hno hne)
      · simp only [ax_cn, Classical.not_not] at c68
        have heq : (T 3 0).getD i 0 = v := (nI_eq (tB_lt (hb 3 0 _ (getD_mem hil))) (tB_lt hv)).mp c68
        refine wx_aldn j107_71 rfl ?_
        refine wx_icst (v := nI 1) j107_72 (by decide) ?_
        refine wx_v1 j107_73 rfl rfl (Nat.le_of_ble_eq_true rfl) rfl (sm_putNumber hm (by decide) (by omega)) ?_
        rintro d1 ⟨b1, f1⟩
        have t1 := mt_bf h f1
        refine wx_aldn j107_76 rfl ?_
        refine wx_ildn j107_77 rfl ?_
        refine wx_aldn j107_78 rfl ?_
        refine wx_get (v := .ref 551) j107_79 rfl (Nat.le_of_ble_eq_true rfl) rfl ?_
        refine wx_icst (v := nI 0) j107_82 (by decide) ?_
        refine wx_ialx (0) j107_83 rfl rfl (by decide) (by decide) ?_
        rw [(mt0_a t1).1]
        refine wx_v2 j107_84 rfl rfl rfl (Nat.le_of_ble_eq_true rfl) rfl (sm_putPlace b1 (by omega) (by omega) (by rw [List.length_append]; omega)) ?_
        rintro d2 ⟨b2, f2⟩
        rw [List.append_assoc] at b2
        refine wx_rv j107_87 rfl ?_
        have e : sVa T n v = (nb 1 ++ pb (wd (T 3 0).length) i, T) := by unfold sVa; rw [h2, fi_of hil heq hno]
        rw [e]
        exact ⟨mt_bf t1 f2, b2, mwf_tr (mwf_bf f1) (mwf_bf f2)⟩
theorem mpv_l2 {n v : Nat} (h : mt_is d 0 T) (hm : mb_is d l) (hL : LB T) (hb : TB T) (hn : n < (T 4 0).length) (hv : v < tB) (hl : l.length + 60 ≤ 4000) : ∀ g i, (T 2 n).length - i < g → i ≤ (T 2 n).length → (∀ j, j < i → (T 2 n).getD j 0 ≠ v) → ax_W 107 2 [some (.ref 540), some (.int (nI n)), some (.int (nI v)), some (.int (nI i))] [] d (ax_Pv fun d1 => mt_is d1 0 (sVa T n v).2 ∧ mb_is d1 (l ++ (sVa T n v).1) ∧ mwf d d1) := by
  have hn20 : n < 20 := Nat.lt_of_lt_of_le hn (lb4 hL)
  have l2 := lb2 hL hn20
  have l3 := lb3 hL
  have hn0 := nb_len 0
  have hn1 := nb_len 1
  have hn8 := nb_len (cl v + 2)
  have hc5 := cl_le v
  intro g
  induction g with
  | zero => intro i h0; omega
  | succ g ih =>
    intro i h0 hi hno
    refine wx_ildn j107_2 rfl ?_
    refine wx_aldn j107_3 rfl ?_
    refine wx_get (v := .ref 549) j107_4 rfl (Nat.le_of_ble_eq_true rfl) rfl ?_
    refine wx_ildn j107_7 rfl ?_
    refine wx_ialx (n) j107_8 rfl rfl (by omega) (by decide) ?_
    rw [(mt0_v h hn).1]
    refine wx_cmp 49 j107_9 (by decide) (fun c9 => ?_) (fun c9 => ?_)
    · simp only [ax_cn, Classical.not_not] at c9
      have hil : i = (T 2 n).length := Nat.le_antisymm hi ((nI_leI (by omega) (by omega)).mp c9)
      refine wx_icst (v := nI 0) j107_49 (by decide) ?_
      refine wx_istn (L' := [_, _, _, some (.int _)]) j107_50 (Nat.le_of_ble_eq_true rfl) rfl ?_
      exact mpv_l3 h hm hL hb hn hv hl (fi_no (by rw [← hil]; exact hno)) ((T 3 0).length + 1) 0 (by omega) (Nat.zero_le _) (fun j hj => absurd hj (Nat.not_lt_zero j))
    · simp only [ax_cn, Classical.not_not] at c9
      have hil : i < (T 2 n).length := Nat.not_le.mp (fun q => c9 ((nI_leI (by omega) (by omega)).mpr q))
      refine wx_aldn j107_12 rfl ?_
      refine wx_get (v := .ref 550) j107_13 rfl (Nat.le_of_ble_eq_true rfl) rfl ?_
      refine wx_icst (v := nI 5) j107_16 (by decide) ?_
      refine wx_ildn j107_17 rfl ?_
      refine wx_imul j107_18 ?_
      rw [pk_mul]
      refine wx_ildn j107_19 rfl ?_
      refine wx_iadd j107_20 ?_
      rw [nI_add]
      refine wx_ialx (5 * n + i) j107_21 rfl rfl (by omega) (by decide) ?_
      refine wx_ildn j107_22 rfl ?_
      rw [(mt0_v h hn).2 i hil]
      refine wx_cmp 43 j107_23 (by decide) (fun c23 => ?_) (fun c23 => ?_)
      · simp only [ax_cn, Classical.not_not] at c23
        have hne : (T 2 n).getD i 0 ≠ v := fun q => c23 (by rw [q])
        refine wx_iinc (v := nI (i + 1)) (L' := [_, _, _, some (.int _)]) j107_43 rfl (nI_1 i) rfl ?_
        refine wx_goto 2 j107_46 (by decide) ?_
        exact ih (i + 1) (by omega) (by omega) (lt_s hno hne)
      · simp only [ax_cn, Classical.not_not] at c23
        have heq : (T 2 n).getD i 0 = v := (nI_eq (tB_lt (hb 2 n _ (getD_mem hil))) (tB_lt hv)).mp c23
        refine wx_aldn j107_26 rfl ?_
        refine wx_icst (v := nI 0) j107_27 (by decide) ?_
        refine wx_v1 j107_28 rfl rfl (Nat.le_of_ble_eq_true rfl) rfl (sm_putNumber hm (by decide) (by omega)) ?_
        rintro d1 ⟨b1, f1⟩
        have t1 := mt_bf h f1
        refine wx_aldn j107_31 rfl ?_
        refine wx_ildn j107_32 rfl ?_
        refine wx_aldn j107_33 rfl ?_
        refine wx_get (v := .ref 549) j107_34 rfl (Nat.le_of_ble_eq_true rfl) rfl ?_
        refine wx_ildn j107_37 rfl ?_
        refine wx_ialx (n) j107_38 rfl rfl (by omega) (by decide) ?_
        rw [(mt0_v t1 hn).1]
        refine wx_v2 j107_39 rfl rfl rfl (Nat.le_of_ble_eq_true rfl) rfl (sm_putPlace b1 (by omega) (by omega) (by rw [List.length_append]; omega)) ?_
        rintro d2 ⟨b2, f2⟩
        rw [List.append_assoc] at b2
        refine wx_rv j107_42 rfl ?_
        have e : sVa T n v = (nb 0 ++ pb (wd (T 2 n).length) i, T) := by unfold sVa; rw [fi_of hil heq hno]
        rw [e]
        exact ⟨mt_bf t1 f2, b2, mwf_tr (mwf_bf f1) (mwf_bf f2)⟩
theorem sm_putValue {n v : Nat} (h : mt_is d 0 T) (hm : mb_is d l) (hL : LB T) (hb : TB T) (hn : n < (T 4 0).length) (hv : v < tB) (hl : l.length + 60 ≤ 4000) : ax_E 107 [.ref 540, .int (nI n), .int (nI v)] d (ax_Pv fun d1 => mt_is d1 0 (sVa T n v).2 ∧ mb_is d1 (l ++ (sVa T n v).1) ∧ mwf d d1) := by
  show ax_W 107 0 [some (.ref 540), some (.int (nI n)), some (.int (nI v)), none] [] d _
  refine wx_icst (v := nI 0) j107_0 (by decide) ?_
  refine wx_istn (L' := [_, _, _, some (.int _)]) j107_1 (Nat.le_of_ble_eq_true rfl) rfl ?_
  exact mpv_l2 h hm hL hb hn hv hl ((T 2 n).length + 1) 0 (by omega) (Nat.zero_le _) (fun j hj => absurd hj (Nat.not_lt_zero j))
theorem mpc_end {k kind j : Nat} {x xr : Int32} {r : Option Nat} (hm : mb_is d l) (hk4 : kind = 1 ∨ kind = 2 ∨ kind = 3 ∨ kind = 4) (hj : (j = 0 ∧ fl m = false) ∨ (j = 1 ∧ fl m = true ∧ kind ≠ 2)) (hlen : (T (6 + j) k).length ≤ 12) (hr : ∀ p, r = some p → p < (T (6 + j) k).length) (hl : l.length + 10 ≤ 4000) : ax_W 108 44 [some (.ref 540), some (.int x), some (.int (nI (k4 kind))), some (.int xr), some (.int (nI (T (6 + j) k).length)), some (.int (nI j)), some (.int (oi r))] [] d (ax_Pi fun y d1 => y = bB r.isSome ∧ mb_is d1 (l ++ cb T (fl m) k kind r) ∧ mbf d d1) := by
  have hk44 : k4 kind < 4 := by unfold k4; (repeat' split) <;> omega
  rcases hj with ⟨rfl, hfm⟩ | ⟨rfl, hfm, hk2⟩
  · have hch : cho T (fl m) k = (T 6 k).length + 1 := by rw [hfm]; rfl
    rw [show 6 + 0 = 6 from rfl] at hlen hr ⊢
    refine wx_ild j108_44 rfl ?_
    refine wx_if 70 j108_46 (by decide) (fun c46 => ?_) (fun c46 => ?_)
    · simp only [ax_cn, Classical.not_not] at c46
      have hrn : r = none := oi_ltL c46 (fun i hi => by have := hr i hi; omega)
      subst hrn
      refine wx_ild j108_70 rfl ?_
      refine wx_if 94 j108_72 (by decide) (fun c72 => ?_) (fun c72 => ?_)
      · simp only [ax_cn, Classical.not_not] at c72
        exact absurd rfl c72
      · simp only [ax_cn, Classical.not_not] at c72
        refine wx_aldn j108_75 rfl ?_
        refine wx_ild j108_76 rfl ?_
        refine wx_ild j108_78 rfl ?_
        refine wx_icst (v := nI 1) j108_80 (by decide) ?_
        refine wx_iadd j108_81 ?_
        rw [nI_add]
        refine wx_v2 j108_82 rfl rfl rfl (Nat.le_of_ble_eq_true rfl) rfl (sm_putPlace hm (by omega) (by omega) (by omega)) ?_
        rintro d1 ⟨b1, f1⟩
        refine wx_aldn j108_85 rfl ?_
        refine wx_ildn j108_86 rfl ?_
        refine wx_icst (v := nI 4) j108_87 (by decide) ?_
        refine wx_v2 j108_88 rfl rfl rfl (Nat.le_of_ble_eq_true rfl) rfl (sm_putPlace (m := 4) b1 (by omega) (by decide) (by have := pb_l5 ((T 6 k).length + 1) (T 6 k).length; rw [List.length_append]; omega)) ?_
        rintro d2 ⟨b2, f2⟩
        rw [List.append_assoc] at b2
        refine wx_goto 131 j108_91 (by decide) ?_
        refine wx_icst (v := nI 0) j108_131 (by decide) ?_
        refine wx_ri j108_132 rfl rfl ?_
        refine ⟨rfl, ?_, mbf_tr f1 f2⟩
        have e : cb T (fl m) k kind none = pb (wd ((T 6 k).length + 1)) (T 6 k).length ++ pb 2 (k4 kind) := by
          unfold cb sKi
          simp only [hch]
          rw [if_neg (fun q => by rw [hfm] at q; cases q.1), hfm, if_neg (by decide)]
          rfl
        rw [e]
        exact b2
    · simp only [ax_cn, Classical.not_not] at c46
      obtain ⟨q, rfl⟩ := oi_geL c46
      have hq := hr q rfl
      simp only [oi]
      refine wx_aldn j108_49 rfl ?_
      refine wx_ild j108_50 rfl ?_
      refine wx_ild j108_52 rfl ?_
      refine wx_ild j108_54 rfl ?_
      refine wx_if 63 j108_56 (by decide) (fun c56 => ?_) (fun c56 => ?_)
      · simp only [ax_cn, Classical.not_not] at c56
        refine wx_icst (v := nI 1) j108_63 (by decide) ?_
        refine wx_iadd j108_64 ?_
        rw [nI_add]
        refine wx_v2 j108_65 rfl rfl rfl (Nat.le_of_ble_eq_true rfl) rfl (sm_putPlace hm (by omega) (by omega) (by omega)) ?_
        rintro d1 ⟨b1, f1⟩
        refine wx_icst (v := nI 1) j108_68 (by decide) ?_
        refine wx_ri j108_69 rfl rfl ?_
        refine ⟨rfl, ?_, f1⟩
        unfold cb
        rw [hch]
        exact b1
      · simp only [ax_cn, Classical.not_not] at c56
        exact absurd rfl c56
  · have hch : cho T (fl m) k = (T 7 k).length + 2 := by rw [hfm]; rfl
    rw [show 6 + 1 = 7 from rfl] at hlen hr ⊢
    refine wx_ild j108_44 rfl ?_
    refine wx_if 70 j108_46 (by decide) (fun c46 => ?_) (fun c46 => ?_)
    · simp only [ax_cn, Classical.not_not] at c46
      have hrn : r = none := oi_ltL c46 (fun i hi => by have := hr i hi; omega)
      subst hrn
      refine wx_ild j108_70 rfl ?_
      refine wx_if 94 j108_72 (by decide) (fun c72 => ?_) (fun c72 => ?_)
      · simp only [ax_cn, Classical.not_not] at c72
        refine wx_ildn j108_94 rfl ?_
        refine wx_if 111 j108_95 (by decide) (fun c95 => ?_) (fun c95 => ?_)
        · simp only [ax_cn, Classical.not_not] at c95
          have hk0 : ¬ kind = 4 := fun q => c95 (by rw [q]; rfl)
          refine wx_aldn j108_111 rfl ?_
          refine wx_ild j108_112 rfl ?_
          refine wx_icst (v := nI 1) j108_114 (by decide) ?_
          refine wx_iadd j108_115 ?_
          rw [nI_add]
          refine wx_ild j108_116 rfl ?_
          refine wx_icst (v := nI 2) j108_118 (by decide) ?_
          refine wx_iadd j108_119 ?_
          rw [nI_add]
          refine wx_v2 j108_120 rfl rfl rfl (Nat.le_of_ble_eq_true rfl) rfl (sm_putPlace hm (by omega) (by omega) (by omega)) ?_
          rintro d1 ⟨b1, f1⟩
          have hs2 : nI (k4 kind) - nI 2 = nI (if kind = 1 then 0 else 1) := by
            rcases hk4 with q | q | q | q
            · subst q; rfl
            · exact absurd q hk2
            · subst q; rfl
            · exact absurd q hk0
          refine wx_aldn j108_123 rfl ?_
          refine wx_ildn j108_124 rfl ?_
          refine wx_icst (v := nI 2) j108_125 (by decide) ?_
          refine wx_isub j108_126 ?_
          rw [hs2]
          refine wx_icst (v := nI 2) j108_127 (by decide) ?_
          refine wx_v2 j108_128 rfl rfl rfl (Nat.le_of_ble_eq_true rfl) rfl (sm_putPlace (m := 2) b1 (by split <;> decide) (by decide) (by have := pb_l5 ((T 7 k).length + 2) ((T 7 k).length + 1); rw [List.length_append]; omega)) ?_
          rintro d2 ⟨b2, f2⟩
          rw [List.append_assoc] at b2
          refine wx_icst (v := nI 0) j108_131 (by decide) ?_
          refine wx_ri j108_132 rfl rfl ?_
          refine ⟨rfl, ?_, mbf_tr f1 f2⟩
          have e : cb T (fl m) k kind none = pb (wd ((T 7 k).length + 2)) ((T 7 k).length + 1) ++ pb 1 (if kind = 1 then 0 else 1) := by
            unfold cb sKi
            simp only [hch]
            rw [if_neg (fun q => hk0 q.2), hfm, if_pos rfl]
            rfl
          rw [e]
          exact b2
        · simp only [ax_cn, Classical.not_not] at c95
          have hk0 : kind = 4 := by
            rcases hk4 with q | q | q | q
            · subst q; exact absurd c95 (by decide)
            · exact absurd q hk2
            · subst q; exact absurd c95 (by decide)
            · exact q
          refine wx_aldn j108_98 rfl ?_
          refine wx_ild j108_99 rfl ?_
          refine wx_ild j108_101 rfl ?_
          refine wx_icst (v := nI 2) j108_103 (by decide) ?_
          refine wx_iadd j108_104 ?_
          rw [nI_add]
          refine wx_v2 j108_105 rfl rfl rfl (Nat.le_of_ble_eq_true rfl) rfl (sm_putPlace hm (by omega) (by omega) (by omega)) ?_
          rintro d1 ⟨b1, f1⟩
          refine wx_goto 131 j108_108 (by decide) ?_
          refine wx_icst (v := nI 0) j108_131 (by decide) ?_
          refine wx_ri j108_132 rfl rfl ?_
          refine ⟨rfl, ?_, f1⟩
          have e : cb T (fl m) k kind none = pb (wd ((T 7 k).length + 2)) (T 7 k).length := by
            unfold cb
            simp only [hch]
            rw [if_pos ⟨hfm, hk0⟩]
          rw [e]
          exact b1
      · simp only [ax_cn, Classical.not_not] at c72
        exact absurd c72 (by decide)
    · simp only [ax_cn, Classical.not_not] at c46
      obtain ⟨q, rfl⟩ := oi_geL c46
      have hq := hr q rfl
      simp only [oi]
      refine wx_aldn j108_49 rfl ?_
      refine wx_ild j108_50 rfl ?_
      refine wx_ild j108_52 rfl ?_
      refine wx_ild j108_54 rfl ?_
      refine wx_if 63 j108_56 (by decide) (fun c56 => ?_) (fun c56 => ?_)
      · simp only [ax_cn, Classical.not_not] at c56
        exact absurd c56 (by decide)
      · simp only [ax_cn, Classical.not_not] at c56
        refine wx_icst (v := nI 2) j108_59 (by decide) ?_
        refine wx_goto 64 j108_60 (by decide) ?_
        refine wx_iadd j108_64 ?_
        rw [nI_add]
        refine wx_v2 j108_65 rfl rfl rfl (Nat.le_of_ble_eq_true rfl) rfl (sm_putPlace hm (by omega) (by omega) (by omega)) ?_
        rintro d1 ⟨b1, f1⟩
        refine wx_icst (v := nI 1) j108_68 (by decide) ?_
        refine wx_ri j108_69 rfl rfl ?_
        refine ⟨rfl, ?_, f1⟩
        unfold cb
        rw [hch]
        exact b1
theorem kj_j {f : Bool} {j : Nat} (h : (if f then 1 else 0) = j) : kj f = 6 + j ∧ j < 2 := by
  subst h
  cases f <;> exact ⟨rfl, by decide⟩
theorem sm_putCodeN {kind : Nat} (hg : mg_is d 0 (m + 1) nm fl b) (h : mt_is d 0 T) (hL : LB T) (hnm : nm m < (T 4 0).length) (hb : ∀ e, e ∈ T (kj (fl m)) (nm m) → e < 1000) (hm : mb_is d l) (hk4 : kind = 1 ∨ kind = 2 ∨ kind = 3 ∨ kind = 4) (hk2 : fl m = true → kind ≠ 2) (hl : l.length + 10 ≤ 4000) : ax_E 108 [.ref 540, .int (-1), .int (nI (k4 kind))] d (ax_Pi fun y d1 => y = bB (none : Option Nat).isSome ∧ mb_is d1 (l ++ cb T (fl m) (nm m) kind none) ∧ mbf d d1) := by
  show ax_W 108 0 [some (.ref 540), some (.int (-1)), some (.int (nI (k4 kind))), none, none, none, none] [] d _
  have l4 := lb4 hL
  obtain ⟨j, hj⟩ : ∃ j : Nat, (if fl m then 1 else 0) = j := ⟨_, rfl⟩
  obtain ⟨hkj, hj2⟩ := kj_j hj
  have l6 := lb6 hL hj2 (show nm m < 20 by omega)
  have hrm : (40 * 0 + 2 * nm m + j) % 2 = j := by omega
  refine wx_aldn j108_0 rfl ?_
  refine wx_icst (v := nI 0) j108_1 (by decide) ?_
  refine wx_i1 j108_2 rfl rfl (Nat.le_of_ble_eq_true rfl) rfl (sm_rowOf (c := 0) (by decide) hg) ?_
  rintro _ d9 ⟨rfl, h9⟩
  obtain rfl := h9.symm
  rw [hj]
  refine wx_istn (L' := [_, _, _, some (.int _), _, _, _]) j108_5 (Nat.le_of_ble_eq_true rfl) rfl ?_
  refine wx_aldn j108_6 rfl ?_
  refine wx_get (v := .ref 553) j108_7 rfl (Nat.le_of_ble_eq_true rfl) rfl ?_
  refine wx_ildn j108_10 rfl ?_
  refine wx_ialx (40 * 0 + 2 * nm m + j) j108_11 rfl rfl (by omega) (by decide) ?_
  rw [(h.2.2.2.2.2 (nm m) hnm j hj2).1]
  refine wx_ist (L' := [_, _, _, _, some (.int _), _, _]) j108_12 (Nat.le_of_ble_eq_true rfl) rfl ?_
  refine wx_ildn j108_14 rfl ?_
  refine wx_icst (v := nI 2) j108_15 (by decide) ?_
  refine wx_irem j108_16 (by decide) ?_
  rw [pk_rem (by omega) (by decide) (by decide), hrm]
  refine wx_icst (v := nI 1) j108_17 (by decide) ?_
  refine wx_cmp 25 j108_18 (by decide) (fun c18 => ?_) (fun c18 => ?_)
  · simp only [ax_cn, Classical.not_not] at c18
    obtain rfl : j = 0 := by
      have : ¬ j = 1 := fun q => c18 (by rw [q])
      omega
    refine wx_icst (v := nI 0) j108_25 (by decide) ?_
    refine wx_ist (L' := [_, _, _, _, _, some (.int _), _]) j108_26 (Nat.le_of_ble_eq_true rfl) rfl ?_
    refine wx_ildn j108_28 rfl ?_
    refine wx_if 36 j108_29 (by decide) (fun c29 => ?_) (fun c29 => ?_)
    · simp only [ax_cn, Classical.not_not] at c29
      exact absurd c29 (by decide)
    · simp only [ax_cn, Classical.not_not] at c29
      refine wx_icst (v := (-1)) j108_32 (by decide) ?_
      refine wx_goto 42 j108_33 (by decide) ?_
      refine wx_ist (L' := [_, _, _, _, _, _, some (.int _)]) j108_42 (Nat.le_of_ble_eq_true rfl) rfl ?_
      exact mpc_end (m := m) (r := none) hm hk4 (Or.inl ⟨rfl, by cases hq : fl m with
        | false => rfl
        | true => rw [hq] at hj; exact absurd hj (by decide)⟩) l6 (fun p hp => by cases hp) hl
  · simp only [ax_cn, Classical.not_not] at c18
    obtain rfl : j = 1 := (nI_eq (by omega) (by decide)).mp c18
    refine wx_icst (v := nI 1) j108_21 (by decide) ?_
    refine wx_goto 26 j108_22 (by decide) ?_
    refine wx_ist (L' := [_, _, _, _, _, some (.int _), _]) j108_26 (Nat.le_of_ble_eq_true rfl) rfl ?_
    refine wx_ildn j108_28 rfl ?_
    refine wx_if 36 j108_29 (by decide) (fun c29 => ?_) (fun c29 => ?_)
    · simp only [ax_cn, Classical.not_not] at c29
      exact absurd c29 (by decide)
    · simp only [ax_cn, Classical.not_not] at c29
      refine wx_icst (v := (-1)) j108_32 (by decide) ?_
      refine wx_goto 42 j108_33 (by decide) ?_
      refine wx_ist (L' := [_, _, _, _, _, _, some (.int _)]) j108_42 (Nat.le_of_ble_eq_true rfl) rfl ?_
      have hfm1 : fl m = true := by
        cases hq : fl m with
        | true => rfl
        | false => rw [hq] at hj; exact absurd hj (by decide)
      exact mpc_end (m := m) (r := none) hm hk4 (Or.inr ⟨rfl, hfm1, hk2 hfm1⟩) l6 (fun p hp => by cases hp) hl
theorem sm_putCode {kind : Nat} {c : Nat} (hc : mc c < tB) (hg : mg_is d 0 (m + 1) nm fl b) (h : mt_is d 0 T) (hL : LB T) (hnm : nm m < (T 4 0).length) (hb : ∀ e, e ∈ T (kj (fl m)) (nm m) → e < 1000) (hm : mb_is d l) (hk4 : kind = 1 ∨ kind = 2 ∨ kind = 3 ∨ kind = 4) (hk2 : fl m = true → kind ≠ 2) (hl : l.length + 10 ≤ 4000) : ax_E 108 [.ref 540, .int (nI (mc c)), .int (nI (k4 kind))] d (ax_Pi fun y d1 => y = bB ((fi ((T (kj (fl m)) (nm m)).map mc) (mc c)) : Option Nat).isSome ∧ mb_is d1 (l ++ cb T (fl m) (nm m) kind (fi ((T (kj (fl m)) (nm m)).map mc) (mc c))) ∧ mbf d d1) := by
  show ax_W 108 0 [some (.ref 540), some (.int (nI (mc c))), some (.int (nI (k4 kind))), none, none, none, none] [] d _
  have l4 := lb4 hL
  obtain ⟨j, hj⟩ : ∃ j : Nat, (if fl m then 1 else 0) = j := ⟨_, rfl⟩
  obtain ⟨hkj, hj2⟩ := kj_j hj
  have l6 := lb6 hL hj2 (show nm m < 20 by omega)
  have hrm : (40 * 0 + 2 * nm m + j) % 2 = j := by omega
  refine wx_aldn j108_0 rfl ?_
  refine wx_icst (v := nI 0) j108_1 (by decide) ?_
  refine wx_i1 j108_2 rfl rfl (Nat.le_of_ble_eq_true rfl) rfl (sm_rowOf (c := 0) (by decide) hg) ?_
  rintro _ d9 ⟨rfl, h9⟩
  obtain rfl := h9.symm
  rw [hj]
  refine wx_istn (L' := [_, _, _, some (.int _), _, _, _]) j108_5 (Nat.le_of_ble_eq_true rfl) rfl ?_
  refine wx_aldn j108_6 rfl ?_
  refine wx_get (v := .ref 553) j108_7 rfl (Nat.le_of_ble_eq_true rfl) rfl ?_
  refine wx_ildn j108_10 rfl ?_
  refine wx_ialx (40 * 0 + 2 * nm m + j) j108_11 rfl rfl (by omega) (by decide) ?_
  rw [(h.2.2.2.2.2 (nm m) hnm j hj2).1]
  refine wx_ist (L' := [_, _, _, _, some (.int _), _, _]) j108_12 (Nat.le_of_ble_eq_true rfl) rfl ?_
  refine wx_ildn j108_14 rfl ?_
  refine wx_icst (v := nI 2) j108_15 (by decide) ?_
  refine wx_irem j108_16 (by decide) ?_
  rw [pk_rem (by omega) (by decide) (by decide), hrm]
  refine wx_icst (v := nI 1) j108_17 (by decide) ?_
  refine wx_cmp 25 j108_18 (by decide) (fun c18 => ?_) (fun c18 => ?_)
  · simp only [ax_cn, Classical.not_not] at c18
    obtain rfl : j = 0 := by
      have : ¬ j = 1 := fun q => c18 (by rw [q])
      omega
    refine wx_icst (v := nI 0) j108_25 (by decide) ?_
    refine wx_ist (L' := [_, _, _, _, _, some (.int _), _]) j108_26 (Nat.le_of_ble_eq_true rfl) rfl ?_
    refine wx_ildn j108_28 rfl ?_
    refine wx_if 36 j108_29 (by decide) (fun c29 => ?_) (fun c29 => ?_)
    · simp only [ax_cn, Classical.not_not] at c29
      refine wx_aldn j108_36 rfl ?_
      refine wx_ildn j108_37 rfl ?_
      refine wx_ildn j108_38 rfl ?_
      refine wx_i2 j108_39 rfl rfl rfl (Nat.le_of_ble_eq_true rfl) rfl (sm_findCode (c := 0) (by decide) h hL hnm hj2 (by rw [← hkj]; exact hb) hc) ?_
      rintro _ d9 ⟨rfl, h9⟩
      obtain rfl := h9.symm
      refine wx_ist (L' := [_, _, _, _, _, _, some (.int _)]) j108_42 (Nat.le_of_ble_eq_true rfl) rfl ?_
      rw [hkj]
      exact mpc_end (m := m) hm hk4 (Or.inl ⟨rfl, by cases hq : fl m with
        | false => rfl
        | true => rw [hq] at hj; exact absurd hj (by decide)⟩) l6 (fun p hp => by have := fi_lt hp; rw [List.length_map] at this; exact this) hl
    · simp only [ax_cn, Classical.not_not] at c29
      exact absurd (nI_pos' (tB_lt hc)) c29
  · simp only [ax_cn, Classical.not_not] at c18
    obtain rfl : j = 1 := (nI_eq (by omega) (by decide)).mp c18
    refine wx_icst (v := nI 1) j108_21 (by decide) ?_
    refine wx_goto 26 j108_22 (by decide) ?_
    refine wx_ist (L' := [_, _, _, _, _, some (.int _), _]) j108_26 (Nat.le_of_ble_eq_true rfl) rfl ?_
    refine wx_ildn j108_28 rfl ?_
    refine wx_if 36 j108_29 (by decide) (fun c29 => ?_) (fun c29 => ?_)
    · simp only [ax_cn, Classical.not_not] at c29
      refine wx_aldn j108_36 rfl ?_
      refine wx_ildn j108_37 rfl ?_
      refine wx_ildn j108_38 rfl ?_
      refine wx_i2 j108_39 rfl rfl rfl (Nat.le_of_ble_eq_true rfl) rfl (sm_findCode (c := 0) (by decide) h hL hnm hj2 (by rw [← hkj]; exact hb) hc) ?_
      rintro _ d9 ⟨rfl, h9⟩
      obtain rfl := h9.symm
      refine wx_ist (L' := [_, _, _, _, _, _, some (.int _)]) j108_42 (Nat.le_of_ble_eq_true rfl) rfl ?_
      have hfm1 : fl m = true := by
        cases hq : fl m with
        | true => rfl
        | false => rw [hq] at hj; exact absurd hj (by decide)
      rw [hkj]
      exact mpc_end (m := m) hm hk4 (Or.inr ⟨rfl, hfm1, hk2 hfm1⟩) l6 (fun p hp => by have := fi_lt hp; rw [List.length_map] at this; exact this) hl
    · simp only [ax_cn, Classical.not_not] at c29
      exact absurd (nI_pos' (tB_lt hc)) c29
theorem sm_lacks {sp lo : Nat} (h : mt_is d 0 T) (hL : LB T) (hb : TB T) (h45 : T45 T) (hsp : sp < tB) (hlo : lo < tB) : ax_E 109 [.ref 540, .int (nI sp), .int (nI lo)] d (ax_Pi fun y d1 => y = bB (lk T sp lo) ∧ d1 = d) := by
  show ax_W 109 0 [some (.ref 540), some (.int (nI sp)), some (.int (nI lo)), none, none] [] d _
  have l0 := lb0 hL
  have l4 := lb4 hL
  refine wx_aldn j109_0 rfl ?_
  refine wx_icst (v := nI 0) j109_1 (by decide) ?_
  refine wx_ildn j109_2 rfl ?_
  refine wx_i2 j109_3 rfl rfl rfl (Nat.le_of_ble_eq_true rfl) rfl (sm_findSpace (c := 0) (by decide) h hL hb hsp) ?_
  rintro _ d9 ⟨rfl, h9⟩
  obtain rfl := h9.symm
  refine wx_istn (L' := [_, _, _, some (.int _), _]) j109_6 (Nat.le_of_ble_eq_true rfl) rfl ?_
  refine wx_ildn j109_7 rfl ?_
  refine wx_if 39 j109_8 (by decide) (fun c8 => ?_) (fun c8 => ?_)
  · simp only [ax_cn, Classical.not_not] at c8
    obtain ⟨q, hq⟩ := oi_ge c8
    rw [hq]
    simp only [oi]
    have hq1 : q < 6 := Nat.lt_of_lt_of_le (fi_lt hq) l0
    have l1 := lb1 hL hq1
    have e : lk T sp lo = (((fi (T 1 q) lo).isNone && decide ((T 1 q).length = 10)) || ((fn T sp lo).isNone && decide ((T 4 0).length = 20))) := by unfold lk; rw [hq]
    rw [e]
    refine wx_aldn j109_39 rfl ?_
    refine wx_icst (v := nI 0) j109_40 (by decide) ?_
    refine wx_ildn j109_41 rfl ?_
    refine wx_ildn j109_42 rfl ?_
    refine wx_i3 j109_43 rfl rfl rfl rfl (Nat.le_of_ble_eq_true rfl) rfl (sm_findLocal hq1 (c := 0) (by decide) h hL hb hlo) ?_
    rintro _ d9 ⟨rfl, h9⟩
    obtain rfl := h9.symm
    refine wx_if 64 j109_46 (by decide) (fun c46 => ?_) (fun c46 => ?_)
    · simp only [ax_cn, Classical.not_not] at c46
      obtain ⟨w, hw⟩ := oi_ge c46
      rw [hw]
      refine wx_icst (v := nI 0) j109_64 (by decide) ?_
      refine wx_ist (L' := [_, _, _, _, some (.int _)]) j109_65 (Nat.le_of_ble_eq_true rfl) rfl ?_
      refine wx_ild j109_67 rfl ?_
      refine wx_if 93 j109_69 (by decide) (fun c69 => ?_) (fun c69 => ?_)
      · simp only [ax_cn, Classical.not_not] at c69
        have h69 := c69
        refine wx_icst (v := nI 1) j109_93 (by decide) ?_
        refine wx_goto 98 j109_94 (by decide) ?_
        refine wx_ri j109_98 rfl rfl ?_
        exact absurd rfl h69
      · simp only [ax_cn, Classical.not_not] at c69
        have h69 := c69
        refine wx_aldn j109_72 rfl ?_
        refine wx_icst (v := nI 0) j109_73 (by decide) ?_
        refine wx_ildn j109_74 rfl ?_
        refine wx_ildn j109_75 rfl ?_
        refine wx_i3 j109_76 rfl rfl rfl rfl (Nat.le_of_ble_eq_true rfl) rfl (sm_findName (c := 0) (by decide) h hL hb h45 hsp hlo) ?_
        rintro _ d9 ⟨rfl, h9⟩
        obtain rfl := h9.symm
        refine wx_if 97 j109_79 (by decide) (fun c79 => ?_) (fun c79 => ?_)
        · simp only [ax_cn, Classical.not_not] at c79
          obtain ⟨w2, hw2⟩ := oi_ge c79
          rw [hw2]
          refine wx_icst (v := nI 0) j109_97 (by decide) ?_
          refine wx_ri j109_98 rfl rfl ?_
          exact ⟨rfl, rfl⟩
        · simp only [ax_cn, Classical.not_not] at c79
          have hw2 := oi_lt c79 (fun i hi => by have := (fn_spec hi).1; omega)
          rw [hw2]
          refine wx_aldn j109_82 rfl ?_
          refine wx_get (v := .ref 546) j109_83 rfl (Nat.le_of_ble_eq_true rfl) rfl ?_
          refine wx_icst (v := nI 0) j109_86 (by decide) ?_
          refine wx_ialx (0) j109_87 rfl rfl (by decide) (by decide) ?_
          rw [h.2.2.1.1]
          refine wx_bpsh (v := nI 20) j109_88 (by decide) ?_
          refine wx_cmp 97 j109_90 (by decide) (fun c90 => ?_) (fun c90 => ?_)
          · simp only [ax_cn, Classical.not_not] at c90
            have e20 : ¬ (T 4 0).length = 20 := fun q => c90 (by rw [q])
            rw [decide_eq_false e20]
            refine wx_icst (v := nI 0) j109_97 (by decide) ?_
            refine wx_ri j109_98 rfl rfl ?_
            exact ⟨rfl, rfl⟩
          · simp only [ax_cn, Classical.not_not] at c90
            have e20 := (nI_eq (by omega) (by decide)).mp c90
            rw [decide_eq_true e20]
            refine wx_icst (v := nI 1) j109_93 (by decide) ?_
            refine wx_goto 98 j109_94 (by decide) ?_
            refine wx_ri j109_98 rfl rfl ?_
            exact ⟨rfl, rfl⟩
    · simp only [ax_cn, Classical.not_not] at c46
      have hw := oi_lt c46 (fun i hi => by have := fi_lt hi; omega)
      rw [hw]
      refine wx_aldn j109_49 rfl ?_
      refine wx_get (v := .ref 544) j109_50 rfl (Nat.le_of_ble_eq_true rfl) rfl ?_
      refine wx_ildn j109_53 rfl ?_
      refine wx_ialx (q) j109_54 rfl rfl (by omega) (by decide) ?_
      rw [mt0_lc h hq1]
      refine wx_bpsh (v := nI 10) j109_55 (by decide) ?_
      refine wx_cmp 64 j109_57 (by decide) (fun c57 => ?_) (fun c57 => ?_)
      · simp only [ax_cn, Classical.not_not] at c57
        have e10 : ¬ (T 1 q).length = 10 := fun q => c57 (by rw [q])
        rw [decide_eq_false e10]
        refine wx_icst (v := nI 0) j109_64 (by decide) ?_
        refine wx_ist (L' := [_, _, _, _, some (.int _)]) j109_65 (Nat.le_of_ble_eq_true rfl) rfl ?_
        refine wx_ild j109_67 rfl ?_
        refine wx_if 93 j109_69 (by decide) (fun c69 => ?_) (fun c69 => ?_)
        · simp only [ax_cn, Classical.not_not] at c69
          have h69 := c69
          refine wx_icst (v := nI 1) j109_93 (by decide) ?_
          refine wx_goto 98 j109_94 (by decide) ?_
          refine wx_ri j109_98 rfl rfl ?_
          exact absurd rfl h69
        · simp only [ax_cn, Classical.not_not] at c69
          have h69 := c69
          refine wx_aldn j109_72 rfl ?_
          refine wx_icst (v := nI 0) j109_73 (by decide) ?_
          refine wx_ildn j109_74 rfl ?_
          refine wx_ildn j109_75 rfl ?_
          refine wx_i3 j109_76 rfl rfl rfl rfl (Nat.le_of_ble_eq_true rfl) rfl (sm_findName (c := 0) (by decide) h hL hb h45 hsp hlo) ?_
          rintro _ d9 ⟨rfl, h9⟩
          obtain rfl := h9.symm
          refine wx_if 97 j109_79 (by decide) (fun c79 => ?_) (fun c79 => ?_)
          · simp only [ax_cn, Classical.not_not] at c79
            obtain ⟨w2, hw2⟩ := oi_ge c79
            rw [hw2]
            refine wx_icst (v := nI 0) j109_97 (by decide) ?_
            refine wx_ri j109_98 rfl rfl ?_
            exact ⟨rfl, rfl⟩
          · simp only [ax_cn, Classical.not_not] at c79
            have hw2 := oi_lt c79 (fun i hi => by have := (fn_spec hi).1; omega)
            rw [hw2]
            refine wx_aldn j109_82 rfl ?_
            refine wx_get (v := .ref 546) j109_83 rfl (Nat.le_of_ble_eq_true rfl) rfl ?_
            refine wx_icst (v := nI 0) j109_86 (by decide) ?_
            refine wx_ialx (0) j109_87 rfl rfl (by decide) (by decide) ?_
            rw [h.2.2.1.1]
            refine wx_bpsh (v := nI 20) j109_88 (by decide) ?_
            refine wx_cmp 97 j109_90 (by decide) (fun c90 => ?_) (fun c90 => ?_)
            · simp only [ax_cn, Classical.not_not] at c90
              have e20 : ¬ (T 4 0).length = 20 := fun q => c90 (by rw [q])
              rw [decide_eq_false e20]
              refine wx_icst (v := nI 0) j109_97 (by decide) ?_
              refine wx_ri j109_98 rfl rfl ?_
              exact ⟨rfl, rfl⟩
            · simp only [ax_cn, Classical.not_not] at c90
              have e20 := (nI_eq (by omega) (by decide)).mp c90
              rw [decide_eq_true e20]
              refine wx_icst (v := nI 1) j109_93 (by decide) ?_
              refine wx_goto 98 j109_94 (by decide) ?_
              refine wx_ri j109_98 rfl rfl ?_
              exact ⟨rfl, rfl⟩
      · simp only [ax_cn, Classical.not_not] at c57
        have e10 := (nI_eq (by omega) (by decide)).mp c57
        rw [decide_eq_true e10]
        refine wx_icst (v := nI 1) j109_60 (by decide) ?_
        refine wx_goto 65 j109_61 (by decide) ?_
        refine wx_ist (L' := [_, _, _, _, some (.int _)]) j109_65 (Nat.le_of_ble_eq_true rfl) rfl ?_
        refine wx_ild j109_67 rfl ?_
        refine wx_if 93 j109_69 (by decide) (fun c69 => ?_) (fun c69 => ?_)
        · simp only [ax_cn, Classical.not_not] at c69
          have h69 := c69
          refine wx_icst (v := nI 1) j109_93 (by decide) ?_
          refine wx_goto 98 j109_94 (by decide) ?_
          refine wx_ri j109_98 rfl rfl ?_
          exact ⟨rfl, rfl⟩
        · simp only [ax_cn, Classical.not_not] at c69
          have h69 := c69
          refine wx_aldn j109_72 rfl ?_
          refine wx_icst (v := nI 0) j109_73 (by decide) ?_
          refine wx_ildn j109_74 rfl ?_
          refine wx_ildn j109_75 rfl ?_
          refine wx_i3 j109_76 rfl rfl rfl rfl (Nat.le_of_ble_eq_true rfl) rfl (sm_findName (c := 0) (by decide) h hL hb h45 hsp hlo) ?_
          rintro _ d9 ⟨rfl, h9⟩
          obtain rfl := h9.symm
          refine wx_if 97 j109_79 (by decide) (fun c79 => ?_) (fun c79 => ?_)
          · simp only [ax_cn, Classical.not_not] at c79
            obtain ⟨w2, hw2⟩ := oi_ge c79
            rw [hw2]
            refine wx_icst (v := nI 0) j109_97 (by decide) ?_
            refine wx_ri j109_98 rfl rfl ?_
            exact absurd h69 (by decide)
          · simp only [ax_cn, Classical.not_not] at c79
            have hw2 := oi_lt c79 (fun i hi => by have := (fn_spec hi).1; omega)
            rw [hw2]
            refine wx_aldn j109_82 rfl ?_
            refine wx_get (v := .ref 546) j109_83 rfl (Nat.le_of_ble_eq_true rfl) rfl ?_
            refine wx_icst (v := nI 0) j109_86 (by decide) ?_
            refine wx_ialx (0) j109_87 rfl rfl (by decide) (by decide) ?_
            rw [h.2.2.1.1]
            refine wx_bpsh (v := nI 20) j109_88 (by decide) ?_
            refine wx_cmp 97 j109_90 (by decide) (fun c90 => ?_) (fun c90 => ?_)
            · simp only [ax_cn, Classical.not_not] at c90
              have e20 : ¬ (T 4 0).length = 20 := fun q => c90 (by rw [q])
              rw [decide_eq_false e20]
              refine wx_icst (v := nI 0) j109_97 (by decide) ?_
              refine wx_ri j109_98 rfl rfl ?_
              exact absurd h69 (by decide)
            · simp only [ax_cn, Classical.not_not] at c90
              have e20 := (nI_eq (by omega) (by decide)).mp c90
              rw [decide_eq_true e20]
              refine wx_icst (v := nI 1) j109_93 (by decide) ?_
              refine wx_goto 98 j109_94 (by decide) ?_
              refine wx_ri j109_98 rfl rfl ?_
              exact absurd h69 (by decide)
  · simp only [ax_cn, Classical.not_not] at c8
    have hno := oi_lt c8 (fun i hi => by have := fi_lt hi; omega)
    have e : lk T sp lo = (decide ((T 0 0).length = 6) || decide ((T 4 0).length = 20)) := by unfold lk; rw [hno]
    rw [e]
    refine wx_aldn j109_11 rfl ?_
    refine wx_get (v := .ref 542) j109_12 rfl (Nat.le_of_ble_eq_true rfl) rfl ?_
    refine wx_icst (v := nI 0) j109_15 (by decide) ?_
    refine wx_ialx (0) j109_16 rfl rfl (by decide) (by decide) ?_
    rw [h.1.1]
    refine wx_bpsh (v := nI 6) j109_17 (by decide) ?_
    refine wx_cmp 33 j109_19 (by decide) (fun c19 => ?_) (fun c19 => ?_)
    · simp only [ax_cn, Classical.not_not] at c19
      have e6 := (nI_eq (by omega) (by decide)).mp c19
      refine wx_icst (v := nI 1) j109_33 (by decide) ?_
      refine wx_goto 38 j109_34 (by decide) ?_
      refine wx_ri j109_38 rfl rfl ?_
      exact ⟨by rw [decide_eq_true e6]; rfl, rfl⟩
    · simp only [ax_cn, Classical.not_not] at c19
      have e6 : ¬ (T 0 0).length = 6 := fun q => c19 (by rw [q])
      refine wx_aldn j109_22 rfl ?_
      refine wx_get (v := .ref 546) j109_23 rfl (Nat.le_of_ble_eq_true rfl) rfl ?_
      refine wx_icst (v := nI 0) j109_26 (by decide) ?_
      refine wx_ialx (0) j109_27 rfl rfl (by decide) (by decide) ?_
      rw [h.2.2.1.1]
      refine wx_bpsh (v := nI 20) j109_28 (by decide) ?_
      refine wx_cmp 37 j109_30 (by decide) (fun c30 => ?_) (fun c30 => ?_)
      · simp only [ax_cn, Classical.not_not] at c30
        have e20 : ¬ (T 4 0).length = 20 := fun q => c30 (by rw [q])
        refine wx_icst (v := nI 0) j109_37 (by decide) ?_
        refine wx_ri j109_38 rfl rfl ?_
        exact ⟨by rw [decide_eq_false e20, decide_eq_false e6]; rfl, rfl⟩
      · simp only [ax_cn, Classical.not_not] at c30
        have e20 := (nI_eq (by omega) (by decide)).mp c30
        refine wx_icst (v := nI 1) j109_33 (by decide) ?_
        refine wx_goto 38 j109_34 (by decide) ?_
        refine wx_ri j109_38 rfl rfl ?_
        exact ⟨by rw [decide_eq_true e20, Bool.or_true]; rfl, rfl⟩
theorem sm_isLearned0 {x : Int32} (hg : mg_is d 0 0 nm fl b) : ax_E 110 [.ref 540, .int x] d (ax_Pi fun y d1 => y = bB false ∧ d1 = d) := by
  show ax_W 110 0 [some (.ref 540), some (.int x)] [] d _
  refine wx_aldn j110_0 rfl ?_
  refine wx_get (v := .ref 555) j110_1 rfl (Nat.le_of_ble_eq_true rfl) rfl ?_
  refine wx_icst (v := nI 0) j110_4 (by decide) ?_
  refine wx_ialx (0) j110_5 rfl rfl (by decide) (by decide) ?_
  rw [hg.2.1]
  refine wx_if 26 j110_6 (by decide) (fun c6 => ?_) (fun c6 => ?_)
  · simp only [ax_cn, Classical.not_not] at c6
    refine wx_icst (v := nI 0) j110_26 (by decide) ?_
    refine wx_ri j110_27 rfl rfl ?_
    exact ⟨rfl, rfl⟩
  · simp only [ax_cn, Classical.not_not] at c6
    exact absurd (show nI 0 ≤ 0 by decide) c6
theorem sm_isLearned {c : Nat} (hc : mc c < tB) (hg : mg_is d 0 (m + 1) nm fl b) (h : mt_is d 0 T) (hL : LB T) (hnm : nm m < (T 4 0).length) (hb : ∀ e, e ∈ T (kj (fl m)) (nm m) → e < 1000) : ax_E 110 [.ref 540, .int (nI (mc c))] d (ax_Pi fun y d1 => y = bB (fi ((T (kj (fl m)) (nm m)).map mc) (mc c)).isSome ∧ d1 = d) := by
  show ax_W 110 0 [some (.ref 540), some (.int (nI (mc c)))] [] d _
  have l4 := lb4 hL
  have hm8 := hg.1
  obtain ⟨j, hj⟩ : ∃ j : Nat, (if fl m then 1 else 0) = j := ⟨_, rfl⟩
  obtain ⟨hkj, hj2⟩ := kj_j hj
  have l6 := lb6 hL hj2 (show nm m < 20 by omega)
  refine wx_aldn j110_0 rfl ?_
  refine wx_get (v := .ref 555) j110_1 rfl (Nat.le_of_ble_eq_true rfl) rfl ?_
  refine wx_icst (v := nI 0) j110_4 (by decide) ?_
  refine wx_ialx (0) j110_5 rfl rfl (by decide) (by decide) ?_
  rw [hg.2.1]
  refine wx_if 26 j110_6 (by decide) (fun c6 => ?_) (fun c6 => ?_)
  · simp only [ax_cn, Classical.not_not] at c6
    exact absurd c6 (nI_nle (by omega) (by omega))
  · simp only [ax_cn, Classical.not_not] at c6
    refine wx_aldn j110_9 rfl ?_
    refine wx_aldn j110_10 rfl ?_
    refine wx_icst (v := nI 0) j110_11 (by decide) ?_
    refine wx_i1 j110_12 rfl rfl (Nat.le_of_ble_eq_true rfl) rfl (sm_rowOf (c := 0) (by decide) hg) ?_
    rintro _ d9 ⟨rfl, h9⟩
    obtain rfl := h9.symm
    rw [hj]
    refine wx_ildn j110_15 rfl ?_
    refine wx_i2 j110_16 rfl rfl rfl (Nat.le_of_ble_eq_true rfl) rfl (sm_findCode (c := 0) (by decide) h hL hnm hj2 (by rw [← hkj]; exact hb) hc) ?_
    rintro _ d9 ⟨rfl, h9⟩
    obtain rfl := h9.symm
    rw [hkj]
    refine wx_if 26 j110_19 (by decide) (fun c19 => ?_) (fun c19 => ?_)
    · simp only [ax_cn, Classical.not_not] at c19
      have hno := oi_ltL c19 (fun i hi => by have := fi_lt hi; rw [List.length_map] at this; omega)
      rw [hno]
      refine wx_icst (v := nI 0) j110_26 (by decide) ?_
      refine wx_ri j110_27 rfl rfl ?_
      exact ⟨rfl, rfl⟩
    · simp only [ax_cn, Classical.not_not] at c19
      obtain ⟨q, hq⟩ := oi_geL c19
      rw [hq]
      refine wx_icst (v := nI 1) j110_22 (by decide) ?_
      refine wx_goto 27 j110_23 (by decide) ?_
      refine wx_ri j110_27 rfl rfl ?_
      exact ⟨rfl, rfl⟩
end M7
