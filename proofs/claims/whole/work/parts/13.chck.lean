def ax_rd (ci : Nat) : vw_C := vwCl.getD ci (RX0, TX0, 2)
/-- the field links that the methods use: own class, entry, class, field; and their places in the tables -/
def ax_F : List (Nat × Nat × Nat × Nat × Nat) := [(0, 15, 0, 1, 105), (0, 9, 0, 0, 102), (1, 16, 1, 1, 221), (1, 11, 1, 0, 220), (2, 14, 2, 0, 174), (2, 20, 2, 1, 175), (2, 34, 2, 4, 178), (2, 38, 2, 5, 179), (2, 23, 2, 2, 176), (2, 27, 2, 3, 177), (3, 39, 3, 4, 238), (3, 21, 3, 1, 234), (3, 28, 3, 2, 236), (3, 35, 3, 3, 237), (3, 150, 5, 0, 140), (3, 174, 5, 1, 144), (3, 188, 5, 2, 147), (3, 191, 5, 3, 149), (3, 12, 3, 0, 232), (3, 203, 0, 1, 108), (3, 206, 0, 0, 104), (4, 16, 4, 1, 130), (4, 20, 4, 2, 131), (4, 11, 4, 0, 129), (5, 14, 5, 0, 139), (5, 20, 5, 1, 142), (5, 23, 5, 2, 145), (5, 26, 5, 3, 148), (5, 29, 5, 4, 151), (5, 32, 5, 5, 152), (6, 12, 6, 0, 194), (6, 32, 0, 1, 106), (6, 21, 6, 1, 196), (6, 28, 6, 2, 197), (6, 134, 5, 0, 141), (6, 158, 5, 1, 143), (6, 164, 5, 2, 146), (6, 167, 5, 3, 150), (7, 10, 7, 0, 272), (7, 78, 6, 0, 195), (7, 82, 0, 1, 107), (7, 19, 7, 1, 273), (7, 88, 3, 0, 233), (7, 136, 3, 4, 239), (8, 80, 8, 0, 847), (8, 7, 8, 1, 848), (8, 13, 8, 2, 849), (8, 16, 8, 3, 850), (8, 22, 8, 5, 852), (8, 37, 8, 10, 857), (8, 49, 8, 14, 861), (8, 59, 8, 17, 864), (8, 19, 8, 4, 851), (8, 25, 8, 6, 853), (8, 28, 8, 7, 854), (8, 31, 8, 8, 855), (8, 43, 8, 12, 859), (8, 34, 8, 9, 856), (8, 40, 8, 11, 858), (8, 52, 8, 15, 862), (8, 55, 8, 16, 863), (8, 46, 8, 13, 860), (8, 62, 8, 18, 865), (8, 92, 8, 19, 866), (8, 167, 8, 29, 876), (8, 65, 8, 20, 867), (8, 193, 8, 21, 868), (8, 196, 8, 23, 870), (8, 199, 8, 22, 869), (8, 68, 8, 25, 872), (8, 214, 8, 24, 871), (8, 71, 8, 26, 873), (8, 74, 8, 27, 874), (8, 77, 8, 28, 875)]
/-- the method links: own class, entry, method, kind of call (0 by the receiver, 1 static in the class, 2 static across the nest), place -/
def ax_L : List (Nat × Nat × Nat × Nat × Nat) := [(2, 31, 41, 0, 271), (2, 42, 14, 0, 545), (2, 45, 13, 0, 464), (2, 49, 12, 0, 468), (2, 53, 42, 0, 481), (2, 57, 17, 0, 477), (2, 60, 44, 0, 724), (2, 64, 45, 0, 472), (2, 67, 20, 0, 536), (2, 70, 47, 0, 537), (3, 43, 4, 0, 694), (3, 46, 48, 0, 698), (3, 49, 7, 0, 699), (3, 50, 10, 0, 817), (3, 54, 9, 0, 704), (3, 57, 29, 0, 705), (3, 61, 28, 0, 767), (3, 64, 83, 2, 771), (3, 68, 84, 2, 774), (3, 71, 25, 0, 777), (3, 75, 26, 0, 795), (3, 78, 27, 0, 804), (3, 81, 16, 0, 810), (3, 84, 5, 0, 791), (3, 88, 11, 0, 781), (3, 91, 15, 0, 782), (3, 95, 49, 0, 783), (3, 98, 50, 0, 787), (3, 101, 35, 0, 799), (3, 104, 14, 0, 808), (3, 107, 12, 0, 809), (3, 110, 32, 0, 736), (3, 113, 82, 2, 726), (3, 117, 18, 0, 709), (3, 120, 39, 0, 710), (3, 123, 17, 0, 719), (3, 126, 19, 0, 720), (3, 129, 13, 0, 725), (3, 132, 30, 0, 727), (3, 135, 31, 0, 731), (3, 138, 81, 2, 735), (3, 141, 21, 0, 766), (3, 144, 33, 0, 740), (3, 147, 34, 0, 754), (3, 154, 44, 0, 762), (3, 159, 53, 0, 765), (3, 162, 42, 0, 744), (3, 165, 38, 0, 745), (3, 168, 37, 0, 749), (3, 171, 52, 0, 753), (3, 177, 36, 0, 758), (3, 181, 43, 0, 763), (3, 184, 46, 0, 764), (3, 194, 55, 0, 803), (3, 197, 40, 0, 715), (3, 200, 80, 2, 714), (4, 24, 42, 0, 439), (5, 35, 41, 0, 259), (5, 38, 46, 0, 263), (5, 41, 44, 0, 435), (5, 45, 42, 0, 431), (5, 49, 43, 0, 440), (5, 53, 51, 0, 427), (5, 56, 45, 0, 444), (6, 36, 48, 0, 255), (6, 39, 7, 0, 267), (6, 40, 10, 0, 388), (6, 44, 13, 0, 497), (6, 47, 8, 0, 614), (6, 51, 61, 0, 412), (6, 55, 9, 0, 448), (6, 58, 63, 0, 452), (6, 62, 66, 0, 498), (6, 66, 15, 0, 541), (6, 70, 69, 0, 549), (6, 74, 64, 0, 557), (6, 77, 14, 0, 561), (6, 80, 12, 0, 562), (6, 83, 62, 0, 563), (6, 86, 16, 0, 568), (6, 89, 11, 0, 416), (6, 92, 81, 2, 420), (6, 96, 54, 0, 423), (6, 100, 17, 0, 567), (6, 103, 18, 0, 473), (6, 106, 72, 0, 482), (6, 109, 51, 0, 456), (6, 112, 82, 2, 457), (6, 115, 20, 0, 460), (6, 119, 65, 0, 493), (6, 122, 21, 0, 532), (6, 125, 67, 0, 502), (6, 128, 68, 0, 523), (6, 131, 53, 0, 528), (6, 138, 42, 0, 506), (6, 143, 45, 0, 507), (6, 146, 79, 2, 508), (6, 149, 71, 0, 511), (6, 152, 70, 0, 515), (6, 155, 52, 0, 519), (6, 161, 46, 0, 527), (6, 170, 55, 0, 553), (6, 173, 2, 0, 489), (6, 176, 80, 2, 486), (7, 23, 56, 0, 251), (7, 91, 3, 0, 291), (7, 55, 77, 1, 312), (8, 84, 87, 1, 960), (8, 88, 99, 0, 982), (8, 95, 103, 0, 1002), (8, 99, 104, 0, 1010), (8, 103, 89, 0, 990), (8, 106, 105, 0, 1014), (8, 109, 93, 0, 1018), (8, 112, 90, 0, 994), (8, 116, 94, 0, 1022), (8, 120, 91, 0, 967), (8, 123, 92, 0, 1026), (8, 126, 95, 0, 1053), (8, 129, 96, 0, 978), (8, 132, 88, 1, 957), (8, 136, 97, 1, 971), (8, 139, 110, 0, 974), (8, 142, 109, 0, 986), (8, 146, 108, 0, 998), (8, 149, 106, 0, 1006), (8, 152, 100, 0, 1030), (8, 155, 101, 0, 1034), (8, 158, 98, 1, 1046), (8, 161, 107, 0, 1049), (8, 164, 102, 0, 1073), (8, 171, 86, 0, 950), (8, 174, 116, 0, 946), (8, 177, 111, 1, 954), (8, 180, 112, 0, 963), (8, 183, 113, 0, 1042), (8, 186, 114, 0, 1061), (8, 189, 115, 0, 1069), (8, 202, 128, 0, 1121), (8, 205, 129, 0, 1117), (8, 208, 130, 0, 1125), (8, 211, 131, 0, 1129), (8, 217, 135, 0, 1137), (8, 220, 132, 0, 1113), (8, 223, 136, 0, 1133), (8, 226, 134, 0, 1141), (8, 229, 133, 0, 1145), (8, 232, 137, 0, 1109)]
def ax_fok (e : Nat × Nat × Nat × Nat × Nat) : Bool := decide (e.2.2.1 < 9) && decide (e.2.2.2.1 < (ax_rd e.2.2.1).2.2) && decide (lw_tbl[e.2.2.2.2]? = some (Cond.fieldLink (ax_rd e.1).1 e.2.1 ((ax_rd e.2.2.1).2.1 e.2.2.2.1).1 ((ax_rd e.2.2.1).2.1 e.2.2.2.1).2.1 ((ax_rd e.2.2.1).2.1 e.2.2.2.1).2.2.1))
def ax_lok (e : Nat × Nat × Nat × Nat × Nat) : Bool := (match e.2.2.2.1 with
  | 0 => decide (lw_tbl[e.2.2.2.2]? = some (Cond.methodLink (ax_rd e.1).1 e.2.1 (ax_y (ax_me e.2.2.1)))) && decide (ax_z (ax_me e.2.2.1) = 0)
  | 1 => decide (lw_tbl[e.2.2.2.2]? = some (Cond.methodLink (ax_rd e.1).1 e.2.1 (ax_y (ax_me e.2.2.1)))) && decide (ax_z (ax_me e.2.2.1) = 1) && decide (ax_o (ax_me e.2.2.1) = e.1)
  | _ => decide (lw_tbl[e.2.2.2.2]? = some (Cond.methodLinkNest (ax_rd e.1).1 e.2.1 (ax_y (ax_me e.2.2.1)) "LearnedCodes")) && decide (ax_z (ax_me e.2.2.1) = 1)) && decide (e.2.2.1 < ax_Ms.length)
theorem ax_fok_0 : ((ax_F.drop 0).take 20).all ax_fok = true := by decide +kernel
theorem ax_fok_1 : ((ax_F.drop 20).take 20).all ax_fok = true := by decide +kernel
theorem ax_fok_2 : ((ax_F.drop 40).take 20).all ax_fok = true := by decide +kernel
theorem ax_fok_3 : ((ax_F.drop 60).take 20).all ax_fok = true := by decide +kernel
theorem ax_Fok : ∀ e ∈ ax_F, ax_fok e = true := by
  intro e he
  obtain ⟨k, hk⟩ := List.getElem?_of_mem he
  have hl : k < 74 := (List.getElem?_eq_some_iff.mp hk).1
  have key : ∀ c, c = k / 20 → ((ax_F.drop (20 * c)).take 20).all ax_fok = true → ax_fok e = true := by
    intro c hc h
    refine List.all_eq_true.mp h e (List.mem_of_getElem? (i := k % 20) ?_)
    rw [List.getElem?_take, if_pos (Nat.mod_lt _ (by decide)), List.getElem?_drop, show 20 * c + k % 20 = k by omega]
    exact hk
  have hc : k / 20 = 0 ∨ k / 20 = 1 ∨ k / 20 = 2 ∨ k / 20 = 3 := by omega
  rcases hc with h | h | h | h
  · exact key 0 h.symm ax_fok_0
  · exact key 1 h.symm ax_fok_1
  · exact key 2 h.symm ax_fok_2
  · exact key 3 h.symm ax_fok_3
theorem ax_lok_0 : ((ax_L.drop 0).take 20).all ax_lok = true := by decide +kernel
theorem ax_lok_1 : ((ax_L.drop 20).take 20).all ax_lok = true := by decide +kernel
theorem ax_lok_2 : ((ax_L.drop 40).take 20).all ax_lok = true := by decide +kernel
theorem ax_lok_3 : ((ax_L.drop 60).take 20).all ax_lok = true := by decide +kernel
theorem ax_lok_4 : ((ax_L.drop 80).take 20).all ax_lok = true := by decide +kernel
theorem ax_lok_5 : ((ax_L.drop 100).take 20).all ax_lok = true := by decide +kernel
theorem ax_lok_6 : ((ax_L.drop 120).take 20).all ax_lok = true := by decide +kernel
theorem ax_lok_7 : ((ax_L.drop 140).take 20).all ax_lok = true := by decide +kernel
theorem ax_Lok : ∀ e ∈ ax_L, ax_lok e = true := by
  intro e he
  obtain ⟨k, hk⟩ := List.getElem?_of_mem he
  have hl : k < 148 := (List.getElem?_eq_some_iff.mp hk).1
  have key : ∀ c, c = k / 20 → ((ax_L.drop (20 * c)).take 20).all ax_lok = true → ax_lok e = true := by
    intro c hc h
    refine List.all_eq_true.mp h e (List.mem_of_getElem? (i := k % 20) ?_)
    rw [List.getElem?_take, if_pos (Nat.mod_lt _ (by decide)), List.getElem?_drop, show 20 * c + k % 20 = k by omega]
    exact hk
  have hc : k / 20 = 0 ∨ k / 20 = 1 ∨ k / 20 = 2 ∨ k / 20 = 3 ∨ k / 20 = 4 ∨ k / 20 = 5 ∨ k / 20 = 6 ∨ k / 20 = 7 := by omega
  rcases hc with h | h | h | h | h | h | h | h
  · exact key 0 h.symm ax_lok_0
  · exact key 1 h.symm ax_lok_1
  · exact key 2 h.symm ax_lok_2
  · exact key 3 h.symm ax_lok_3
  · exact key 4 h.symm ax_lok_4
  · exact key 5 h.symm ax_lok_5
  · exact key 6 h.symm ax_lok_6
  · exact key 7 h.symm ax_lok_7
def ax_ick (q : ax_M) (e : ax_I) : Bool := decide (decode (ax_c q) e.1 = .ok (e.2.1, e.2.2.1)) && (match e.2.1 with
  | .getfield idx => ax_F.any (fun z => decide (z.1 = ax_o q ∧ z.2.1 = idx ∧ z.2.2.1 = e.2.2.2.1 ∧ z.2.2.2.1 = e.2.2.2.2))
  | .putfield idx => ax_F.any (fun z => decide (z.1 = ax_o q ∧ z.2.1 = idx ∧ z.2.2.1 = e.2.2.2.1 ∧ z.2.2.2.1 = e.2.2.2.2)) && !((ax_rd e.2.2.2.1).2.1 e.2.2.2.2).2.2.2
  | .invokevirtual idx => ax_L.any (fun z => decide (z.1 = ax_o q ∧ z.2.1 = idx ∧ z.2.2.1 = e.2.2.2.1 ∧ z.2.2.2.1 = 0)) && decide (ax_v (ax_me e.2.2.2.1) < ax_v q)
  | .invokestatic idx => ax_L.any (fun z => decide (z.1 = ax_o q ∧ z.2.1 = idx ∧ z.2.2.1 = e.2.2.2.1 ∧ z.2.2.2.1 = e.2.2.2.2)) && decide (0 < e.2.2.2.2) && decide (ax_v (ax_me e.2.2.2.1) < ax_v q)
  | _ => true)
/-- of a method: its class, its arguments, its table -/
def ax_mck (q : ax_M) : Bool := plainName (ax_y q).cls && decide ((ax_y q).cls ≠ "java/lang/invoke/MethodHandle") && decide ((ax_y q).cls ≠ "java/lang/invoke/VarHandle") && decide ((ax_rd (ax_o q)).1 = (ax_y q).cls) && decide (ax_o q < 9) && decide (ax_n q ≤ 9) && decide (ax_g q ≤ ax_n q) && decide (0 < ax_v q) && decide ((parseMethodDescriptor (ax_y q).desc).map (fun d => d.parameters.length + 1) = some (ax_g q + ax_z q)) && (ax_b q).all (ax_ick q)
/-- its words: of a static one and of one that has a receiver -/
def ax_wck (q : ax_M) : Prop := if ax_z q = 0 then Cond.instanceMethod (ax_y q) ∈ lw_tbl ∧ Cond.selects (ax_y q).cls (ax_y q) (ax_y q) ∈ lw_tbl else Cond.static (ax_y q) ∈ lw_tbl
theorem ax_k0 : ax_mck ax_m0 = true := by decide +kernel
theorem ax_k1 : ax_mck ax_m1 = true := by decide +kernel
theorem ax_k2 : ax_mck ax_m2 = true := by decide +kernel
theorem ax_k3 : ax_mck ax_m3 = true := by decide +kernel
theorem ax_k4 : ax_mck ax_m4 = true := by decide +kernel
theorem ax_k5 : ax_mck ax_m5 = true := by decide +kernel
theorem ax_k6 : ax_mck ax_m6 = true := by decide +kernel
theorem ax_k7 : ax_mck ax_m7 = true := by decide +kernel
theorem ax_k8 : ax_mck ax_m8 = true := by decide +kernel
theorem ax_k9 : ax_mck ax_m9 = true := by decide +kernel
theorem ax_k10 : ax_mck ax_m10 = true := by decide +kernel
theorem ax_k11 : ax_mck ax_m11 = true := by decide +kernel
theorem ax_k12 : ax_mck ax_m12 = true := by decide +kernel
theorem ax_k13 : ax_mck ax_m13 = true := by decide +kernel
theorem ax_k14 : ax_mck ax_m14 = true := by decide +kernel
theorem ax_k15 : ax_mck ax_m15 = true := by decide +kernel
theorem ax_k16 : ax_mck ax_m16 = true := by decide +kernel
theorem ax_k17 : ax_mck ax_m17 = true := by decide +kernel
theorem ax_k18 : ax_mck ax_m18 = true := by decide +kernel
theorem ax_k19 : ax_mck ax_m19 = true := by decide +kernel
theorem ax_k20 : ax_mck ax_m20 = true := by decide +kernel
theorem ax_k21 : ax_mck ax_m21 = true := by decide +kernel
theorem ax_k22 : ax_mck ax_m22 = true := by decide +kernel
theorem ax_k23 : ax_mck ax_m23 = true := by decide +kernel
theorem ax_k24 : ax_mck ax_m24 = true := by decide +kernel
theorem ax_k25 : ax_mck ax_m25 = true := by decide +kernel
theorem ax_k26 : ax_mck ax_m26 = true := by decide +kernel
theorem ax_k27 : ax_mck ax_m27 = true := by decide +kernel
theorem ax_k28 : ax_mck ax_m28 = true := by decide +kernel
theorem ax_k29 : ax_mck ax_m29 = true := by decide +kernel
theorem ax_k30 : ax_mck ax_m30 = true := by decide +kernel
theorem ax_k31 : ax_mck ax_m31 = true := by decide +kernel
theorem ax_k32 : ax_mck ax_m32 = true := by decide +kernel
theorem ax_k33 : ax_mck ax_m33 = true := by decide +kernel
theorem ax_k34 : ax_mck ax_m34 = true := by decide +kernel
theorem ax_k35 : ax_mck ax_m35 = true := by decide +kernel
theorem ax_k36 : ax_mck ax_m36 = true := by decide +kernel
theorem ax_k37 : ax_mck ax_m37 = true := by decide +kernel
theorem ax_k38 : ax_mck ax_m38 = true := by decide +kernel
theorem ax_k39 : ax_mck ax_m39 = true := by decide +kernel
theorem ax_k40 : ax_mck ax_m40 = true := by decide +kernel
theorem ax_k41 : ax_mck ax_m41 = true := by decide +kernel
theorem ax_k42 : ax_mck ax_m42 = true := by decide +kernel
theorem ax_k43 : ax_mck ax_m43 = true := by decide +kernel
theorem ax_k44 : ax_mck ax_m44 = true := by decide +kernel
theorem ax_k45 : ax_mck ax_m45 = true := by decide +kernel
theorem ax_k46 : ax_mck ax_m46 = true := by decide +kernel
theorem ax_k47 : ax_mck ax_m47 = true := by decide +kernel
theorem ax_k48 : ax_mck ax_m48 = true := by decide +kernel
theorem ax_k49 : ax_mck ax_m49 = true := by decide +kernel
theorem ax_k50 : ax_mck ax_m50 = true := by decide +kernel
theorem ax_k51 : ax_mck ax_m51 = true := by decide +kernel
theorem ax_k52 : ax_mck ax_m52 = true := by decide +kernel
theorem ax_k53 : ax_mck ax_m53 = true := by decide +kernel
theorem ax_k54 : ax_mck ax_m54 = true := by decide +kernel
theorem ax_k55 : ax_mck ax_m55 = true := by decide +kernel
theorem ax_k56 : ax_mck ax_m56 = true := by decide +kernel
theorem ax_k57 : ax_mck ax_m57 = true := by decide +kernel
theorem ax_k58 : ax_mck ax_m58 = true := by decide +kernel
theorem ax_k59 : ax_mck ax_m59 = true := by decide +kernel
theorem ax_k60 : ax_mck ax_m60 = true := by decide +kernel
theorem ax_k61 : ax_mck ax_m61 = true := by decide +kernel
theorem ax_k62 : ax_mck ax_m62 = true := by decide +kernel
theorem ax_k63 : ax_mck ax_m63 = true := by decide +kernel
theorem ax_k64 : ax_mck ax_m64 = true := by decide +kernel
theorem ax_k65 : ax_mck ax_m65 = true := by decide +kernel
theorem ax_k66 : ax_mck ax_m66 = true := by decide +kernel
theorem ax_k67 : ax_mck ax_m67 = true := by decide +kernel
theorem ax_k68 : ax_mck ax_m68 = true := by decide +kernel
theorem ax_k69 : ax_mck ax_m69 = true := by decide +kernel
theorem ax_k70 : ax_mck ax_m70 = true := by decide +kernel
theorem ax_k71 : ax_mck ax_m71 = true := by decide +kernel
theorem ax_k72 : ax_mck ax_m72 = true := by decide +kernel
theorem ax_k73 : ax_mck ax_m73 = true := by decide +kernel
theorem ax_k74 : ax_mck ax_m74 = true := by decide +kernel
theorem ax_k75 : ax_mck ax_m75 = true := by decide +kernel
theorem ax_k76 : ax_mck ax_m76 = true := by decide +kernel
theorem ax_k77 : ax_mck ax_m77 = true := by decide +kernel
theorem ax_k78 : ax_mck ax_m78 = true := by decide +kernel
theorem ax_k79 : ax_mck ax_m79 = true := by decide +kernel
theorem ax_k80 : ax_mck ax_m80 = true := by decide +kernel
theorem ax_k81 : ax_mck ax_m81 = true := by decide +kernel
theorem ax_k82 : ax_mck ax_m82 = true := by decide +kernel
theorem ax_k83 : ax_mck ax_m83 = true := by decide +kernel
theorem ax_k84 : ax_mck ax_m84 = true := by decide +kernel
theorem ax_k85 : ax_mck ax_m85 = true := by decide +kernel
theorem ax_k86 : ax_mck ax_m86 = true := by decide +kernel
theorem ax_k87 : ax_mck ax_m87 = true := by decide +kernel
theorem ax_k88 : ax_mck ax_m88 = true := by decide +kernel
theorem ax_k89 : ax_mck ax_m89 = true := by decide +kernel
theorem ax_k90 : ax_mck ax_m90 = true := by decide +kernel
theorem ax_k91 : ax_mck ax_m91 = true := by decide +kernel
theorem ax_k92 : ax_mck ax_m92 = true := by decide +kernel
theorem ax_k93 : ax_mck ax_m93 = true := by decide +kernel
theorem ax_k94 : ax_mck ax_m94 = true := by decide +kernel
theorem ax_k95 : ax_mck ax_m95 = true := by decide +kernel
theorem ax_k96 : ax_mck ax_m96 = true := by decide +kernel
theorem ax_k97 : ax_mck ax_m97 = true := by decide +kernel
theorem ax_k98 : ax_mck ax_m98 = true := by decide +kernel
theorem ax_k99 : ax_mck ax_m99 = true := by decide +kernel
theorem ax_k100 : ax_mck ax_m100 = true := by decide +kernel
theorem ax_k101 : ax_mck ax_m101 = true := by decide +kernel
theorem ax_k102 : ax_mck ax_m102 = true := by decide +kernel
theorem ax_k103 : ax_mck ax_m103 = true := by decide +kernel
theorem ax_k104 : ax_mck ax_m104 = true := by decide +kernel
theorem ax_k105 : ax_mck ax_m105 = true := by decide +kernel
theorem ax_k106 : ax_mck ax_m106 = true := by decide +kernel
theorem ax_k107 : ax_mck ax_m107 = true := by decide +kernel
theorem ax_k108 : ax_mck ax_m108 = true := by decide +kernel
theorem ax_k109 : ax_mck ax_m109 = true := by decide +kernel
theorem ax_k110 : ax_mck ax_m110 = true := by decide +kernel
theorem ax_k111 : ax_mck ax_m111 = true := by decide +kernel
theorem ax_k112 : ax_mck ax_m112 = true := by decide +kernel
theorem ax_k113 : ax_mck ax_m113 = true := by decide +kernel
theorem ax_k114 : ax_mck ax_m114 = true := by decide +kernel
theorem ax_k115 : ax_mck ax_m115 = true := by decide +kernel
theorem ax_k116 : ax_mck ax_m116 = true := by decide +kernel
theorem ax_k117 : ax_mck ax_m117 = true := by decide +kernel
theorem ax_k118 : ax_mck ax_m118 = true := by decide +kernel
theorem ax_k119 : ax_mck ax_m119 = true := by decide +kernel
theorem ax_k120 : ax_mck ax_m120 = true := by decide +kernel
theorem ax_k121 : ax_mck ax_m121 = true := by decide +kernel
theorem ax_k122 : ax_mck ax_m122 = true := by decide +kernel
theorem ax_k123 : ax_mck ax_m123 = true := by decide +kernel
theorem ax_k124 : ax_mck ax_m124 = true := by decide +kernel
theorem ax_k125 : ax_mck ax_m125 = true := by decide +kernel
theorem ax_k126 : ax_mck ax_m126 = true := by decide +kernel
theorem ax_k127 : ax_mck ax_m127 = true := by decide +kernel
theorem ax_k128 : ax_mck ax_m128 = true := by decide +kernel
theorem ax_k129 : ax_mck ax_m129 = true := by decide +kernel
theorem ax_k130 : ax_mck ax_m130 = true := by decide +kernel
theorem ax_k131 : ax_mck ax_m131 = true := by decide +kernel
theorem ax_k132 : ax_mck ax_m132 = true := by decide +kernel
theorem ax_k133 : ax_mck ax_m133 = true := by decide +kernel
theorem ax_k134 : ax_mck ax_m134 = true := by decide +kernel
theorem ax_k135 : ax_mck ax_m135 = true := by decide +kernel
theorem ax_k136 : ax_mck ax_m136 = true := by decide +kernel
theorem ax_k137 : ax_mck ax_m137 = true := by decide +kernel
theorem ax_k138 : ax_mck ax_m138 = true := by decide +kernel
theorem ax_k139 : ax_mck ax_m139 = true := by decide +kernel
theorem ax_k140 : ax_mck ax_m140 = true := by decide +kernel
theorem ax_k141 : ax_mck ax_m141 = true := by decide +kernel
set_option maxRecDepth 20000 in
theorem ax_p0 : Cond.code (ax_y ax_m0) (ax_c ax_m0) (ax_n ax_m0) (ax_r ax_m0) ∈ lw_tbl := List.mem_of_getElem? (i := 637) rfl
theorem ax_q0 : ax_wck ax_m0 := (⟨List.mem_of_getElem? (i := 635) (by decide +kernel), List.mem_of_getElem? (i := 636) (by decide +kernel)⟩ : Cond.instanceMethod (ax_y ax_m0) ∈ lw_tbl ∧ Cond.selects (ax_y ax_m0).cls (ax_y ax_m0) (ax_y ax_m0) ∈ lw_tbl)
set_option maxRecDepth 20000 in
theorem ax_p1 : Cond.code (ax_y ax_m1) (ax_c ax_m1) (ax_n ax_m1) (ax_r ax_m1) ∈ lw_tbl := List.mem_of_getElem? (i := 651) rfl
theorem ax_q1 : ax_wck ax_m1 := (⟨List.mem_of_getElem? (i := 649) (by decide +kernel), List.mem_of_getElem? (i := 650) (by decide +kernel)⟩ : Cond.instanceMethod (ax_y ax_m1) ∈ lw_tbl ∧ Cond.selects (ax_y ax_m1).cls (ax_y ax_m1) (ax_y ax_m1) ∈ lw_tbl)
set_option maxRecDepth 20000 in
theorem ax_p2 : Cond.code (ax_y ax_m2) (ax_c ax_m2) (ax_n ax_m2) (ax_r ax_m2) ∈ lw_tbl := List.mem_of_getElem? (i := 492) rfl
theorem ax_q2 : ax_wck ax_m2 := (⟨List.mem_of_getElem? (i := 490) (by decide +kernel), List.mem_of_getElem? (i := 491) (by decide +kernel)⟩ : Cond.instanceMethod (ax_y ax_m2) ∈ lw_tbl ∧ Cond.selects (ax_y ax_m2).cls (ax_y ax_m2) (ax_y ax_m2) ∈ lw_tbl)
set_option maxRecDepth 20000 in
theorem ax_p3 : Cond.code (ax_y ax_m3) (ax_c ax_m3) (ax_n ax_m3) (ax_r ax_m3) ∈ lw_tbl := List.mem_of_getElem? (i := 294) rfl
theorem ax_q3 : ax_wck ax_m3 := (⟨List.mem_of_getElem? (i := 292) (by decide +kernel), List.mem_of_getElem? (i := 293) (by decide +kernel)⟩ : Cond.instanceMethod (ax_y ax_m3) ∈ lw_tbl ∧ Cond.selects (ax_y ax_m3).cls (ax_y ax_m3) (ax_y ax_m3) ∈ lw_tbl)
set_option maxRecDepth 20000 in
theorem ax_p4 : Cond.code (ax_y ax_m4) (ax_c ax_m4) (ax_n ax_m4) (ax_r ax_m4) ∈ lw_tbl := List.mem_of_getElem? (i := 697) rfl
theorem ax_q4 : ax_wck ax_m4 := (⟨List.mem_of_getElem? (i := 695) (by decide +kernel), List.mem_of_getElem? (i := 696) (by decide +kernel)⟩ : Cond.instanceMethod (ax_y ax_m4) ∈ lw_tbl ∧ Cond.selects (ax_y ax_m4).cls (ax_y ax_m4) (ax_y ax_m4) ∈ lw_tbl)
set_option maxRecDepth 20000 in
theorem ax_p5 : Cond.code (ax_y ax_m5) (ax_c ax_m5) (ax_n ax_m5) (ax_r ax_m5) ∈ lw_tbl := List.mem_of_getElem? (i := 794) rfl
theorem ax_q5 : ax_wck ax_m5 := (⟨List.mem_of_getElem? (i := 792) (by decide +kernel), List.mem_of_getElem? (i := 793) (by decide +kernel)⟩ : Cond.instanceMethod (ax_y ax_m5) ∈ lw_tbl ∧ Cond.selects (ax_y ax_m5).cls (ax_y ax_m5) (ax_y ax_m5) ∈ lw_tbl)
set_option maxRecDepth 20000 in
theorem ax_p6 : Cond.code (ax_y ax_m6) (ax_c ax_m6) (ax_n ax_m6) (ax_r ax_m6) ∈ lw_tbl := List.mem_of_getElem? (i := 831) rfl
theorem ax_q6 : ax_wck ax_m6 := (⟨List.mem_of_getElem? (i := 829) (by decide +kernel), List.mem_of_getElem? (i := 830) (by decide +kernel)⟩ : Cond.instanceMethod (ax_y ax_m6) ∈ lw_tbl ∧ Cond.selects (ax_y ax_m6).cls (ax_y ax_m6) (ax_y ax_m6) ∈ lw_tbl)
set_option maxRecDepth 20000 in
theorem ax_p7 : Cond.code (ax_y ax_m7) (ax_c ax_m7) (ax_n ax_m7) (ax_r ax_m7) ∈ lw_tbl := List.mem_of_getElem? (i := 270) rfl
theorem ax_q7 : ax_wck ax_m7 := (⟨List.mem_of_getElem? (i := 268) (by decide +kernel), List.mem_of_getElem? (i := 269) (by decide +kernel)⟩ : Cond.instanceMethod (ax_y ax_m7) ∈ lw_tbl ∧ Cond.selects (ax_y ax_m7).cls (ax_y ax_m7) (ax_y ax_m7) ∈ lw_tbl)
set_option maxRecDepth 20000 in
theorem ax_p8 : Cond.code (ax_y ax_m8) (ax_c ax_m8) (ax_n ax_m8) (ax_r ax_m8) ∈ lw_tbl := List.mem_of_getElem? (i := 617) rfl
theorem ax_q8 : ax_wck ax_m8 := (⟨List.mem_of_getElem? (i := 615) (by decide +kernel), List.mem_of_getElem? (i := 616) (by decide +kernel)⟩ : Cond.instanceMethod (ax_y ax_m8) ∈ lw_tbl ∧ Cond.selects (ax_y ax_m8).cls (ax_y ax_m8) (ax_y ax_m8) ∈ lw_tbl)
set_option maxRecDepth 20000 in
theorem ax_p9 : Cond.code (ax_y ax_m9) (ax_c ax_m9) (ax_n ax_m9) (ax_r ax_m9) ∈ lw_tbl := List.mem_of_getElem? (i := 451) rfl
theorem ax_q9 : ax_wck ax_m9 := (⟨List.mem_of_getElem? (i := 449) (by decide +kernel), List.mem_of_getElem? (i := 450) (by decide +kernel)⟩ : Cond.instanceMethod (ax_y ax_m9) ∈ lw_tbl ∧ Cond.selects (ax_y ax_m9).cls (ax_y ax_m9) (ax_y ax_m9) ∈ lw_tbl)
set_option maxRecDepth 20000 in
theorem ax_p10 : Cond.code (ax_y ax_m10) (ax_c ax_m10) (ax_n ax_m10) (ax_r ax_m10) ∈ lw_tbl := List.mem_of_getElem? (i := 391) rfl
theorem ax_q10 : ax_wck ax_m10 := (⟨List.mem_of_getElem? (i := 389) (by decide +kernel), List.mem_of_getElem? (i := 390) (by decide +kernel)⟩ : Cond.instanceMethod (ax_y ax_m10) ∈ lw_tbl ∧ Cond.selects (ax_y ax_m10).cls (ax_y ax_m10) (ax_y ax_m10) ∈ lw_tbl)
set_option maxRecDepth 20000 in
theorem ax_p11 : Cond.code (ax_y ax_m11) (ax_c ax_m11) (ax_n ax_m11) (ax_r ax_m11) ∈ lw_tbl := List.mem_of_getElem? (i := 419) rfl
theorem ax_q11 : ax_wck ax_m11 := (⟨List.mem_of_getElem? (i := 417) (by decide +kernel), List.mem_of_getElem? (i := 418) (by decide +kernel)⟩ : Cond.instanceMethod (ax_y ax_m11) ∈ lw_tbl ∧ Cond.selects (ax_y ax_m11).cls (ax_y ax_m11) (ax_y ax_m11) ∈ lw_tbl)
set_option maxRecDepth 20000 in
theorem ax_p12 : Cond.code (ax_y ax_m12) (ax_c ax_m12) (ax_n ax_m12) (ax_r ax_m12) ∈ lw_tbl := List.mem_of_getElem? (i := 471) rfl
theorem ax_q12 : ax_wck ax_m12 := (⟨List.mem_of_getElem? (i := 469) (by decide +kernel), List.mem_of_getElem? (i := 470) (by decide +kernel)⟩ : Cond.instanceMethod (ax_y ax_m12) ∈ lw_tbl ∧ Cond.selects (ax_y ax_m12).cls (ax_y ax_m12) (ax_y ax_m12) ∈ lw_tbl)
set_option maxRecDepth 20000 in
theorem ax_p13 : Cond.code (ax_y ax_m13) (ax_c ax_m13) (ax_n ax_m13) (ax_r ax_m13) ∈ lw_tbl := List.mem_of_getElem? (i := 467) rfl
theorem ax_q13 : ax_wck ax_m13 := (⟨List.mem_of_getElem? (i := 465) (by decide +kernel), List.mem_of_getElem? (i := 466) (by decide +kernel)⟩ : Cond.instanceMethod (ax_y ax_m13) ∈ lw_tbl ∧ Cond.selects (ax_y ax_m13).cls (ax_y ax_m13) (ax_y ax_m13) ∈ lw_tbl)
set_option maxRecDepth 20000 in
theorem ax_p14 : Cond.code (ax_y ax_m14) (ax_c ax_m14) (ax_n ax_m14) (ax_r ax_m14) ∈ lw_tbl := List.mem_of_getElem? (i := 548) rfl
theorem ax_q14 : ax_wck ax_m14 := (⟨List.mem_of_getElem? (i := 546) (by decide +kernel), List.mem_of_getElem? (i := 547) (by decide +kernel)⟩ : Cond.instanceMethod (ax_y ax_m14) ∈ lw_tbl ∧ Cond.selects (ax_y ax_m14).cls (ax_y ax_m14) (ax_y ax_m14) ∈ lw_tbl)
set_option maxRecDepth 20000 in
theorem ax_p15 : Cond.code (ax_y ax_m15) (ax_c ax_m15) (ax_n ax_m15) (ax_r ax_m15) ∈ lw_tbl := List.mem_of_getElem? (i := 544) rfl
theorem ax_q15 : ax_wck ax_m15 := (⟨List.mem_of_getElem? (i := 542) (by decide +kernel), List.mem_of_getElem? (i := 543) (by decide +kernel)⟩ : Cond.instanceMethod (ax_y ax_m15) ∈ lw_tbl ∧ Cond.selects (ax_y ax_m15).cls (ax_y ax_m15) (ax_y ax_m15) ∈ lw_tbl)
set_option maxRecDepth 20000 in
theorem ax_p16 : Cond.code (ax_y ax_m16) (ax_c ax_m16) (ax_n ax_m16) (ax_r ax_m16) ∈ lw_tbl := List.mem_of_getElem? (i := 571) rfl
theorem ax_q16 : ax_wck ax_m16 := (⟨List.mem_of_getElem? (i := 569) (by decide +kernel), List.mem_of_getElem? (i := 570) (by decide +kernel)⟩ : Cond.instanceMethod (ax_y ax_m16) ∈ lw_tbl ∧ Cond.selects (ax_y ax_m16).cls (ax_y ax_m16) (ax_y ax_m16) ∈ lw_tbl)
set_option maxRecDepth 20000 in
theorem ax_p17 : Cond.code (ax_y ax_m17) (ax_c ax_m17) (ax_n ax_m17) (ax_r ax_m17) ∈ lw_tbl := List.mem_of_getElem? (i := 480) rfl
theorem ax_q17 : ax_wck ax_m17 := (⟨List.mem_of_getElem? (i := 478) (by decide +kernel), List.mem_of_getElem? (i := 479) (by decide +kernel)⟩ : Cond.instanceMethod (ax_y ax_m17) ∈ lw_tbl ∧ Cond.selects (ax_y ax_m17).cls (ax_y ax_m17) (ax_y ax_m17) ∈ lw_tbl)
set_option maxRecDepth 20000 in
theorem ax_p18 : Cond.code (ax_y ax_m18) (ax_c ax_m18) (ax_n ax_m18) (ax_r ax_m18) ∈ lw_tbl := List.mem_of_getElem? (i := 476) rfl
theorem ax_q18 : ax_wck ax_m18 := (⟨List.mem_of_getElem? (i := 474) (by decide +kernel), List.mem_of_getElem? (i := 475) (by decide +kernel)⟩ : Cond.instanceMethod (ax_y ax_m18) ∈ lw_tbl ∧ Cond.selects (ax_y ax_m18).cls (ax_y ax_m18) (ax_y ax_m18) ∈ lw_tbl)
set_option maxRecDepth 20000 in
theorem ax_p19 : Cond.code (ax_y ax_m19) (ax_c ax_m19) (ax_n ax_m19) (ax_r ax_m19) ∈ lw_tbl := List.mem_of_getElem? (i := 723) rfl
theorem ax_q19 : ax_wck ax_m19 := (⟨List.mem_of_getElem? (i := 721) (by decide +kernel), List.mem_of_getElem? (i := 722) (by decide +kernel)⟩ : Cond.instanceMethod (ax_y ax_m19) ∈ lw_tbl ∧ Cond.selects (ax_y ax_m19).cls (ax_y ax_m19) (ax_y ax_m19) ∈ lw_tbl)
set_option maxRecDepth 20000 in
theorem ax_p20 : Cond.code (ax_y ax_m20) (ax_c ax_m20) (ax_n ax_m20) (ax_r ax_m20) ∈ lw_tbl := List.mem_of_getElem? (i := 463) rfl
theorem ax_q20 : ax_wck ax_m20 := (⟨List.mem_of_getElem? (i := 461) (by decide +kernel), List.mem_of_getElem? (i := 462) (by decide +kernel)⟩ : Cond.instanceMethod (ax_y ax_m20) ∈ lw_tbl ∧ Cond.selects (ax_y ax_m20).cls (ax_y ax_m20) (ax_y ax_m20) ∈ lw_tbl)
set_option maxRecDepth 20000 in
theorem ax_p21 : Cond.code (ax_y ax_m21) (ax_c ax_m21) (ax_n ax_m21) (ax_r ax_m21) ∈ lw_tbl := List.mem_of_getElem? (i := 535) rfl
theorem ax_q21 : ax_wck ax_m21 := (⟨List.mem_of_getElem? (i := 533) (by decide +kernel), List.mem_of_getElem? (i := 534) (by decide +kernel)⟩ : Cond.instanceMethod (ax_y ax_m21) ∈ lw_tbl ∧ Cond.selects (ax_y ax_m21).cls (ax_y ax_m21) (ax_y ax_m21) ∈ lw_tbl)
set_option maxRecDepth 20000 in
theorem ax_p22 : Cond.code (ax_y ax_m22) (ax_c ax_m22) (ax_n ax_m22) (ax_r ax_m22) ∈ lw_tbl := List.mem_of_getElem? (i := 693) rfl
theorem ax_q22 : ax_wck ax_m22 := (⟨List.mem_of_getElem? (i := 691) (by decide +kernel), List.mem_of_getElem? (i := 692) (by decide +kernel)⟩ : Cond.instanceMethod (ax_y ax_m22) ∈ lw_tbl ∧ Cond.selects (ax_y ax_m22).cls (ax_y ax_m22) (ax_y ax_m22) ∈ lw_tbl)
set_option maxRecDepth 20000 in
theorem ax_p23 : Cond.code (ax_y ax_m23) (ax_c ax_m23) (ax_n ax_m23) (ax_r ax_m23) ∈ lw_tbl := List.mem_of_getElem? (i := 816) rfl
theorem ax_q23 : ax_wck ax_m23 := (⟨List.mem_of_getElem? (i := 814) (by decide +kernel), List.mem_of_getElem? (i := 815) (by decide +kernel)⟩ : Cond.instanceMethod (ax_y ax_m23) ∈ lw_tbl ∧ Cond.selects (ax_y ax_m23).cls (ax_y ax_m23) (ax_y ax_m23) ∈ lw_tbl)
set_option maxRecDepth 20000 in
theorem ax_p24 : Cond.code (ax_y ax_m24) (ax_c ax_m24) (ax_n ax_m24) (ax_r ax_m24) ∈ lw_tbl := List.mem_of_getElem? (i := 703) rfl
theorem ax_q24 : ax_wck ax_m24 := (⟨List.mem_of_getElem? (i := 701) (by decide +kernel), List.mem_of_getElem? (i := 702) (by decide +kernel)⟩ : Cond.instanceMethod (ax_y ax_m24) ∈ lw_tbl ∧ Cond.selects (ax_y ax_m24).cls (ax_y ax_m24) (ax_y ax_m24) ∈ lw_tbl)
set_option maxRecDepth 20000 in
theorem ax_p25 : Cond.code (ax_y ax_m25) (ax_c ax_m25) (ax_n ax_m25) (ax_r ax_m25) ∈ lw_tbl := List.mem_of_getElem? (i := 780) rfl
theorem ax_q25 : ax_wck ax_m25 := (⟨List.mem_of_getElem? (i := 779) (by decide +kernel), List.mem_of_getElem? (i := 25) (by decide +kernel)⟩ : Cond.instanceMethod (ax_y ax_m25) ∈ lw_tbl ∧ Cond.selects (ax_y ax_m25).cls (ax_y ax_m25) (ax_y ax_m25) ∈ lw_tbl)
set_option maxRecDepth 20000 in
theorem ax_p26 : Cond.code (ax_y ax_m26) (ax_c ax_m26) (ax_n ax_m26) (ax_r ax_m26) ∈ lw_tbl := List.mem_of_getElem? (i := 798) rfl
theorem ax_q26 : ax_wck ax_m26 := (⟨List.mem_of_getElem? (i := 797) (by decide +kernel), List.mem_of_getElem? (i := 26) (by decide +kernel)⟩ : Cond.instanceMethod (ax_y ax_m26) ∈ lw_tbl ∧ Cond.selects (ax_y ax_m26).cls (ax_y ax_m26) (ax_y ax_m26) ∈ lw_tbl)
set_option maxRecDepth 20000 in
theorem ax_p27 : Cond.code (ax_y ax_m27) (ax_c ax_m27) (ax_n ax_m27) (ax_r ax_m27) ∈ lw_tbl := List.mem_of_getElem? (i := 807) rfl
theorem ax_q27 : ax_wck ax_m27 := (⟨List.mem_of_getElem? (i := 806) (by decide +kernel), List.mem_of_getElem? (i := 28) (by decide +kernel)⟩ : Cond.instanceMethod (ax_y ax_m27) ∈ lw_tbl ∧ Cond.selects (ax_y ax_m27).cls (ax_y ax_m27) (ax_y ax_m27) ∈ lw_tbl)
set_option maxRecDepth 20000 in
theorem ax_p28 : Cond.code (ax_y ax_m28) (ax_c ax_m28) (ax_n ax_m28) (ax_r ax_m28) ∈ lw_tbl := List.mem_of_getElem? (i := 770) rfl
theorem ax_q28 : ax_wck ax_m28 := (⟨List.mem_of_getElem? (i := 769) (by decide +kernel), List.mem_of_getElem? (i := 24) (by decide +kernel)⟩ : Cond.instanceMethod (ax_y ax_m28) ∈ lw_tbl ∧ Cond.selects (ax_y ax_m28).cls (ax_y ax_m28) (ax_y ax_m28) ∈ lw_tbl)
set_option maxRecDepth 20000 in
theorem ax_p29 : Cond.code (ax_y ax_m29) (ax_c ax_m29) (ax_n ax_m29) (ax_r ax_m29) ∈ lw_tbl := List.mem_of_getElem? (i := 708) rfl
theorem ax_q29 : ax_wck ax_m29 := (⟨List.mem_of_getElem? (i := 707) (by decide +kernel), List.mem_of_getElem? (i := 13) (by decide +kernel)⟩ : Cond.instanceMethod (ax_y ax_m29) ∈ lw_tbl ∧ Cond.selects (ax_y ax_m29).cls (ax_y ax_m29) (ax_y ax_m29) ∈ lw_tbl)
set_option maxRecDepth 20000 in
theorem ax_p30 : Cond.code (ax_y ax_m30) (ax_c ax_m30) (ax_n ax_m30) (ax_r ax_m30) ∈ lw_tbl := List.mem_of_getElem? (i := 730) rfl
theorem ax_q30 : ax_wck ax_m30 := (⟨List.mem_of_getElem? (i := 729) (by decide +kernel), List.mem_of_getElem? (i := 16) (by decide +kernel)⟩ : Cond.instanceMethod (ax_y ax_m30) ∈ lw_tbl ∧ Cond.selects (ax_y ax_m30).cls (ax_y ax_m30) (ax_y ax_m30) ∈ lw_tbl)
set_option maxRecDepth 20000 in
theorem ax_p31 : Cond.code (ax_y ax_m31) (ax_c ax_m31) (ax_n ax_m31) (ax_r ax_m31) ∈ lw_tbl := List.mem_of_getElem? (i := 734) rfl
theorem ax_q31 : ax_wck ax_m31 := (⟨List.mem_of_getElem? (i := 733) (by decide +kernel), List.mem_of_getElem? (i := 17) (by decide +kernel)⟩ : Cond.instanceMethod (ax_y ax_m31) ∈ lw_tbl ∧ Cond.selects (ax_y ax_m31).cls (ax_y ax_m31) (ax_y ax_m31) ∈ lw_tbl)
set_option maxRecDepth 20000 in
theorem ax_p32 : Cond.code (ax_y ax_m32) (ax_c ax_m32) (ax_n ax_m32) (ax_r ax_m32) ∈ lw_tbl := List.mem_of_getElem? (i := 739) rfl
theorem ax_q32 : ax_wck ax_m32 := (⟨List.mem_of_getElem? (i := 738) (by decide +kernel), List.mem_of_getElem? (i := 18) (by decide +kernel)⟩ : Cond.instanceMethod (ax_y ax_m32) ∈ lw_tbl ∧ Cond.selects (ax_y ax_m32).cls (ax_y ax_m32) (ax_y ax_m32) ∈ lw_tbl)
set_option maxRecDepth 20000 in
theorem ax_p33 : Cond.code (ax_y ax_m33) (ax_c ax_m33) (ax_n ax_m33) (ax_r ax_m33) ∈ lw_tbl := List.mem_of_getElem? (i := 743) rfl
theorem ax_q33 : ax_wck ax_m33 := (⟨List.mem_of_getElem? (i := 742) (by decide +kernel), List.mem_of_getElem? (i := 19) (by decide +kernel)⟩ : Cond.instanceMethod (ax_y ax_m33) ∈ lw_tbl ∧ Cond.selects (ax_y ax_m33).cls (ax_y ax_m33) (ax_y ax_m33) ∈ lw_tbl)
set_option maxRecDepth 20000 in
theorem ax_p34 : Cond.code (ax_y ax_m34) (ax_c ax_m34) (ax_n ax_m34) (ax_r ax_m34) ∈ lw_tbl := List.mem_of_getElem? (i := 757) rfl
theorem ax_q34 : ax_wck ax_m34 := (⟨List.mem_of_getElem? (i := 756) (by decide +kernel), List.mem_of_getElem? (i := 22) (by decide +kernel)⟩ : Cond.instanceMethod (ax_y ax_m34) ∈ lw_tbl ∧ Cond.selects (ax_y ax_m34).cls (ax_y ax_m34) (ax_y ax_m34) ∈ lw_tbl)
set_option maxRecDepth 20000 in
theorem ax_p35 : Cond.code (ax_y ax_m35) (ax_c ax_m35) (ax_n ax_m35) (ax_r ax_m35) ∈ lw_tbl := List.mem_of_getElem? (i := 802) rfl
theorem ax_q35 : ax_wck ax_m35 := (⟨List.mem_of_getElem? (i := 801) (by decide +kernel), List.mem_of_getElem? (i := 27) (by decide +kernel)⟩ : Cond.instanceMethod (ax_y ax_m35) ∈ lw_tbl ∧ Cond.selects (ax_y ax_m35).cls (ax_y ax_m35) (ax_y ax_m35) ∈ lw_tbl)
set_option maxRecDepth 20000 in
theorem ax_p36 : Cond.code (ax_y ax_m36) (ax_c ax_m36) (ax_n ax_m36) (ax_r ax_m36) ∈ lw_tbl := List.mem_of_getElem? (i := 761) rfl
theorem ax_q36 : ax_wck ax_m36 := (⟨List.mem_of_getElem? (i := 760) (by decide +kernel), List.mem_of_getElem? (i := 23) (by decide +kernel)⟩ : Cond.instanceMethod (ax_y ax_m36) ∈ lw_tbl ∧ Cond.selects (ax_y ax_m36).cls (ax_y ax_m36) (ax_y ax_m36) ∈ lw_tbl)
set_option maxRecDepth 20000 in
theorem ax_p37 : Cond.code (ax_y ax_m37) (ax_c ax_m37) (ax_n ax_m37) (ax_r ax_m37) ∈ lw_tbl := List.mem_of_getElem? (i := 752) rfl
theorem ax_q37 : ax_wck ax_m37 := (⟨List.mem_of_getElem? (i := 751) (by decide +kernel), List.mem_of_getElem? (i := 21) (by decide +kernel)⟩ : Cond.instanceMethod (ax_y ax_m37) ∈ lw_tbl ∧ Cond.selects (ax_y ax_m37).cls (ax_y ax_m37) (ax_y ax_m37) ∈ lw_tbl)
set_option maxRecDepth 20000 in
theorem ax_p38 : Cond.code (ax_y ax_m38) (ax_c ax_m38) (ax_n ax_m38) (ax_r ax_m38) ∈ lw_tbl := List.mem_of_getElem? (i := 748) rfl
theorem ax_q38 : ax_wck ax_m38 := (⟨List.mem_of_getElem? (i := 747) (by decide +kernel), List.mem_of_getElem? (i := 20) (by decide +kernel)⟩ : Cond.instanceMethod (ax_y ax_m38) ∈ lw_tbl ∧ Cond.selects (ax_y ax_m38).cls (ax_y ax_m38) (ax_y ax_m38) ∈ lw_tbl)
set_option maxRecDepth 20000 in
theorem ax_p39 : Cond.code (ax_y ax_m39) (ax_c ax_m39) (ax_n ax_m39) (ax_r ax_m39) ∈ lw_tbl := List.mem_of_getElem? (i := 713) rfl
theorem ax_q39 : ax_wck ax_m39 := (⟨List.mem_of_getElem? (i := 712) (by decide +kernel), List.mem_of_getElem? (i := 14) (by decide +kernel)⟩ : Cond.instanceMethod (ax_y ax_m39) ∈ lw_tbl ∧ Cond.selects (ax_y ax_m39).cls (ax_y ax_m39) (ax_y ax_m39) ∈ lw_tbl)
set_option maxRecDepth 20000 in
theorem ax_p40 : Cond.code (ax_y ax_m40) (ax_c ax_m40) (ax_n ax_m40) (ax_r ax_m40) ∈ lw_tbl := List.mem_of_getElem? (i := 718) rfl
theorem ax_q40 : ax_wck ax_m40 := (⟨List.mem_of_getElem? (i := 717) (by decide +kernel), List.mem_of_getElem? (i := 15) (by decide +kernel)⟩ : Cond.instanceMethod (ax_y ax_m40) ∈ lw_tbl ∧ Cond.selects (ax_y ax_m40).cls (ax_y ax_m40) (ax_y ax_m40) ∈ lw_tbl)
set_option maxRecDepth 20000 in
theorem ax_p41 : Cond.code (ax_y ax_m41) (ax_c ax_m41) (ax_n ax_m41) (ax_r ax_m41) ∈ lw_tbl := List.mem_of_getElem? (i := 262) rfl
theorem ax_q41 : ax_wck ax_m41 := (⟨List.mem_of_getElem? (i := 260) (by decide +kernel), List.mem_of_getElem? (i := 261) (by decide +kernel)⟩ : Cond.instanceMethod (ax_y ax_m41) ∈ lw_tbl ∧ Cond.selects (ax_y ax_m41).cls (ax_y ax_m41) (ax_y ax_m41) ∈ lw_tbl)
set_option maxRecDepth 20000 in
theorem ax_p42 : Cond.code (ax_y ax_m42) (ax_c ax_m42) (ax_n ax_m42) (ax_r ax_m42) ∈ lw_tbl := List.mem_of_getElem? (i := 434) rfl
theorem ax_q42 : ax_wck ax_m42 := (⟨List.mem_of_getElem? (i := 432) (by decide +kernel), List.mem_of_getElem? (i := 433) (by decide +kernel)⟩ : Cond.instanceMethod (ax_y ax_m42) ∈ lw_tbl ∧ Cond.selects (ax_y ax_m42).cls (ax_y ax_m42) (ax_y ax_m42) ∈ lw_tbl)
set_option maxRecDepth 20000 in
theorem ax_p43 : Cond.code (ax_y ax_m43) (ax_c ax_m43) (ax_n ax_m43) (ax_r ax_m43) ∈ lw_tbl := List.mem_of_getElem? (i := 443) rfl
theorem ax_q43 : ax_wck ax_m43 := (⟨List.mem_of_getElem? (i := 441) (by decide +kernel), List.mem_of_getElem? (i := 442) (by decide +kernel)⟩ : Cond.instanceMethod (ax_y ax_m43) ∈ lw_tbl ∧ Cond.selects (ax_y ax_m43).cls (ax_y ax_m43) (ax_y ax_m43) ∈ lw_tbl)
set_option maxRecDepth 20000 in
theorem ax_p44 : Cond.code (ax_y ax_m44) (ax_c ax_m44) (ax_n ax_m44) (ax_r ax_m44) ∈ lw_tbl := List.mem_of_getElem? (i := 438) rfl
theorem ax_q44 : ax_wck ax_m44 := (⟨List.mem_of_getElem? (i := 436) (by decide +kernel), List.mem_of_getElem? (i := 437) (by decide +kernel)⟩ : Cond.instanceMethod (ax_y ax_m44) ∈ lw_tbl ∧ Cond.selects (ax_y ax_m44).cls (ax_y ax_m44) (ax_y ax_m44) ∈ lw_tbl)
set_option maxRecDepth 20000 in
theorem ax_p45 : Cond.code (ax_y ax_m45) (ax_c ax_m45) (ax_n ax_m45) (ax_r ax_m45) ∈ lw_tbl := List.mem_of_getElem? (i := 447) rfl
theorem ax_q45 : ax_wck ax_m45 := (⟨List.mem_of_getElem? (i := 445) (by decide +kernel), List.mem_of_getElem? (i := 446) (by decide +kernel)⟩ : Cond.instanceMethod (ax_y ax_m45) ∈ lw_tbl ∧ Cond.selects (ax_y ax_m45).cls (ax_y ax_m45) (ax_y ax_m45) ∈ lw_tbl)
set_option maxRecDepth 20000 in
theorem ax_p46 : Cond.code (ax_y ax_m46) (ax_c ax_m46) (ax_n ax_m46) (ax_r ax_m46) ∈ lw_tbl := List.mem_of_getElem? (i := 266) rfl
theorem ax_q46 : ax_wck ax_m46 := (⟨List.mem_of_getElem? (i := 264) (by decide +kernel), List.mem_of_getElem? (i := 265) (by decide +kernel)⟩ : Cond.instanceMethod (ax_y ax_m46) ∈ lw_tbl ∧ Cond.selects (ax_y ax_m46).cls (ax_y ax_m46) (ax_y ax_m46) ∈ lw_tbl)
set_option maxRecDepth 20000 in
theorem ax_p47 : Cond.code (ax_y ax_m47) (ax_c ax_m47) (ax_n ax_m47) (ax_r ax_m47) ∈ lw_tbl := List.mem_of_getElem? (i := 540) rfl
theorem ax_q47 : ax_wck ax_m47 := (⟨List.mem_of_getElem? (i := 538) (by decide +kernel), List.mem_of_getElem? (i := 539) (by decide +kernel)⟩ : Cond.instanceMethod (ax_y ax_m47) ∈ lw_tbl ∧ Cond.selects (ax_y ax_m47).cls (ax_y ax_m47) (ax_y ax_m47) ∈ lw_tbl)
set_option maxRecDepth 20000 in
theorem ax_p48 : Cond.code (ax_y ax_m48) (ax_c ax_m48) (ax_n ax_m48) (ax_r ax_m48) ∈ lw_tbl := List.mem_of_getElem? (i := 258) rfl
theorem ax_q48 : ax_wck ax_m48 := (⟨List.mem_of_getElem? (i := 256) (by decide +kernel), List.mem_of_getElem? (i := 257) (by decide +kernel)⟩ : Cond.instanceMethod (ax_y ax_m48) ∈ lw_tbl ∧ Cond.selects (ax_y ax_m48).cls (ax_y ax_m48) (ax_y ax_m48) ∈ lw_tbl)
set_option maxRecDepth 20000 in
theorem ax_p49 : Cond.code (ax_y ax_m49) (ax_c ax_m49) (ax_n ax_m49) (ax_r ax_m49) ∈ lw_tbl := List.mem_of_getElem? (i := 786) rfl
theorem ax_q49 : ax_wck ax_m49 := (⟨List.mem_of_getElem? (i := 784) (by decide +kernel), List.mem_of_getElem? (i := 785) (by decide +kernel)⟩ : Cond.instanceMethod (ax_y ax_m49) ∈ lw_tbl ∧ Cond.selects (ax_y ax_m49).cls (ax_y ax_m49) (ax_y ax_m49) ∈ lw_tbl)
set_option maxRecDepth 20000 in
theorem ax_p50 : Cond.code (ax_y ax_m50) (ax_c ax_m50) (ax_n ax_m50) (ax_r ax_m50) ∈ lw_tbl := List.mem_of_getElem? (i := 790) rfl
theorem ax_q50 : ax_wck ax_m50 := (⟨List.mem_of_getElem? (i := 788) (by decide +kernel), List.mem_of_getElem? (i := 789) (by decide +kernel)⟩ : Cond.instanceMethod (ax_y ax_m50) ∈ lw_tbl ∧ Cond.selects (ax_y ax_m50).cls (ax_y ax_m50) (ax_y ax_m50) ∈ lw_tbl)
set_option maxRecDepth 20000 in
theorem ax_p51 : Cond.code (ax_y ax_m51) (ax_c ax_m51) (ax_n ax_m51) (ax_r ax_m51) ∈ lw_tbl := List.mem_of_getElem? (i := 430) rfl
theorem ax_q51 : ax_wck ax_m51 := (⟨List.mem_of_getElem? (i := 428) (by decide +kernel), List.mem_of_getElem? (i := 429) (by decide +kernel)⟩ : Cond.instanceMethod (ax_y ax_m51) ∈ lw_tbl ∧ Cond.selects (ax_y ax_m51).cls (ax_y ax_m51) (ax_y ax_m51) ∈ lw_tbl)
set_option maxRecDepth 20000 in
theorem ax_p52 : Cond.code (ax_y ax_m52) (ax_c ax_m52) (ax_n ax_m52) (ax_r ax_m52) ∈ lw_tbl := List.mem_of_getElem? (i := 522) rfl
theorem ax_q52 : ax_wck ax_m52 := (⟨List.mem_of_getElem? (i := 520) (by decide +kernel), List.mem_of_getElem? (i := 521) (by decide +kernel)⟩ : Cond.instanceMethod (ax_y ax_m52) ∈ lw_tbl ∧ Cond.selects (ax_y ax_m52).cls (ax_y ax_m52) (ax_y ax_m52) ∈ lw_tbl)
set_option maxRecDepth 20000 in
theorem ax_p53 : Cond.code (ax_y ax_m53) (ax_c ax_m53) (ax_n ax_m53) (ax_r ax_m53) ∈ lw_tbl := List.mem_of_getElem? (i := 531) rfl
theorem ax_q53 : ax_wck ax_m53 := (⟨List.mem_of_getElem? (i := 529) (by decide +kernel), List.mem_of_getElem? (i := 530) (by decide +kernel)⟩ : Cond.instanceMethod (ax_y ax_m53) ∈ lw_tbl ∧ Cond.selects (ax_y ax_m53).cls (ax_y ax_m53) (ax_y ax_m53) ∈ lw_tbl)
set_option maxRecDepth 20000 in
theorem ax_p54 : Cond.code (ax_y ax_m54) (ax_c ax_m54) (ax_n ax_m54) (ax_r ax_m54) ∈ lw_tbl := List.mem_of_getElem? (i := 426) rfl
theorem ax_q54 : ax_wck ax_m54 := (⟨List.mem_of_getElem? (i := 424) (by decide +kernel), List.mem_of_getElem? (i := 425) (by decide +kernel)⟩ : Cond.instanceMethod (ax_y ax_m54) ∈ lw_tbl ∧ Cond.selects (ax_y ax_m54).cls (ax_y ax_m54) (ax_y ax_m54) ∈ lw_tbl)
set_option maxRecDepth 20000 in
theorem ax_p55 : Cond.code (ax_y ax_m55) (ax_c ax_m55) (ax_n ax_m55) (ax_r ax_m55) ∈ lw_tbl := List.mem_of_getElem? (i := 556) rfl
theorem ax_q55 : ax_wck ax_m55 := (⟨List.mem_of_getElem? (i := 554) (by decide +kernel), List.mem_of_getElem? (i := 555) (by decide +kernel)⟩ : Cond.instanceMethod (ax_y ax_m55) ∈ lw_tbl ∧ Cond.selects (ax_y ax_m55).cls (ax_y ax_m55) (ax_y ax_m55) ∈ lw_tbl)
set_option maxRecDepth 20000 in
theorem ax_p56 : Cond.code (ax_y ax_m56) (ax_c ax_m56) (ax_n ax_m56) (ax_r ax_m56) ∈ lw_tbl := List.mem_of_getElem? (i := 254) rfl
theorem ax_q56 : ax_wck ax_m56 := (⟨List.mem_of_getElem? (i := 252) (by decide +kernel), List.mem_of_getElem? (i := 253) (by decide +kernel)⟩ : Cond.instanceMethod (ax_y ax_m56) ∈ lw_tbl ∧ Cond.selects (ax_y ax_m56).cls (ax_y ax_m56) (ax_y ax_m56) ∈ lw_tbl)
set_option maxRecDepth 20000 in
theorem ax_p57 : Cond.code (ax_y ax_m57) (ax_c ax_m57) (ax_n ax_m57) (ax_r ax_m57) ∈ lw_tbl := List.mem_of_getElem? (i := 387) rfl
theorem ax_q57 : ax_wck ax_m57 := (⟨List.mem_of_getElem? (i := 385) (by decide +kernel), List.mem_of_getElem? (i := 386) (by decide +kernel)⟩ : Cond.instanceMethod (ax_y ax_m57) ∈ lw_tbl ∧ Cond.selects (ax_y ax_m57).cls (ax_y ax_m57) (ax_y ax_m57) ∈ lw_tbl)
set_option maxRecDepth 20000 in
theorem ax_p58 : Cond.code (ax_y ax_m58) (ax_c ax_m58) (ax_n ax_m58) (ax_r ax_m58) ∈ lw_tbl := List.mem_of_getElem? (i := 599) rfl
theorem ax_q58 : ax_wck ax_m58 := (⟨List.mem_of_getElem? (i := 597) (by decide +kernel), List.mem_of_getElem? (i := 598) (by decide +kernel)⟩ : Cond.instanceMethod (ax_y ax_m58) ∈ lw_tbl ∧ Cond.selects (ax_y ax_m58).cls (ax_y ax_m58) (ax_y ax_m58) ∈ lw_tbl)
set_option maxRecDepth 20000 in
theorem ax_p59 : Cond.code (ax_y ax_m59) (ax_c ax_m59) (ax_n ax_m59) (ax_r ax_m59) ∈ lw_tbl := List.mem_of_getElem? (i := 613) rfl
theorem ax_q59 : ax_wck ax_m59 := (⟨List.mem_of_getElem? (i := 611) (by decide +kernel), List.mem_of_getElem? (i := 612) (by decide +kernel)⟩ : Cond.instanceMethod (ax_y ax_m59) ∈ lw_tbl ∧ Cond.selects (ax_y ax_m59).cls (ax_y ax_m59) (ax_y ax_m59) ∈ lw_tbl)
set_option maxRecDepth 20000 in
theorem ax_p60 : Cond.code (ax_y ax_m60) (ax_c ax_m60) (ax_n ax_m60) (ax_r ax_m60) ∈ lw_tbl := List.mem_of_getElem? (i := 411) rfl
theorem ax_q60 : ax_wck ax_m60 := (⟨List.mem_of_getElem? (i := 409) (by decide +kernel), List.mem_of_getElem? (i := 410) (by decide +kernel)⟩ : Cond.instanceMethod (ax_y ax_m60) ∈ lw_tbl ∧ Cond.selects (ax_y ax_m60).cls (ax_y ax_m60) (ax_y ax_m60) ∈ lw_tbl)
set_option maxRecDepth 20000 in
theorem ax_p61 : Cond.code (ax_y ax_m61) (ax_c ax_m61) (ax_n ax_m61) (ax_r ax_m61) ∈ lw_tbl := List.mem_of_getElem? (i := 415) rfl
theorem ax_q61 : ax_wck ax_m61 := (⟨List.mem_of_getElem? (i := 414) (by decide +kernel), List.mem_of_getElem? (i := 1) (by decide +kernel)⟩ : Cond.instanceMethod (ax_y ax_m61) ∈ lw_tbl ∧ Cond.selects (ax_y ax_m61).cls (ax_y ax_m61) (ax_y ax_m61) ∈ lw_tbl)
set_option maxRecDepth 20000 in
theorem ax_p62 : Cond.code (ax_y ax_m62) (ax_c ax_m62) (ax_n ax_m62) (ax_r ax_m62) ∈ lw_tbl := List.mem_of_getElem? (i := 566) rfl
theorem ax_q62 : ax_wck ax_m62 := (⟨List.mem_of_getElem? (i := 565) (by decide +kernel), List.mem_of_getElem? (i := 12) (by decide +kernel)⟩ : Cond.instanceMethod (ax_y ax_m62) ∈ lw_tbl ∧ Cond.selects (ax_y ax_m62).cls (ax_y ax_m62) (ax_y ax_m62) ∈ lw_tbl)
set_option maxRecDepth 20000 in
theorem ax_p63 : Cond.code (ax_y ax_m63) (ax_c ax_m63) (ax_n ax_m63) (ax_r ax_m63) ∈ lw_tbl := List.mem_of_getElem? (i := 455) rfl
theorem ax_q63 : ax_wck ax_m63 := (⟨List.mem_of_getElem? (i := 454) (by decide +kernel), List.mem_of_getElem? (i := 2) (by decide +kernel)⟩ : Cond.instanceMethod (ax_y ax_m63) ∈ lw_tbl ∧ Cond.selects (ax_y ax_m63).cls (ax_y ax_m63) (ax_y ax_m63) ∈ lw_tbl)
set_option maxRecDepth 20000 in
theorem ax_p64 : Cond.code (ax_y ax_m64) (ax_c ax_m64) (ax_n ax_m64) (ax_r ax_m64) ∈ lw_tbl := List.mem_of_getElem? (i := 560) rfl
theorem ax_q64 : ax_wck ax_m64 := (⟨List.mem_of_getElem? (i := 559) (by decide +kernel), List.mem_of_getElem? (i := 11) (by decide +kernel)⟩ : Cond.instanceMethod (ax_y ax_m64) ∈ lw_tbl ∧ Cond.selects (ax_y ax_m64).cls (ax_y ax_m64) (ax_y ax_m64) ∈ lw_tbl)
set_option maxRecDepth 20000 in
theorem ax_p65 : Cond.code (ax_y ax_m65) (ax_c ax_m65) (ax_n ax_m65) (ax_r ax_m65) ∈ lw_tbl := List.mem_of_getElem? (i := 496) rfl
theorem ax_q65 : ax_wck ax_m65 := (⟨List.mem_of_getElem? (i := 495) (by decide +kernel), List.mem_of_getElem? (i := 4) (by decide +kernel)⟩ : Cond.instanceMethod (ax_y ax_m65) ∈ lw_tbl ∧ Cond.selects (ax_y ax_m65).cls (ax_y ax_m65) (ax_y ax_m65) ∈ lw_tbl)
set_option maxRecDepth 20000 in
theorem ax_p66 : Cond.code (ax_y ax_m66) (ax_c ax_m66) (ax_n ax_m66) (ax_r ax_m66) ∈ lw_tbl := List.mem_of_getElem? (i := 501) rfl
theorem ax_q66 : ax_wck ax_m66 := (⟨List.mem_of_getElem? (i := 500) (by decide +kernel), List.mem_of_getElem? (i := 5) (by decide +kernel)⟩ : Cond.instanceMethod (ax_y ax_m66) ∈ lw_tbl ∧ Cond.selects (ax_y ax_m66).cls (ax_y ax_m66) (ax_y ax_m66) ∈ lw_tbl)
set_option maxRecDepth 20000 in
theorem ax_p67 : Cond.code (ax_y ax_m67) (ax_c ax_m67) (ax_n ax_m67) (ax_r ax_m67) ∈ lw_tbl := List.mem_of_getElem? (i := 505) rfl
theorem ax_q67 : ax_wck ax_m67 := (⟨List.mem_of_getElem? (i := 504) (by decide +kernel), List.mem_of_getElem? (i := 6) (by decide +kernel)⟩ : Cond.instanceMethod (ax_y ax_m67) ∈ lw_tbl ∧ Cond.selects (ax_y ax_m67).cls (ax_y ax_m67) (ax_y ax_m67) ∈ lw_tbl)
set_option maxRecDepth 20000 in
theorem ax_p68 : Cond.code (ax_y ax_m68) (ax_c ax_m68) (ax_n ax_m68) (ax_r ax_m68) ∈ lw_tbl := List.mem_of_getElem? (i := 526) rfl
theorem ax_q68 : ax_wck ax_m68 := (⟨List.mem_of_getElem? (i := 525) (by decide +kernel), List.mem_of_getElem? (i := 9) (by decide +kernel)⟩ : Cond.instanceMethod (ax_y ax_m68) ∈ lw_tbl ∧ Cond.selects (ax_y ax_m68).cls (ax_y ax_m68) (ax_y ax_m68) ∈ lw_tbl)
set_option maxRecDepth 20000 in
theorem ax_p69 : Cond.code (ax_y ax_m69) (ax_c ax_m69) (ax_n ax_m69) (ax_r ax_m69) ∈ lw_tbl := List.mem_of_getElem? (i := 552) rfl
theorem ax_q69 : ax_wck ax_m69 := (⟨List.mem_of_getElem? (i := 551) (by decide +kernel), List.mem_of_getElem? (i := 10) (by decide +kernel)⟩ : Cond.instanceMethod (ax_y ax_m69) ∈ lw_tbl ∧ Cond.selects (ax_y ax_m69).cls (ax_y ax_m69) (ax_y ax_m69) ∈ lw_tbl)
set_option maxRecDepth 20000 in
theorem ax_p70 : Cond.code (ax_y ax_m70) (ax_c ax_m70) (ax_n ax_m70) (ax_r ax_m70) ∈ lw_tbl := List.mem_of_getElem? (i := 518) rfl
theorem ax_q70 : ax_wck ax_m70 := (⟨List.mem_of_getElem? (i := 517) (by decide +kernel), List.mem_of_getElem? (i := 8) (by decide +kernel)⟩ : Cond.instanceMethod (ax_y ax_m70) ∈ lw_tbl ∧ Cond.selects (ax_y ax_m70).cls (ax_y ax_m70) (ax_y ax_m70) ∈ lw_tbl)
set_option maxRecDepth 20000 in
theorem ax_p71 : Cond.code (ax_y ax_m71) (ax_c ax_m71) (ax_n ax_m71) (ax_r ax_m71) ∈ lw_tbl := List.mem_of_getElem? (i := 514) rfl
theorem ax_q71 : ax_wck ax_m71 := (⟨List.mem_of_getElem? (i := 513) (by decide +kernel), List.mem_of_getElem? (i := 7) (by decide +kernel)⟩ : Cond.instanceMethod (ax_y ax_m71) ∈ lw_tbl ∧ Cond.selects (ax_y ax_m71).cls (ax_y ax_m71) (ax_y ax_m71) ∈ lw_tbl)
set_option maxRecDepth 20000 in
theorem ax_p72 : Cond.code (ax_y ax_m72) (ax_c ax_m72) (ax_n ax_m72) (ax_r ax_m72) ∈ lw_tbl := List.mem_of_getElem? (i := 485) rfl
theorem ax_q72 : ax_wck ax_m72 := (⟨List.mem_of_getElem? (i := 484) (by decide +kernel), List.mem_of_getElem? (i := 3) (by decide +kernel)⟩ : Cond.instanceMethod (ax_y ax_m72) ∈ lw_tbl ∧ Cond.selects (ax_y ax_m72).cls (ax_y ax_m72) (ax_y ax_m72) ∈ lw_tbl)
set_option maxRecDepth 20000 in
theorem ax_p73 : Cond.code (ax_y ax_m73) (ax_c ax_m73) (ax_n ax_m73) (ax_r ax_m73) ∈ lw_tbl := List.mem_of_getElem? (i := 282) rfl
theorem ax_q73 : ax_wck ax_m73 := (⟨List.mem_of_getElem? (i := 280) (by decide +kernel), List.mem_of_getElem? (i := 281) (by decide +kernel)⟩ : Cond.instanceMethod (ax_y ax_m73) ∈ lw_tbl ∧ Cond.selects (ax_y ax_m73).cls (ax_y ax_m73) (ax_y ax_m73) ∈ lw_tbl)
set_option maxRecDepth 20000 in
theorem ax_p74 : Cond.code (ax_y ax_m74) (ax_c ax_m74) (ax_n ax_m74) (ax_r ax_m74) ∈ lw_tbl := List.mem_of_getElem? (i := 286) rfl
theorem ax_q74 : ax_wck ax_m74 := (⟨List.mem_of_getElem? (i := 284) (by decide +kernel), List.mem_of_getElem? (i := 285) (by decide +kernel)⟩ : Cond.instanceMethod (ax_y ax_m74) ∈ lw_tbl ∧ Cond.selects (ax_y ax_m74).cls (ax_y ax_m74) (ax_y ax_m74) ∈ lw_tbl)
set_option maxRecDepth 20000 in
theorem ax_p75 : Cond.code (ax_y ax_m75) (ax_c ax_m75) (ax_n ax_m75) (ax_r ax_m75) ∈ lw_tbl := List.mem_of_getElem? (i := 290) rfl
theorem ax_q75 : ax_wck ax_m75 := (⟨List.mem_of_getElem? (i := 288) (by decide +kernel), List.mem_of_getElem? (i := 289) (by decide +kernel)⟩ : Cond.instanceMethod (ax_y ax_m75) ∈ lw_tbl ∧ Cond.selects (ax_y ax_m75).cls (ax_y ax_m75) (ax_y ax_m75) ∈ lw_tbl)
set_option maxRecDepth 20000 in
theorem ax_p76 : Cond.code (ax_y ax_m76) (ax_c ax_m76) (ax_n ax_m76) (ax_r ax_m76) ∈ lw_tbl := List.mem_of_getElem? (i := 298) rfl
theorem ax_q76 : ax_wck ax_m76 := (⟨List.mem_of_getElem? (i := 296) (by decide +kernel), List.mem_of_getElem? (i := 297) (by decide +kernel)⟩ : Cond.instanceMethod (ax_y ax_m76) ∈ lw_tbl ∧ Cond.selects (ax_y ax_m76).cls (ax_y ax_m76) (ax_y ax_m76) ∈ lw_tbl)
set_option maxRecDepth 20000 in
theorem ax_p77 : Cond.code (ax_y ax_m77) (ax_c ax_m77) (ax_n ax_m77) (ax_r ax_m77) ∈ lw_tbl := List.mem_of_getElem? (i := 314) rfl
theorem ax_q77 : ax_wck ax_m77 := (List.mem_of_getElem? (i := 313) (by decide +kernel) : Cond.static (ax_y ax_m77) ∈ lw_tbl)
set_option maxRecDepth 20000 in
theorem ax_p78 : Cond.code (ax_y ax_m78) (ax_c ax_m78) (ax_n ax_m78) (ax_r ax_m78) ∈ lw_tbl := List.mem_of_getElem? (i := 311) rfl
theorem ax_q78 : ax_wck ax_m78 := (List.mem_of_getElem? (i := 310) (by decide +kernel) : Cond.static (ax_y ax_m78) ∈ lw_tbl)
set_option maxRecDepth 20000 in
theorem ax_p79 : Cond.code (ax_y ax_m79) (ax_c ax_m79) (ax_n ax_m79) (ax_r ax_m79) ∈ lw_tbl := List.mem_of_getElem? (i := 510) rfl
theorem ax_q79 : ax_wck ax_m79 := (List.mem_of_getElem? (i := 509) (by decide +kernel) : Cond.static (ax_y ax_m79) ∈ lw_tbl)
set_option maxRecDepth 20000 in
theorem ax_p80 : Cond.code (ax_y ax_m80) (ax_c ax_m80) (ax_n ax_m80) (ax_r ax_m80) ∈ lw_tbl := List.mem_of_getElem? (i := 488) rfl
theorem ax_q80 : ax_wck ax_m80 := (List.mem_of_getElem? (i := 487) (by decide +kernel) : Cond.static (ax_y ax_m80) ∈ lw_tbl)
set_option maxRecDepth 20000 in
theorem ax_p81 : Cond.code (ax_y ax_m81) (ax_c ax_m81) (ax_n ax_m81) (ax_r ax_m81) ∈ lw_tbl := List.mem_of_getElem? (i := 422) rfl
theorem ax_q81 : ax_wck ax_m81 := (List.mem_of_getElem? (i := 421) (by decide +kernel) : Cond.static (ax_y ax_m81) ∈ lw_tbl)
set_option maxRecDepth 20000 in
theorem ax_p82 : Cond.code (ax_y ax_m82) (ax_c ax_m82) (ax_n ax_m82) (ax_r ax_m82) ∈ lw_tbl := List.mem_of_getElem? (i := 459) rfl
theorem ax_q82 : ax_wck ax_m82 := (List.mem_of_getElem? (i := 458) (by decide +kernel) : Cond.static (ax_y ax_m82) ∈ lw_tbl)
set_option maxRecDepth 20000 in
theorem ax_p83 : Cond.code (ax_y ax_m83) (ax_c ax_m83) (ax_n ax_m83) (ax_r ax_m83) ∈ lw_tbl := List.mem_of_getElem? (i := 773) rfl
theorem ax_q83 : ax_wck ax_m83 := (List.mem_of_getElem? (i := 772) (by decide +kernel) : Cond.static (ax_y ax_m83) ∈ lw_tbl)
set_option maxRecDepth 20000 in
theorem ax_p84 : Cond.code (ax_y ax_m84) (ax_c ax_m84) (ax_n ax_m84) (ax_r ax_m84) ∈ lw_tbl := List.mem_of_getElem? (i := 776) rfl
theorem ax_q84 : ax_wck ax_m84 := (List.mem_of_getElem? (i := 775) (by decide +kernel) : Cond.static (ax_y ax_m84) ∈ lw_tbl)
set_option maxRecDepth 20000 in
theorem ax_p85 : Cond.code (ax_y ax_m85) (ax_c ax_m85) (ax_n ax_m85) (ax_r ax_m85) ∈ lw_tbl := List.mem_of_getElem? (i := 941) rfl
theorem ax_q85 : ax_wck ax_m85 := (⟨List.mem_of_getElem? (i := 939) (by decide +kernel), List.mem_of_getElem? (i := 940) (by decide +kernel)⟩ : Cond.instanceMethod (ax_y ax_m85) ∈ lw_tbl ∧ Cond.selects (ax_y ax_m85).cls (ax_y ax_m85) (ax_y ax_m85) ∈ lw_tbl)
set_option maxRecDepth 20000 in
theorem ax_p86 : Cond.code (ax_y ax_m86) (ax_c ax_m86) (ax_n ax_m86) (ax_r ax_m86) ∈ lw_tbl := List.mem_of_getElem? (i := 953) rfl
theorem ax_q86 : ax_wck ax_m86 := (⟨List.mem_of_getElem? (i := 952) (by decide +kernel), List.mem_of_getElem? (i := 30) (by decide +kernel)⟩ : Cond.instanceMethod (ax_y ax_m86) ∈ lw_tbl ∧ Cond.selects (ax_y ax_m86).cls (ax_y ax_m86) (ax_y ax_m86) ∈ lw_tbl)
set_option maxRecDepth 20000 in
theorem ax_p87 : Cond.code (ax_y ax_m87) (ax_c ax_m87) (ax_n ax_m87) (ax_r ax_m87) ∈ lw_tbl := List.mem_of_getElem? (i := 962) rfl
theorem ax_q87 : ax_wck ax_m87 := (List.mem_of_getElem? (i := 961) (by decide +kernel) : Cond.static (ax_y ax_m87) ∈ lw_tbl)
set_option maxRecDepth 20000 in
theorem ax_p88 : Cond.code (ax_y ax_m88) (ax_c ax_m88) (ax_n ax_m88) (ax_r ax_m88) ∈ lw_tbl := List.mem_of_getElem? (i := 959) rfl
theorem ax_q88 : ax_wck ax_m88 := (List.mem_of_getElem? (i := 958) (by decide +kernel) : Cond.static (ax_y ax_m88) ∈ lw_tbl)
set_option maxRecDepth 20000 in
theorem ax_p89 : Cond.code (ax_y ax_m89) (ax_c ax_m89) (ax_n ax_m89) (ax_r ax_m89) ∈ lw_tbl := List.mem_of_getElem? (i := 993) rfl
theorem ax_q89 : ax_wck ax_m89 := (⟨List.mem_of_getElem? (i := 992) (by decide +kernel), List.mem_of_getElem? (i := 37) (by decide +kernel)⟩ : Cond.instanceMethod (ax_y ax_m89) ∈ lw_tbl ∧ Cond.selects (ax_y ax_m89).cls (ax_y ax_m89) (ax_y ax_m89) ∈ lw_tbl)
set_option maxRecDepth 20000 in
theorem ax_p90 : Cond.code (ax_y ax_m90) (ax_c ax_m90) (ax_n ax_m90) (ax_r ax_m90) ∈ lw_tbl := List.mem_of_getElem? (i := 997) rfl
theorem ax_q90 : ax_wck ax_m90 := (⟨List.mem_of_getElem? (i := 996) (by decide +kernel), List.mem_of_getElem? (i := 38) (by decide +kernel)⟩ : Cond.instanceMethod (ax_y ax_m90) ∈ lw_tbl ∧ Cond.selects (ax_y ax_m90).cls (ax_y ax_m90) (ax_y ax_m90) ∈ lw_tbl)
set_option maxRecDepth 20000 in
theorem ax_p91 : Cond.code (ax_y ax_m91) (ax_c ax_m91) (ax_n ax_m91) (ax_r ax_m91) ∈ lw_tbl := List.mem_of_getElem? (i := 970) rfl
theorem ax_q91 : ax_wck ax_m91 := (⟨List.mem_of_getElem? (i := 969) (by decide +kernel), List.mem_of_getElem? (i := 32) (by decide +kernel)⟩ : Cond.instanceMethod (ax_y ax_m91) ∈ lw_tbl ∧ Cond.selects (ax_y ax_m91).cls (ax_y ax_m91) (ax_y ax_m91) ∈ lw_tbl)
set_option maxRecDepth 20000 in
theorem ax_p92 : Cond.code (ax_y ax_m92) (ax_c ax_m92) (ax_n ax_m92) (ax_r ax_m92) ∈ lw_tbl := List.mem_of_getElem? (i := 1029) rfl
theorem ax_q92 : ax_wck ax_m92 := (⟨List.mem_of_getElem? (i := 1028) (by decide +kernel), List.mem_of_getElem? (i := 46) (by decide +kernel)⟩ : Cond.instanceMethod (ax_y ax_m92) ∈ lw_tbl ∧ Cond.selects (ax_y ax_m92).cls (ax_y ax_m92) (ax_y ax_m92) ∈ lw_tbl)
set_option maxRecDepth 20000 in
theorem ax_p93 : Cond.code (ax_y ax_m93) (ax_c ax_m93) (ax_n ax_m93) (ax_r ax_m93) ∈ lw_tbl := List.mem_of_getElem? (i := 1021) rfl
theorem ax_q93 : ax_wck ax_m93 := (⟨List.mem_of_getElem? (i := 1020) (by decide +kernel), List.mem_of_getElem? (i := 44) (by decide +kernel)⟩ : Cond.instanceMethod (ax_y ax_m93) ∈ lw_tbl ∧ Cond.selects (ax_y ax_m93).cls (ax_y ax_m93) (ax_y ax_m93) ∈ lw_tbl)
set_option maxRecDepth 20000 in
theorem ax_p94 : Cond.code (ax_y ax_m94) (ax_c ax_m94) (ax_n ax_m94) (ax_r ax_m94) ∈ lw_tbl := List.mem_of_getElem? (i := 1025) rfl
theorem ax_q94 : ax_wck ax_m94 := (⟨List.mem_of_getElem? (i := 1024) (by decide +kernel), List.mem_of_getElem? (i := 45) (by decide +kernel)⟩ : Cond.instanceMethod (ax_y ax_m94) ∈ lw_tbl ∧ Cond.selects (ax_y ax_m94).cls (ax_y ax_m94) (ax_y ax_m94) ∈ lw_tbl)
set_option maxRecDepth 20000 in
theorem ax_p95 : Cond.code (ax_y ax_m95) (ax_c ax_m95) (ax_n ax_m95) (ax_r ax_m95) ∈ lw_tbl := List.mem_of_getElem? (i := 1056) rfl
theorem ax_q95 : ax_wck ax_m95 := (⟨List.mem_of_getElem? (i := 1055) (by decide +kernel), List.mem_of_getElem? (i := 51) (by decide +kernel)⟩ : Cond.instanceMethod (ax_y ax_m95) ∈ lw_tbl ∧ Cond.selects (ax_y ax_m95).cls (ax_y ax_m95) (ax_y ax_m95) ∈ lw_tbl)
set_option maxRecDepth 20000 in
theorem ax_p96 : Cond.code (ax_y ax_m96) (ax_c ax_m96) (ax_n ax_m96) (ax_r ax_m96) ∈ lw_tbl := List.mem_of_getElem? (i := 981) rfl
theorem ax_q96 : ax_wck ax_m96 := (⟨List.mem_of_getElem? (i := 980) (by decide +kernel), List.mem_of_getElem? (i := 34) (by decide +kernel)⟩ : Cond.instanceMethod (ax_y ax_m96) ∈ lw_tbl ∧ Cond.selects (ax_y ax_m96).cls (ax_y ax_m96) (ax_y ax_m96) ∈ lw_tbl)
set_option maxRecDepth 20000 in
theorem ax_p97 : Cond.code (ax_y ax_m97) (ax_c ax_m97) (ax_n ax_m97) (ax_r ax_m97) ∈ lw_tbl := List.mem_of_getElem? (i := 973) rfl
theorem ax_q97 : ax_wck ax_m97 := (List.mem_of_getElem? (i := 972) (by decide +kernel) : Cond.static (ax_y ax_m97) ∈ lw_tbl)
set_option maxRecDepth 20000 in
theorem ax_p98 : Cond.code (ax_y ax_m98) (ax_c ax_m98) (ax_n ax_m98) (ax_r ax_m98) ∈ lw_tbl := List.mem_of_getElem? (i := 1048) rfl
theorem ax_q98 : ax_wck ax_m98 := (List.mem_of_getElem? (i := 1047) (by decide +kernel) : Cond.static (ax_y ax_m98) ∈ lw_tbl)
set_option maxRecDepth 20000 in
theorem ax_p99 : Cond.code (ax_y ax_m99) (ax_c ax_m99) (ax_n ax_m99) (ax_r ax_m99) ∈ lw_tbl := List.mem_of_getElem? (i := 985) rfl
theorem ax_q99 : ax_wck ax_m99 := (⟨List.mem_of_getElem? (i := 984) (by decide +kernel), List.mem_of_getElem? (i := 35) (by decide +kernel)⟩ : Cond.instanceMethod (ax_y ax_m99) ∈ lw_tbl ∧ Cond.selects (ax_y ax_m99).cls (ax_y ax_m99) (ax_y ax_m99) ∈ lw_tbl)
set_option maxRecDepth 20000 in
theorem ax_p100 : Cond.code (ax_y ax_m100) (ax_c ax_m100) (ax_n ax_m100) (ax_r ax_m100) ∈ lw_tbl := List.mem_of_getElem? (i := 1033) rfl
theorem ax_q100 : ax_wck ax_m100 := (⟨List.mem_of_getElem? (i := 1032) (by decide +kernel), List.mem_of_getElem? (i := 47) (by decide +kernel)⟩ : Cond.instanceMethod (ax_y ax_m100) ∈ lw_tbl ∧ Cond.selects (ax_y ax_m100).cls (ax_y ax_m100) (ax_y ax_m100) ∈ lw_tbl)
set_option maxRecDepth 20000 in
theorem ax_p101 : Cond.code (ax_y ax_m101) (ax_c ax_m101) (ax_n ax_m101) (ax_r ax_m101) ∈ lw_tbl := List.mem_of_getElem? (i := 1037) rfl
theorem ax_q101 : ax_wck ax_m101 := (⟨List.mem_of_getElem? (i := 1036) (by decide +kernel), List.mem_of_getElem? (i := 48) (by decide +kernel)⟩ : Cond.instanceMethod (ax_y ax_m101) ∈ lw_tbl ∧ Cond.selects (ax_y ax_m101).cls (ax_y ax_m101) (ax_y ax_m101) ∈ lw_tbl)
set_option maxRecDepth 20000 in
theorem ax_p102 : Cond.code (ax_y ax_m102) (ax_c ax_m102) (ax_n ax_m102) (ax_r ax_m102) ∈ lw_tbl := List.mem_of_getElem? (i := 1076) rfl
theorem ax_q102 : ax_wck ax_m102 := (⟨List.mem_of_getElem? (i := 1075) (by decide +kernel), List.mem_of_getElem? (i := 54) (by decide +kernel)⟩ : Cond.instanceMethod (ax_y ax_m102) ∈ lw_tbl ∧ Cond.selects (ax_y ax_m102).cls (ax_y ax_m102) (ax_y ax_m102) ∈ lw_tbl)
set_option maxRecDepth 20000 in
theorem ax_p103 : Cond.code (ax_y ax_m103) (ax_c ax_m103) (ax_n ax_m103) (ax_r ax_m103) ∈ lw_tbl := List.mem_of_getElem? (i := 1005) rfl
theorem ax_q103 : ax_wck ax_m103 := (⟨List.mem_of_getElem? (i := 1004) (by decide +kernel), List.mem_of_getElem? (i := 40) (by decide +kernel)⟩ : Cond.instanceMethod (ax_y ax_m103) ∈ lw_tbl ∧ Cond.selects (ax_y ax_m103).cls (ax_y ax_m103) (ax_y ax_m103) ∈ lw_tbl)
set_option maxRecDepth 20000 in
theorem ax_p104 : Cond.code (ax_y ax_m104) (ax_c ax_m104) (ax_n ax_m104) (ax_r ax_m104) ∈ lw_tbl := List.mem_of_getElem? (i := 1013) rfl
theorem ax_q104 : ax_wck ax_m104 := (⟨List.mem_of_getElem? (i := 1012) (by decide +kernel), List.mem_of_getElem? (i := 42) (by decide +kernel)⟩ : Cond.instanceMethod (ax_y ax_m104) ∈ lw_tbl ∧ Cond.selects (ax_y ax_m104).cls (ax_y ax_m104) (ax_y ax_m104) ∈ lw_tbl)
set_option maxRecDepth 20000 in
theorem ax_p105 : Cond.code (ax_y ax_m105) (ax_c ax_m105) (ax_n ax_m105) (ax_r ax_m105) ∈ lw_tbl := List.mem_of_getElem? (i := 1017) rfl
theorem ax_q105 : ax_wck ax_m105 := (⟨List.mem_of_getElem? (i := 1016) (by decide +kernel), List.mem_of_getElem? (i := 43) (by decide +kernel)⟩ : Cond.instanceMethod (ax_y ax_m105) ∈ lw_tbl ∧ Cond.selects (ax_y ax_m105).cls (ax_y ax_m105) (ax_y ax_m105) ∈ lw_tbl)
set_option maxRecDepth 20000 in
theorem ax_p106 : Cond.code (ax_y ax_m106) (ax_c ax_m106) (ax_n ax_m106) (ax_r ax_m106) ∈ lw_tbl := List.mem_of_getElem? (i := 1009) rfl
theorem ax_q106 : ax_wck ax_m106 := (⟨List.mem_of_getElem? (i := 1008) (by decide +kernel), List.mem_of_getElem? (i := 41) (by decide +kernel)⟩ : Cond.instanceMethod (ax_y ax_m106) ∈ lw_tbl ∧ Cond.selects (ax_y ax_m106).cls (ax_y ax_m106) (ax_y ax_m106) ∈ lw_tbl)
set_option maxRecDepth 20000 in
theorem ax_p107 : Cond.code (ax_y ax_m107) (ax_c ax_m107) (ax_n ax_m107) (ax_r ax_m107) ∈ lw_tbl := List.mem_of_getElem? (i := 1052) rfl
theorem ax_q107 : ax_wck ax_m107 := (⟨List.mem_of_getElem? (i := 1051) (by decide +kernel), List.mem_of_getElem? (i := 50) (by decide +kernel)⟩ : Cond.instanceMethod (ax_y ax_m107) ∈ lw_tbl ∧ Cond.selects (ax_y ax_m107).cls (ax_y ax_m107) (ax_y ax_m107) ∈ lw_tbl)
set_option maxRecDepth 20000 in
theorem ax_p108 : Cond.code (ax_y ax_m108) (ax_c ax_m108) (ax_n ax_m108) (ax_r ax_m108) ∈ lw_tbl := List.mem_of_getElem? (i := 1001) rfl
theorem ax_q108 : ax_wck ax_m108 := (⟨List.mem_of_getElem? (i := 1000) (by decide +kernel), List.mem_of_getElem? (i := 39) (by decide +kernel)⟩ : Cond.instanceMethod (ax_y ax_m108) ∈ lw_tbl ∧ Cond.selects (ax_y ax_m108).cls (ax_y ax_m108) (ax_y ax_m108) ∈ lw_tbl)
set_option maxRecDepth 20000 in
theorem ax_p109 : Cond.code (ax_y ax_m109) (ax_c ax_m109) (ax_n ax_m109) (ax_r ax_m109) ∈ lw_tbl := List.mem_of_getElem? (i := 989) rfl
theorem ax_q109 : ax_wck ax_m109 := (⟨List.mem_of_getElem? (i := 988) (by decide +kernel), List.mem_of_getElem? (i := 36) (by decide +kernel)⟩ : Cond.instanceMethod (ax_y ax_m109) ∈ lw_tbl ∧ Cond.selects (ax_y ax_m109).cls (ax_y ax_m109) (ax_y ax_m109) ∈ lw_tbl)
set_option maxRecDepth 20000 in
theorem ax_p110 : Cond.code (ax_y ax_m110) (ax_c ax_m110) (ax_n ax_m110) (ax_r ax_m110) ∈ lw_tbl := List.mem_of_getElem? (i := 977) rfl
theorem ax_q110 : ax_wck ax_m110 := (⟨List.mem_of_getElem? (i := 976) (by decide +kernel), List.mem_of_getElem? (i := 33) (by decide +kernel)⟩ : Cond.instanceMethod (ax_y ax_m110) ∈ lw_tbl ∧ Cond.selects (ax_y ax_m110).cls (ax_y ax_m110) (ax_y ax_m110) ∈ lw_tbl)
set_option maxRecDepth 20000 in
theorem ax_p111 : Cond.code (ax_y ax_m111) (ax_c ax_m111) (ax_n ax_m111) (ax_r ax_m111) ∈ lw_tbl := List.mem_of_getElem? (i := 956) rfl
theorem ax_q111 : ax_wck ax_m111 := (List.mem_of_getElem? (i := 955) (by decide +kernel) : Cond.static (ax_y ax_m111) ∈ lw_tbl)
set_option maxRecDepth 20000 in
theorem ax_p112 : Cond.code (ax_y ax_m112) (ax_c ax_m112) (ax_n ax_m112) (ax_r ax_m112) ∈ lw_tbl := List.mem_of_getElem? (i := 966) rfl
theorem ax_q112 : ax_wck ax_m112 := (⟨List.mem_of_getElem? (i := 965) (by decide +kernel), List.mem_of_getElem? (i := 31) (by decide +kernel)⟩ : Cond.instanceMethod (ax_y ax_m112) ∈ lw_tbl ∧ Cond.selects (ax_y ax_m112).cls (ax_y ax_m112) (ax_y ax_m112) ∈ lw_tbl)
set_option maxRecDepth 20000 in
theorem ax_p113 : Cond.code (ax_y ax_m113) (ax_c ax_m113) (ax_n ax_m113) (ax_r ax_m113) ∈ lw_tbl := List.mem_of_getElem? (i := 1045) rfl
theorem ax_q113 : ax_wck ax_m113 := (⟨List.mem_of_getElem? (i := 1044) (by decide +kernel), List.mem_of_getElem? (i := 49) (by decide +kernel)⟩ : Cond.instanceMethod (ax_y ax_m113) ∈ lw_tbl ∧ Cond.selects (ax_y ax_m113).cls (ax_y ax_m113) (ax_y ax_m113) ∈ lw_tbl)
set_option maxRecDepth 20000 in
theorem ax_p114 : Cond.code (ax_y ax_m114) (ax_c ax_m114) (ax_n ax_m114) (ax_r ax_m114) ∈ lw_tbl := List.mem_of_getElem? (i := 1064) rfl
theorem ax_q114 : ax_wck ax_m114 := (⟨List.mem_of_getElem? (i := 1063) (by decide +kernel), List.mem_of_getElem? (i := 52) (by decide +kernel)⟩ : Cond.instanceMethod (ax_y ax_m114) ∈ lw_tbl ∧ Cond.selects (ax_y ax_m114).cls (ax_y ax_m114) (ax_y ax_m114) ∈ lw_tbl)
set_option maxRecDepth 20000 in
theorem ax_p115 : Cond.code (ax_y ax_m115) (ax_c ax_m115) (ax_n ax_m115) (ax_r ax_m115) ∈ lw_tbl := List.mem_of_getElem? (i := 1072) rfl
theorem ax_q115 : ax_wck ax_m115 := (⟨List.mem_of_getElem? (i := 1071) (by decide +kernel), List.mem_of_getElem? (i := 53) (by decide +kernel)⟩ : Cond.instanceMethod (ax_y ax_m115) ∈ lw_tbl ∧ Cond.selects (ax_y ax_m115).cls (ax_y ax_m115) (ax_y ax_m115) ∈ lw_tbl)
set_option maxRecDepth 20000 in
theorem ax_p116 : Cond.code (ax_y ax_m116) (ax_c ax_m116) (ax_n ax_m116) (ax_r ax_m116) ∈ lw_tbl := List.mem_of_getElem? (i := 949) rfl
theorem ax_q116 : ax_wck ax_m116 := (⟨List.mem_of_getElem? (i := 948) (by decide +kernel), List.mem_of_getElem? (i := 29) (by decide +kernel)⟩ : Cond.instanceMethod (ax_y ax_m116) ∈ lw_tbl ∧ Cond.selects (ax_y ax_m116).cls (ax_y ax_m116) (ax_y ax_m116) ∈ lw_tbl)
set_option maxRecDepth 20000 in
theorem ax_p117 : Cond.code (ax_y ax_m117) (ax_c ax_m117) (ax_n ax_m117) (ax_r ax_m117) ∈ lw_tbl := List.mem_of_getElem? (i := 945) rfl
theorem ax_q117 : ax_wck ax_m117 := (⟨List.mem_of_getElem? (i := 943) (by decide +kernel), List.mem_of_getElem? (i := 944) (by decide +kernel)⟩ : Cond.instanceMethod (ax_y ax_m117) ∈ lw_tbl ∧ Cond.selects (ax_y ax_m117).cls (ax_y ax_m117) (ax_y ax_m117) ∈ lw_tbl)
set_option maxRecDepth 20000 in
theorem ax_p118 : Cond.code (ax_y ax_m118) (ax_c ax_m118) (ax_n ax_m118) (ax_r ax_m118) ∈ lw_tbl := List.mem_of_getElem? (i := 1041) rfl
theorem ax_q118 : ax_wck ax_m118 := (⟨List.mem_of_getElem? (i := 1039) (by decide +kernel), List.mem_of_getElem? (i := 1040) (by decide +kernel)⟩ : Cond.instanceMethod (ax_y ax_m118) ∈ lw_tbl ∧ Cond.selects (ax_y ax_m118).cls (ax_y ax_m118) (ax_y ax_m118) ∈ lw_tbl)
set_option maxRecDepth 20000 in
theorem ax_p119 : Cond.code (ax_y ax_m119) (ax_c ax_m119) (ax_n ax_m119) (ax_r ax_m119) ∈ lw_tbl := List.mem_of_getElem? (i := 1060) rfl
theorem ax_q119 : ax_wck ax_m119 := (⟨List.mem_of_getElem? (i := 1058) (by decide +kernel), List.mem_of_getElem? (i := 1059) (by decide +kernel)⟩ : Cond.instanceMethod (ax_y ax_m119) ∈ lw_tbl ∧ Cond.selects (ax_y ax_m119).cls (ax_y ax_m119) (ax_y ax_m119) ∈ lw_tbl)
set_option maxRecDepth 20000 in
theorem ax_p120 : Cond.code (ax_y ax_m120) (ax_c ax_m120) (ax_n ax_m120) (ax_r ax_m120) ∈ lw_tbl := List.mem_of_getElem? (i := 1068) rfl
theorem ax_q120 : ax_wck ax_m120 := (⟨List.mem_of_getElem? (i := 1066) (by decide +kernel), List.mem_of_getElem? (i := 1067) (by decide +kernel)⟩ : Cond.instanceMethod (ax_y ax_m120) ∈ lw_tbl ∧ Cond.selects (ax_y ax_m120).cls (ax_y ax_m120) (ax_y ax_m120) ∈ lw_tbl)
set_option maxRecDepth 20000 in
theorem ax_p121 : Cond.code (ax_y ax_m121) (ax_c ax_m121) (ax_n ax_m121) (ax_r ax_m121) ∈ lw_tbl := List.mem_of_getElem? (i := 1080) rfl
theorem ax_q121 : ax_wck ax_m121 := (⟨List.mem_of_getElem? (i := 1078) (by decide +kernel), List.mem_of_getElem? (i := 1079) (by decide +kernel)⟩ : Cond.instanceMethod (ax_y ax_m121) ∈ lw_tbl ∧ Cond.selects (ax_y ax_m121).cls (ax_y ax_m121) (ax_y ax_m121) ∈ lw_tbl)
set_option maxRecDepth 20000 in
theorem ax_p122 : Cond.code (ax_y ax_m122) (ax_c ax_m122) (ax_n ax_m122) (ax_r ax_m122) ∈ lw_tbl := List.mem_of_getElem? (i := 1084) rfl
theorem ax_q122 : ax_wck ax_m122 := (⟨List.mem_of_getElem? (i := 1082) (by decide +kernel), List.mem_of_getElem? (i := 1083) (by decide +kernel)⟩ : Cond.instanceMethod (ax_y ax_m122) ∈ lw_tbl ∧ Cond.selects (ax_y ax_m122).cls (ax_y ax_m122) (ax_y ax_m122) ∈ lw_tbl)
set_option maxRecDepth 20000 in
theorem ax_p123 : Cond.code (ax_y ax_m123) (ax_c ax_m123) (ax_n ax_m123) (ax_r ax_m123) ∈ lw_tbl := List.mem_of_getElem? (i := 1088) rfl
theorem ax_q123 : ax_wck ax_m123 := (⟨List.mem_of_getElem? (i := 1086) (by decide +kernel), List.mem_of_getElem? (i := 1087) (by decide +kernel)⟩ : Cond.instanceMethod (ax_y ax_m123) ∈ lw_tbl ∧ Cond.selects (ax_y ax_m123).cls (ax_y ax_m123) (ax_y ax_m123) ∈ lw_tbl)
set_option maxRecDepth 20000 in
theorem ax_p124 : Cond.code (ax_y ax_m124) (ax_c ax_m124) (ax_n ax_m124) (ax_r ax_m124) ∈ lw_tbl := List.mem_of_getElem? (i := 1092) rfl
theorem ax_q124 : ax_wck ax_m124 := (⟨List.mem_of_getElem? (i := 1090) (by decide +kernel), List.mem_of_getElem? (i := 1091) (by decide +kernel)⟩ : Cond.instanceMethod (ax_y ax_m124) ∈ lw_tbl ∧ Cond.selects (ax_y ax_m124).cls (ax_y ax_m124) (ax_y ax_m124) ∈ lw_tbl)
set_option maxRecDepth 20000 in
theorem ax_p125 : Cond.code (ax_y ax_m125) (ax_c ax_m125) (ax_n ax_m125) (ax_r ax_m125) ∈ lw_tbl := List.mem_of_getElem? (i := 1096) rfl
theorem ax_q125 : ax_wck ax_m125 := (⟨List.mem_of_getElem? (i := 1094) (by decide +kernel), List.mem_of_getElem? (i := 1095) (by decide +kernel)⟩ : Cond.instanceMethod (ax_y ax_m125) ∈ lw_tbl ∧ Cond.selects (ax_y ax_m125).cls (ax_y ax_m125) (ax_y ax_m125) ∈ lw_tbl)
set_option maxRecDepth 20000 in
theorem ax_p126 : Cond.code (ax_y ax_m126) (ax_c ax_m126) (ax_n ax_m126) (ax_r ax_m126) ∈ lw_tbl := List.mem_of_getElem? (i := 1100) rfl
theorem ax_q126 : ax_wck ax_m126 := (⟨List.mem_of_getElem? (i := 1098) (by decide +kernel), List.mem_of_getElem? (i := 1099) (by decide +kernel)⟩ : Cond.instanceMethod (ax_y ax_m126) ∈ lw_tbl ∧ Cond.selects (ax_y ax_m126).cls (ax_y ax_m126) (ax_y ax_m126) ∈ lw_tbl)
set_option maxRecDepth 20000 in
theorem ax_p127 : Cond.code (ax_y ax_m127) (ax_c ax_m127) (ax_n ax_m127) (ax_r ax_m127) ∈ lw_tbl := List.mem_of_getElem? (i := 1104) rfl
theorem ax_q127 : ax_wck ax_m127 := (⟨List.mem_of_getElem? (i := 1102) (by decide +kernel), List.mem_of_getElem? (i := 1103) (by decide +kernel)⟩ : Cond.instanceMethod (ax_y ax_m127) ∈ lw_tbl ∧ Cond.selects (ax_y ax_m127).cls (ax_y ax_m127) (ax_y ax_m127) ∈ lw_tbl)
set_option maxRecDepth 20000 in
theorem ax_p128 : Cond.code (ax_y ax_m128) (ax_c ax_m128) (ax_n ax_m128) (ax_r ax_m128) ∈ lw_tbl := List.mem_of_getElem? (i := 1124) rfl
theorem ax_q128 : ax_wck ax_m128 := (⟨List.mem_of_getElem? (i := 1123) (by decide +kernel), List.mem_of_getElem? (i := 58) (by decide +kernel)⟩ : Cond.instanceMethod (ax_y ax_m128) ∈ lw_tbl ∧ Cond.selects (ax_y ax_m128).cls (ax_y ax_m128) (ax_y ax_m128) ∈ lw_tbl)
set_option maxRecDepth 20000 in
theorem ax_p129 : Cond.code (ax_y ax_m129) (ax_c ax_m129) (ax_n ax_m129) (ax_r ax_m129) ∈ lw_tbl := List.mem_of_getElem? (i := 1120) rfl
theorem ax_q129 : ax_wck ax_m129 := (⟨List.mem_of_getElem? (i := 1119) (by decide +kernel), List.mem_of_getElem? (i := 57) (by decide +kernel)⟩ : Cond.instanceMethod (ax_y ax_m129) ∈ lw_tbl ∧ Cond.selects (ax_y ax_m129).cls (ax_y ax_m129) (ax_y ax_m129) ∈ lw_tbl)
set_option maxRecDepth 20000 in
theorem ax_p130 : Cond.code (ax_y ax_m130) (ax_c ax_m130) (ax_n ax_m130) (ax_r ax_m130) ∈ lw_tbl := List.mem_of_getElem? (i := 1128) rfl
theorem ax_q130 : ax_wck ax_m130 := (⟨List.mem_of_getElem? (i := 1127) (by decide +kernel), List.mem_of_getElem? (i := 59) (by decide +kernel)⟩ : Cond.instanceMethod (ax_y ax_m130) ∈ lw_tbl ∧ Cond.selects (ax_y ax_m130).cls (ax_y ax_m130) (ax_y ax_m130) ∈ lw_tbl)
set_option maxRecDepth 20000 in
theorem ax_p131 : Cond.code (ax_y ax_m131) (ax_c ax_m131) (ax_n ax_m131) (ax_r ax_m131) ∈ lw_tbl := List.mem_of_getElem? (i := 1132) rfl
theorem ax_q131 : ax_wck ax_m131 := (⟨List.mem_of_getElem? (i := 1131) (by decide +kernel), List.mem_of_getElem? (i := 60) (by decide +kernel)⟩ : Cond.instanceMethod (ax_y ax_m131) ∈ lw_tbl ∧ Cond.selects (ax_y ax_m131).cls (ax_y ax_m131) (ax_y ax_m131) ∈ lw_tbl)
set_option maxRecDepth 20000 in
theorem ax_p132 : Cond.code (ax_y ax_m132) (ax_c ax_m132) (ax_n ax_m132) (ax_r ax_m132) ∈ lw_tbl := List.mem_of_getElem? (i := 1116) rfl
theorem ax_q132 : ax_wck ax_m132 := (⟨List.mem_of_getElem? (i := 1115) (by decide +kernel), List.mem_of_getElem? (i := 56) (by decide +kernel)⟩ : Cond.instanceMethod (ax_y ax_m132) ∈ lw_tbl ∧ Cond.selects (ax_y ax_m132).cls (ax_y ax_m132) (ax_y ax_m132) ∈ lw_tbl)
set_option maxRecDepth 20000 in
theorem ax_p133 : Cond.code (ax_y ax_m133) (ax_c ax_m133) (ax_n ax_m133) (ax_r ax_m133) ∈ lw_tbl := List.mem_of_getElem? (i := 1148) rfl
theorem ax_q133 : ax_wck ax_m133 := (⟨List.mem_of_getElem? (i := 1147) (by decide +kernel), List.mem_of_getElem? (i := 64) (by decide +kernel)⟩ : Cond.instanceMethod (ax_y ax_m133) ∈ lw_tbl ∧ Cond.selects (ax_y ax_m133).cls (ax_y ax_m133) (ax_y ax_m133) ∈ lw_tbl)
set_option maxRecDepth 20000 in
theorem ax_p134 : Cond.code (ax_y ax_m134) (ax_c ax_m134) (ax_n ax_m134) (ax_r ax_m134) ∈ lw_tbl := List.mem_of_getElem? (i := 1144) rfl
theorem ax_q134 : ax_wck ax_m134 := (⟨List.mem_of_getElem? (i := 1143) (by decide +kernel), List.mem_of_getElem? (i := 63) (by decide +kernel)⟩ : Cond.instanceMethod (ax_y ax_m134) ∈ lw_tbl ∧ Cond.selects (ax_y ax_m134).cls (ax_y ax_m134) (ax_y ax_m134) ∈ lw_tbl)
set_option maxRecDepth 20000 in
theorem ax_p135 : Cond.code (ax_y ax_m135) (ax_c ax_m135) (ax_n ax_m135) (ax_r ax_m135) ∈ lw_tbl := List.mem_of_getElem? (i := 1140) rfl
theorem ax_q135 : ax_wck ax_m135 := (⟨List.mem_of_getElem? (i := 1139) (by decide +kernel), List.mem_of_getElem? (i := 62) (by decide +kernel)⟩ : Cond.instanceMethod (ax_y ax_m135) ∈ lw_tbl ∧ Cond.selects (ax_y ax_m135).cls (ax_y ax_m135) (ax_y ax_m135) ∈ lw_tbl)
set_option maxRecDepth 20000 in
theorem ax_p136 : Cond.code (ax_y ax_m136) (ax_c ax_m136) (ax_n ax_m136) (ax_r ax_m136) ∈ lw_tbl := List.mem_of_getElem? (i := 1136) rfl
theorem ax_q136 : ax_wck ax_m136 := (⟨List.mem_of_getElem? (i := 1135) (by decide +kernel), List.mem_of_getElem? (i := 61) (by decide +kernel)⟩ : Cond.instanceMethod (ax_y ax_m136) ∈ lw_tbl ∧ Cond.selects (ax_y ax_m136).cls (ax_y ax_m136) (ax_y ax_m136) ∈ lw_tbl)
set_option maxRecDepth 20000 in
theorem ax_p137 : Cond.code (ax_y ax_m137) (ax_c ax_m137) (ax_n ax_m137) (ax_r ax_m137) ∈ lw_tbl := List.mem_of_getElem? (i := 1112) rfl
theorem ax_q137 : ax_wck ax_m137 := (⟨List.mem_of_getElem? (i := 1111) (by decide +kernel), List.mem_of_getElem? (i := 55) (by decide +kernel)⟩ : Cond.instanceMethod (ax_y ax_m137) ∈ lw_tbl ∧ Cond.selects (ax_y ax_m137).cls (ax_y ax_m137) (ax_y ax_m137) ∈ lw_tbl)
set_option maxRecDepth 20000 in
theorem ax_p138 : Cond.code (ax_y ax_m138) (ax_c ax_m138) (ax_n ax_m138) (ax_r ax_m138) ∈ lw_tbl := List.mem_of_getElem? (i := 1108) rfl
theorem ax_q138 : ax_wck ax_m138 := (⟨List.mem_of_getElem? (i := 1106) (by decide +kernel), List.mem_of_getElem? (i := 1107) (by decide +kernel)⟩ : Cond.instanceMethod (ax_y ax_m138) ∈ lw_tbl ∧ Cond.selects (ax_y ax_m138).cls (ax_y ax_m138) (ax_y ax_m138) ∈ lw_tbl)
set_option maxRecDepth 20000 in
theorem ax_p139 : Cond.code (ax_y ax_m139) (ax_c ax_m139) (ax_n ax_m139) (ax_r ax_m139) ∈ lw_tbl := List.mem_of_getElem? (i := 1152) rfl
theorem ax_q139 : ax_wck ax_m139 := (⟨List.mem_of_getElem? (i := 1150) (by decide +kernel), List.mem_of_getElem? (i := 1151) (by decide +kernel)⟩ : Cond.instanceMethod (ax_y ax_m139) ∈ lw_tbl ∧ Cond.selects (ax_y ax_m139).cls (ax_y ax_m139) (ax_y ax_m139) ∈ lw_tbl)
set_option maxRecDepth 20000 in
theorem ax_p140 : Cond.code (ax_y ax_m140) (ax_c ax_m140) (ax_n ax_m140) (ax_r ax_m140) ∈ lw_tbl := List.mem_of_getElem? (i := 1156) rfl
theorem ax_q140 : ax_wck ax_m140 := (⟨List.mem_of_getElem? (i := 1154) (by decide +kernel), List.mem_of_getElem? (i := 1155) (by decide +kernel)⟩ : Cond.instanceMethod (ax_y ax_m140) ∈ lw_tbl ∧ Cond.selects (ax_y ax_m140).cls (ax_y ax_m140) (ax_y ax_m140) ∈ lw_tbl)
set_option maxRecDepth 20000 in
theorem ax_p141 : Cond.code (ax_y ax_m141) (ax_c ax_m141) (ax_n ax_m141) (ax_r ax_m141) ∈ lw_tbl := List.mem_of_getElem? (i := 1160) rfl
theorem ax_q141 : ax_wck ax_m141 := (⟨List.mem_of_getElem? (i := 1158) (by decide +kernel), List.mem_of_getElem? (i := 1159) (by decide +kernel)⟩ : Cond.instanceMethod (ax_y ax_m141) ∈ lw_tbl ∧ Cond.selects (ax_y ax_m141).cls (ax_y ax_m141) (ax_y ax_m141) ∈ lw_tbl)
def ax_ok (q : ax_M) : Prop := ax_mck q = true ∧ Cond.code (ax_y q) (ax_c q) (ax_n q) (ax_r q) ∈ lw_tbl ∧ ax_wck q
theorem ax_all : ∀ q ∈ ax_Ms, ax_ok q := List.forall_mem_cons.mpr ⟨⟨ax_k0, ax_p0, ax_q0⟩, List.forall_mem_cons.mpr ⟨⟨ax_k1, ax_p1, ax_q1⟩, List.forall_mem_cons.mpr ⟨⟨ax_k2, ax_p2, ax_q2⟩, List.forall_mem_cons.mpr ⟨⟨ax_k3, ax_p3, ax_q3⟩, List.forall_mem_cons.mpr ⟨⟨ax_k4, ax_p4, ax_q4⟩, List.forall_mem_cons.mpr ⟨⟨ax_k5, ax_p5, ax_q5⟩, List.forall_mem_cons.mpr ⟨⟨ax_k6, ax_p6, ax_q6⟩, List.forall_mem_cons.mpr ⟨⟨ax_k7, ax_p7, ax_q7⟩, List.forall_mem_cons.mpr ⟨⟨ax_k8, ax_p8, ax_q8⟩, List.forall_mem_cons.mpr ⟨⟨ax_k9, ax_p9, ax_q9⟩, List.forall_mem_cons.mpr ⟨⟨ax_k10, ax_p10, ax_q10⟩, List.forall_mem_cons.mpr ⟨⟨ax_k11, ax_p11, ax_q11⟩, List.forall_mem_cons.mpr ⟨⟨ax_k12, ax_p12, ax_q12⟩, List.forall_mem_cons.mpr ⟨⟨ax_k13, ax_p13, ax_q13⟩, List.forall_mem_cons.mpr ⟨⟨ax_k14, ax_p14, ax_q14⟩, List.forall_mem_cons.mpr ⟨⟨ax_k15, ax_p15, ax_q15⟩, List.forall_mem_cons.mpr ⟨⟨ax_k16, ax_p16, ax_q16⟩, List.forall_mem_cons.mpr ⟨⟨ax_k17, ax_p17, ax_q17⟩, List.forall_mem_cons.mpr ⟨⟨ax_k18, ax_p18, ax_q18⟩, List.forall_mem_cons.mpr ⟨⟨ax_k19, ax_p19, ax_q19⟩, List.forall_mem_cons.mpr ⟨⟨ax_k20, ax_p20, ax_q20⟩, List.forall_mem_cons.mpr ⟨⟨ax_k21, ax_p21, ax_q21⟩, List.forall_mem_cons.mpr ⟨⟨ax_k22, ax_p22, ax_q22⟩, List.forall_mem_cons.mpr ⟨⟨ax_k23, ax_p23, ax_q23⟩, List.forall_mem_cons.mpr ⟨⟨ax_k24, ax_p24, ax_q24⟩, List.forall_mem_cons.mpr ⟨⟨ax_k25, ax_p25, ax_q25⟩, List.forall_mem_cons.mpr ⟨⟨ax_k26, ax_p26, ax_q26⟩, List.forall_mem_cons.mpr ⟨⟨ax_k27, ax_p27, ax_q27⟩, List.forall_mem_cons.mpr ⟨⟨ax_k28, ax_p28, ax_q28⟩, List.forall_mem_cons.mpr ⟨⟨ax_k29, ax_p29, ax_q29⟩, List.forall_mem_cons.mpr ⟨⟨ax_k30, ax_p30, ax_q30⟩, List.forall_mem_cons.mpr ⟨⟨ax_k31, ax_p31, ax_q31⟩, List.forall_mem_cons.mpr ⟨⟨ax_k32, ax_p32, ax_q32⟩, List.forall_mem_cons.mpr ⟨⟨ax_k33, ax_p33, ax_q33⟩, List.forall_mem_cons.mpr ⟨⟨ax_k34, ax_p34, ax_q34⟩, List.forall_mem_cons.mpr ⟨⟨ax_k35, ax_p35, ax_q35⟩, List.forall_mem_cons.mpr ⟨⟨ax_k36, ax_p36, ax_q36⟩, List.forall_mem_cons.mpr ⟨⟨ax_k37, ax_p37, ax_q37⟩, List.forall_mem_cons.mpr ⟨⟨ax_k38, ax_p38, ax_q38⟩, List.forall_mem_cons.mpr ⟨⟨ax_k39, ax_p39, ax_q39⟩, List.forall_mem_cons.mpr ⟨⟨ax_k40, ax_p40, ax_q40⟩, List.forall_mem_cons.mpr ⟨⟨ax_k41, ax_p41, ax_q41⟩, List.forall_mem_cons.mpr ⟨⟨ax_k42, ax_p42, ax_q42⟩, List.forall_mem_cons.mpr ⟨⟨ax_k43, ax_p43, ax_q43⟩, List.forall_mem_cons.mpr ⟨⟨ax_k44, ax_p44, ax_q44⟩, List.forall_mem_cons.mpr ⟨⟨ax_k45, ax_p45, ax_q45⟩, List.forall_mem_cons.mpr ⟨⟨ax_k46, ax_p46, ax_q46⟩, List.forall_mem_cons.mpr ⟨⟨ax_k47, ax_p47, ax_q47⟩, List.forall_mem_cons.mpr ⟨⟨ax_k48, ax_p48, ax_q48⟩, List.forall_mem_cons.mpr ⟨⟨ax_k49, ax_p49, ax_q49⟩, List.forall_mem_cons.mpr ⟨⟨ax_k50, ax_p50, ax_q50⟩, List.forall_mem_cons.mpr ⟨⟨ax_k51, ax_p51, ax_q51⟩, List.forall_mem_cons.mpr ⟨⟨ax_k52, ax_p52, ax_q52⟩, List.forall_mem_cons.mpr ⟨⟨ax_k53, ax_p53, ax_q53⟩, List.forall_mem_cons.mpr ⟨⟨ax_k54, ax_p54, ax_q54⟩, List.forall_mem_cons.mpr ⟨⟨ax_k55, ax_p55, ax_q55⟩, List.forall_mem_cons.mpr ⟨⟨ax_k56, ax_p56, ax_q56⟩, List.forall_mem_cons.mpr ⟨⟨ax_k57, ax_p57, ax_q57⟩, List.forall_mem_cons.mpr ⟨⟨ax_k58, ax_p58, ax_q58⟩, List.forall_mem_cons.mpr ⟨⟨ax_k59, ax_p59, ax_q59⟩, List.forall_mem_cons.mpr ⟨⟨ax_k60, ax_p60, ax_q60⟩, List.forall_mem_cons.mpr ⟨⟨ax_k61, ax_p61, ax_q61⟩, List.forall_mem_cons.mpr ⟨⟨ax_k62, ax_p62, ax_q62⟩, List.forall_mem_cons.mpr ⟨⟨ax_k63, ax_p63, ax_q63⟩, List.forall_mem_cons.mpr ⟨⟨ax_k64, ax_p64, ax_q64⟩, List.forall_mem_cons.mpr ⟨⟨ax_k65, ax_p65, ax_q65⟩, List.forall_mem_cons.mpr ⟨⟨ax_k66, ax_p66, ax_q66⟩, List.forall_mem_cons.mpr ⟨⟨ax_k67, ax_p67, ax_q67⟩, List.forall_mem_cons.mpr ⟨⟨ax_k68, ax_p68, ax_q68⟩, List.forall_mem_cons.mpr ⟨⟨ax_k69, ax_p69, ax_q69⟩, List.forall_mem_cons.mpr ⟨⟨ax_k70, ax_p70, ax_q70⟩, List.forall_mem_cons.mpr ⟨⟨ax_k71, ax_p71, ax_q71⟩, List.forall_mem_cons.mpr ⟨⟨ax_k72, ax_p72, ax_q72⟩, List.forall_mem_cons.mpr ⟨⟨ax_k73, ax_p73, ax_q73⟩, List.forall_mem_cons.mpr ⟨⟨ax_k74, ax_p74, ax_q74⟩, List.forall_mem_cons.mpr ⟨⟨ax_k75, ax_p75, ax_q75⟩, List.forall_mem_cons.mpr ⟨⟨ax_k76, ax_p76, ax_q76⟩, List.forall_mem_cons.mpr ⟨⟨ax_k77, ax_p77, ax_q77⟩, List.forall_mem_cons.mpr ⟨⟨ax_k78, ax_p78, ax_q78⟩, List.forall_mem_cons.mpr ⟨⟨ax_k79, ax_p79, ax_q79⟩, List.forall_mem_cons.mpr ⟨⟨ax_k80, ax_p80, ax_q80⟩, List.forall_mem_cons.mpr ⟨⟨ax_k81, ax_p81, ax_q81⟩, List.forall_mem_cons.mpr ⟨⟨ax_k82, ax_p82, ax_q82⟩, List.forall_mem_cons.mpr ⟨⟨ax_k83, ax_p83, ax_q83⟩, List.forall_mem_cons.mpr ⟨⟨ax_k84, ax_p84, ax_q84⟩, List.forall_mem_cons.mpr ⟨⟨ax_k85, ax_p85, ax_q85⟩, List.forall_mem_cons.mpr ⟨⟨ax_k86, ax_p86, ax_q86⟩, List.forall_mem_cons.mpr ⟨⟨ax_k87, ax_p87, ax_q87⟩, List.forall_mem_cons.mpr ⟨⟨ax_k88, ax_p88, ax_q88⟩, List.forall_mem_cons.mpr ⟨⟨ax_k89, ax_p89, ax_q89⟩, List.forall_mem_cons.mpr ⟨⟨ax_k90, ax_p90, ax_q90⟩, List.forall_mem_cons.mpr ⟨⟨ax_k91, ax_p91, ax_q91⟩, List.forall_mem_cons.mpr ⟨⟨ax_k92, ax_p92, ax_q92⟩, List.forall_mem_cons.mpr ⟨⟨ax_k93, ax_p93, ax_q93⟩, List.forall_mem_cons.mpr ⟨⟨ax_k94, ax_p94, ax_q94⟩, List.forall_mem_cons.mpr ⟨⟨ax_k95, ax_p95, ax_q95⟩, List.forall_mem_cons.mpr ⟨⟨ax_k96, ax_p96, ax_q96⟩, List.forall_mem_cons.mpr ⟨⟨ax_k97, ax_p97, ax_q97⟩, List.forall_mem_cons.mpr ⟨⟨ax_k98, ax_p98, ax_q98⟩, List.forall_mem_cons.mpr ⟨⟨ax_k99, ax_p99, ax_q99⟩, List.forall_mem_cons.mpr ⟨⟨ax_k100, ax_p100, ax_q100⟩, List.forall_mem_cons.mpr ⟨⟨ax_k101, ax_p101, ax_q101⟩, List.forall_mem_cons.mpr ⟨⟨ax_k102, ax_p102, ax_q102⟩, List.forall_mem_cons.mpr ⟨⟨ax_k103, ax_p103, ax_q103⟩, List.forall_mem_cons.mpr ⟨⟨ax_k104, ax_p104, ax_q104⟩, List.forall_mem_cons.mpr ⟨⟨ax_k105, ax_p105, ax_q105⟩, List.forall_mem_cons.mpr ⟨⟨ax_k106, ax_p106, ax_q106⟩, List.forall_mem_cons.mpr ⟨⟨ax_k107, ax_p107, ax_q107⟩, List.forall_mem_cons.mpr ⟨⟨ax_k108, ax_p108, ax_q108⟩, List.forall_mem_cons.mpr ⟨⟨ax_k109, ax_p109, ax_q109⟩, List.forall_mem_cons.mpr ⟨⟨ax_k110, ax_p110, ax_q110⟩, List.forall_mem_cons.mpr ⟨⟨ax_k111, ax_p111, ax_q111⟩, List.forall_mem_cons.mpr ⟨⟨ax_k112, ax_p112, ax_q112⟩, List.forall_mem_cons.mpr ⟨⟨ax_k113, ax_p113, ax_q113⟩, List.forall_mem_cons.mpr ⟨⟨ax_k114, ax_p114, ax_q114⟩, List.forall_mem_cons.mpr ⟨⟨ax_k115, ax_p115, ax_q115⟩, List.forall_mem_cons.mpr ⟨⟨ax_k116, ax_p116, ax_q116⟩, List.forall_mem_cons.mpr ⟨⟨ax_k117, ax_p117, ax_q117⟩, List.forall_mem_cons.mpr ⟨⟨ax_k118, ax_p118, ax_q118⟩, List.forall_mem_cons.mpr ⟨⟨ax_k119, ax_p119, ax_q119⟩, List.forall_mem_cons.mpr ⟨⟨ax_k120, ax_p120, ax_q120⟩, List.forall_mem_cons.mpr ⟨⟨ax_k121, ax_p121, ax_q121⟩, List.forall_mem_cons.mpr ⟨⟨ax_k122, ax_p122, ax_q122⟩, List.forall_mem_cons.mpr ⟨⟨ax_k123, ax_p123, ax_q123⟩, List.forall_mem_cons.mpr ⟨⟨ax_k124, ax_p124, ax_q124⟩, List.forall_mem_cons.mpr ⟨⟨ax_k125, ax_p125, ax_q125⟩, List.forall_mem_cons.mpr ⟨⟨ax_k126, ax_p126, ax_q126⟩, List.forall_mem_cons.mpr ⟨⟨ax_k127, ax_p127, ax_q127⟩, List.forall_mem_cons.mpr ⟨⟨ax_k128, ax_p128, ax_q128⟩, List.forall_mem_cons.mpr ⟨⟨ax_k129, ax_p129, ax_q129⟩, List.forall_mem_cons.mpr ⟨⟨ax_k130, ax_p130, ax_q130⟩, List.forall_mem_cons.mpr ⟨⟨ax_k131, ax_p131, ax_q131⟩, List.forall_mem_cons.mpr ⟨⟨ax_k132, ax_p132, ax_q132⟩, List.forall_mem_cons.mpr ⟨⟨ax_k133, ax_p133, ax_q133⟩, List.forall_mem_cons.mpr ⟨⟨ax_k134, ax_p134, ax_q134⟩, List.forall_mem_cons.mpr ⟨⟨ax_k135, ax_p135, ax_q135⟩, List.forall_mem_cons.mpr ⟨⟨ax_k136, ax_p136, ax_q136⟩, List.forall_mem_cons.mpr ⟨⟨ax_k137, ax_p137, ax_q137⟩, List.forall_mem_cons.mpr ⟨⟨ax_k138, ax_p138, ax_q138⟩, List.forall_mem_cons.mpr ⟨⟨ax_k139, ax_p139, ax_q139⟩, List.forall_mem_cons.mpr ⟨⟨ax_k140, ax_p140, ax_q140⟩, List.forall_mem_cons.mpr ⟨⟨ax_k141, ax_p141, ax_q141⟩, fun _ h => absurd h List.not_mem_nil⟩⟩⟩⟩⟩⟩⟩⟩⟩⟩⟩⟩⟩⟩⟩⟩⟩⟩⟩⟩⟩⟩⟩⟩⟩⟩⟩⟩⟩⟩⟩⟩⟩⟩⟩⟩⟩⟩⟩⟩⟩⟩⟩⟩⟩⟩⟩⟩⟩⟩⟩⟩⟩⟩⟩⟩⟩⟩⟩⟩⟩⟩⟩⟩⟩⟩⟩⟩⟩⟩⟩⟩⟩⟩⟩⟩⟩⟩⟩⟩⟩⟩⟩⟩⟩⟩⟩⟩⟩⟩⟩⟩⟩⟩⟩⟩⟩⟩⟩⟩⟩⟩⟩⟩⟩⟩⟩⟩⟩⟩⟩⟩⟩⟩⟩⟩⟩⟩⟩⟩⟩⟩⟩⟩⟩⟩⟩⟩⟩⟩⟩⟩⟩⟩⟩⟩⟩⟩⟩⟩⟩⟩
/-- the classes: fields, types, words -/
def ax_ty (ci : Nat) : Nat → FieldType := match ci with | 0 => tyX0 | 1 => tyX1 | 2 => tyX2 | 3 => tyX3 | 4 => tyX4 | 5 => tyX5 | 6 => tyX6 | 7 => tyX7 | _ => tyX8
theorem ax_lay : ∀ r ∈ vwCl, ∀ w ∈ u_ws r.1 r.2.1 r.2.2, w ∈ lw_tbl := by decide +kernel
theorem ax_ini : ∀ r ∈ vwCl, Cond.initialized r.1 ∈ lw_tbl := by decide +kernel
