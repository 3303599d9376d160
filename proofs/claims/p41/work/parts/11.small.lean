/-! small facts that the laid proofs name -/
theorem zacp_s : Cond.static arraycopyName ∈ zGT := zi4 101 rfl rfl
theorem ev_i2c {w : zW} {d kc ks : Nat} {y : zY} {pc : Nat} {L : List (Option Value)} {st : List Value} {μ : zM} {Q : Option Value → zM → Prop} {a v : Int32} (hd : decode y.2.1 pc = .ok (.i2c, 1)) (hv : (a.toUInt32 % 65536).toInt32 = v) (k : EV w d kc ks y (pc + 1) L (.int v :: st) μ Q) : EV w d kc ks y pc L (.int a :: st) μ Q := by
  intro p l e R s m args below meth c H locs cells slots Qf ls hG hC hL hP h1 h2 h3 h4 hQ
  exact lv_i2c hC.1 hC.2.1 hd hv (k p l e R s m args below meth c H locs cells slots Qf ls hG hC hL hP h1 h2 h3 h4 hQ)
/-- what arraycopy asks -/
def zcpB (sp dp n : Int32) (N0 N1 : Nat) : Bool := decide (0 ≤ sp) && decide (0 ≤ dp) && decide (0 ≤ n) && decide (sp.toNatClampNeg + n.toNatClampNeg ≤ N0) && decide (dp.toNatClampNeg + n.toNatClampNeg ≤ N1)
theorem em_copy {w : zW} {d kc ks : Nat} {y : zY} {pc : Nat} {L : List (Option Value)} {st : List Value} {n0 : Nat} {kd : zMK} {I J : zMI} {R : zMR} {Q : Option Value → zM → Prop} {a0 a idx N0 N1 : Nat} {sp dp n : Int32} (hd : decode y.2.1 pc = .ok (.invokestatic idx, 3)) (hl : Cond.methodLink y.1.cls idx arraycopyName ∈ zGT) (ha0 : zHas n0 kd a0 0) (ha : zHas n0 kd a 0) (hN0 : (kd a0).2 = N0) (hN1 : (kd a).2 = N1) (g : zcpB sp dp n N0 N1 = true) (hd1 : 1 ≤ d) (hr : (st.map fun v => v.category).sum ≤ 8) (hJ : uA I a (va_cpy (I a0) (I a) sp.toNatClampNeg dp.toNatClampNeg n.toNatClampNeg) = J)
    (kk : EV w d kc ks y (pc + 3) L st (n0, kd, J, R) Q) : EV w d kc ks y pc L (.int n :: .int dp :: .ref a :: .int sp :: .ref a0 :: st) (n0, kd, I, R) Q := by
  subst hJ
  unfold zcpB at g
  simp only [Bool.and_eq_true, decide_eq_true_eq] at g
  obtain ⟨⟨⟨⟨g1, g2⟩, g3⟩, g4⟩, g5⟩ := g
  exact ev_copy hd hl zna_arraycopy zacp_s zn_java_lang_System ha0 ha (Int32.not_lt.mpr g1) (Int32.not_lt.mpr g2) (Int32.not_lt.mpr g3) (by show _ ≤ (kd a0).2; omega) (by show _ ≤ (kd a).2; omega) hd1 hr (by decide) kk
theorem ev_ldcw {w : zW} {d kc ks : Nat} {y : zY} {pc : Nat} {L : List (Option Value)} {st : List Value} {μ : zM} {Q : Option Value → zM → Prop} {i : Nat} {v : Int32} (hd : decode y.2.1 pc = .ok (.ldc_w i, 3)) (hc : Cond.constant y.1.cls i v ∈ zGT) (k : EV w d kc ks y (pc + 3) L (.int v :: st) μ Q) : EV w d kc ks y pc L st μ Q := by
  intro p l e R s m args below meth c H locs cells slots Qf ls hG hC hL hP h1 h2 h3 h4 hQ
  exact lv_ldcw hC.1 hC.2.1 hC.2.2.2.1 (hC.2.2.2.2.1 _ hc) hd (k p l e R s m args below meth c H locs cells slots Qf ls hG hC hL hP h1 h2 h3 h4 hQ)
theorem zopt (o : Option Nat) : o = none ∨ ∃ a, o = some a := by
  cases o with
  | none => exact Or.inl rfl
  | some a => exact Or.inr ⟨a, rfl⟩
theorem zrf_cat (o : Option Nat) : (va_rf o).category = 1 := by cases o <;> rfl
def zbB (x : Int32) : Bool := x == 0 || x == 1
theorem zbB_n {x : Int32} (h : zbB x = true) : narrow .boolean (.int x) = .int x := by
  unfold zbB at h
  simp only [Bool.or_eq_true, beq_iff_eq] at h
  rcases h with rfl | rfl <;> rfl
def zchB (x : Int32) : Bool := x == (x.toUInt32 % 65536).toInt32
theorem zchr_n {x : Int32} (h : zchB x = true) : narrow .char (.int x) = .int x := by
  unfold zchB at h
  rw [beq_iff_eq] at h
  rw [h]
  exact pk_nc _
def zbyB (x : Int32) : Bool := x == x.toInt8.toInt32
theorem zbyt_n {x : Int32} (h : zbyB x = true) : narrow .byte (.int x) = .int x := by
  unfold zbyB at h
  rw [beq_iff_eq] at h
  rw [h]
  exact pk_nb _
/-- where a text's reader calls itself -/
theorem zrcX {w : zW} {n : Nat} {kd : zMK} {I : zMI} {R : zMR} (hS : zSh n kd) : zRcv w (n, kd, I, R) 32 "NineHeaps" := zRc.rcv ⟨11, by decide, rfl, hS.has 32 (by decide) (by decide) rfl⟩
theorem zrcT {w : zW} {n : Nat} {kd : zMK} {I : zMI} {R : zMR} (hS : zSh n kd) : zRcv w (n, kd, I, R) 37 "NineHeaps$Tape" := zRc.rcv ⟨7, by decide, rfl, hS.has 37 (by decide) (by decide) rfl⟩
theorem zrcG {w : zW} {n : Nat} {kd : zMK} {I : zMI} {R : zMR} (hS : zSh n kd) : zRcv w (n, kd, I, R) 42 "NineHeaps$Going" := zRc.rcv ⟨0, by decide, rfl, hS.has 42 (by decide) (by decide) rfl⟩
theorem zrcHp {w : zW} {n : Nat} {kd : zMK} {I : zMI} {R : zMR} {a : Nat} (hS : zSh n kd) (h : zHpB a = true) : zRcv w (n, kd, I, R) a "NineHeaps$Heap" := zRc.rcv ⟨2, by decide, rfl, zHpB_has hS h⟩
theorem zrcSe {w : zW} {n : Nat} {kd : zMK} {I : zMI} {R : zMR} {a : Nat} (hS : zSh n kd) (h : zSeB a = true) : zRcv w (n, kd, I, R) a "NineHeaps$Sheet" := zRc.rcv ⟨6, by decide, rfl, (zSeB_has hS h).1⟩
theorem zrcLw {w : zW} {n : Nat} {kd : zMK} {I : zMI} {R : zMR} {a : Nat} (hS : zSh n kd) (h : zKdB n kd a 19 = true) : zRcv w (n, kd, I, R) a "NineHeaps$Law" := zRc.rcv ⟨3, by decide, rfl, zKdB_hasR hS (by decide) h⟩
theorem zib_lt {i : Int32} {N : Nat} (h : zib i N = true) : i.toNatClampNeg < N := by
  unfold zib at h
  simp only [Bool.and_eq_true, decide_eq_true_eq] at h
  exact h.2
theorem zheap {i : Int32} (h : zib i 9 = true) : zSt0 43 i.toNatClampNeg = some (some (46 + i.toNatClampNeg)) := if_pos (zib_lt h)
theorem zfew {i : Int32} (h : zib i 6 = true) : zSt0 56 i.toNatClampNeg = some (some (57 + i.toNatClampNeg)) := if_pos (zib_lt h)
theorem zsheet {i : Int32} (h : zib i 4 = true) : zSt0 41 i.toNatClampNeg = some (some (73 + 2 * i.toNatClampNeg)) := if_pos (zib_lt h)
theorem zheap_b {i : Int32} (h : zib i 9 = true) : zHpB (46 + i.toNatClampNeg) = true := by
  have := zib_lt h
  unfold zHpB
  simp only [Bool.and_eq_true, decide_eq_true_eq]
  omega
theorem zsheet_b {i : Int32} (h : zib i 4 = true) : zSeB (73 + 2 * i.toNatClampNeg) = true := by
  have := zib_lt h
  unfold zSeB
  simp only [Bool.or_eq_true, beq_iff_eq]
  omega
theorem zfew_has {n : Nat} {kd : zMK} {i : Int32} (hS : zSh n kd) (h : zib i 6 = true) : zHas n kd (57 + i.toNatClampNeg) 0 := by
  have := zib_lt h
  refine hS.has _ (by omega) (by omega) ?_
  have h2 : ∀ j, j < 6 → (zK0 (57 + j)).1 = 0 := by decide +kernel
  exact h2 _ this
theorem zfew_len {n : Nat} {kd : zMK} {i : Int32} (hS : zSh n kd) (h : zib i 6 = true) : (kd (57 + i.toNatClampNeg)).2 = 10 := by
  have := zib_lt h
  refine hS.len _ (by omega) (by omega) ?_
  have h2 : ∀ j, j < 6 → (zK0 (57 + j)).2 = 10 := by decide +kernel
  exact h2 _ this
theorem zmm_max_s : Cond.static Lib.Math.max.name ∈ zGT := zi1 188 rfl rfl
theorem zmm_max_c : Cond.code Lib.Math.max.name Lib.Math.max.code 2 (some .int) ∈ zGT := zi1 189 rfl rfl
theorem zmm_min_s : Cond.static Lib.Math.min.name ∈ zGT := zi1 191 rfl rfl
theorem zmm_min_c : Cond.code Lib.Math.min.name Lib.Math.min.code 2 (some .int) ∈ zGT := zi1 192 rfl rfl
theorem zcb_m100 : (Int8.ofInt (-100)).toInt32 = (-100 : Int32) := by decide
theorem zcb_m22 : (Int8.ofInt (-22)).toInt32 = (-22 : Int32) := by decide
theorem zcb_m21 : (Int8.ofInt (-21)).toInt32 = (-21 : Int32) := by decide
theorem zcb_m19 : (Int8.ofInt (-19)).toInt32 = (-19 : Int32) := by decide
theorem zcb_m17 : (Int8.ofInt (-17)).toInt32 = (-17 : Int32) := by decide
theorem zcb_m16 : (Int8.ofInt (-16)).toInt32 = (-16 : Int32) := by decide
theorem zcb_m15 : (Int8.ofInt (-15)).toInt32 = (-15 : Int32) := by decide
theorem zcb_m14 : (Int8.ofInt (-14)).toInt32 = (-14 : Int32) := by decide
theorem zcb_m13 : (Int8.ofInt (-13)).toInt32 = (-13 : Int32) := by decide
theorem zcb_m12 : (Int8.ofInt (-12)).toInt32 = (-12 : Int32) := by decide
theorem zcb_m11 : (Int8.ofInt (-11)).toInt32 = (-11 : Int32) := by decide
theorem zcb_m7 : (Int8.ofInt (-7)).toInt32 = (-7 : Int32) := by decide
theorem zcb_m6 : (Int8.ofInt (-6)).toInt32 = (-6 : Int32) := by decide
theorem zcb_m5 : (Int8.ofInt (-5)).toInt32 = (-5 : Int32) := by decide
theorem zcb_m4 : (Int8.ofInt (-4)).toInt32 = (-4 : Int32) := by decide
theorem zcb_m3 : (Int8.ofInt (-3)).toInt32 = (-3 : Int32) := by decide
theorem zcb_m2 : (Int8.ofInt (-2)).toInt32 = (-2 : Int32) := by decide
theorem zcb_6 : (Int8.ofInt 6).toInt32 = (6 : Int32) := by decide
theorem zcb_7 : (Int8.ofInt 7).toInt32 = (7 : Int32) := by decide
theorem zcb_8 : (Int8.ofInt 8).toInt32 = (8 : Int32) := by decide
theorem zcb_9 : (Int8.ofInt 9).toInt32 = (9 : Int32) := by decide
theorem zcb_10 : (Int8.ofInt 10).toInt32 = (10 : Int32) := by decide
theorem zcb_11 : (Int8.ofInt 11).toInt32 = (11 : Int32) := by decide
theorem zcb_12 : (Int8.ofInt 12).toInt32 = (12 : Int32) := by decide
theorem zcb_13 : (Int8.ofInt 13).toInt32 = (13 : Int32) := by decide
theorem zcb_14 : (Int8.ofInt 14).toInt32 = (14 : Int32) := by decide
theorem zcb_15 : (Int8.ofInt 15).toInt32 = (15 : Int32) := by decide
theorem zcb_16 : (Int8.ofInt 16).toInt32 = (16 : Int32) := by decide
theorem zcb_17 : (Int8.ofInt 17).toInt32 = (17 : Int32) := by decide
theorem zcb_18 : (Int8.ofInt 18).toInt32 = (18 : Int32) := by decide
theorem zcb_19 : (Int8.ofInt 19).toInt32 = (19 : Int32) := by decide
theorem zcb_20 : (Int8.ofInt 20).toInt32 = (20 : Int32) := by decide
theorem zcb_21 : (Int8.ofInt 21).toInt32 = (21 : Int32) := by decide
theorem zcb_22 : (Int8.ofInt 22).toInt32 = (22 : Int32) := by decide
theorem zcb_23 : (Int8.ofInt 23).toInt32 = (23 : Int32) := by decide
theorem zcb_24 : (Int8.ofInt 24).toInt32 = (24 : Int32) := by decide
theorem zcb_25 : (Int8.ofInt 25).toInt32 = (25 : Int32) := by decide
theorem zcb_26 : (Int8.ofInt 26).toInt32 = (26 : Int32) := by decide
theorem zcb_27 : (Int8.ofInt 27).toInt32 = (27 : Int32) := by decide
theorem zcb_28 : (Int8.ofInt 28).toInt32 = (28 : Int32) := by decide
theorem zcb_29 : (Int8.ofInt 29).toInt32 = (29 : Int32) := by decide
theorem zcb_30 : (Int8.ofInt 30).toInt32 = (30 : Int32) := by decide
theorem zcb_31 : (Int8.ofInt 31).toInt32 = (31 : Int32) := by decide
theorem zcb_32 : (Int8.ofInt 32).toInt32 = (32 : Int32) := by decide
theorem zcb_33 : (Int8.ofInt 33).toInt32 = (33 : Int32) := by decide
theorem zcb_34 : (Int8.ofInt 34).toInt32 = (34 : Int32) := by decide
theorem zcb_35 : (Int8.ofInt 35).toInt32 = (35 : Int32) := by decide
theorem zcb_36 : (Int8.ofInt 36).toInt32 = (36 : Int32) := by decide
theorem zcb_37 : (Int8.ofInt 37).toInt32 = (37 : Int32) := by decide
theorem zcb_38 : (Int8.ofInt 38).toInt32 = (38 : Int32) := by decide
theorem zcb_39 : (Int8.ofInt 39).toInt32 = (39 : Int32) := by decide
theorem zcb_40 : (Int8.ofInt 40).toInt32 = (40 : Int32) := by decide
theorem zcb_41 : (Int8.ofInt 41).toInt32 = (41 : Int32) := by decide
theorem zcb_42 : (Int8.ofInt 42).toInt32 = (42 : Int32) := by decide
theorem zcb_43 : (Int8.ofInt 43).toInt32 = (43 : Int32) := by decide
theorem zcb_44 : (Int8.ofInt 44).toInt32 = (44 : Int32) := by decide
theorem zcb_45 : (Int8.ofInt 45).toInt32 = (45 : Int32) := by decide
theorem zcb_46 : (Int8.ofInt 46).toInt32 = (46 : Int32) := by decide
theorem zcb_47 : (Int8.ofInt 47).toInt32 = (47 : Int32) := by decide
theorem zcb_48 : (Int8.ofInt 48).toInt32 = (48 : Int32) := by decide
theorem zcb_49 : (Int8.ofInt 49).toInt32 = (49 : Int32) := by decide
theorem zcb_50 : (Int8.ofInt 50).toInt32 = (50 : Int32) := by decide
theorem zcb_51 : (Int8.ofInt 51).toInt32 = (51 : Int32) := by decide
theorem zcb_52 : (Int8.ofInt 52).toInt32 = (52 : Int32) := by decide
theorem zcb_53 : (Int8.ofInt 53).toInt32 = (53 : Int32) := by decide
theorem zcb_54 : (Int8.ofInt 54).toInt32 = (54 : Int32) := by decide
theorem zcb_55 : (Int8.ofInt 55).toInt32 = (55 : Int32) := by decide
theorem zcb_56 : (Int8.ofInt 56).toInt32 = (56 : Int32) := by decide
theorem zcb_57 : (Int8.ofInt 57).toInt32 = (57 : Int32) := by decide
theorem zcb_58 : (Int8.ofInt 58).toInt32 = (58 : Int32) := by decide
theorem zcb_59 : (Int8.ofInt 59).toInt32 = (59 : Int32) := by decide
theorem zcb_60 : (Int8.ofInt 60).toInt32 = (60 : Int32) := by decide
theorem zcb_61 : (Int8.ofInt 61).toInt32 = (61 : Int32) := by decide
theorem zcb_62 : (Int8.ofInt 62).toInt32 = (62 : Int32) := by decide
theorem zcb_63 : (Int8.ofInt 63).toInt32 = (63 : Int32) := by decide
theorem zcb_64 : (Int8.ofInt 64).toInt32 = (64 : Int32) := by decide
theorem zcb_65 : (Int8.ofInt 65).toInt32 = (65 : Int32) := by decide
theorem zcb_66 : (Int8.ofInt 66).toInt32 = (66 : Int32) := by decide
theorem zcb_67 : (Int8.ofInt 67).toInt32 = (67 : Int32) := by decide
theorem zcb_68 : (Int8.ofInt 68).toInt32 = (68 : Int32) := by decide
theorem zcb_69 : (Int8.ofInt 69).toInt32 = (69 : Int32) := by decide
theorem zcb_70 : (Int8.ofInt 70).toInt32 = (70 : Int32) := by decide
theorem zcb_71 : (Int8.ofInt 71).toInt32 = (71 : Int32) := by decide
theorem zcb_72 : (Int8.ofInt 72).toInt32 = (72 : Int32) := by decide
theorem zcb_73 : (Int8.ofInt 73).toInt32 = (73 : Int32) := by decide
theorem zcb_74 : (Int8.ofInt 74).toInt32 = (74 : Int32) := by decide
theorem zcb_75 : (Int8.ofInt 75).toInt32 = (75 : Int32) := by decide
theorem zcb_76 : (Int8.ofInt 76).toInt32 = (76 : Int32) := by decide
theorem zcb_77 : (Int8.ofInt 77).toInt32 = (77 : Int32) := by decide
theorem zcb_78 : (Int8.ofInt 78).toInt32 = (78 : Int32) := by decide
theorem zcb_79 : (Int8.ofInt 79).toInt32 = (79 : Int32) := by decide
theorem zcb_80 : (Int8.ofInt 80).toInt32 = (80 : Int32) := by decide
theorem zcb_81 : (Int8.ofInt 81).toInt32 = (81 : Int32) := by decide
theorem zcb_82 : (Int8.ofInt 82).toInt32 = (82 : Int32) := by decide
theorem zcb_83 : (Int8.ofInt 83).toInt32 = (83 : Int32) := by decide
theorem zcb_84 : (Int8.ofInt 84).toInt32 = (84 : Int32) := by decide
theorem zcb_85 : (Int8.ofInt 85).toInt32 = (85 : Int32) := by decide
theorem zcb_86 : (Int8.ofInt 86).toInt32 = (86 : Int32) := by decide
theorem zcb_87 : (Int8.ofInt 87).toInt32 = (87 : Int32) := by decide
theorem zcb_88 : (Int8.ofInt 88).toInt32 = (88 : Int32) := by decide
theorem zcb_89 : (Int8.ofInt 89).toInt32 = (89 : Int32) := by decide
theorem zcb_90 : (Int8.ofInt 90).toInt32 = (90 : Int32) := by decide
theorem zcb_91 : (Int8.ofInt 91).toInt32 = (91 : Int32) := by decide
theorem zcb_92 : (Int8.ofInt 92).toInt32 = (92 : Int32) := by decide
theorem zcb_93 : (Int8.ofInt 93).toInt32 = (93 : Int32) := by decide
theorem zcb_94 : (Int8.ofInt 94).toInt32 = (94 : Int32) := by decide
theorem zcb_95 : (Int8.ofInt 95).toInt32 = (95 : Int32) := by decide
theorem zcb_96 : (Int8.ofInt 96).toInt32 = (96 : Int32) := by decide
theorem zcb_97 : (Int8.ofInt 97).toInt32 = (97 : Int32) := by decide
theorem zcb_99 : (Int8.ofInt 99).toInt32 = (99 : Int32) := by decide
theorem zcb_100 : (Int8.ofInt 100).toInt32 = (100 : Int32) := by decide
theorem zcb_101 : (Int8.ofInt 101).toInt32 = (101 : Int32) := by decide
theorem zcb_102 : (Int8.ofInt 102).toInt32 = (102 : Int32) := by decide
theorem zcb_104 : (Int8.ofInt 104).toInt32 = (104 : Int32) := by decide
theorem zcb_105 : (Int8.ofInt 105).toInt32 = (105 : Int32) := by decide
theorem zcb_107 : (Int8.ofInt 107).toInt32 = (107 : Int32) := by decide
theorem zcb_108 : (Int8.ofInt 108).toInt32 = (108 : Int32) := by decide
theorem zcb_109 : (Int8.ofInt 109).toInt32 = (109 : Int32) := by decide
theorem zcb_110 : (Int8.ofInt 110).toInt32 = (110 : Int32) := by decide
theorem zcb_111 : (Int8.ofInt 111).toInt32 = (111 : Int32) := by decide
theorem zcb_112 : (Int8.ofInt 112).toInt32 = (112 : Int32) := by decide
theorem zcb_114 : (Int8.ofInt 114).toInt32 = (114 : Int32) := by decide
theorem zcb_115 : (Int8.ofInt 115).toInt32 = (115 : Int32) := by decide
theorem zcb_116 : (Int8.ofInt 116).toInt32 = (116 : Int32) := by decide
theorem zcb_119 : (Int8.ofInt 119).toInt32 = (119 : Int32) := by decide
theorem zcb_120 : (Int8.ofInt 120).toInt32 = (120 : Int32) := by decide
theorem zcb_121 : (Int8.ofInt 121).toInt32 = (121 : Int32) := by decide
theorem zcb_122 : (Int8.ofInt 122).toInt32 = (122 : Int32) := by decide
theorem zci_m1 : Int32.ofInt (-1) = (-1 : Int32) := by decide
theorem zci_0 : Int32.ofInt 0 = (0 : Int32) := by decide
theorem zci_1 : Int32.ofInt 1 = (1 : Int32) := by decide
theorem zci_2 : Int32.ofInt 2 = (2 : Int32) := by decide
theorem zci_3 : Int32.ofInt 3 = (3 : Int32) := by decide
theorem zci_4 : Int32.ofInt 4 = (4 : Int32) := by decide
theorem zci_5 : Int32.ofInt 5 = (5 : Int32) := by decide
theorem zcs_m1000 : (Int16.ofInt (-1000)).toInt32 = (-1000 : Int32) := by decide
theorem zcs_160 : (Int16.ofInt 160).toInt32 = (160 : Int32) := by decide
theorem zcs_200 : (Int16.ofInt 200).toInt32 = (200 : Int32) := by decide
theorem zcs_255 : (Int16.ofInt 255).toInt32 = (255 : Int32) := by decide
theorem zcs_400 : (Int16.ofInt 400).toInt32 = (400 : Int32) := by decide
theorem zcs_600 : (Int16.ofInt 600).toInt32 = (600 : Int32) := by decide
theorem zcs_1000 : (Int16.ofInt 1000).toInt32 = (1000 : Int32) := by decide
theorem zcs_1200 : (Int16.ofInt 1200).toInt32 = (1200 : Int32) := by decide
theorem zcs_8200 : (Int16.ofInt 8200).toInt32 = (8200 : Int32) := by decide
theorem zmm_maxL_s : Cond.static Lib.MathLoose.max_long.x ∈ zGT := zi5 183 rfl rfl
theorem zmm_maxL_c : Cond.code Lib.MathLoose.max_long.x Lib.MathLoose.max_long.code 4 (some .long) ∈ zGT := zi5 184 rfl rfl
theorem zmm_minL_s : Cond.static Lib.MathLoose.min_long.x ∈ zGT := zi5 180 rfl rfl
theorem zmm_minL_c : Cond.code Lib.MathLoose.min_long.x Lib.MathLoose.min_long.code 4 (some .long) ∈ zGT := zi5 181 rfl rfl
