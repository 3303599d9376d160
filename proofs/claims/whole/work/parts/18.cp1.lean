/-! the machine does as the functions say: laid by program -/
abbrev qJ7_fill_53178c (n : Nat) (kd : zMK) (R : zMR) (r : zMI) : Option Value → zM → Prop := fun v μ1 => v = none ∧ μ1 = (n, kd, r, R)
set_option maxHeartbeats 4000000 in
set_option maxRecDepth 100000 in
theorem eJ7_fill_53178c_L5 {w : zW} {d : Nat} {n : Nat} {kd : zMK} {R : zMR} {r : zMI}  (hw : ∀ a k, zst w a k = none) (hd : 1 ≤ d)  : ∀ (q : Nat) (l0 : Nat) (l1 : Int32) (l2 : Int32) (l3 : Int32) (I : zMI), fJ7_fill_53178c_L5 n kd q l0 l1 l2 l3 I = some r → EV w d 0 0 YJ7_fill_53178 5 [some (.ref l0), some (.int l1), some (.int l2), some (.int l3)] [] (n, kd, I, R) (qJ7_fill_53178c n kd R r) := by
  intro q
  induction q with
  | zero =>
    intro l0 l1 l2 l3 I h
    cases h
  | succ q ih =>
    intro l0 l1 l2 l3 I h
    unfold fJ7_fill_53178c_L5 at h
    refine ev_iload_n dJ7_fill_53178_5 rfl rfl ?_
    refine ev_iload_n dJ7_fill_53178_6 rfl rfl ?_
    refine ev_icmp_ge dJ7_fill_53178_7 (tgt := 20) (by decide) (fun c1 => ?_) (fun c1 => ?_)
    · replace h := zit c1 h
      obtain rfl := Option.some.inj h
      exact ev_end_v dJ7_fill_53178_20 rfl ⟨rfl, rfl⟩
    · replace h := zif c1 h
      refine ev_aload_n dJ7_fill_53178_10 rfl rfl ?_
      refine ev_iload_n dJ7_fill_53178_11 rfl rfl ?_
      refine ev_iload_n dJ7_fill_53178_12 rfl rfl ?_
      obtain ⟨g2, h⟩ := zgd h
      obtain ⟨g3, h⟩ := zgd h
      obtain ⟨J4, e5, h⟩ := zld h
      refine em_iastG dJ7_fill_53178_13 (zKdB_has g2) (N := (kd l0).2) rfl g3 e5 ?_
      refine ev_iinc dJ7_fill_53178_14 (v := l2 + (1 : Int32)) rfl rfl (by decide) rfl ?_
      refine ev_goto dJ7_fill_53178_17 (tgt := 5) (by decide) ?_
      exact EV.mask [true, true, true, true] rfl (EV.more (ih l0 l1 (l2 + (1 : Int32)) l3 J4 h) (Nat.le_refl _) (by omega) (by omega))
set_option maxHeartbeats 4000000 in
set_option maxRecDepth 100000 in
theorem eJ7_fill_53178c {w : zW} {d : Nat} {n : Nat} {kd : zMK} {I : zMI} {R : zMR} {r : zMI} {l0 : Nat} {l1 : Int32} (hw : ∀ a k, zst w a k = none) (hd : 1 ≤ d) (h : fJ7_fill_53178c n kd l0 l1 I = some r) : EV w d 0 0 YJ7_fill_53178 0 [some (.ref l0), some (.int l1), none, none] [] (n, kd, I, R) (qJ7_fill_53178c n kd R r) := by
  unfold fJ7_fill_53178c at h
  refine ev_iconst dJ7_fill_53178_0 (v := (0 : Int32)) zci_0 ?_
  refine ev_istore_n dJ7_fill_53178_1 rfl (by decide) rfl ?_
  refine ev_aload_n dJ7_fill_53178_2 rfl rfl ?_
  obtain ⟨g6, h⟩ := zgd h
  refine em_alen dJ7_fill_53178_3 (zKdB_has g6) (by decide) rfl rfl ?_
  obtain ⟨x7, e8, h⟩ := zld h
  refine ev_nm e8 ?_
  refine ev_istore_n dJ7_fill_53178_4 rfl (by decide) rfl ?_
  exact EV.mask [true, true, true, true] rfl (EV.more (eJ7_fill_53178c_L5 hw hd zF l0 l1 (0 : Int32) x7 I h) (Nat.le_refl _) (by omega) (by omega))
abbrev q3_boundedc (n : Nat) (kd : zMK) (I : zMI) (R : zMR) (r : Int32) : Option Value → zM → Prop := fun v μ1 => v = some (.int r) ∧ μ1 = (n, kd, I, R)
set_option maxHeartbeats 4000000 in
set_option maxRecDepth 100000 in
theorem e3_boundedc {w : zW} {d : Nat} {n : Nat} {kd : zMK} {I : zMI} {R : zMR} {r : Int32} {l0 : Int32} {l1 : Int32} (hw : ∀ a k, zst w a k = none) (hd : 2 ≤ d) (h : f3_boundedc l0 l1 = some r) : EV w d 0 0 Y3_bounded 0 [some (.int l0), some (.int l1)] [] (n, kd, I, R) (q3_boundedc n kd I R r) := by
  unfold f3_boundedc at h
  refine ev_iload_n dX3_bounded_0 rfl rfl ?_
  refine ev_iconst dX3_bounded_1 (v := (2 : Int32)) zci_2 ?_
  refine ev_icmp_ne dX3_bounded_2 (tgt := 18) (by decide) (fun c1 => ?_) (fun c1 => ?_)
  · replace h := zif c1 h
    refine ev_bipush dX3_bounded_18 (v := (20 : Int32)) zcb_20 ?_
    refine ev_iconst dX3_bounded_20 (v := (1 : Int32)) zci_1 ?_
    refine ev_iload_n dX3_bounded_21 rfl rfl ?_
    obtain ⟨x2, e3, h⟩ := zld h
    refine ev_max dX3_bounded_22 zl_NineHeaps_Law_45 zmm_max_s zn_java_lang_Math zmm_max_c (by omega) (Nat.le_of_ble_eq_true rfl) e3 ?_
    obtain ⟨x4, e5, h⟩ := zld h
    refine ev_min dX3_bounded_25 zl_NineHeaps_Law_58 zmm_min_s zn_java_lang_Math zmm_min_c (by omega) (Nat.le_of_ble_eq_true rfl) e5 ?_
    obtain rfl := Option.some.inj h
    exact ev_end_i dX3_bounded_28 rfl rfl ⟨rfl, rfl⟩
  · replace h := zit c1 h
    refine ev_bipush dX3_bounded_5 (v := (99 : Int32)) zcb_99 ?_
    refine ev_iconst dX3_bounded_7 (v := (0 : Int32)) zci_0 ?_
    refine ev_iload_n dX3_bounded_8 rfl rfl ?_
    obtain ⟨x6, e7, h⟩ := zld h
    refine ev_max dX3_bounded_9 zl_NineHeaps_Law_45 zmm_max_s zn_java_lang_Math zmm_max_c (by omega) (Nat.le_of_ble_eq_true rfl) e7 ?_
    obtain ⟨x8, e9, h⟩ := zld h
    refine ev_min dX3_bounded_12 zl_NineHeaps_Law_58 zmm_min_s zn_java_lang_Math zmm_min_c (by omega) (Nat.le_of_ble_eq_true rfl) e9 ?_
    refine ev_goto dX3_bounded_15 (tgt := 28) (by decide) ?_
    obtain rfl := Option.some.inj h
    exact ev_end_i dX3_bounded_28 rfl rfl ⟨rfl, rfl⟩
abbrev q3_initc  (r : (Nat × zMK) × zMI × zMR) : Option Value → zM → Prop := fun v μ1 => v = none ∧ μ1 = ((r.1).1, (r.1).2, r.2.1, r.2.2)
set_option maxHeartbeats 4000000 in
set_option maxRecDepth 100000 in
theorem e3_initc_B126 {w : zW} {d : Nat}  {r : (Nat × zMK) × zMI × zMR} {k51 : Nat → Int32 → Nat → zMK → zMI → zMR → Option ((Nat × zMK) × zMI × zMR)} (hw : ∀ a k, zst w a k = none) (hd : 3 ≤ d) (hk51 : ∀ (l0 : Nat) (l3 : Int32) (n : Nat) (kd : zMK) (I : zMI) (R : zMR), k51 l0 l3 n kd I R = some r → EV w d 0 0 Y3_init 51 [some (.ref l0), some (.ref 0), some (.ref 1), some (.int l3), none] [] (n, kd, I, R) (q3_initc  r)) : ∀ (l0 : Nat) (l3 : Int32) (n : Nat) (kd : zMK) (I : zMI) (R : zMR), f3_initc_B126 k51 l0 l3 n kd I R = some r → EV w d 0 0 Y3_init 126 [some (.ref l0), some (.ref 0), some (.ref 1), some (.int l3), none] [] (n, kd, I, R) (q3_initc  r) := by
  intro l0 l3 n kd I R h
  unfold f3_initc_B126 at h
  refine ev_iinc dX3_init_126 (v := l3 + (1 : Int32)) rfl rfl (by decide) rfl ?_
  refine ev_goto dX3_init_129 (tgt := 51) (by decide) ?_
  exact EV.mask [true, true, true, true, false] rfl (EV.more (hk51 l0 (l3 + (1 : Int32)) n kd I R h) (Nat.le_refl _) (by omega) (by omega))
set_option maxHeartbeats 4000000 in
set_option maxRecDepth 100000 in
theorem e3_initc_B125 {w : zW} {d : Nat}  {r : (Nat × zMK) × zMI × zMR} {k51 : Nat → Int32 → Nat → zMK → zMI → zMR → Option ((Nat × zMK) × zMI × zMR)} (hw : ∀ a k, zst w a k = none) (hd : 3 ≤ d) (hk51 : ∀ (l0 : Nat) (l3 : Int32) (n : Nat) (kd : zMK) (I : zMI) (R : zMR), k51 l0 l3 n kd I R = some r → EV w d 0 0 Y3_init 51 [some (.ref l0), some (.ref 0), some (.ref 1), some (.int l3), none] [] (n, kd, I, R) (q3_initc  r)) : ∀ (l0 : Nat) (l3 : Int32) (s0 : Nat) (s1 : Int32) (s2 : Int32) (n : Nat) (kd : zMK) (I : zMI) (R : zMR), f3_initc_B125 k51 l0 l3 s0 s1 s2 n kd I R = some r → EV w d 0 0 Y3_init 125 [some (.ref l0), some (.ref 0), some (.ref 1), some (.int l3), none] [.int s2, .int s1, .ref s0] (n, kd, I, R) (q3_initc  r) := by
  intro l0 l3 s0 s1 s2 n kd I R h
  unfold f3_initc_B125 at h
  obtain ⟨g1, h⟩ := zgd h
  obtain ⟨g2, h⟩ := zgd h
  obtain ⟨J3, e4, h⟩ := zld h
  refine em_iastG dX3_init_125 (zKdB_has g1) (N := (kd s0).2) rfl g2 e4 ?_
  exact EV.mask [true, true, true, true, false] rfl (EV.more (e3_initc_B126 hw hd hk51 l0 l3 n kd J3 R h) (Nat.le_refl _) (by omega) (by omega))
set_option maxHeartbeats 4000000 in
set_option maxRecDepth 100000 in
theorem e3_initc_B124 {w : zW} {d : Nat}  {r : (Nat × zMK) × zMI × zMR} {k51 : Nat → Int32 → Nat → zMK → zMI → zMR → Option ((Nat × zMK) × zMI × zMR)} (hw : ∀ a k, zst w a k = none) (hd : 3 ≤ d) (hk51 : ∀ (l0 : Nat) (l3 : Int32) (n : Nat) (kd : zMK) (I : zMI) (R : zMR), k51 l0 l3 n kd I R = some r → EV w d 0 0 Y3_init 51 [some (.ref l0), some (.ref 0), some (.ref 1), some (.int l3), none] [] (n, kd, I, R) (q3_initc  r)) : ∀ (l0 : Nat) (l3 : Int32) (s0 : Nat) (s1 : Int32) (n : Nat) (kd : zMK) (I : zMI) (R : zMR), f3_initc_B124 k51 l0 l3 s0 s1 n kd I R = some r → EV w d 0 0 Y3_init 124 [some (.ref l0), some (.ref 0), some (.ref 1), some (.int l3), none] [.int s1, .ref s0] (n, kd, I, R) (q3_initc  r) := by
  intro l0 l3 s0 s1 n kd I R h
  unfold f3_initc_B124 at h
  refine ev_iconst dX3_init_124 (v := (-1 : Int32)) zci_m1 ?_
  exact EV.mask [true, true, true, true, false] rfl (EV.more (e3_initc_B125 hw hd hk51 l0 l3 s0 s1 (-1 : Int32) n kd I R h) (Nat.le_refl _) (by omega) (by omega))
set_option maxHeartbeats 4000000 in
set_option maxRecDepth 100000 in
theorem e3_initc_L51 {w : zW} {d : Nat}  {r : (Nat × zMK) × zMI × zMR}  (hw : ∀ a k, zst w a k = none) (hd : 3 ≤ d)  : ∀ (q : Nat) (l0 : Nat) (l3 : Int32) (n : Nat) (kd : zMK) (I : zMI) (R : zMR), f3_initc_L51  q l0 l3 n kd I R = some r → EV w d 0 0 Y3_init 51 [some (.ref l0), some (.ref 0), some (.ref 1), some (.int l3), none] [] (n, kd, I, R) (q3_initc  r) := by
  intro q
  induction q with
  | zero =>
    intro l0 l3 n kd I R h
    cases h
  | succ q ih =>
    intro l0 l3 n kd I R h
    unfold f3_initc_L51 at h
    refine ev_iload_n dX3_init_51 rfl rfl ?_
    refine ev_iconst dX3_init_52 (v := (3 : Int32)) zci_3 ?_
    refine ev_icmp_ge dX3_init_53 (tgt := 132) (by decide) (fun c5 => ?_) (fun c5 => ?_)
    · replace h := zit c5 h
      obtain rfl := Option.some.inj h
      exact ev_end_v dX3_init_132 rfl ⟨rfl, rfl⟩
    · replace h := zif c5 h
      refine ev_aload_n dX3_init_56 rfl rfl ?_
      obtain ⟨g6, h⟩ := zgd h
      rcases zopt (R l0 4) with o8 | ⟨a7, o8⟩
      · have h9 := zmn o8 h
        cases h9
      replace h := zms o8 h
      refine cm_getO dX3_init_57 zf_NineHeaps_Law_18 rfl (zKdB_has g6) hw o8 ?_
      refine ev_iload_n dX3_init_60 rfl rfl ?_
      refine ev_iconst dX3_init_61 (v := (-1 : Int32)) zci_m1 ?_
      obtain ⟨g9, h⟩ := zgd h
      obtain ⟨g10, h⟩ := zgd h
      obtain ⟨J11, e12, h⟩ := zld h
      refine em_iastG dX3_init_62 (zKdB_has g9) (N := (kd a7).2) rfl g10 e12 ?_
      refine ev_iload_n dX3_init_63 rfl rfl ?_
      refine ev_iconst dX3_init_64 (v := (1 : Int32)) zci_1 ?_
      refine ev_iadd dX3_init_65 rfl ?_
      refine ev_aload_n dX3_init_66 rfl rfl ?_
      refine ev_alenO dX3_init_67 (by decide) (fun hG => hG.2.2.2.2.1.2) (x := (4 : Int32)) rfl ?_
      refine ev_icmp_ge dX3_init_68 (tgt := 126) (by decide) (fun c13 => ?_) (fun c13 => ?_)
      · replace h := zit c13 h
        exact EV.mask [true, true, true, true, false] rfl (EV.more (e3_initc_B126 hw hd (fun l0' l3' n' kd' I' R' h' => ih l0' l3' n' kd' I' R' h') l0 l3 n kd J11 R h) (Nat.le_refl _) (by omega) (by omega))
      · replace h := zif c13 h
        refine ev_aload_n dX3_init_71 rfl rfl ?_
        refine ev_iload_n dX3_init_72 rfl rfl ?_
        refine ev_iconst dX3_init_73 (v := (1 : Int32)) zci_1 ?_
        refine ev_iadd dX3_init_74 rfl ?_
        obtain ⟨g14, h⟩ := zgd h
        refine ev_ialdO dX3_init_75 (by decide) (fun hG => hG.2.2.2.2.1.2) (zib_in g14) rfl ?_
        refine ev_aload_n dX3_init_76 rfl rfl ?_
        refine ev_iload_n dX3_init_77 rfl rfl ?_
        obtain ⟨g15, h⟩ := zgd h
        refine ev_ialdO dX3_init_78 (by decide) (fun hG => hG.2.2.2.2.1.2) (zib_in g15) rfl ?_
        refine ev_iconst dX3_init_79 (v := (1 : Int32)) zci_1 ?_
        refine ev_iadd dX3_init_80 rfl ?_
        refine ev_icmp_ne dX3_init_81 (tgt := 126) (by decide) (fun c16 => ?_) (fun c16 => ?_)
        · replace h := zif c16 h
          exact EV.mask [true, true, true, true, false] rfl (EV.more (e3_initc_B126 hw hd (fun l0' l3' n' kd' I' R' h' => ih l0' l3' n' kd' I' R' h') l0 l3 n kd J11 R h) (Nat.le_refl _) (by omega) (by omega))
        · replace h := zit c16 h
          refine ev_aload_n dX3_init_84 rfl rfl ?_
          refine ev_iload_n dX3_init_85 rfl rfl ?_
          refine ev_ialdO dX3_init_86 (by decide) (fun hG => hG.2.2.2.2.1.2) (zib_in g15) rfl ?_
          refine ev_istore dX3_init_87 (by decide) rfl ?_
          refine ev_aload_n dX3_init_89 rfl rfl ?_
          rcases zopt (R l0 4) with o18 | ⟨a17, o18⟩
          · have h9 := zmn o18 h
            cases h9
          replace h := zms o18 h
          refine cm_getO dX3_init_90 zf_NineHeaps_Law_18 rfl (zKdB_has g6) hw o18 ?_
          refine ev_iload_n dX3_init_93 rfl rfl ?_
          refine ev_iload dX3_init_94 rfl ?_
          refine ev_if_lt dX3_init_96 (tgt := 124) (by decide) (fun c19 => ?_) (fun c19 => ?_)
          · replace h := zit c19 h
            exact EV.mask [true, true, true, true, false] rfl (EV.more (e3_initc_B124 hw hd (fun l0' l3' n' kd' I' R' h' => ih l0' l3' n' kd' I' R' h') l0 l3 a17 l3 n kd J11 R h) (Nat.le_refl _) (by omega) (by omega))
          · replace h := zif c19 h
            refine ev_iload dX3_init_99 rfl ?_
            refine ev_aload_n dX3_init_101 rfl rfl ?_
            refine ev_alenO dX3_init_102 (by decide) (fun hG => hG.2.2.2.1.2) (x := (3 : Int32)) rfl ?_
            refine ev_icmp_ge dX3_init_103 (tgt := 124) (by decide) (fun c20 => ?_) (fun c20 => ?_)
            · replace h := zit c20 h
              exact EV.mask [true, true, true, true, false] rfl (EV.more (e3_initc_B124 hw hd (fun l0' l3' n' kd' I' R' h' => ih l0' l3' n' kd' I' R' h') l0 l3 a17 l3 n kd J11 R h) (Nat.le_refl _) (by omega) (by omega))
            · replace h := zif c20 h
              refine ev_aload_n dX3_init_106 rfl rfl ?_
              refine ev_iload dX3_init_107 rfl ?_
              obtain ⟨g21, h⟩ := zgd h
              refine ev_ialdO dX3_init_109 (by decide) (fun hG => hG.2.2.2.1.2) (zib_in g21) rfl ?_
              refine ev_if_lt dX3_init_110 (tgt := 124) (by decide) (fun c22 => ?_) (fun c22 => ?_)
              · replace h := zit c22 h
                exact EV.mask [true, true, true, true, false] rfl (EV.more (e3_initc_B124 hw hd (fun l0' l3' n' kd' I' R' h' => ih l0' l3' n' kd' I' R' h') l0 l3 a17 l3 n kd J11 R h) (Nat.le_refl _) (by omega) (by omega))
              · replace h := zif c22 h
                refine ev_iload_n dX3_init_113 rfl rfl ?_
                refine ev_aload_n dX3_init_114 rfl rfl ?_
                refine ev_iload dX3_init_115 rfl ?_
                refine ev_ialdO dX3_init_117 (by decide) (fun hG => hG.2.2.2.1.2) (zib_in g21) rfl ?_
                obtain ⟨p23, e24, h⟩ := zbd h
                refine ev_callS0 dX3_init_118 zm3_bounded zl_NineHeaps_Law_32 zs3_bounded (As := [.int l3, .int (zFl (zFs l3.toNatClampNeg).toNatClampNeg)]) (rest := [.int l3, .ref a17]) rfl rfl (Nat.le_of_ble_eq_true rfl) rfl (Nat.le_of_ble_eq_true rfl) (d' := 2) (by omega) (e3_boundedc hw (Nat.le_refl _) e24) (fun v μ1 q => ?_)
                obtain ⟨rfl, rfl⟩ := q
                refine ev_goto dX3_init_121 (tgt := 125) (by decide) ?_
                exact EV.mask [true, true, true, true, false] rfl (EV.more (e3_initc_B125 hw hd (fun l0' l3' n' kd' I' R' h' => ih l0' l3' n' kd' I' R' h') l0 l3 a17 l3 p23 n kd J11 R h) (Nat.le_refl _) (by omega) (by omega))
set_option maxHeartbeats 4000000 in
set_option maxRecDepth 100000 in
theorem e3_initc {w : zW} {d : Nat} {n : Nat} {kd : zMK} {I : zMI} {R : zMR} {r : (Nat × zMK) × zMI × zMR} {l0 : Nat} (hw : ∀ a k, zst w a k = none) (hd : 3 ≤ d) (h : f3_initc l0 n kd I R = some r) : EV w d 5 369 Y3_init 0 [some (.ref l0), some (.ref 0), some (.ref 1), none, none] [] (n, kd, I, R) (q3_initc  r) := by
  unfold f3_initc at h
  refine ev_aload_n dX3_init_0 rfl rfl ?_
  refine ev_objInit dX3_init_1 zl_NineHeaps_Law_3 ziO_init zOco (by omega) (Nat.le_of_ble_eq_true rfl) ?_
  refine ev_aload_n dX3_init_4 rfl rfl ?_
  refine ev_bipush dX3_init_5 (v := (40 : Int32)) zcb_40 ?_
  obtain ⟨D27, e28, h⟩ := zld h
  obtain ⟨J29, e30, h⟩ := zld h
  obtain ⟨T31, e32, h⟩ := zld h
  refine em_newIK (kc' := 4) (ks' := 329) dX3_init_7 (N := 40) (by decide) (by decide) (by decide) (by omega) (by omega) ?_
  rw [e28, e30, e32]
  obtain ⟨g33, h⟩ := zgd h
  obtain ⟨T34, e35, h⟩ := zld h
  refine cm_putO (o := some n) dX3_init_9 zf_NineHeaps_Law_11 (Or.inr ⟨rfl, rfl, rfl⟩) rfl hw (fun _ => rfl) (fun _ => rfl) rfl rfl (zKdB_has g33) e35 ?_
  refine ev_aload_n dX3_init_12 rfl rfl ?_
  refine ev_bipush dX3_init_13 (v := (6 : Int32)) zcb_6 ?_
  obtain ⟨D38, e39, h⟩ := zld h
  obtain ⟨J40, e41, h⟩ := zld h
  obtain ⟨T42, e43, h⟩ := zld h
  refine em_newIK (kc' := 3) (ks' := 323) dX3_init_15 (N := 6) (by decide) (by decide) (by decide) (by omega) (by omega) ?_
  rw [e39, e41, e43]
  obtain ⟨g44, h⟩ := zgd h
  obtain ⟨T45, e46, h⟩ := zld h
  refine cm_putO (o := some (n + 1)) dX3_init_17 zf_NineHeaps_Law_15 (Or.inr ⟨rfl, rfl, rfl⟩) rfl hw (fun _ => rfl) (fun _ => rfl) rfl rfl (zKdB_has g44) e46 ?_
  refine ev_aload_n dX3_init_20 rfl rfl ?_
  refine ev_iconst dX3_init_21 (v := (3 : Int32)) zci_3 ?_
  obtain ⟨D49, e50, h⟩ := zld h
  obtain ⟨J51, e52, h⟩ := zld h
  obtain ⟨T53, e54, h⟩ := zld h
  refine em_newIK (kc' := 2) (ks' := 320) dX3_init_22 (N := 3) (by decide) (by decide) (by decide) (by omega) (by omega) ?_
  rw [e50, e52, e54]
  obtain ⟨g55, h⟩ := zgd h
  obtain ⟨T56, e57, h⟩ := zld h
  refine cm_putO (o := some ((n + 1) + 1)) dX3_init_24 zf_NineHeaps_Law_18 (Or.inr ⟨rfl, rfl, rfl⟩) rfl hw (fun _ => rfl) (fun _ => rfl) rfl rfl (zKdB_has g55) e57 ?_
  refine ev_aload_n dX3_init_27 rfl rfl ?_
  refine ev_aload_n dX3_init_28 rfl rfl ?_
  obtain ⟨D60, e61, h⟩ := zld h
  obtain ⟨J62, e63, h⟩ := zld h
  obtain ⟨T64, e65, h⟩ := zld h
  refine cm_cloneS (kc' := 1) (ks' := 317) dX3_init_29 zl_NineHeaps_Law_21 (by decide) (fun hG => hG.2.2.2.1.2) (by omega) (Nat.le_of_ble_eq_true rfl) (by omega) (by omega) ?_
  rw [e61, e63, e65]
  obtain ⟨g66, h⟩ := zgd h
  refine ev_castI dX3_init_32 zc_NineHeaps_Law_22 (zKdB_has g66) ?_
  obtain ⟨g67, h⟩ := zgd h
  obtain ⟨T68, e69, h⟩ := zld h
  refine cm_putO (o := some (((n + 1) + 1) + 1)) dX3_init_35 zf_NineHeaps_Law_26 (Or.inr ⟨rfl, rfl, rfl⟩) rfl hw (fun _ => rfl) (fun _ => rfl) rfl rfl (zKdB_has g67) e69 ?_
  refine ev_aload_n dX3_init_38 rfl rfl ?_
  refine ev_aload_n dX3_init_39 rfl rfl ?_
  obtain ⟨D72, e73, h⟩ := zld h
  obtain ⟨J74, e75, h⟩ := zld h
  obtain ⟨T76, e77, h⟩ := zld h
  refine cm_cloneS (kc' := 0) (ks' := 313) dX3_init_40 zl_NineHeaps_Law_21 (by decide) (fun hG => hG.2.2.2.2.1.2) (by omega) (Nat.le_of_ble_eq_true rfl) (by omega) (by omega) ?_
  rw [e73, e75, e77]
  obtain ⟨g78, h⟩ := zgd h
  refine ev_castI dX3_init_43 zc_NineHeaps_Law_22 (zKdB_has g78) ?_
  obtain ⟨g79, h⟩ := zgd h
  obtain ⟨T80, e81, h⟩ := zld h
  refine cm_putO (o := some ((((n + 1) + 1) + 1) + 1)) dX3_init_46 zf_NineHeaps_Law_29 (Or.inr ⟨rfl, rfl, rfl⟩) rfl hw (fun _ => rfl) (fun _ => rfl) rfl rfl (zKdB_has g79) e81 ?_
  refine ev_iconst dX3_init_49 (v := (0 : Int32)) zci_0 ?_
  refine ev_istore_n dX3_init_50 rfl (by decide) rfl ?_
  exact EV.mask [true, true, true, true, false] rfl (EV.more (e3_initc_L51 hw hd zF l0 (0 : Int32) (((((n + 1) + 1) + 1) + 1) + 1) D72 J74 T80 h) (Nat.le_refl _) (by omega) (by omega))
abbrev q2_initc (n : Nat) (kd : zMK) (R : zMR) (r : zMI) : Option Value → zM → Prop := fun v μ1 => v = none ∧ μ1 = (n, kd, r, R)
set_option maxHeartbeats 4000000 in
set_option maxRecDepth 100000 in
theorem e2_initc {w : zW} {d : Nat} {n : Nat} {kd : zMK} {I : zMI} {R : zMR} {r : zMI} {l0 : Nat} {l1 : Int32} (hw : ∀ a k, zst w a k = none) (hd : 2 ≤ d) (h : f2_initc n kd l0 l1 I = some r) : EV w d 0 0 Y2_init 0 [some (.ref l0), some (.int l1)] [] (n, kd, I, R) (q2_initc n kd R r) := by
  unfold f2_initc at h
  refine ev_aload_n dX2_init_0 rfl rfl ?_
  refine ev_objInit dX2_init_1 zl_NineHeaps_Heap_3 ziO_init zOco (by omega) (Nat.le_of_ble_eq_true rfl) ?_
  refine ev_aload_n dX2_init_4 rfl rfl ?_
  refine ev_iload_n dX2_init_5 rfl rfl ?_
  obtain ⟨g1, h⟩ := zgd h
  obtain ⟨J2, e3, h⟩ := zld h
  refine em_putI dX2_init_6 zf_NineHeaps_Heap_9 (Or.inr ⟨rfl, rfl, rfl⟩) rfl rfl rfl (zKdB_has g1) e3 ?_
  obtain rfl := Option.some.inj h
  exact ev_end_v dX2_init_9 rfl ⟨rfl, rfl⟩
abbrev q6_initc  (r : (Nat × zMK) × zMI × zMR) : Option Value → zM → Prop := fun v μ1 => v = none ∧ μ1 = ((r.1).1, (r.1).2, r.2.1, r.2.2)
set_option maxHeartbeats 4000000 in
set_option maxRecDepth 100000 in
theorem e6_initc {w : zW} {d : Nat} {n : Nat} {kd : zMK} {I : zMI} {R : zMR} {r : (Nat × zMK) × zMI × zMR} {l0 : Nat} (hw : ∀ a k, zst w a k = none) (hd : 2 ≤ d) (h : f6_initc l0 n kd I R = some r) : EV w d 1 40 Y6_init 0 [some (.ref l0)] [] (n, kd, I, R) (q6_initc  r) := by
  unfold f6_initc at h
  refine ev_aload_n dX6_init_0 rfl rfl ?_
  refine ev_objInit dX6_init_1 zl_NineHeaps_Sheet_3 ziO_init zOco (by omega) (Nat.le_of_ble_eq_true rfl) ?_
  refine ev_aload_n dX6_init_4 rfl rfl ?_
  refine ev_iconst dX6_init_5 (v := (-1 : Int32)) zci_m1 ?_
  obtain ⟨g1, h⟩ := zgd h
  obtain ⟨J2, e3, h⟩ := zld h
  refine em_putI dX6_init_6 zf_NineHeaps_Sheet_9 (Or.inl rfl) rfl rfl rfl (zKdB_has g1) e3 ?_
  refine ev_aload_n dX6_init_9 rfl rfl ?_
  refine ev_bipush dX6_init_10 (v := (40 : Int32)) zcb_40 ?_
  obtain ⟨D6, e7, h⟩ := zld h
  obtain ⟨J8, e9, h⟩ := zld h
  obtain ⟨T10, e11, h⟩ := zld h
  refine em_newIK (kc' := 0) (ks' := 0) dX6_init_12 (N := 40) (by decide) (by decide) (by decide) (by omega) (by omega) ?_
  rw [e7, e9, e11]
  obtain ⟨g12, h⟩ := zgd h
  obtain ⟨T13, e14, h⟩ := zld h
  refine cm_putO (o := some n) dX6_init_14 zf_NineHeaps_Sheet_15 (Or.inr ⟨rfl, rfl, rfl⟩) rfl hw (fun _ => rfl) (fun _ => rfl) rfl rfl (zKdB_has g12) e14 ?_
  obtain rfl := Option.some.inj h
  exact ev_end_v dX6_init_17 rfl ⟨rfl, rfl⟩
abbrev q7_initc  (r : (Nat × zMK) × zMI × zMR) : Option Value → zM → Prop := fun v μ1 => v = none ∧ μ1 = ((r.1).1, (r.1).2, r.2.1, r.2.2)
set_option maxHeartbeats 4000000 in
set_option maxRecDepth 100000 in
theorem e7_initc {w : zW} {d : Nat} {n : Nat} {kd : zMK} {I : zMI} {R : zMR} {r : (Nat × zMK) × zMI × zMR} {l0 : Nat} (hw : ∀ a k, zst w a k = none) (hd : 2 ≤ d) (h : f7_initc l0 n kd I R = some r) : EV w d 3 324 Y7_init 0 [some (.ref l0)] [] (n, kd, I, R) (q7_initc  r) := by
  unfold f7_initc at h
  refine ev_aload_n dX7_init_0 rfl rfl ?_
  refine ev_objInit dX7_init_1 zl_NineHeaps_Tape_3 ziO_init zOco (by omega) (Nat.le_of_ble_eq_true rfl) ?_
  refine ev_aload_n dX7_init_4 rfl rfl ?_
  refine ev_sipush dX7_init_5 (v := (160 : Int32)) zcs_160 ?_
  obtain ⟨D3, e4, h⟩ := zld h
  obtain ⟨J5, e6, h⟩ := zld h
  obtain ⟨T7, e8, h⟩ := zld h
  refine em_newIK (kc' := 2) (ks' := 164) dX7_init_8 (N := 160) (by decide) (by decide) (by decide) (by omega) (by omega) ?_
  rw [e4, e6, e8]
  obtain ⟨g9, h⟩ := zgd h
  obtain ⟨T10, e11, h⟩ := zld h
  refine cm_putO (o := some n) dX7_init_10 zf_NineHeaps_Tape_9 (Or.inr ⟨rfl, rfl, rfl⟩) rfl hw (fun _ => rfl) (fun _ => rfl) rfl rfl (zKdB_has g9) e11 ?_
  refine ev_aload_n dX7_init_13 rfl rfl ?_
  refine ev_sipush dX7_init_14 (v := (160 : Int32)) zcs_160 ?_
  obtain ⟨D14, e15, h⟩ := zld h
  obtain ⟨J16, e17, h⟩ := zld h
  obtain ⟨T18, e19, h⟩ := zld h
  refine em_newIK (kc' := 1) (ks' := 4) dX7_init_17 (N := 160) (by decide) (by decide) (by decide) (by omega) (by omega) ?_
  rw [e15, e17, e19]
  obtain ⟨g20, h⟩ := zgd h
  obtain ⟨T21, e22, h⟩ := zld h
  refine cm_putO (o := some (n + 1)) dX7_init_19 zf_NineHeaps_Tape_15 (Or.inr ⟨rfl, rfl, rfl⟩) rfl hw (fun _ => rfl) (fun _ => rfl) rfl rfl (zKdB_has g20) e22 ?_
  refine ev_aload_n dX7_init_22 rfl rfl ?_
  refine ev_iconst dX7_init_23 (v := (4 : Int32)) zci_4 ?_
  obtain ⟨D25, e26, h⟩ := zld h
  obtain ⟨J27, e28, h⟩ := zld h
  obtain ⟨T29, e30, h⟩ := zld h
  refine em_newIK (kc' := 0) (ks' := 0) dX7_init_24 (N := 4) (by decide) (by decide) (by decide) (by omega) (by omega) ?_
  rw [e26, e28, e30]
  obtain ⟨g31, h⟩ := zgd h
  obtain ⟨T32, e33, h⟩ := zld h
  refine cm_putO (o := some ((n + 1) + 1)) dX7_init_26 zf_NineHeaps_Tape_20 (Or.inr ⟨rfl, rfl, rfl⟩) rfl hw (fun _ => rfl) (fun _ => rfl) rfl rfl (zKdB_has g31) e33 ?_
  obtain rfl := Option.some.inj h
  exact ev_end_v dX7_init_29 rfl ⟨rfl, rfl⟩
abbrev q0_initc  (r : (Nat × zMK) × zMI × zMR) : Option Value → zM → Prop := fun v μ1 => v = none ∧ μ1 = ((r.1).1, (r.1).2, r.2.1, r.2.2)
set_option maxHeartbeats 4000000 in
set_option maxRecDepth 100000 in
theorem e0_initc_L31 {w : zW} {d : Nat}  {r : (Nat × zMK) × zMI × zMR}  (hw : ∀ a k, zst w a k = none) (hd : 3 ≤ d)  : ∀ (q : Nat) (l0 : Nat) (l1 : Int32) (n : Nat) (kd : zMK) (I : zMI) (R : zMR), f0_initc_L31  q l0 l1 n kd I R = some r → EV w d (q * 1) (q * 7) Y0_init 31 [some (.ref l0), some (.int l1)] [] (n, kd, I, R) (q0_initc  r) := by
  intro q
  induction q with
  | zero =>
    intro l0 l1 n kd I R h
    cases h
  | succ q ih =>
    intro l0 l1 n kd I R h
    unfold f0_initc_L31 at h
    refine ev_iload_n dX0_init_31 rfl rfl ?_
    refine ev_bipush dX0_init_32 (v := (9 : Int32)) zcb_9 ?_
    refine ev_icmp_ge dX0_init_34 (tgt := 57) (by decide) (fun c1 => ?_) (fun c1 => ?_)
    · replace h := zit c1 h
      obtain rfl := Option.some.inj h
      exact ev_end_v dX0_init_57 rfl ⟨rfl, rfl⟩
    · replace h := zif c1 h
      refine ev_aload_n dX0_init_37 rfl rfl ?_
      obtain ⟨g2, h⟩ := zgd h
      refine cm_getO dX0_init_38 zf_NineHeaps_Going_11 rfl (zKdB_has g2) hw rfl ?_
      refine ev_iload_n dX0_init_41 rfl rfl ?_
      obtain ⟨D5, e6, h⟩ := zld h
      obtain ⟨J7, e8, h⟩ := zld h
      obtain ⟨T9, e10, h⟩ := zld h
      refine em_newK (kc' := (q * 1 + 0)) (ks' := (q * 7 + 0)) dX0_init_42 (c := 2) (N := 7) (by decide) zc_NineHeaps_Going_9 zj2 zn_NineHeaps_Heap rfl (fun k => hw _ _) (by omega) (by omega) ?_
      rw [e6, e8, e10]
      refine ev_dup dX0_init_45 rfl ?_
      refine ev_iload_n dX0_init_46 rfl rfl ?_
      obtain ⟨p11, e12, h⟩ := zbd h
      refine ev_callIK (k2 := (q * 1 + 0)) (z2 := (q * 7 + 0)) dX0_init_47 zm2_init zl_NineHeaps_Going_27 zi2_init rfl rfl (As := [.int l1]) (rest := [.ref n, .int l1, va_rf (R l0 0)]) rfl rfl (by cases (R l0 0) <;> exact Nat.le_of_ble_eq_true rfl) rfl (Nat.le_of_ble_eq_true rfl) (d' := 2) (by omega) (e2_initc hw (Nat.le_refl _) e12) (by omega) (by omega) (fun v μ1 q => ?_)
      obtain ⟨rfl, rfl⟩ := q
      rcases zopt (R l0 0) with o14 | ⟨a13, o14⟩
      · have h9 := zmn o14 h
        cases h9
      replace h := zms o14 h
      rw [o14]
      obtain ⟨g15, h⟩ := zgd h
      obtain ⟨g16, h⟩ := zgd h
      obtain ⟨g17, h⟩ := zgd h
      obtain ⟨T18, e19, h⟩ := zld h
      refine cm_aast dX0_init_50 (zKdB_has g15) (by decide) (by decide) (zKdB_has g16) (by decide) (c2 := 2) (by decide) (fun _ => rfl) (Or.inl rfl) hw g17 e19 ?_
      refine ev_iinc dX0_init_51 (v := l1 + (1 : Int32)) rfl rfl (by decide) rfl ?_
      refine ev_goto dX0_init_54 (tgt := 31) (by decide) ?_
      exact EV.mask [true, true] rfl (EV.more (ih l0 (l1 + (1 : Int32)) (n + 1) D5 p11 T18 h) (Nat.le_refl _) (by omega) (by omega))
set_option maxHeartbeats 4000000 in
set_option maxRecDepth 100000 in
theorem e0_initc {w : zW} {d : Nat} {n : Nat} {kd : zMK} {I : zMI} {R : zMR} {r : (Nat × zMK) × zMI × zMR} {l0 : Nat} (hw : ∀ a k, zst w a k = none) (hd : 3 ≤ d) (h : f0_initc l0 n kd I R = some r) : EV w d 13 124 Y0_init 0 [some (.ref l0), none] [] (n, kd, I, R) (q0_initc  r) := by
  unfold f0_initc at h
  refine ev_aload_n dX0_init_0 rfl rfl ?_
  refine ev_objInit dX0_init_1 zl_NineHeaps_Going_3 ziO_init zOco (by omega) (Nat.le_of_ble_eq_true rfl) ?_
  refine ev_aload_n dX0_init_4 rfl rfl ?_
  refine ev_bipush dX0_init_5 (v := (9 : Int32)) zcb_9 ?_
  obtain ⟨D22, e23, h⟩ := zld h
  obtain ⟨J24, e25, h⟩ := zld h
  obtain ⟨T26, e27, h⟩ := zld h
  refine em_newQK (kc' := 12) (ks' := 115) dX0_init_7 (j := 5) (N := 9) (C := RX2) (by decide) (by decide) (by first | decide | simp) (fun _ => rfl) zc_NineHeaps_Going_9 (by decide) (by decide) (by decide) (fun _ => hw _ _) (by omega) (by omega) ?_
  rw [e23, e25, e27]
  obtain ⟨g28, h⟩ := zgd h
  obtain ⟨T29, e30, h⟩ := zld h
  refine cm_putO (o := some n) dX0_init_10 zf_NineHeaps_Going_11 (Or.inr ⟨rfl, rfl, rfl⟩) rfl hw (fun _ => rfl) (fun _ => rfl) rfl rfl (zKdB_has g28) e30 ?_
  refine ev_aload_n dX0_init_13 rfl rfl ?_
  refine ev_iconst dX0_init_14 (v := (5 : Int32)) zci_5 ?_
  obtain ⟨D33, e34, h⟩ := zld h
  obtain ⟨J35, e36, h⟩ := zld h
  obtain ⟨T37, e38, h⟩ := zld h
  refine em_newQK (kc' := 11) (ks' := 110) dX0_init_15 (j := 2) (N := 5) (C := RX10) (by decide) (by decide) (by first | decide | simp) (fun _ => rfl) zc_NineHeaps_Going_17 (by decide) (by decide) (by decide) (fun _ => hw _ _) (by omega) (by omega) ?_
  rw [e34, e36, e38]
  obtain ⟨g39, h⟩ := zgd h
  obtain ⟨T40, e41, h⟩ := zld h
  refine cm_putO (o := some (n + 1)) dX0_init_18 zf_NineHeaps_Going_19 (Or.inr ⟨rfl, rfl, rfl⟩) rfl hw (fun _ => rfl) (fun _ => rfl) rfl rfl (zKdB_has g39) e41 ?_
  refine ev_aload_n dX0_init_21 rfl rfl ?_
  refine ev_bipush dX0_init_22 (v := (40 : Int32)) zcb_40 ?_
  obtain ⟨D44, e45, h⟩ := zld h
  obtain ⟨J46, e47, h⟩ := zld h
  obtain ⟨T48, e49, h⟩ := zld h
  refine em_newIK (kc' := 10) (ks' := 70) dX0_init_24 (N := 40) (by decide) (by decide) (by decide) (by omega) (by omega) ?_
  rw [e45, e47, e49]
  obtain ⟨g50, h⟩ := zgd h
  obtain ⟨T51, e52, h⟩ := zld h
  refine cm_putO (o := some ((n + 1) + 1)) dX0_init_26 zf_NineHeaps_Going_23 (Or.inr ⟨rfl, rfl, rfl⟩) rfl hw (fun _ => rfl) (fun _ => rfl) rfl rfl (zKdB_has g50) e52 ?_
  refine ev_iconst dX0_init_29 (v := (0 : Int32)) zci_0 ?_
  refine ev_istore_n dX0_init_30 rfl (by decide) rfl ?_
  exact EV.mask [true, true] rfl (EV.more (e0_initc_L31 hw hd 10 l0 (0 : Int32) (((n + 1) + 1) + 1) D44 J46 T51 h) (Nat.le_refl _) (by omega) (by omega))
abbrev q11_initc  (r : (Nat × zMK) × zMI × zMR) : Option Value → zM → Prop := fun v μ1 => v = none ∧ μ1 = ((r.1).1, (r.1).2, r.2.1, r.2.2)
set_option maxHeartbeats 4000000 in
set_option maxRecDepth 100000 in
theorem e11_initc_L162 {w : zW} {d : Nat}  {r : (Nat × zMK) × zMI × zMR}  (hw : ∀ a k, zst w a k = none) (hd : 4 ≤ d)  : ∀ (q : Nat) (l0 : Nat) (l1 : Int32) (n : Nat) (kd : zMK) (I : zMI) (R : zMR), f11_initc_L162  q l0 l1 n kd I R = some r → EV w d (q * 2) (q * 43) Y11_init 162 [some (.ref l0), some (.int l1)] [] (n, kd, I, R) (q11_initc  r) := by
  intro q
  induction q with
  | zero =>
    intro l0 l1 n kd I R h
    cases h
  | succ q ih =>
    intro l0 l1 n kd I R h
    unfold f11_initc_L162 at h
    refine ev_iload_n dX11_init_162 rfl rfl ?_
    refine ev_iconst dX11_init_163 (v := (4 : Int32)) zci_4 ?_
    refine ev_icmp_ge dX11_init_164 (tgt := 186) (by decide) (fun c1 => ?_) (fun c1 => ?_)
    · replace h := zit c1 h
      obtain rfl := Option.some.inj h
      exact ev_end_v dX11_init_186 rfl ⟨rfl, rfl⟩
    · replace h := zif c1 h
      refine ev_aload_n dX11_init_167 rfl rfl ?_
      obtain ⟨g2, h⟩ := zgd h
      refine cm_getO dX11_init_168 zf_NineHeaps_41 rfl (zKdB_has g2) hw rfl ?_
      refine ev_iload_n dX11_init_171 rfl rfl ?_
      obtain ⟨D5, e6, h⟩ := zld h
      obtain ⟨J7, e8, h⟩ := zld h
      obtain ⟨T9, e10, h⟩ := zld h
      refine em_newK (kc' := (q * 2 + 1)) (ks' := (q * 43 + 40)) dX11_init_172 (c := 6) (N := 3) (by decide) zc_NineHeaps_39 zj6 zn_NineHeaps_Sheet rfl (fun k => hw _ _) (by omega) (by omega) ?_
      rw [e6, e8, e10]
      refine ev_dup dX11_init_175 rfl ?_
      obtain ⟨p11, e12, h⟩ := zbd h
      refine ev_callINK (host := RX11) (k2 := (q * 2 + 0)) (z2 := (q * 43 + 0)) dX11_init_176 zm6_init (by unfold zNw; exact List.Mem.tail _ (List.Mem.tail _ (List.Mem.tail _ (List.Mem.tail _ (List.Mem.tail _ (List.Mem.tail _ (List.Mem.tail _ (List.Mem.head _)))))))) zi6_init rfl rfl (As := []) (rest := [.ref n, .int l1, va_rf (R l0 9)]) rfl rfl (by cases (R l0 9) <;> exact Nat.le_of_ble_eq_true rfl) rfl (Nat.le_of_ble_eq_true rfl) (d' := 2) (by omega) (e6_initc hw (Nat.le_refl _) e12) (by omega) (by omega) (fun v μ1 q => ?_)
      obtain ⟨rfl, rfl⟩ := q
      rcases zopt (R l0 9) with o14 | ⟨a13, o14⟩
      · have h9 := zmn o14 h
        cases h9
      replace h := zms o14 h
      rw [o14]
      obtain ⟨g15, h⟩ := zgd h
      obtain ⟨g16, h⟩ := zgd h
      obtain ⟨g17, h⟩ := zgd h
      obtain ⟨T18, e19, h⟩ := zld h
      refine cm_aast dX11_init_179 (zKdB_has g15) (by decide) (by decide) (zKdB_has g16) (by decide) (c2 := 6) (by decide) (fun _ => rfl) (Or.inl rfl) hw g17 e19 ?_
      refine ev_iinc dX11_init_180 (v := l1 + (1 : Int32)) rfl rfl (by decide) rfl ?_
      refine ev_goto dX11_init_183 (tgt := 162) (by decide) ?_
      exact EV.mask [true, true] rfl (EV.more (ih l0 (l1 + (1 : Int32)) p11.1.1 p11.1.2 p11.2.1 T18 h) (Nat.le_refl _) (by omega) (by omega))
set_option maxHeartbeats 4000000 in
set_option maxRecDepth 100000 in
theorem e11_initc {w : zW} {d : Nat} {n : Nat} {kd : zMK} {I : zMI} {R : zMR} {r : (Nat × zMK) × zMI × zMR} {l0 : Nat} (hw : ∀ a k, zst w a k = none) (hd : 4 ≤ d) (h : f11_initc l0 n kd I R = some r) : EV w d 51 1192 Y11_init 0 [some (.ref l0), none] [] (n, kd, I, R) (q11_initc  r) := by
  unfold f11_initc at h
  refine ev_aload_n dX11_init_0 rfl rfl ?_
  refine ev_objInit dX11_init_1 zl_NineHeaps_1 ziO_init zOco (by omega) (Nat.le_of_ble_eq_true rfl) ?_
  refine ev_aload_n dX11_init_4 rfl rfl ?_
  refine ev_bipush dX11_init_5 (v := (9 : Int32)) zcb_9 ?_
  obtain ⟨D22, e23, h⟩ := zld h
  obtain ⟨J24, e25, h⟩ := zld h
  obtain ⟨T26, e27, h⟩ := zld h
  refine em_newIK (kc' := 50) (ks' := 1183) dX11_init_7 (N := 9) (by decide) (by decide) (by decide) (by omega) (by omega) ?_
  rw [e23, e25, e27]
  obtain ⟨g28, h⟩ := zgd h
  obtain ⟨T29, e30, h⟩ := zld h
  refine cm_putO (o := some n) dX11_init_9 zf_NineHeaps_9 (Or.inr ⟨rfl, rfl, rfl⟩) rfl hw (fun _ => rfl) (fun _ => rfl) rfl rfl (zKdB_has g28) e30 ?_
  refine ev_aload_n dX11_init_12 rfl rfl ?_
  refine ev_bipush dX11_init_13 (v := (9 : Int32)) zcb_9 ?_
  obtain ⟨D33, e34, h⟩ := zld h
  obtain ⟨J35, e36, h⟩ := zld h
  obtain ⟨T37, e38, h⟩ := zld h
  refine em_newIK (kc' := 49) (ks' := 1174) dX11_init_15 (N := 9) (by decide) (by decide) (by decide) (by omega) (by omega) ?_
  rw [e34, e36, e38]
  obtain ⟨g39, h⟩ := zgd h
  obtain ⟨T40, e41, h⟩ := zld h
  refine cm_putO (o := some (n + 1)) dX11_init_17 zf_NineHeaps_13 (Or.inr ⟨rfl, rfl, rfl⟩) rfl hw (fun _ => rfl) (fun _ => rfl) rfl rfl (zKdB_has g39) e41 ?_
  refine ev_aload_n dX11_init_20 rfl rfl ?_
  refine ev_bipush dX11_init_21 (v := (20 : Int32)) zcb_20 ?_
  obtain ⟨J42, e43, h⟩ := zld h
  refine em_putI dX11_init_23 zf_NineHeaps_16 (Or.inl rfl) rfl rfl rfl (zKdB_has g39) e43 ?_
  refine ev_aload_n dX11_init_26 rfl rfl ?_
  refine ev_iconst dX11_init_27 (v := (5 : Int32)) zci_5 ?_
  obtain ⟨D46, e47, h⟩ := zld h
  obtain ⟨J48, e49, h⟩ := zld h
  obtain ⟨T50, e51, h⟩ := zld h
  refine em_newQK (kc' := 48) (ks' := 1169) dX11_init_28 (j := 2) (N := 5) (C := RX10) (by decide) (by decide) (by first | decide | simp) (fun _ => rfl) zc_NineHeaps_20 (by decide) (by decide) (by decide) (fun _ => hw _ _) (by omega) (by omega) ?_
  rw [e47, e49, e51]
  obtain ⟨g52, h⟩ := zgd h
  obtain ⟨T53, e54, h⟩ := zld h
  refine cm_putO (o := some ((n + 1) + 1)) dX11_init_31 zf_NineHeaps_22 (Or.inr ⟨rfl, rfl, rfl⟩) rfl hw (fun _ => rfl) (fun _ => rfl) rfl rfl (zKdB_has g52) e54 ?_
  refine ev_aload_n dX11_init_34 rfl rfl ?_
  refine ev_bipush dX11_init_35 (v := (6 : Int32)) zcb_6 ?_
  obtain ⟨D57, e58, h⟩ := zld h
  obtain ⟨J59, e60, h⟩ := zld h
  obtain ⟨T61, e62, h⟩ := zld h
  refine em_newQK (kc' := 47) (ks' := 1163) dX11_init_37 (j := 3) (N := 6) (C := RX3) (by decide) (by decide) (by first | decide | simp) (fun _ => rfl) zc_NineHeaps_26 (by decide) (by decide) (by decide) (fun _ => hw _ _) (by omega) (by omega) ?_
  rw [e58, e60, e62]
  obtain ⟨g63, h⟩ := zgd h
  obtain ⟨T64, e65, h⟩ := zld h
  refine cm_putO (o := some (((n + 1) + 1) + 1)) dX11_init_40 zf_NineHeaps_28 (Or.inr ⟨rfl, rfl, rfl⟩) rfl hw (fun _ => rfl) (fun _ => rfl) rfl rfl (zKdB_has g63) e65 ?_
  refine ev_aload_n dX11_init_43 rfl rfl ?_
  obtain ⟨D68, e69, h⟩ := zld h
  obtain ⟨J70, e71, h⟩ := zld h
  obtain ⟨T72, e73, h⟩ := zld h
  refine em_newK (kc' := 46) (ks' := 1153) dX11_init_44 (c := 7) (N := 10) (by decide) zc_NineHeaps_32 zj7 zn_NineHeaps_Tape rfl (fun k => hw _ _) (by omega) (by omega) ?_
  rw [e69, e71, e73]
  refine ev_dup dX11_init_47 rfl ?_
  obtain ⟨p74, e75, h⟩ := zbd h
  refine ev_callINK (host := RX11) (k2 := 43) (z2 := 829) dX11_init_48 zm7_init (by unfold zNw; exact List.Mem.tail _ (List.Mem.tail _ (List.Mem.tail _ (List.Mem.tail _ (List.Mem.tail _ (List.Mem.tail _ (List.Mem.head _))))))) zi7_init rfl rfl (As := []) (rest := [.ref ((((n + 1) + 1) + 1) + 1), .ref l0]) rfl rfl (Nat.le_of_ble_eq_true rfl) rfl (Nat.le_of_ble_eq_true rfl) (d' := 2) (by omega) (e7_initc hw (Nat.le_refl _) e75) (by omega) (by omega) (fun v μ1 q => ?_)
  obtain ⟨rfl, rfl⟩ := q
  obtain ⟨g76, h⟩ := zgd h
  obtain ⟨T77, e78, h⟩ := zld h
  refine cm_putO (o := some ((((n + 1) + 1) + 1) + 1)) dX11_init_51 zf_NineHeaps_35 (Or.inr ⟨rfl, rfl, rfl⟩) rfl hw (fun _ => rfl) (fun _ => rfl) rfl rfl (zKdB_has g76) e78 ?_
  refine ev_aload_n dX11_init_54 rfl rfl ?_
  refine ev_iconst dX11_init_55 (v := (4 : Int32)) zci_4 ?_
  obtain ⟨D81, e82, h⟩ := zld h
  obtain ⟨J83, e84, h⟩ := zld h
  obtain ⟨T85, e86, h⟩ := zld h
  refine em_newQK (kc' := 42) (ks' := 825) dX11_init_56 (j := 4) (N := 4) (C := RX6) (by decide) (by decide) (by first | decide | simp) (fun _ => rfl) zc_NineHeaps_39 (by decide) (by decide) (by decide) (fun _ => hw _ _) (by omega) (by omega) ?_
  rw [e82, e84, e86]
  obtain ⟨g87, h⟩ := zgd h
  obtain ⟨T88, e89, h⟩ := zld h
  refine cm_putO (o := some p74.1.1) dX11_init_59 zf_NineHeaps_41 (Or.inr ⟨rfl, rfl, rfl⟩) rfl hw (fun _ => rfl) (fun _ => rfl) rfl rfl (zKdB_has g87) e89 ?_
  refine ev_aload_n dX11_init_62 rfl rfl ?_
  obtain ⟨D92, e93, h⟩ := zld h
  obtain ⟨J94, e95, h⟩ := zld h
  obtain ⟨T96, e97, h⟩ := zld h
  refine em_newK (kc' := 41) (ks' := 812) dX11_init_63 (c := 0) (N := 13) (by decide) zc_NineHeaps_45 zj0 zn_NineHeaps_Going rfl (fun k => hw _ _) (by omega) (by omega) ?_
  rw [e93, e95, e97]
  refine ev_dup dX11_init_66 rfl ?_
  obtain ⟨p98, e99, h⟩ := zbd h
  refine ev_callIK (k2 := 28) (z2 := 688) dX11_init_67 zm0_init zl_NineHeaps_47 zi0_init rfl rfl (As := []) (rest := [.ref (p74.1.1 + 1), .ref l0]) rfl rfl (Nat.le_of_ble_eq_true rfl) rfl (Nat.le_of_ble_eq_true rfl) (d' := 3) (by omega) (e0_initc hw (Nat.le_refl _) e99) (by omega) (by omega) (fun v μ1 q => ?_)
  obtain ⟨rfl, rfl⟩ := q
  obtain ⟨g100, h⟩ := zgd h
  obtain ⟨T101, e102, h⟩ := zld h
  refine cm_putO (o := some (p74.1.1 + 1)) dX11_init_70 zf_NineHeaps_48 (Or.inr ⟨rfl, rfl, rfl⟩) rfl hw (fun _ => rfl) (fun _ => rfl) rfl rfl (zKdB_has g100) e102 ?_
  refine ev_aload_n dX11_init_73 rfl rfl ?_
  refine ev_iconst dX11_init_74 (v := (5 : Int32)) zci_5 ?_
  obtain ⟨D105, e106, h⟩ := zld h
  obtain ⟨J107, e108, h⟩ := zld h
  obtain ⟨T109, e110, h⟩ := zld h
  refine em_newIK (kc' := 27) (ks' := 683) dX11_init_75 (N := 5) (by decide) (by decide) (by decide) (by omega) (by omega) ?_
  rw [e106, e108, e110]
  obtain ⟨g111, h⟩ := zgd h
  obtain ⟨T112, e113, h⟩ := zld h
  refine cm_putO (o := some p98.1.1) dX11_init_77 zf_NineHeaps_52 (Or.inr ⟨rfl, rfl, rfl⟩) rfl hw (fun _ => rfl) (fun _ => rfl) rfl rfl (zKdB_has g111) e113 ?_
  refine ev_aload_n dX11_init_80 rfl rfl ?_
  refine ev_bipush dX11_init_81 (v := (6 : Int32)) zcb_6 ?_
  refine ev_bipush dX11_init_83 (v := (10 : Int32)) zcb_10 ?_
  obtain ⟨M114, e115, h⟩ := zld h
  refine em_mulK (kc' := 20) (ks' := 617) dX11_init_85 zc_NineHeaps_55 (by decide) (by decide) (N := 6) (by decide) (M := 10) (by decide) (by decide) (by decide) (fun _ => hw _ _) (by omega) (by omega) e115 ?_
  obtain ⟨g116, h⟩ := zgd h
  obtain ⟨T117, e118, h⟩ := zld h
  refine cm_putO (o := some (p98.1.1 + 1)) dX11_init_89 zf_NineHeaps_57 (Or.inr ⟨rfl, rfl, rfl⟩) rfl hw (fun _ => rfl) (fun _ => rfl) rfl rfl (zKdB_has g116) e118 ?_
  refine ev_aload_n dX11_init_92 rfl rfl ?_
  refine ev_iconst dX11_init_93 (v := (5 : Int32)) zci_5 ?_
  obtain ⟨D121, e122, h⟩ := zld h
  obtain ⟨J123, e124, h⟩ := zld h
  obtain ⟨T125, e126, h⟩ := zld h
  refine em_newIK (kc' := 19) (ks' := 612) dX11_init_94 (N := 5) (by decide) (by decide) (by decide) (by omega) (by omega) ?_
  rw [e122, e124, e126]
  obtain ⟨g127, h⟩ := zgd h
  obtain ⟨T128, e129, h⟩ := zld h
  refine cm_putO (o := some M114.1) dX11_init_96 zf_NineHeaps_60 (Or.inr ⟨rfl, rfl, rfl⟩) rfl hw (fun _ => rfl) (fun _ => rfl) rfl rfl (zKdB_has g127) e129 ?_
  refine ev_aload_n dX11_init_99 rfl rfl ?_
  refine ev_bipush dX11_init_100 (v := (9 : Int32)) zcb_9 ?_
  obtain ⟨D132, e133, h⟩ := zld h
  obtain ⟨J134, e135, h⟩ := zld h
  obtain ⟨T136, e137, h⟩ := zld h
  refine em_newIK (kc' := 18) (ks' := 603) dX11_init_102 (N := 9) (by decide) (by decide) (by decide) (by omega) (by omega) ?_
  rw [e133, e135, e137]
  obtain ⟨g138, h⟩ := zgd h
  obtain ⟨T139, e140, h⟩ := zld h
  refine cm_putO (o := some (M114.1 + 1)) dX11_init_104 zf_NineHeaps_63 (Or.inr ⟨rfl, rfl, rfl⟩) rfl hw (fun _ => rfl) (fun _ => rfl) rfl rfl (zKdB_has g138) e140 ?_
  refine ev_aload_n dX11_init_107 rfl rfl ?_
  refine ev_bipush dX11_init_108 (v := (9 : Int32)) zcb_9 ?_
  obtain ⟨D143, e144, h⟩ := zld h
  obtain ⟨J145, e146, h⟩ := zld h
  obtain ⟨T147, e148, h⟩ := zld h
  refine em_newIK (kc' := 17) (ks' := 594) dX11_init_110 (N := 9) (by decide) (by decide) (by decide) (by omega) (by omega) ?_
  rw [e144, e146, e148]
  obtain ⟨g149, h⟩ := zgd h
  obtain ⟨T150, e151, h⟩ := zld h
  refine cm_putO (o := some ((M114.1 + 1) + 1)) dX11_init_112 zf_NineHeaps_66 (Or.inr ⟨rfl, rfl, rfl⟩) rfl hw (fun _ => rfl) (fun _ => rfl) rfl rfl (zKdB_has g149) e151 ?_
  refine ev_aload_n dX11_init_115 rfl rfl ?_
  refine ev_iconst dX11_init_116 (v := (5 : Int32)) zci_5 ?_
  obtain ⟨D154, e155, h⟩ := zld h
  obtain ⟨J156, e157, h⟩ := zld h
  obtain ⟨T158, e159, h⟩ := zld h
  refine em_newIK (kc' := 16) (ks' := 589) dX11_init_117 (N := 5) (by decide) (by decide) (by decide) (by omega) (by omega) ?_
  rw [e155, e157, e159]
  obtain ⟨g160, h⟩ := zgd h
  obtain ⟨T161, e162, h⟩ := zld h
  refine cm_putO (o := some (((M114.1 + 1) + 1) + 1)) dX11_init_119 zf_NineHeaps_69 (Or.inr ⟨rfl, rfl, rfl⟩) rfl hw (fun _ => rfl) (fun _ => rfl) rfl rfl (zKdB_has g160) e162 ?_
  refine ev_aload_n dX11_init_122 rfl rfl ?_
  refine ev_iconst dX11_init_123 (v := (-1 : Int32)) zci_m1 ?_
  obtain ⟨J163, e164, h⟩ := zld h
  refine em_putI dX11_init_124 zf_NineHeaps_72 (Or.inl rfl) rfl rfl rfl (zKdB_has g160) e164 ?_
  refine ev_aload_n dX11_init_127 rfl rfl ?_
  rcases zopt (T161 l0 0) with o166 | ⟨a165, o166⟩
  · have h9 := zmn o166 h
    cases h9
  replace h := zms o166 h
  refine cm_getO dX11_init_128 zf_NineHeaps_9 rfl (zKdB_has g160) hw o166 ?_
  refine ev_bipush dX11_init_131 (v := (50 : Int32)) zcb_50 ?_
  obtain ⟨p167, e168, h⟩ := zbd h
  refine ev_callS0 dX11_init_133 zmJ7_fill_53178 zl_NineHeaps_75 zsJ7_fill_53178 (As := [.ref a165, .int (50 : Int32)]) (rest := []) rfl rfl (Nat.le_of_ble_eq_true rfl) rfl (Nat.le_of_ble_eq_true rfl) (d' := 1) (by omega) (eJ7_fill_53178c hw (Nat.le_refl _) e168) (fun v μ1 q => ?_)
  obtain ⟨rfl, rfl⟩ := q
  refine ev_aload_n dX11_init_136 rfl rfl ?_
  refine cm_getO dX11_init_137 zf_NineHeaps_28 rfl (zKdB_has g160) hw rfl ?_
  refine ev_iconst dX11_init_140 (v := (0 : Int32)) zci_0 ?_
  obtain ⟨D171, e172, h⟩ := zld h
  obtain ⟨J173, e174, h⟩ := zld h
  obtain ⟨T175, e176, h⟩ := zld h
  refine em_newK (kc' := 15) (ks' := 584) dX11_init_141 (c := 3) (N := 5) (by decide) zc_NineHeaps_26 zj3 zn_NineHeaps_Law rfl (fun k => hw _ _) (by omega) (by omega) ?_
  rw [e172, e174, e176]
  refine ev_dup dX11_init_144 rfl ?_
  refine ev_getsF dX11_init_145 zf_NineHeaps_81 ?_
  refine ev_getsS dX11_init_148 zf_NineHeaps_84 ?_
  obtain ⟨p177, e178, h⟩ := zbd h
  refine ev_callIK (k2 := 10) (z2 := 215) dX11_init_151 zm3_init zl_NineHeaps_87 zi3_init rfl rfl (As := [.ref 0, .ref 1]) (rest := [.ref ((((M114.1 + 1) + 1) + 1) + 1), .int (0 : Int32), va_rf (T161 l0 5)]) rfl rfl (by cases (T161 l0 5) <;> exact Nat.le_of_ble_eq_true rfl) rfl (Nat.le_of_ble_eq_true rfl) (d' := 3) (by omega) (e3_initc hw (Nat.le_refl _) e178) (by omega) (by omega) (fun v μ1 q => ?_)
  obtain ⟨rfl, rfl⟩ := q
  rcases zopt (T161 l0 5) with o180 | ⟨a179, o180⟩
  · have h9 := zmn o180 h
    cases h9
  replace h := zms o180 h
  rw [o180]
  obtain ⟨g181, h⟩ := zgd h
  obtain ⟨g182, h⟩ := zgd h
  obtain ⟨g183, h⟩ := zgd h
  obtain ⟨T184, e185, h⟩ := zld h
  refine cm_aast dX11_init_154 (zKdB_has g181) (by decide) (by decide) (zKdB_has g182) (by decide) (c2 := 3) (by decide) (fun _ => rfl) (Or.inl rfl) hw g183 e185 ?_
  refine ev_aload_n dX11_init_155 rfl rfl ?_
  refine ev_iconst dX11_init_156 (v := (1 : Int32)) zci_1 ?_
  obtain ⟨g186, h⟩ := zgd h
  obtain ⟨J187, e188, h⟩ := zld h
  refine em_putI dX11_init_157 zf_NineHeaps_90 (Or.inl rfl) rfl rfl rfl (zKdB_has g186) e188 ?_
  refine ev_iconst dX11_init_160 (v := (0 : Int32)) zci_0 ?_
  refine ev_istore_n dX11_init_161 rfl (by decide) rfl ?_
  exact EV.mask [true, true] rfl (EV.more (e11_initc_L162 hw hd 5 l0 (0 : Int32) p177.1.1 p177.1.2 J187 T184 h) (Nat.le_refl _) (by omega) (by omega))
abbrev q12_initc  (r : (Nat × zMK) × zMI × zMR) : Option Value → zM → Prop := fun v μ1 => v = none ∧ μ1 = ((r.1).1, (r.1).2, r.2.1, r.2.2)
set_option maxHeartbeats 4000000 in
set_option maxRecDepth 100000 in
theorem e12_initc_L1061 {w : zW} {d : Nat}  {r : (Nat × zMK) × zMI × zMR} {k1085 : Nat → Nat → zMK → zMI → zMR → Option ((Nat × zMK) × zMI × zMR)} (hw : ∀ a k, zst w a k = none) (hd : 6 ≤ d) (hk1085 : ∀ (l0 : Nat) (n : Nat) (kd : zMK) (I : zMI) (R : zMR), k1085 l0 n kd I R = some r → EV w d 0 0 Y12_init 1085 [some (.ref l0), none] [] (n, kd, I, R) (q12_initc  r)) : ∀ (q : Nat) (l0 : Nat) (l1 : Int32) (n : Nat) (kd : zMK) (I : zMI) (R : zMR), f12_initc_L1061 k1085 q l0 l1 n kd I R = some r → EV w d 0 0 Y12_init 1061 [some (.ref l0), some (.int l1)] [] (n, kd, I, R) (q12_initc  r) := by
  intro q
  induction q with
  | zero =>
    intro l0 l1 n kd I R h
    cases h
  | succ q ih =>
    intro l0 l1 n kd I R h
    unfold f12_initc_L1061 at h
    refine ev_iload_n dX12_init_1061 rfl rfl ?_
    refine ev_bipush dX12_init_1062 (v := (29 : Int32)) zcb_29 ?_
    refine ev_icmp_ge dX12_init_1064 (tgt := 1085) (by decide) (fun c1 => ?_) (fun c1 => ?_)
    · replace h := zit c1 h
      exact EV.mask [true, false] rfl (EV.more (hk1085 l0 n kd I R h) (Nat.le_refl _) (by omega) (by omega))
    · replace h := zif c1 h
      refine ev_aload_n dX12_init_1067 rfl rfl ?_
      obtain ⟨g2, h⟩ := zgd h
      rcases zopt (R l0 7) with o4 | ⟨a3, o4⟩
      · have h9 := zmn o4 h
        cases h9
      replace h := zms o4 h
      refine cm_getO dX12_init_1068 zf_NineHeapsModel_29 rfl (zKdB_has g2) hw o4 ?_
      refine ev_iload_n dX12_init_1071 rfl rfl ?_
      refine ev_aload_n dX12_init_1072 rfl rfl ?_
      rcases zopt (R l0 21) with o6 | ⟨a5, o6⟩
      · have h9 := zmn o6 h
        cases h9
      replace h := zms o6 h
      refine cm_getO dX12_init_1073 zf_NineHeapsModel_50 rfl (zKdB_has g2) hw o6 ?_
      refine ev_iload_n dX12_init_1076 rfl rfl ?_
      obtain ⟨g7, h⟩ := zgd h
      obtain ⟨g8, h⟩ := zgd h
      refine em_ialdG dX12_init_1077 (zKdB_has g7) (N := (kd a5).2) rfl g8 rfl ?_
      obtain ⟨g9, h⟩ := zgd h
      obtain ⟨g10, h⟩ := zgd h
      obtain ⟨J11, e12, h⟩ := zld h
      refine em_iastG dX12_init_1078 (zKdB_has g9) (N := (kd a3).2) rfl g10 e12 ?_
      refine ev_iinc dX12_init_1079 (v := l1 + (1 : Int32)) rfl rfl (by decide) rfl ?_
      refine ev_goto dX12_init_1082 (tgt := 1061) (by decide) ?_
      exact EV.mask [true, true] rfl (EV.more (ih l0 (l1 + (1 : Int32)) n kd J11 R h) (Nat.le_refl _) (by omega) (by omega))
set_option maxHeartbeats 4000000 in
set_option maxRecDepth 100000 in
theorem e12_initc_B1085 {w : zW} {d : Nat}  {r : (Nat × zMK) × zMI × zMR}  (hw : ∀ a k, zst w a k = none) (hd : 6 ≤ d)  : ∀ (l0 : Nat) (n : Nat) (kd : zMK) (I : zMI) (R : zMR), f12_initc_B1085 l0 n kd I R = some r → EV w d 0 0 Y12_init 1085 [some (.ref l0), none] [] (n, kd, I, R) (q12_initc  r) := by
  intro l0 n kd I R h
  unfold f12_initc_B1085 at h
  refine ev_aload_n dX12_init_1085 rfl rfl ?_
  refine ev_bipush dX12_init_1086 (v := (29 : Int32)) zcb_29 ?_
  obtain ⟨g13, h⟩ := zgd h
  obtain ⟨J14, e15, h⟩ := zld h
  refine em_putI dX12_init_1088 zf_NineHeapsModel_110 (Or.inl rfl) rfl rfl rfl (zKdB_has g13) e15 ?_
  refine ev_aload_n dX12_init_1091 rfl rfl ?_
  obtain ⟨g16, h⟩ := zgd h
  obtain ⟨g17, h⟩ := zgd h
  obtain ⟨g18, h⟩ := zgd h
  obtain ⟨p19, e20, h⟩ := zbd h
  refine cm_textM dX12_init_1092 zl_NineHeapsModel_113 (of_decide_eq_true g17) (zShB_sh g16) g18 hw e20 (by omega) ?_
  refine ev_pop dX12_init_1095 rfl ?_
  obtain rfl := Option.some.inj h
  exact ev_end_v dX12_init_1096 rfl ⟨rfl, rfl⟩
set_option maxHeartbeats 4000000 in
set_option maxRecDepth 100000 in
theorem e12_initc {w : zW} {d : Nat} {n : Nat} {kd : zMK} {I : zMI} {R : zMR} {r : (Nat × zMK) × zMI × zMR} {l0 : Nat} (hw : ∀ a k, zst w a k = none) (hd : 6 ≤ d) (h : f12_initc l0 n kd I R = some r) : EV w d 32 2625 Y12_init 0 [some (.ref l0), none] [] (n, kd, I, R) (q12_initc  r) := by
  unfold f12_initc at h
  refine ev_aload_n dX12_init_0 rfl rfl ?_
  refine ev_objInit dX12_init_1 zl_NineHeapsModel_1 ziO_init zOco (by omega) (Nat.le_of_ble_eq_true rfl) ?_
  refine ev_aload_n dX12_init_4 rfl rfl ?_
  refine ev_bipush dX12_init_5 (v := (9 : Int32)) zcb_9 ?_
  obtain ⟨D23, e24, h⟩ := zld h
  obtain ⟨J25, e26, h⟩ := zld h
  obtain ⟨T27, e28, h⟩ := zld h
  refine em_newIK (kc' := 31) (ks' := 2616) dX12_init_7 (N := 9) (by decide) (by decide) (by decide) (by omega) (by omega) ?_
  rw [e24, e26, e28]
  refine ev_dup dX12_init_9 rfl ?_
  refine ev_iconst dX12_init_10 (v := (0 : Int32)) zci_0 ?_
  refine ev_bipush dX12_init_11 (v := (50 : Int32)) zcb_50 ?_
  obtain ⟨g29, h⟩ := zgd h
  obtain ⟨g30, h⟩ := zgd h
  obtain ⟨J31, e32, h⟩ := zld h
  refine em_iastG dX12_init_13 (zKdB_has g29) (N := (D23 n).2) rfl g30 e32 ?_
  refine ev_dup dX12_init_14 rfl ?_
  refine ev_iconst dX12_init_15 (v := (1 : Int32)) zci_1 ?_
  refine ev_bipush dX12_init_16 (v := (50 : Int32)) zcb_50 ?_
  obtain ⟨g33, h⟩ := zgd h
  obtain ⟨J34, e35, h⟩ := zld h
  refine em_iastG dX12_init_18 (zKdB_has g29) (N := (D23 n).2) rfl g33 e35 ?_
  refine ev_dup dX12_init_19 rfl ?_
  refine ev_iconst dX12_init_20 (v := (2 : Int32)) zci_2 ?_
  refine ev_bipush dX12_init_21 (v := (50 : Int32)) zcb_50 ?_
  obtain ⟨g36, h⟩ := zgd h
  obtain ⟨J37, e38, h⟩ := zld h
  refine em_iastG dX12_init_23 (zKdB_has g29) (N := (D23 n).2) rfl g36 e38 ?_
  refine ev_dup dX12_init_24 rfl ?_
  refine ev_iconst dX12_init_25 (v := (3 : Int32)) zci_3 ?_
  refine ev_bipush dX12_init_26 (v := (50 : Int32)) zcb_50 ?_
  obtain ⟨g39, h⟩ := zgd h
  obtain ⟨J40, e41, h⟩ := zld h
  refine em_iastG dX12_init_28 (zKdB_has g29) (N := (D23 n).2) rfl g39 e41 ?_
  refine ev_dup dX12_init_29 rfl ?_
  refine ev_iconst dX12_init_30 (v := (4 : Int32)) zci_4 ?_
  refine ev_bipush dX12_init_31 (v := (50 : Int32)) zcb_50 ?_
  obtain ⟨g42, h⟩ := zgd h
  obtain ⟨J43, e44, h⟩ := zld h
  refine em_iastG dX12_init_33 (zKdB_has g29) (N := (D23 n).2) rfl g42 e44 ?_
  refine ev_dup dX12_init_34 rfl ?_
  refine ev_iconst dX12_init_35 (v := (5 : Int32)) zci_5 ?_
  refine ev_bipush dX12_init_36 (v := (50 : Int32)) zcb_50 ?_
  obtain ⟨g45, h⟩ := zgd h
  obtain ⟨J46, e47, h⟩ := zld h
  refine em_iastG dX12_init_38 (zKdB_has g29) (N := (D23 n).2) rfl g45 e47 ?_
  refine ev_dup dX12_init_39 rfl ?_
  refine ev_bipush dX12_init_40 (v := (6 : Int32)) zcb_6 ?_
  refine ev_bipush dX12_init_42 (v := (50 : Int32)) zcb_50 ?_
  obtain ⟨g48, h⟩ := zgd h
  obtain ⟨J49, e50, h⟩ := zld h
  refine em_iastG dX12_init_44 (zKdB_has g29) (N := (D23 n).2) rfl g48 e50 ?_
  refine ev_dup dX12_init_45 rfl ?_
  refine ev_bipush dX12_init_46 (v := (7 : Int32)) zcb_7 ?_
  refine ev_bipush dX12_init_48 (v := (50 : Int32)) zcb_50 ?_
  obtain ⟨g51, h⟩ := zgd h
  obtain ⟨J52, e53, h⟩ := zld h
  refine em_iastG dX12_init_50 (zKdB_has g29) (N := (D23 n).2) rfl g51 e53 ?_
  refine ev_dup dX12_init_51 rfl ?_
  refine ev_bipush dX12_init_52 (v := (8 : Int32)) zcb_8 ?_
  refine ev_bipush dX12_init_54 (v := (50 : Int32)) zcb_50 ?_
  obtain ⟨g54, h⟩ := zgd h
  obtain ⟨J55, e56, h⟩ := zld h
  refine em_iastG dX12_init_56 (zKdB_has g29) (N := (D23 n).2) rfl g54 e56 ?_
  obtain ⟨g57, h⟩ := zgd h
  obtain ⟨T58, e59, h⟩ := zld h
  refine cm_putO (o := some n) dX12_init_57 zf_NineHeapsModel_7 (Or.inr ⟨rfl, rfl, rfl⟩) rfl hw (fun _ => rfl) (fun _ => rfl) rfl rfl (zKdB_has g57) e59 ?_
  refine ev_aload_n dX12_init_60 rfl rfl ?_
  refine ev_bipush dX12_init_61 (v := (9 : Int32)) zcb_9 ?_
  obtain ⟨D62, e63, h⟩ := zld h
  obtain ⟨J64, e65, h⟩ := zld h
  obtain ⟨T66, e67, h⟩ := zld h
  refine em_newIK (kc' := 30) (ks' := 2607) dX12_init_63 (N := 9) (by decide) (by decide) (by decide) (by omega) (by omega) ?_
  rw [e63, e65, e67]
  obtain ⟨g68, h⟩ := zgd h
  obtain ⟨T69, e70, h⟩ := zld h
  refine cm_putO (o := some (n + 1)) dX12_init_65 zf_NineHeapsModel_13 (Or.inr ⟨rfl, rfl, rfl⟩) rfl hw (fun _ => rfl) (fun _ => rfl) rfl rfl (zKdB_has g68) e70 ?_
  refine ev_aload_n dX12_init_68 rfl rfl ?_
  refine ev_bipush dX12_init_69 (v := (20 : Int32)) zcb_20 ?_
  obtain ⟨J71, e72, h⟩ := zld h
  refine em_putI dX12_init_71 zf_NineHeapsModel_16 (Or.inl rfl) rfl rfl rfl (zKdB_has g68) e72 ?_
  refine ev_aload_n dX12_init_74 rfl rfl ?_
  refine ev_iconst dX12_init_75 (v := (5 : Int32)) zci_5 ?_
  obtain ⟨D75, e76, h⟩ := zld h
  obtain ⟨J77, e78, h⟩ := zld h
  obtain ⟨T79, e80, h⟩ := zld h
  refine em_newIK (kc' := 29) (ks' := 2602) dX12_init_76 (N := 5) (by decide) (by decide) (by decide) (by omega) (by omega) ?_
  rw [e76, e78, e80]
  obtain ⟨g81, h⟩ := zgd h
  obtain ⟨T82, e83, h⟩ := zld h
  refine cm_putO (o := some ((n + 1) + 1)) dX12_init_78 zf_NineHeapsModel_20 (Or.inr ⟨rfl, rfl, rfl⟩) rfl hw (fun _ => rfl) (fun _ => rfl) rfl rfl (zKdB_has g81) e83 ?_
  refine ev_aload_n dX12_init_81 rfl rfl ?_
  refine ev_iconst dX12_init_82 (v := (5 : Int32)) zci_5 ?_
  obtain ⟨D86, e87, h⟩ := zld h
  obtain ⟨J88, e89, h⟩ := zld h
  obtain ⟨T90, e91, h⟩ := zld h
  refine em_newIK (kc' := 28) (ks' := 2597) dX12_init_83 (N := 5) (by decide) (by decide) (by decide) (by omega) (by omega) ?_
  rw [e87, e89, e91]
  obtain ⟨g92, h⟩ := zgd h
  obtain ⟨T93, e94, h⟩ := zld h
  refine cm_putO (o := some (((n + 1) + 1) + 1)) dX12_init_85 zf_NineHeapsModel_23 (Or.inr ⟨rfl, rfl, rfl⟩) rfl hw (fun _ => rfl) (fun _ => rfl) rfl rfl (zKdB_has g92) e94 ?_
  refine ev_aload_n dX12_init_88 rfl rfl ?_
  refine ev_iconst dX12_init_89 (v := (5 : Int32)) zci_5 ?_
  obtain ⟨D97, e98, h⟩ := zld h
  obtain ⟨J99, e100, h⟩ := zld h
  obtain ⟨T101, e102, h⟩ := zld h
  refine em_newIK (kc' := 27) (ks' := 2592) dX12_init_90 (N := 5) (by decide) (by decide) (by decide) (by omega) (by omega) ?_
  rw [e98, e100, e102]
  obtain ⟨g103, h⟩ := zgd h
  obtain ⟨T104, e105, h⟩ := zld h
  refine cm_putO (o := some ((((n + 1) + 1) + 1) + 1)) dX12_init_92 zf_NineHeapsModel_26 (Or.inr ⟨rfl, rfl, rfl⟩) rfl hw (fun _ => rfl) (fun _ => rfl) rfl rfl (zKdB_has g103) e105 ?_
  refine ev_aload_n dX12_init_95 rfl rfl ?_
  refine ev_sipush dX12_init_96 (v := (160 : Int32)) zcs_160 ?_
  obtain ⟨D108, e109, h⟩ := zld h
  obtain ⟨J110, e111, h⟩ := zld h
  obtain ⟨T112, e113, h⟩ := zld h
  refine em_newIK (kc' := 26) (ks' := 2432) dX12_init_99 (N := 160) (by decide) (by decide) (by decide) (by omega) (by omega) ?_
  rw [e109, e111, e113]
  obtain ⟨g114, h⟩ := zgd h
  obtain ⟨T115, e116, h⟩ := zld h
  refine cm_putO (o := some (((((n + 1) + 1) + 1) + 1) + 1)) dX12_init_101 zf_NineHeapsModel_29 (Or.inr ⟨rfl, rfl, rfl⟩) rfl hw (fun _ => rfl) (fun _ => rfl) rfl rfl (zKdB_has g114) e116 ?_
  refine ev_aload_n dX12_init_104 rfl rfl ?_
  refine ev_sipush dX12_init_105 (v := (1200 : Int32)) zcs_1200 ?_
  obtain ⟨D119, e120, h⟩ := zld h
  obtain ⟨J121, e122, h⟩ := zld h
  obtain ⟨T123, e124, h⟩ := zld h
  refine em_newIK (kc' := 25) (ks' := 1232) dX12_init_108 (N := 1200) (by decide) (by decide) (by decide) (by omega) (by omega) ?_
  rw [e120, e122, e124]
  obtain ⟨g125, h⟩ := zgd h
  obtain ⟨T126, e127, h⟩ := zld h
  refine cm_putO (o := some ((((((n + 1) + 1) + 1) + 1) + 1) + 1)) dX12_init_110 zf_NineHeapsModel_32 (Or.inr ⟨rfl, rfl, rfl⟩) rfl hw (fun _ => rfl) (fun _ => rfl) rfl rfl (zKdB_has g125) e127 ?_
  refine ev_aload_n dX12_init_113 rfl rfl ?_
  refine ev_bipush dX12_init_114 (v := (24 : Int32)) zcb_24 ?_
  obtain ⟨D130, e131, h⟩ := zld h
  obtain ⟨J132, e133, h⟩ := zld h
  obtain ⟨T134, e135, h⟩ := zld h
  refine em_newIK (kc' := 24) (ks' := 1208) dX12_init_116 (N := 24) (by decide) (by decide) (by decide) (by omega) (by omega) ?_
  rw [e131, e133, e135]
  obtain ⟨g136, h⟩ := zgd h
  obtain ⟨T137, e138, h⟩ := zld h
  refine cm_putO (o := some (((((((n + 1) + 1) + 1) + 1) + 1) + 1) + 1)) dX12_init_118 zf_NineHeapsModel_35 (Or.inr ⟨rfl, rfl, rfl⟩) rfl hw (fun _ => rfl) (fun _ => rfl) rfl rfl (zKdB_has g136) e138 ?_
  refine ev_aload_n dX12_init_121 rfl rfl ?_
  refine ev_bipush dX12_init_122 (v := (23 : Int32)) zcb_23 ?_
  obtain ⟨D141, e142, h⟩ := zld h
  obtain ⟨J143, e144, h⟩ := zld h
  obtain ⟨T145, e146, h⟩ := zld h
  refine em_newIK (kc' := 23) (ks' := 1185) dX12_init_124 (N := 23) (by decide) (by decide) (by decide) (by omega) (by omega) ?_
  rw [e142, e144, e146]
  obtain ⟨g147, h⟩ := zgd h
  obtain ⟨T148, e149, h⟩ := zld h
  refine cm_putO (o := some ((((((((n + 1) + 1) + 1) + 1) + 1) + 1) + 1) + 1)) dX12_init_126 zf_NineHeapsModel_38 (Or.inr ⟨rfl, rfl, rfl⟩) rfl hw (fun _ => rfl) (fun _ => rfl) rfl rfl (zKdB_has g147) e149 ?_
  refine ev_aload_n dX12_init_129 rfl rfl ?_
  refine ev_iconst dX12_init_130 (v := (4 : Int32)) zci_4 ?_
  obtain ⟨D152, e153, h⟩ := zld h
  obtain ⟨J154, e155, h⟩ := zld h
  obtain ⟨T156, e157, h⟩ := zld h
  refine em_newIK (kc' := 22) (ks' := 1181) dX12_init_131 (N := 4) (by decide) (by decide) (by decide) (by omega) (by omega) ?_
  rw [e153, e155, e157]
  refine ev_dup dX12_init_133 rfl ?_
  refine ev_iconst dX12_init_134 (v := (0 : Int32)) zci_0 ?_
  refine ev_iconst dX12_init_135 (v := (-1 : Int32)) zci_m1 ?_
  obtain ⟨g158, h⟩ := zgd h
  obtain ⟨g159, h⟩ := zgd h
  obtain ⟨J160, e161, h⟩ := zld h
  refine em_iastG dX12_init_136 (zKdB_has g158) (N := (D152 (((((((((n + 1) + 1) + 1) + 1) + 1) + 1) + 1) + 1) + 1)).2) rfl g159 e161 ?_
  refine ev_dup dX12_init_137 rfl ?_
  refine ev_iconst dX12_init_138 (v := (1 : Int32)) zci_1 ?_
  refine ev_iconst dX12_init_139 (v := (-1 : Int32)) zci_m1 ?_
  obtain ⟨g162, h⟩ := zgd h
  obtain ⟨J163, e164, h⟩ := zld h
  refine em_iastG dX12_init_140 (zKdB_has g158) (N := (D152 (((((((((n + 1) + 1) + 1) + 1) + 1) + 1) + 1) + 1) + 1)).2) rfl g162 e164 ?_
  refine ev_dup dX12_init_141 rfl ?_
  refine ev_iconst dX12_init_142 (v := (2 : Int32)) zci_2 ?_
  refine ev_iconst dX12_init_143 (v := (-1 : Int32)) zci_m1 ?_
  obtain ⟨g165, h⟩ := zgd h
  obtain ⟨J166, e167, h⟩ := zld h
  refine em_iastG dX12_init_144 (zKdB_has g158) (N := (D152 (((((((((n + 1) + 1) + 1) + 1) + 1) + 1) + 1) + 1) + 1)).2) rfl g165 e167 ?_
  refine ev_dup dX12_init_145 rfl ?_
  refine ev_iconst dX12_init_146 (v := (3 : Int32)) zci_3 ?_
  refine ev_iconst dX12_init_147 (v := (-1 : Int32)) zci_m1 ?_
  obtain ⟨g168, h⟩ := zgd h
  obtain ⟨J169, e170, h⟩ := zld h
  refine em_iastG dX12_init_148 (zKdB_has g158) (N := (D152 (((((((((n + 1) + 1) + 1) + 1) + 1) + 1) + 1) + 1) + 1)).2) rfl g168 e170 ?_
  obtain ⟨g171, h⟩ := zgd h
  obtain ⟨T172, e173, h⟩ := zld h
  refine cm_putO (o := some (((((((((n + 1) + 1) + 1) + 1) + 1) + 1) + 1) + 1) + 1)) dX12_init_149 zf_NineHeapsModel_41 (Or.inr ⟨rfl, rfl, rfl⟩) rfl hw (fun _ => rfl) (fun _ => rfl) rfl rfl (zKdB_has g171) e173 ?_
  refine ev_aload_n dX12_init_152 rfl rfl ?_
  refine ev_iconst dX12_init_153 (v := (4 : Int32)) zci_4 ?_
  obtain ⟨D176, e177, h⟩ := zld h
  obtain ⟨J178, e179, h⟩ := zld h
  obtain ⟨T180, e181, h⟩ := zld h
  refine em_newIK (kc' := 21) (ks' := 1177) dX12_init_154 (N := 4) (by decide) (by decide) (by decide) (by omega) (by omega) ?_
  rw [e177, e179, e181]
  obtain ⟨g182, h⟩ := zgd h
  obtain ⟨T183, e184, h⟩ := zld h
  refine cm_putO (o := some ((((((((((n + 1) + 1) + 1) + 1) + 1) + 1) + 1) + 1) + 1) + 1)) dX12_init_156 zf_NineHeapsModel_44 (Or.inr ⟨rfl, rfl, rfl⟩) rfl hw (fun _ => rfl) (fun _ => rfl) rfl rfl (zKdB_has g182) e184 ?_
  refine ev_aload_n dX12_init_159 rfl rfl ?_
  refine ev_sipush dX12_init_160 (v := (160 : Int32)) zcs_160 ?_
  obtain ⟨D187, e188, h⟩ := zld h
  obtain ⟨J189, e190, h⟩ := zld h
  obtain ⟨T191, e192, h⟩ := zld h
  refine em_newIK (kc' := 20) (ks' := 1017) dX12_init_163 (N := 160) (by decide) (by decide) (by decide) (by omega) (by omega) ?_
  rw [e188, e190, e192]
  obtain ⟨g193, h⟩ := zgd h
  obtain ⟨T194, e195, h⟩ := zld h
  refine cm_putO (o := some (((((((((((n + 1) + 1) + 1) + 1) + 1) + 1) + 1) + 1) + 1) + 1) + 1)) dX12_init_165 zf_NineHeapsModel_47 (Or.inr ⟨rfl, rfl, rfl⟩) rfl hw (fun _ => rfl) (fun _ => rfl) rfl rfl (zKdB_has g193) e195 ?_
  refine ev_aload_n dX12_init_168 rfl rfl ?_
  refine ev_bipush dX12_init_169 (v := (29 : Int32)) zcb_29 ?_
  obtain ⟨D198, e199, h⟩ := zld h
  obtain ⟨J200, e201, h⟩ := zld h
  obtain ⟨T202, e203, h⟩ := zld h
  refine em_newIK (kc' := 19) (ks' := 988) dX12_init_171 (N := 29) (by decide) (by decide) (by decide) (by omega) (by omega) ?_
  rw [e199, e201, e203]
  refine ev_dup dX12_init_173 rfl ?_
  refine ev_iconst dX12_init_174 (v := (0 : Int32)) zci_0 ?_
  refine ev_bipush dX12_init_175 (v := (116 : Int32)) zcb_116 ?_
  obtain ⟨g204, h⟩ := zgd h
  obtain ⟨g205, h⟩ := zgd h
  obtain ⟨J206, e207, h⟩ := zld h
  refine em_iastG dX12_init_177 (zKdB_has g204) (N := (D198 ((((((((((((n + 1) + 1) + 1) + 1) + 1) + 1) + 1) + 1) + 1) + 1) + 1) + 1)).2) rfl g205 e207 ?_
  refine ev_dup dX12_init_178 rfl ?_
  refine ev_iconst dX12_init_179 (v := (1 : Int32)) zci_1 ?_
  refine ev_bipush dX12_init_180 (v := (97 : Int32)) zcb_97 ?_
  obtain ⟨g208, h⟩ := zgd h
  obtain ⟨J209, e210, h⟩ := zld h
  refine em_iastG dX12_init_182 (zKdB_has g204) (N := (D198 ((((((((((((n + 1) + 1) + 1) + 1) + 1) + 1) + 1) + 1) + 1) + 1) + 1) + 1)).2) rfl g208 e210 ?_
  refine ev_dup dX12_init_183 rfl ?_
  refine ev_iconst dX12_init_184 (v := (2 : Int32)) zci_2 ?_
  refine ev_bipush dX12_init_185 (v := (107 : Int32)) zcb_107 ?_
  obtain ⟨g211, h⟩ := zgd h
  obtain ⟨J212, e213, h⟩ := zld h
  refine em_iastG dX12_init_187 (zKdB_has g204) (N := (D198 ((((((((((((n + 1) + 1) + 1) + 1) + 1) + 1) + 1) + 1) + 1) + 1) + 1) + 1)).2) rfl g211 e213 ?_
  refine ev_dup dX12_init_188 rfl ?_
  refine ev_iconst dX12_init_189 (v := (3 : Int32)) zci_3 ?_
  refine ev_bipush dX12_init_190 (v := (101 : Int32)) zcb_101 ?_
  obtain ⟨g214, h⟩ := zgd h
  obtain ⟨J215, e216, h⟩ := zld h
  refine em_iastG dX12_init_192 (zKdB_has g204) (N := (D198 ((((((((((((n + 1) + 1) + 1) + 1) + 1) + 1) + 1) + 1) + 1) + 1) + 1) + 1)).2) rfl g214 e216 ?_
  refine ev_dup dX12_init_193 rfl ?_
  refine ev_iconst dX12_init_194 (v := (4 : Int32)) zci_4 ?_
  refine ev_bipush dX12_init_195 (v := (115 : Int32)) zcb_115 ?_
  obtain ⟨g217, h⟩ := zgd h
  obtain ⟨J218, e219, h⟩ := zld h
  refine em_iastG dX12_init_197 (zKdB_has g204) (N := (D198 ((((((((((((n + 1) + 1) + 1) + 1) + 1) + 1) + 1) + 1) + 1) + 1) + 1) + 1)).2) rfl g217 e219 ?_
  refine ev_dup dX12_init_198 rfl ?_
  refine ev_iconst dX12_init_199 (v := (5 : Int32)) zci_5 ?_
  refine ev_bipush dX12_init_200 (v := (32 : Int32)) zcb_32 ?_
  obtain ⟨g220, h⟩ := zgd h
  obtain ⟨J221, e222, h⟩ := zld h
  refine em_iastG dX12_init_202 (zKdB_has g204) (N := (D198 ((((((((((((n + 1) + 1) + 1) + 1) + 1) + 1) + 1) + 1) + 1) + 1) + 1) + 1)).2) rfl g220 e222 ?_
  refine ev_dup dX12_init_203 rfl ?_
  refine ev_bipush dX12_init_204 (v := (6 : Int32)) zcb_6 ?_
  refine ev_bipush dX12_init_206 (v := (50 : Int32)) zcb_50 ?_
  obtain ⟨g223, h⟩ := zgd h
  obtain ⟨J224, e225, h⟩ := zld h
  refine em_iastG dX12_init_208 (zKdB_has g204) (N := (D198 ((((((((((((n + 1) + 1) + 1) + 1) + 1) + 1) + 1) + 1) + 1) + 1) + 1) + 1)).2) rfl g223 e225 ?_
  refine ev_dup dX12_init_209 rfl ?_
  refine ev_bipush dX12_init_210 (v := (7 : Int32)) zcb_7 ?_
  refine ev_bipush dX12_init_212 (v := (32 : Int32)) zcb_32 ?_
  obtain ⟨g226, h⟩ := zgd h
  obtain ⟨J227, e228, h⟩ := zld h
  refine em_iastG dX12_init_214 (zKdB_has g204) (N := (D198 ((((((((((((n + 1) + 1) + 1) + 1) + 1) + 1) + 1) + 1) + 1) + 1) + 1) + 1)).2) rfl g226 e228 ?_
  refine ev_dup dX12_init_215 rfl ?_
  refine ev_bipush dX12_init_216 (v := (8 : Int32)) zcb_8 ?_
  refine ev_bipush dX12_init_218 (v := (59 : Int32)) zcb_59 ?_
  obtain ⟨g229, h⟩ := zgd h
  obtain ⟨J230, e231, h⟩ := zld h
  refine em_iastG dX12_init_220 (zKdB_has g204) (N := (D198 ((((((((((((n + 1) + 1) + 1) + 1) + 1) + 1) + 1) + 1) + 1) + 1) + 1) + 1)).2) rfl g229 e231 ?_
  refine ev_dup dX12_init_221 rfl ?_
  refine ev_bipush dX12_init_222 (v := (9 : Int32)) zcb_9 ?_
  refine ev_bipush dX12_init_224 (v := (32 : Int32)) zcb_32 ?_
  obtain ⟨g232, h⟩ := zgd h
  obtain ⟨J233, e234, h⟩ := zld h
  refine em_iastG dX12_init_226 (zKdB_has g204) (N := (D198 ((((((((((((n + 1) + 1) + 1) + 1) + 1) + 1) + 1) + 1) + 1) + 1) + 1) + 1)).2) rfl g232 e234 ?_
  refine ev_dup dX12_init_227 rfl ?_
  refine ev_bipush dX12_init_228 (v := (10 : Int32)) zcb_10 ?_
  refine ev_bipush dX12_init_230 (v := (115 : Int32)) zcb_115 ?_
  obtain ⟨g235, h⟩ := zgd h
  obtain ⟨J236, e237, h⟩ := zld h
  refine em_iastG dX12_init_232 (zKdB_has g204) (N := (D198 ((((((((((((n + 1) + 1) + 1) + 1) + 1) + 1) + 1) + 1) + 1) + 1) + 1) + 1)).2) rfl g235 e237 ?_
  refine ev_dup dX12_init_233 rfl ?_
  refine ev_bipush dX12_init_234 (v := (11 : Int32)) zcb_11 ?_
  refine ev_bipush dX12_init_236 (v := (116 : Int32)) zcb_116 ?_
  obtain ⟨g238, h⟩ := zgd h
  obtain ⟨J239, e240, h⟩ := zld h
  refine em_iastG dX12_init_238 (zKdB_has g204) (N := (D198 ((((((((((((n + 1) + 1) + 1) + 1) + 1) + 1) + 1) + 1) + 1) + 1) + 1) + 1)).2) rfl g238 e240 ?_
  refine ev_dup dX12_init_239 rfl ?_
  refine ev_bipush dX12_init_240 (v := (12 : Int32)) zcb_12 ?_
  refine ev_bipush dX12_init_242 (v := (101 : Int32)) zcb_101 ?_
  obtain ⟨g241, h⟩ := zgd h
  obtain ⟨J242, e243, h⟩ := zld h
  refine em_iastG dX12_init_244 (zKdB_has g204) (N := (D198 ((((((((((((n + 1) + 1) + 1) + 1) + 1) + 1) + 1) + 1) + 1) + 1) + 1) + 1)).2) rfl g241 e243 ?_
  refine ev_dup dX12_init_245 rfl ?_
  refine ev_bipush dX12_init_246 (v := (13 : Int32)) zcb_13 ?_
  refine ev_bipush dX12_init_248 (v := (112 : Int32)) zcb_112 ?_
  obtain ⟨g244, h⟩ := zgd h
  obtain ⟨J245, e246, h⟩ := zld h
  refine em_iastG dX12_init_250 (zKdB_has g204) (N := (D198 ((((((((((((n + 1) + 1) + 1) + 1) + 1) + 1) + 1) + 1) + 1) + 1) + 1) + 1)).2) rfl g244 e246 ?_
  refine ev_dup dX12_init_251 rfl ?_
  refine ev_bipush dX12_init_252 (v := (14 : Int32)) zcb_14 ?_
  refine ev_bipush dX12_init_254 (v := (115 : Int32)) zcb_115 ?_
  obtain ⟨g247, h⟩ := zgd h
  obtain ⟨J248, e249, h⟩ := zld h
  refine em_iastG dX12_init_256 (zKdB_has g204) (N := (D198 ((((((((((((n + 1) + 1) + 1) + 1) + 1) + 1) + 1) + 1) + 1) + 1) + 1) + 1)).2) rfl g247 e249 ?_
  refine ev_dup dX12_init_257 rfl ?_
  refine ev_bipush dX12_init_258 (v := (15 : Int32)) zcb_15 ?_
  refine ev_bipush dX12_init_260 (v := (32 : Int32)) zcb_32 ?_
  obtain ⟨g250, h⟩ := zgd h
  obtain ⟨J251, e252, h⟩ := zld h
  refine em_iastG dX12_init_262 (zKdB_has g204) (N := (D198 ((((((((((((n + 1) + 1) + 1) + 1) + 1) + 1) + 1) + 1) + 1) + 1) + 1) + 1)).2) rfl g250 e252 ?_
  refine ev_dup dX12_init_263 rfl ?_
  refine ev_bipush dX12_init_264 (v := (16 : Int32)) zcb_16 ?_
  refine ev_bipush dX12_init_266 (v := (49 : Int32)) zcb_49 ?_
  obtain ⟨g253, h⟩ := zgd h
  obtain ⟨J254, e255, h⟩ := zld h
  refine em_iastG dX12_init_268 (zKdB_has g204) (N := (D198 ((((((((((((n + 1) + 1) + 1) + 1) + 1) + 1) + 1) + 1) + 1) + 1) + 1) + 1)).2) rfl g253 e255 ?_
  refine ev_dup dX12_init_269 rfl ?_
  refine ev_bipush dX12_init_270 (v := (17 : Int32)) zcb_17 ?_
  refine ev_bipush dX12_init_272 (v := (32 : Int32)) zcb_32 ?_
  obtain ⟨g256, h⟩ := zgd h
  obtain ⟨J257, e258, h⟩ := zld h
  refine em_iastG dX12_init_274 (zKdB_has g204) (N := (D198 ((((((((((((n + 1) + 1) + 1) + 1) + 1) + 1) + 1) + 1) + 1) + 1) + 1) + 1)).2) rfl g256 e258 ?_
  refine ev_dup dX12_init_275 rfl ?_
  refine ev_bipush dX12_init_276 (v := (18 : Int32)) zcb_18 ?_
  refine ev_bipush dX12_init_278 (v := (59 : Int32)) zcb_59 ?_
  obtain ⟨g259, h⟩ := zgd h
  obtain ⟨J260, e261, h⟩ := zld h
  refine em_iastG dX12_init_280 (zKdB_has g204) (N := (D198 ((((((((((((n + 1) + 1) + 1) + 1) + 1) + 1) + 1) + 1) + 1) + 1) + 1) + 1)).2) rfl g259 e261 ?_
  refine ev_dup dX12_init_281 rfl ?_
  refine ev_bipush dX12_init_282 (v := (19 : Int32)) zcb_19 ?_
  refine ev_bipush dX12_init_284 (v := (32 : Int32)) zcb_32 ?_
  obtain ⟨g262, h⟩ := zgd h
  obtain ⟨J263, e264, h⟩ := zld h
  refine em_iastG dX12_init_286 (zKdB_has g204) (N := (D198 ((((((((((((n + 1) + 1) + 1) + 1) + 1) + 1) + 1) + 1) + 1) + 1) + 1) + 1)).2) rfl g262 e264 ?_
  refine ev_dup dX12_init_287 rfl ?_
  refine ev_bipush dX12_init_288 (v := (20 : Int32)) zcb_20 ?_
  refine ev_bipush dX12_init_290 (v := (109 : Int32)) zcb_109 ?_
  obtain ⟨g265, h⟩ := zgd h
  obtain ⟨J266, e267, h⟩ := zld h
  refine em_iastG dX12_init_292 (zKdB_has g204) (N := (D198 ((((((((((((n + 1) + 1) + 1) + 1) + 1) + 1) + 1) + 1) + 1) + 1) + 1) + 1)).2) rfl g265 e267 ?_
  refine ev_dup dX12_init_293 rfl ?_
  refine ev_bipush dX12_init_294 (v := (21 : Int32)) zcb_21 ?_
  refine ev_bipush dX12_init_296 (v := (105 : Int32)) zcb_105 ?_
  obtain ⟨g268, h⟩ := zgd h
  obtain ⟨J269, e270, h⟩ := zld h
  refine em_iastG dX12_init_298 (zKdB_has g204) (N := (D198 ((((((((((((n + 1) + 1) + 1) + 1) + 1) + 1) + 1) + 1) + 1) + 1) + 1) + 1)).2) rfl g268 e270 ?_
  refine ev_dup dX12_init_299 rfl ?_
  refine ev_bipush dX12_init_300 (v := (22 : Int32)) zcb_22 ?_
  refine ev_bipush dX12_init_302 (v := (110 : Int32)) zcb_110 ?_
  obtain ⟨g271, h⟩ := zgd h
  obtain ⟨J272, e273, h⟩ := zld h
  refine em_iastG dX12_init_304 (zKdB_has g204) (N := (D198 ((((((((((((n + 1) + 1) + 1) + 1) + 1) + 1) + 1) + 1) + 1) + 1) + 1) + 1)).2) rfl g271 e273 ?_
  refine ev_dup dX12_init_305 rfl ?_
  refine ev_bipush dX12_init_306 (v := (23 : Int32)) zcb_23 ?_
  refine ev_bipush dX12_init_308 (v := (100 : Int32)) zcb_100 ?_
  obtain ⟨g274, h⟩ := zgd h
  obtain ⟨J275, e276, h⟩ := zld h
  refine em_iastG dX12_init_310 (zKdB_has g204) (N := (D198 ((((((((((((n + 1) + 1) + 1) + 1) + 1) + 1) + 1) + 1) + 1) + 1) + 1) + 1)).2) rfl g274 e276 ?_
  refine ev_dup dX12_init_311 rfl ?_
  refine ev_bipush dX12_init_312 (v := (24 : Int32)) zcb_24 ?_
  refine ev_bipush dX12_init_314 (v := (115 : Int32)) zcb_115 ?_
  obtain ⟨g277, h⟩ := zgd h
  obtain ⟨J278, e279, h⟩ := zld h
  refine em_iastG dX12_init_316 (zKdB_has g204) (N := (D198 ((((((((((((n + 1) + 1) + 1) + 1) + 1) + 1) + 1) + 1) + 1) + 1) + 1) + 1)).2) rfl g277 e279 ?_
  refine ev_dup dX12_init_317 rfl ?_
  refine ev_bipush dX12_init_318 (v := (25 : Int32)) zcb_25 ?_
  refine ev_bipush dX12_init_320 (v := (32 : Int32)) zcb_32 ?_
  obtain ⟨g280, h⟩ := zgd h
  obtain ⟨J281, e282, h⟩ := zld h
  refine em_iastG dX12_init_322 (zKdB_has g204) (N := (D198 ((((((((((((n + 1) + 1) + 1) + 1) + 1) + 1) + 1) + 1) + 1) + 1) + 1) + 1)).2) rfl g280 e282 ?_
  refine ev_dup dX12_init_323 rfl ?_
  refine ev_bipush dX12_init_324 (v := (26 : Int32)) zcb_26 ?_
  refine ev_bipush dX12_init_326 (v := (49 : Int32)) zcb_49 ?_
  obtain ⟨g283, h⟩ := zgd h
  obtain ⟨J284, e285, h⟩ := zld h
  refine em_iastG dX12_init_328 (zKdB_has g204) (N := (D198 ((((((((((((n + 1) + 1) + 1) + 1) + 1) + 1) + 1) + 1) + 1) + 1) + 1) + 1)).2) rfl g283 e285 ?_
  refine ev_dup dX12_init_329 rfl ?_
  refine ev_bipush dX12_init_330 (v := (27 : Int32)) zcb_27 ?_
  refine ev_bipush dX12_init_332 (v := (32 : Int32)) zcb_32 ?_
  obtain ⟨g286, h⟩ := zgd h
  obtain ⟨J287, e288, h⟩ := zld h
  refine em_iastG dX12_init_334 (zKdB_has g204) (N := (D198 ((((((((((((n + 1) + 1) + 1) + 1) + 1) + 1) + 1) + 1) + 1) + 1) + 1) + 1)).2) rfl g286 e288 ?_
  refine ev_dup dX12_init_335 rfl ?_
  refine ev_bipush dX12_init_336 (v := (28 : Int32)) zcb_28 ?_
  refine ev_bipush dX12_init_338 (v := (59 : Int32)) zcb_59 ?_
  obtain ⟨g289, h⟩ := zgd h
  obtain ⟨J290, e291, h⟩ := zld h
  refine em_iastG dX12_init_340 (zKdB_has g204) (N := (D198 ((((((((((((n + 1) + 1) + 1) + 1) + 1) + 1) + 1) + 1) + 1) + 1) + 1) + 1)).2) rfl g289 e291 ?_
  obtain ⟨g292, h⟩ := zgd h
  obtain ⟨T293, e294, h⟩ := zld h
  refine cm_putO (o := some ((((((((((((n + 1) + 1) + 1) + 1) + 1) + 1) + 1) + 1) + 1) + 1) + 1) + 1)) dX12_init_341 zf_NineHeapsModel_50 (Or.inr ⟨rfl, rfl, rfl⟩) rfl hw (fun _ => rfl) (fun _ => rfl) rfl rfl (zKdB_has g292) e294 ?_
  refine ev_aload_n dX12_init_344 rfl rfl ?_
  refine ev_bipush dX12_init_345 (v := (96 : Int32)) zcb_96 ?_
  obtain ⟨D297, e298, h⟩ := zld h
  obtain ⟨J299, e300, h⟩ := zld h
  obtain ⟨T301, e302, h⟩ := zld h
  refine em_newIK (kc' := 18) (ks' := 892) dX12_init_347 (N := 96) (by decide) (by decide) (by decide) (by omega) (by omega) ?_
  rw [e298, e300, e302]
  refine ev_dup dX12_init_349 rfl ?_
  refine ev_iconst dX12_init_350 (v := (0 : Int32)) zci_0 ?_
  refine ev_bipush dX12_init_351 (v := (116 : Int32)) zcb_116 ?_
  obtain ⟨g303, h⟩ := zgd h
  obtain ⟨g304, h⟩ := zgd h
  obtain ⟨J305, e306, h⟩ := zld h
  refine em_iastG dX12_init_353 (zKdB_has g303) (N := (D297 (((((((((((((n + 1) + 1) + 1) + 1) + 1) + 1) + 1) + 1) + 1) + 1) + 1) + 1) + 1)).2) rfl g304 e306 ?_
  refine ev_dup dX12_init_354 rfl ?_
  refine ev_iconst dX12_init_355 (v := (1 : Int32)) zci_1 ?_
  refine ev_bipush dX12_init_356 (v := (97 : Int32)) zcb_97 ?_
  obtain ⟨g307, h⟩ := zgd h
  obtain ⟨J308, e309, h⟩ := zld h
  refine em_iastG dX12_init_358 (zKdB_has g303) (N := (D297 (((((((((((((n + 1) + 1) + 1) + 1) + 1) + 1) + 1) + 1) + 1) + 1) + 1) + 1) + 1)).2) rfl g307 e309 ?_
  refine ev_dup dX12_init_359 rfl ?_
  refine ev_iconst dX12_init_360 (v := (2 : Int32)) zci_2 ?_
  refine ev_bipush dX12_init_361 (v := (107 : Int32)) zcb_107 ?_
  obtain ⟨g310, h⟩ := zgd h
  obtain ⟨J311, e312, h⟩ := zld h
  refine em_iastG dX12_init_363 (zKdB_has g303) (N := (D297 (((((((((((((n + 1) + 1) + 1) + 1) + 1) + 1) + 1) + 1) + 1) + 1) + 1) + 1) + 1)).2) rfl g310 e312 ?_
  refine ev_dup dX12_init_364 rfl ?_
  refine ev_iconst dX12_init_365 (v := (3 : Int32)) zci_3 ?_
  refine ev_bipush dX12_init_366 (v := (101 : Int32)) zcb_101 ?_
  obtain ⟨g313, h⟩ := zgd h
  obtain ⟨J314, e315, h⟩ := zld h
  refine em_iastG dX12_init_368 (zKdB_has g303) (N := (D297 (((((((((((((n + 1) + 1) + 1) + 1) + 1) + 1) + 1) + 1) + 1) + 1) + 1) + 1) + 1)).2) rfl g313 e315 ?_
  refine ev_dup dX12_init_369 rfl ?_
  refine ev_iconst dX12_init_370 (v := (4 : Int32)) zci_4 ?_
  refine ev_bipush dX12_init_371 (v := (115 : Int32)) zcb_115 ?_
  obtain ⟨g316, h⟩ := zgd h
  obtain ⟨J317, e318, h⟩ := zld h
  refine em_iastG dX12_init_373 (zKdB_has g303) (N := (D297 (((((((((((((n + 1) + 1) + 1) + 1) + 1) + 1) + 1) + 1) + 1) + 1) + 1) + 1) + 1)).2) rfl g316 e318 ?_
  refine ev_dup dX12_init_374 rfl ?_
  refine ev_iconst dX12_init_375 (v := (5 : Int32)) zci_5 ?_
  refine ev_bipush dX12_init_376 (v := (32 : Int32)) zcb_32 ?_
  obtain ⟨g319, h⟩ := zgd h
  obtain ⟨J320, e321, h⟩ := zld h
  refine em_iastG dX12_init_378 (zKdB_has g303) (N := (D297 (((((((((((((n + 1) + 1) + 1) + 1) + 1) + 1) + 1) + 1) + 1) + 1) + 1) + 1) + 1)).2) rfl g319 e321 ?_
  refine ev_dup dX12_init_379 rfl ?_
  refine ev_bipush dX12_init_380 (v := (6 : Int32)) zcb_6 ?_
  refine ev_bipush dX12_init_382 (v := (32 : Int32)) zcb_32 ?_
  obtain ⟨g322, h⟩ := zgd h
  obtain ⟨J323, e324, h⟩ := zld h
  refine em_iastG dX12_init_384 (zKdB_has g303) (N := (D297 (((((((((((((n + 1) + 1) + 1) + 1) + 1) + 1) + 1) + 1) + 1) + 1) + 1) + 1) + 1)).2) rfl g322 e324 ?_
  refine ev_dup dX12_init_385 rfl ?_
  refine ev_bipush dX12_init_386 (v := (7 : Int32)) zcb_7 ?_
  refine ev_bipush dX12_init_388 (v := (32 : Int32)) zcb_32 ?_
  obtain ⟨g325, h⟩ := zgd h
  obtain ⟨J326, e327, h⟩ := zld h
  refine em_iastG dX12_init_390 (zKdB_has g303) (N := (D297 (((((((((((((n + 1) + 1) + 1) + 1) + 1) + 1) + 1) + 1) + 1) + 1) + 1) + 1) + 1)).2) rfl g325 e327 ?_
  refine ev_dup dX12_init_391 rfl ?_
  refine ev_bipush dX12_init_392 (v := (8 : Int32)) zcb_8 ?_
  refine ev_bipush dX12_init_394 (v := (115 : Int32)) zcb_115 ?_
  obtain ⟨g328, h⟩ := zgd h
  obtain ⟨J329, e330, h⟩ := zld h
  refine em_iastG dX12_init_396 (zKdB_has g303) (N := (D297 (((((((((((((n + 1) + 1) + 1) + 1) + 1) + 1) + 1) + 1) + 1) + 1) + 1) + 1) + 1)).2) rfl g328 e330 ?_
  refine ev_dup dX12_init_397 rfl ?_
  refine ev_bipush dX12_init_398 (v := (9 : Int32)) zcb_9 ?_
  refine ev_bipush dX12_init_400 (v := (116 : Int32)) zcb_116 ?_
  obtain ⟨g331, h⟩ := zgd h
  obtain ⟨J332, e333, h⟩ := zld h
  refine em_iastG dX12_init_402 (zKdB_has g303) (N := (D297 (((((((((((((n + 1) + 1) + 1) + 1) + 1) + 1) + 1) + 1) + 1) + 1) + 1) + 1) + 1)).2) rfl g331 e333 ?_
  refine ev_dup dX12_init_403 rfl ?_
  refine ev_bipush dX12_init_404 (v := (10 : Int32)) zcb_10 ?_
  refine ev_bipush dX12_init_406 (v := (101 : Int32)) zcb_101 ?_
  obtain ⟨g334, h⟩ := zgd h
  obtain ⟨J335, e336, h⟩ := zld h
  refine em_iastG dX12_init_408 (zKdB_has g303) (N := (D297 (((((((((((((n + 1) + 1) + 1) + 1) + 1) + 1) + 1) + 1) + 1) + 1) + 1) + 1) + 1)).2) rfl g334 e336 ?_
  refine ev_dup dX12_init_409 rfl ?_
  refine ev_bipush dX12_init_410 (v := (11 : Int32)) zcb_11 ?_
  refine ev_bipush dX12_init_412 (v := (112 : Int32)) zcb_112 ?_
  obtain ⟨g337, h⟩ := zgd h
  obtain ⟨J338, e339, h⟩ := zld h
  refine em_iastG dX12_init_414 (zKdB_has g303) (N := (D297 (((((((((((((n + 1) + 1) + 1) + 1) + 1) + 1) + 1) + 1) + 1) + 1) + 1) + 1) + 1)).2) rfl g337 e339 ?_
  refine ev_dup dX12_init_415 rfl ?_
  refine ev_bipush dX12_init_416 (v := (12 : Int32)) zcb_12 ?_
  refine ev_bipush dX12_init_418 (v := (115 : Int32)) zcb_115 ?_
  obtain ⟨g340, h⟩ := zgd h
  obtain ⟨J341, e342, h⟩ := zld h
  refine em_iastG dX12_init_420 (zKdB_has g303) (N := (D297 (((((((((((((n + 1) + 1) + 1) + 1) + 1) + 1) + 1) + 1) + 1) + 1) + 1) + 1) + 1)).2) rfl g340 e342 ?_
  refine ev_dup dX12_init_421 rfl ?_
  refine ev_bipush dX12_init_422 (v := (13 : Int32)) zcb_13 ?_
  refine ev_bipush dX12_init_424 (v := (32 : Int32)) zcb_32 ?_
  obtain ⟨g343, h⟩ := zgd h
  obtain ⟨J344, e345, h⟩ := zld h
  refine em_iastG dX12_init_426 (zKdB_has g303) (N := (D297 (((((((((((((n + 1) + 1) + 1) + 1) + 1) + 1) + 1) + 1) + 1) + 1) + 1) + 1) + 1)).2) rfl g343 e345 ?_
  refine ev_dup dX12_init_427 rfl ?_
  refine ev_bipush dX12_init_428 (v := (14 : Int32)) zcb_14 ?_
  refine ev_bipush dX12_init_430 (v := (32 : Int32)) zcb_32 ?_
  obtain ⟨g346, h⟩ := zgd h
  obtain ⟨J347, e348, h⟩ := zld h
  refine em_iastG dX12_init_432 (zKdB_has g303) (N := (D297 (((((((((((((n + 1) + 1) + 1) + 1) + 1) + 1) + 1) + 1) + 1) + 1) + 1) + 1) + 1)).2) rfl g346 e348 ?_
  refine ev_dup dX12_init_433 rfl ?_
  refine ev_bipush dX12_init_434 (v := (15 : Int32)) zcb_15 ?_
  refine ev_bipush dX12_init_436 (v := (32 : Int32)) zcb_32 ?_
  obtain ⟨g349, h⟩ := zgd h
  obtain ⟨J350, e351, h⟩ := zld h
  refine em_iastG dX12_init_438 (zKdB_has g303) (N := (D297 (((((((((((((n + 1) + 1) + 1) + 1) + 1) + 1) + 1) + 1) + 1) + 1) + 1) + 1) + 1)).2) rfl g349 e351 ?_
  refine ev_dup dX12_init_439 rfl ?_
  refine ev_bipush dX12_init_440 (v := (16 : Int32)) zcb_16 ?_
  refine ev_bipush dX12_init_442 (v := (109 : Int32)) zcb_109 ?_
  obtain ⟨g352, h⟩ := zgd h
  obtain ⟨J353, e354, h⟩ := zld h
  refine em_iastG dX12_init_444 (zKdB_has g303) (N := (D297 (((((((((((((n + 1) + 1) + 1) + 1) + 1) + 1) + 1) + 1) + 1) + 1) + 1) + 1) + 1)).2) rfl g352 e354 ?_
  refine ev_dup dX12_init_445 rfl ?_
  refine ev_bipush dX12_init_446 (v := (17 : Int32)) zcb_17 ?_
  refine ev_bipush dX12_init_448 (v := (105 : Int32)) zcb_105 ?_
  obtain ⟨g355, h⟩ := zgd h
  obtain ⟨J356, e357, h⟩ := zld h
  refine em_iastG dX12_init_450 (zKdB_has g303) (N := (D297 (((((((((((((n + 1) + 1) + 1) + 1) + 1) + 1) + 1) + 1) + 1) + 1) + 1) + 1) + 1)).2) rfl g355 e357 ?_
  refine ev_dup dX12_init_451 rfl ?_
  refine ev_bipush dX12_init_452 (v := (18 : Int32)) zcb_18 ?_
  refine ev_bipush dX12_init_454 (v := (110 : Int32)) zcb_110 ?_
  obtain ⟨g358, h⟩ := zgd h
  obtain ⟨J359, e360, h⟩ := zld h
  refine em_iastG dX12_init_456 (zKdB_has g303) (N := (D297 (((((((((((((n + 1) + 1) + 1) + 1) + 1) + 1) + 1) + 1) + 1) + 1) + 1) + 1) + 1)).2) rfl g358 e360 ?_
  refine ev_dup dX12_init_457 rfl ?_
  refine ev_bipush dX12_init_458 (v := (19 : Int32)) zcb_19 ?_
  refine ev_bipush dX12_init_460 (v := (100 : Int32)) zcb_100 ?_
  obtain ⟨g361, h⟩ := zgd h
  obtain ⟨J362, e363, h⟩ := zld h
  refine em_iastG dX12_init_462 (zKdB_has g303) (N := (D297 (((((((((((((n + 1) + 1) + 1) + 1) + 1) + 1) + 1) + 1) + 1) + 1) + 1) + 1) + 1)).2) rfl g361 e363 ?_
  refine ev_dup dX12_init_463 rfl ?_
  refine ev_bipush dX12_init_464 (v := (20 : Int32)) zcb_20 ?_
  refine ev_bipush dX12_init_466 (v := (115 : Int32)) zcb_115 ?_
  obtain ⟨g364, h⟩ := zgd h
  obtain ⟨J365, e366, h⟩ := zld h
  refine em_iastG dX12_init_468 (zKdB_has g303) (N := (D297 (((((((((((((n + 1) + 1) + 1) + 1) + 1) + 1) + 1) + 1) + 1) + 1) + 1) + 1) + 1)).2) rfl g364 e366 ?_
  refine ev_dup dX12_init_469 rfl ?_
  refine ev_bipush dX12_init_470 (v := (21 : Int32)) zcb_21 ?_
  refine ev_bipush dX12_init_472 (v := (32 : Int32)) zcb_32 ?_
  obtain ⟨g367, h⟩ := zgd h
  obtain ⟨J368, e369, h⟩ := zld h
  refine em_iastG dX12_init_474 (zKdB_has g303) (N := (D297 (((((((((((((n + 1) + 1) + 1) + 1) + 1) + 1) + 1) + 1) + 1) + 1) + 1) + 1) + 1)).2) rfl g367 e369 ?_
  refine ev_dup dX12_init_475 rfl ?_
  refine ev_bipush dX12_init_476 (v := (22 : Int32)) zcb_22 ?_
  refine ev_bipush dX12_init_478 (v := (32 : Int32)) zcb_32 ?_
  obtain ⟨g370, h⟩ := zgd h
  obtain ⟨J371, e372, h⟩ := zld h
  refine em_iastG dX12_init_480 (zKdB_has g303) (N := (D297 (((((((((((((n + 1) + 1) + 1) + 1) + 1) + 1) + 1) + 1) + 1) + 1) + 1) + 1) + 1)).2) rfl g370 e372 ?_
  refine ev_dup dX12_init_481 rfl ?_
  refine ev_bipush dX12_init_482 (v := (23 : Int32)) zcb_23 ?_
  refine ev_bipush dX12_init_484 (v := (32 : Int32)) zcb_32 ?_
  obtain ⟨g373, h⟩ := zgd h
  obtain ⟨J374, e375, h⟩ := zld h
  refine em_iastG dX12_init_486 (zKdB_has g303) (N := (D297 (((((((((((((n + 1) + 1) + 1) + 1) + 1) + 1) + 1) + 1) + 1) + 1) + 1) + 1) + 1)).2) rfl g373 e375 ?_
  refine ev_dup dX12_init_487 rfl ?_
  refine ev_bipush dX12_init_488 (v := (24 : Int32)) zcb_24 ?_
  refine ev_bipush dX12_init_490 (v := (104 : Int32)) zcb_104 ?_
  obtain ⟨g376, h⟩ := zgd h
  obtain ⟨J377, e378, h⟩ := zld h
  refine em_iastG dX12_init_492 (zKdB_has g303) (N := (D297 (((((((((((((n + 1) + 1) + 1) + 1) + 1) + 1) + 1) + 1) + 1) + 1) + 1) + 1) + 1)).2) rfl g376 e378 ?_
  refine ev_dup dX12_init_493 rfl ?_
  refine ev_bipush dX12_init_494 (v := (25 : Int32)) zcb_25 ?_
  refine ev_bipush dX12_init_496 (v := (101 : Int32)) zcb_101 ?_
  obtain ⟨g379, h⟩ := zgd h
  obtain ⟨J380, e381, h⟩ := zld h
  refine em_iastG dX12_init_498 (zKdB_has g303) (N := (D297 (((((((((((((n + 1) + 1) + 1) + 1) + 1) + 1) + 1) + 1) + 1) + 1) + 1) + 1) + 1)).2) rfl g379 e381 ?_
  refine ev_dup dX12_init_499 rfl ?_
  refine ev_bipush dX12_init_500 (v := (26 : Int32)) zcb_26 ?_
  refine ev_bipush dX12_init_502 (v := (97 : Int32)) zcb_97 ?_
  obtain ⟨g382, h⟩ := zgd h
  obtain ⟨J383, e384, h⟩ := zld h
  refine em_iastG dX12_init_504 (zKdB_has g303) (N := (D297 (((((((((((((n + 1) + 1) + 1) + 1) + 1) + 1) + 1) + 1) + 1) + 1) + 1) + 1) + 1)).2) rfl g382 e384 ?_
  refine ev_dup dX12_init_505 rfl ?_
  refine ev_bipush dX12_init_506 (v := (27 : Int32)) zcb_27 ?_
  refine ev_bipush dX12_init_508 (v := (112 : Int32)) zcb_112 ?_
  obtain ⟨g385, h⟩ := zgd h
  obtain ⟨J386, e387, h⟩ := zld h
  refine em_iastG dX12_init_510 (zKdB_has g303) (N := (D297 (((((((((((((n + 1) + 1) + 1) + 1) + 1) + 1) + 1) + 1) + 1) + 1) + 1) + 1) + 1)).2) rfl g385 e387 ?_
  refine ev_dup dX12_init_511 rfl ?_
  refine ev_bipush dX12_init_512 (v := (28 : Int32)) zcb_28 ?_
  refine ev_bipush dX12_init_514 (v := (32 : Int32)) zcb_32 ?_
  obtain ⟨g388, h⟩ := zgd h
  obtain ⟨J389, e390, h⟩ := zld h
  refine em_iastG dX12_init_516 (zKdB_has g303) (N := (D297 (((((((((((((n + 1) + 1) + 1) + 1) + 1) + 1) + 1) + 1) + 1) + 1) + 1) + 1) + 1)).2) rfl g388 e390 ?_
  refine ev_dup dX12_init_517 rfl ?_
  refine ev_bipush dX12_init_518 (v := (29 : Int32)) zcb_29 ?_
  refine ev_bipush dX12_init_520 (v := (32 : Int32)) zcb_32 ?_
  obtain ⟨g391, h⟩ := zgd h
  obtain ⟨J392, e393, h⟩ := zld h
  refine em_iastG dX12_init_522 (zKdB_has g303) (N := (D297 (((((((((((((n + 1) + 1) + 1) + 1) + 1) + 1) + 1) + 1) + 1) + 1) + 1) + 1) + 1)).2) rfl g391 e393 ?_
  refine ev_dup dX12_init_523 rfl ?_
  refine ev_bipush dX12_init_524 (v := (30 : Int32)) zcb_30 ?_
  refine ev_bipush dX12_init_526 (v := (32 : Int32)) zcb_32 ?_
  obtain ⟨g394, h⟩ := zgd h
  obtain ⟨J395, e396, h⟩ := zld h
  refine em_iastG dX12_init_528 (zKdB_has g303) (N := (D297 (((((((((((((n + 1) + 1) + 1) + 1) + 1) + 1) + 1) + 1) + 1) + 1) + 1) + 1) + 1)).2) rfl g394 e396 ?_
  refine ev_dup dX12_init_529 rfl ?_
  refine ev_bipush dX12_init_530 (v := (31 : Int32)) zcb_31 ?_
  refine ev_bipush dX12_init_532 (v := (32 : Int32)) zcb_32 ?_
  obtain ⟨g397, h⟩ := zgd h
  obtain ⟨J398, e399, h⟩ := zld h
  refine em_iastG dX12_init_534 (zKdB_has g303) (N := (D297 (((((((((((((n + 1) + 1) + 1) + 1) + 1) + 1) + 1) + 1) + 1) + 1) + 1) + 1) + 1)).2) rfl g397 e399 ?_
  refine ev_dup dX12_init_535 rfl ?_
  refine ev_bipush dX12_init_536 (v := (32 : Int32)) zcb_32 ?_
  refine ev_bipush dX12_init_538 (v := (119 : Int32)) zcb_119 ?_
  obtain ⟨g400, h⟩ := zgd h
  obtain ⟨J401, e402, h⟩ := zld h
  refine em_iastG dX12_init_540 (zKdB_has g303) (N := (D297 (((((((((((((n + 1) + 1) + 1) + 1) + 1) + 1) + 1) + 1) + 1) + 1) + 1) + 1) + 1)).2) rfl g400 e402 ?_
  refine ev_dup dX12_init_541 rfl ?_
  refine ev_bipush dX12_init_542 (v := (33 : Int32)) zcb_33 ?_
  refine ev_bipush dX12_init_544 (v := (97 : Int32)) zcb_97 ?_
  obtain ⟨g403, h⟩ := zgd h
  obtain ⟨J404, e405, h⟩ := zld h
  refine em_iastG dX12_init_546 (zKdB_has g303) (N := (D297 (((((((((((((n + 1) + 1) + 1) + 1) + 1) + 1) + 1) + 1) + 1) + 1) + 1) + 1) + 1)).2) rfl g403 e405 ?_
  refine ev_dup dX12_init_547 rfl ?_
  refine ev_bipush dX12_init_548 (v := (34 : Int32)) zcb_34 ?_
  refine ev_bipush dX12_init_550 (v := (108 : Int32)) zcb_108 ?_
  obtain ⟨g406, h⟩ := zgd h
  obtain ⟨J407, e408, h⟩ := zld h
  refine em_iastG dX12_init_552 (zKdB_has g303) (N := (D297 (((((((((((((n + 1) + 1) + 1) + 1) + 1) + 1) + 1) + 1) + 1) + 1) + 1) + 1) + 1)).2) rfl g406 e408 ?_
  refine ev_dup dX12_init_553 rfl ?_
  refine ev_bipush dX12_init_554 (v := (35 : Int32)) zcb_35 ?_
  refine ev_bipush dX12_init_556 (v := (107 : Int32)) zcb_107 ?_
  obtain ⟨g409, h⟩ := zgd h
  obtain ⟨J410, e411, h⟩ := zld h
  refine em_iastG dX12_init_558 (zKdB_has g303) (N := (D297 (((((((((((((n + 1) + 1) + 1) + 1) + 1) + 1) + 1) + 1) + 1) + 1) + 1) + 1) + 1)).2) rfl g409 e411 ?_
  refine ev_dup dX12_init_559 rfl ?_
  refine ev_bipush dX12_init_560 (v := (36 : Int32)) zcb_36 ?_
  refine ev_bipush dX12_init_562 (v := (101 : Int32)) zcb_101 ?_
  obtain ⟨g412, h⟩ := zgd h
  obtain ⟨J413, e414, h⟩ := zld h
  refine em_iastG dX12_init_564 (zKdB_has g303) (N := (D297 (((((((((((((n + 1) + 1) + 1) + 1) + 1) + 1) + 1) + 1) + 1) + 1) + 1) + 1) + 1)).2) rfl g412 e414 ?_
  refine ev_dup dX12_init_565 rfl ?_
  refine ev_bipush dX12_init_566 (v := (37 : Int32)) zcb_37 ?_
  refine ev_bipush dX12_init_568 (v := (114 : Int32)) zcb_114 ?_
  obtain ⟨g415, h⟩ := zgd h
  obtain ⟨J416, e417, h⟩ := zld h
  refine em_iastG dX12_init_570 (zKdB_has g303) (N := (D297 (((((((((((((n + 1) + 1) + 1) + 1) + 1) + 1) + 1) + 1) + 1) + 1) + 1) + 1) + 1)).2) rfl g415 e417 ?_
  refine ev_dup dX12_init_571 rfl ?_
  refine ev_bipush dX12_init_572 (v := (38 : Int32)) zcb_38 ?_
  refine ev_bipush dX12_init_574 (v := (32 : Int32)) zcb_32 ?_
  obtain ⟨g418, h⟩ := zgd h
  obtain ⟨J419, e420, h⟩ := zld h
  refine em_iastG dX12_init_576 (zKdB_has g303) (N := (D297 (((((((((((((n + 1) + 1) + 1) + 1) + 1) + 1) + 1) + 1) + 1) + 1) + 1) + 1) + 1)).2) rfl g418 e420 ?_
  refine ev_dup dX12_init_577 rfl ?_
  refine ev_bipush dX12_init_578 (v := (39 : Int32)) zcb_39 ?_
  refine ev_bipush dX12_init_580 (v := (32 : Int32)) zcb_32 ?_
  obtain ⟨g421, h⟩ := zgd h
  obtain ⟨J422, e423, h⟩ := zld h
  refine em_iastG dX12_init_582 (zKdB_has g303) (N := (D297 (((((((((((((n + 1) + 1) + 1) + 1) + 1) + 1) + 1) + 1) + 1) + 1) + 1) + 1) + 1)).2) rfl g421 e423 ?_
  refine ev_dup dX12_init_583 rfl ?_
  refine ev_bipush dX12_init_584 (v := (40 : Int32)) zcb_40 ?_
  refine ev_bipush dX12_init_586 (v := (109 : Int32)) zcb_109 ?_
  obtain ⟨g424, h⟩ := zgd h
  obtain ⟨J425, e426, h⟩ := zld h
  refine em_iastG dX12_init_588 (zKdB_has g303) (N := (D297 (((((((((((((n + 1) + 1) + 1) + 1) + 1) + 1) + 1) + 1) + 1) + 1) + 1) + 1) + 1)).2) rfl g424 e426 ?_
  refine ev_dup dX12_init_589 rfl ?_
  refine ev_bipush dX12_init_590 (v := (41 : Int32)) zcb_41 ?_
  refine ev_bipush dX12_init_592 (v := (111 : Int32)) zcb_111 ?_
  obtain ⟨g427, h⟩ := zgd h
  obtain ⟨J428, e429, h⟩ := zld h
  refine em_iastG dX12_init_594 (zKdB_has g303) (N := (D297 (((((((((((((n + 1) + 1) + 1) + 1) + 1) + 1) + 1) + 1) + 1) + 1) + 1) + 1) + 1)).2) rfl g427 e429 ?_
  refine ev_dup dX12_init_595 rfl ?_
  refine ev_bipush dX12_init_596 (v := (42 : Int32)) zcb_42 ?_
  refine ev_bipush dX12_init_598 (v := (114 : Int32)) zcb_114 ?_
  obtain ⟨g430, h⟩ := zgd h
  obtain ⟨J431, e432, h⟩ := zld h
  refine em_iastG dX12_init_600 (zKdB_has g303) (N := (D297 (((((((((((((n + 1) + 1) + 1) + 1) + 1) + 1) + 1) + 1) + 1) + 1) + 1) + 1) + 1)).2) rfl g430 e432 ?_
  refine ev_dup dX12_init_601 rfl ?_
  refine ev_bipush dX12_init_602 (v := (43 : Int32)) zcb_43 ?_
  refine ev_bipush dX12_init_604 (v := (101 : Int32)) zcb_101 ?_
  obtain ⟨g433, h⟩ := zgd h
  obtain ⟨J434, e435, h⟩ := zld h
  refine em_iastG dX12_init_606 (zKdB_has g303) (N := (D297 (((((((((((((n + 1) + 1) + 1) + 1) + 1) + 1) + 1) + 1) + 1) + 1) + 1) + 1) + 1)).2) rfl g433 e435 ?_
  refine ev_dup dX12_init_607 rfl ?_
  refine ev_bipush dX12_init_608 (v := (44 : Int32)) zcb_44 ?_
  refine ev_bipush dX12_init_610 (v := (32 : Int32)) zcb_32 ?_
  obtain ⟨g436, h⟩ := zgd h
  obtain ⟨J437, e438, h⟩ := zld h
  refine em_iastG dX12_init_612 (zKdB_has g303) (N := (D297 (((((((((((((n + 1) + 1) + 1) + 1) + 1) + 1) + 1) + 1) + 1) + 1) + 1) + 1) + 1)).2) rfl g436 e438 ?_
  refine ev_dup dX12_init_613 rfl ?_
  refine ev_bipush dX12_init_614 (v := (45 : Int32)) zcb_45 ?_
  refine ev_bipush dX12_init_616 (v := (32 : Int32)) zcb_32 ?_
  obtain ⟨g439, h⟩ := zgd h
  obtain ⟨J440, e441, h⟩ := zld h
  refine em_iastG dX12_init_618 (zKdB_has g303) (N := (D297 (((((((((((((n + 1) + 1) + 1) + 1) + 1) + 1) + 1) + 1) + 1) + 1) + 1) + 1) + 1)).2) rfl g439 e441 ?_
  refine ev_dup dX12_init_619 rfl ?_
  refine ev_bipush dX12_init_620 (v := (46 : Int32)) zcb_46 ?_
  refine ev_bipush dX12_init_622 (v := (32 : Int32)) zcb_32 ?_
  obtain ⟨g442, h⟩ := zgd h
  obtain ⟨J443, e444, h⟩ := zld h
  refine em_iastG dX12_init_624 (zKdB_has g303) (N := (D297 (((((((((((((n + 1) + 1) + 1) + 1) + 1) + 1) + 1) + 1) + 1) + 1) + 1) + 1) + 1)).2) rfl g442 e444 ?_
  refine ev_dup dX12_init_625 rfl ?_
  refine ev_bipush dX12_init_626 (v := (47 : Int32)) zcb_47 ?_
  refine ev_bipush dX12_init_628 (v := (32 : Int32)) zcb_32 ?_
  obtain ⟨g445, h⟩ := zgd h
  obtain ⟨J446, e447, h⟩ := zld h
  refine em_iastG dX12_init_630 (zKdB_has g303) (N := (D297 (((((((((((((n + 1) + 1) + 1) + 1) + 1) + 1) + 1) + 1) + 1) + 1) + 1) + 1) + 1)).2) rfl g445 e447 ?_
  refine ev_dup dX12_init_631 rfl ?_
  refine ev_bipush dX12_init_632 (v := (48 : Int32)) zcb_48 ?_
  refine ev_bipush dX12_init_634 (v := (108 : Int32)) zcb_108 ?_
  obtain ⟨g448, h⟩ := zgd h
  obtain ⟨J449, e450, h⟩ := zld h
  refine em_iastG dX12_init_636 (zKdB_has g303) (N := (D297 (((((((((((((n + 1) + 1) + 1) + 1) + 1) + 1) + 1) + 1) + 1) + 1) + 1) + 1) + 1)).2) rfl g448 e450 ?_
  refine ev_dup dX12_init_637 rfl ?_
  refine ev_bipush dX12_init_638 (v := (49 : Int32)) zcb_49 ?_
  refine ev_bipush dX12_init_640 (v := (101 : Int32)) zcb_101 ?_
  obtain ⟨g451, h⟩ := zgd h
  obtain ⟨J452, e453, h⟩ := zld h
  refine em_iastG dX12_init_642 (zKdB_has g303) (N := (D297 (((((((((((((n + 1) + 1) + 1) + 1) + 1) + 1) + 1) + 1) + 1) + 1) + 1) + 1) + 1)).2) rfl g451 e453 ?_
  refine ev_dup dX12_init_643 rfl ?_
  refine ev_bipush dX12_init_644 (v := (50 : Int32)) zcb_50 ?_
  refine ev_bipush dX12_init_646 (v := (102 : Int32)) zcb_102 ?_
  obtain ⟨g454, h⟩ := zgd h
  obtain ⟨J455, e456, h⟩ := zld h
  refine em_iastG dX12_init_648 (zKdB_has g303) (N := (D297 (((((((((((((n + 1) + 1) + 1) + 1) + 1) + 1) + 1) + 1) + 1) + 1) + 1) + 1) + 1)).2) rfl g454 e456 ?_
  refine ev_dup dX12_init_649 rfl ?_
  refine ev_bipush dX12_init_650 (v := (51 : Int32)) zcb_51 ?_
  refine ev_bipush dX12_init_652 (v := (116 : Int32)) zcb_116 ?_
  obtain ⟨g457, h⟩ := zgd h
  obtain ⟨J458, e459, h⟩ := zld h
  refine em_iastG dX12_init_654 (zKdB_has g303) (N := (D297 (((((((((((((n + 1) + 1) + 1) + 1) + 1) + 1) + 1) + 1) + 1) + 1) + 1) + 1) + 1)).2) rfl g457 e459 ?_
  refine ev_dup dX12_init_655 rfl ?_
  refine ev_bipush dX12_init_656 (v := (52 : Int32)) zcb_52 ?_
  refine ev_bipush dX12_init_658 (v := (32 : Int32)) zcb_32 ?_
  obtain ⟨g460, h⟩ := zgd h
  obtain ⟨J461, e462, h⟩ := zld h
  refine em_iastG dX12_init_660 (zKdB_has g303) (N := (D297 (((((((((((((n + 1) + 1) + 1) + 1) + 1) + 1) + 1) + 1) + 1) + 1) + 1) + 1) + 1)).2) rfl g460 e462 ?_
  refine ev_dup dX12_init_661 rfl ?_
  refine ev_bipush dX12_init_662 (v := (53 : Int32)) zcb_53 ?_
  refine ev_bipush dX12_init_664 (v := (32 : Int32)) zcb_32 ?_
  obtain ⟨g463, h⟩ := zgd h
  obtain ⟨J464, e465, h⟩ := zld h
  refine em_iastG dX12_init_666 (zKdB_has g303) (N := (D297 (((((((((((((n + 1) + 1) + 1) + 1) + 1) + 1) + 1) + 1) + 1) + 1) + 1) + 1) + 1)).2) rfl g463 e465 ?_
  refine ev_dup dX12_init_667 rfl ?_
  refine ev_bipush dX12_init_668 (v := (54 : Int32)) zcb_54 ?_
  refine ev_bipush dX12_init_670 (v := (32 : Int32)) zcb_32 ?_
  obtain ⟨g466, h⟩ := zgd h
  obtain ⟨J467, e468, h⟩ := zld h
  refine em_iastG dX12_init_672 (zKdB_has g303) (N := (D297 (((((((((((((n + 1) + 1) + 1) + 1) + 1) + 1) + 1) + 1) + 1) + 1) + 1) + 1) + 1)).2) rfl g466 e468 ?_
  refine ev_dup dX12_init_673 rfl ?_
  refine ev_bipush dX12_init_674 (v := (55 : Int32)) zcb_55 ?_
  refine ev_bipush dX12_init_676 (v := (32 : Int32)) zcb_32 ?_
  obtain ⟨g469, h⟩ := zgd h
  obtain ⟨J470, e471, h⟩ := zld h
  refine em_iastG dX12_init_678 (zKdB_has g303) (N := (D297 (((((((((((((n + 1) + 1) + 1) + 1) + 1) + 1) + 1) + 1) + 1) + 1) + 1) + 1) + 1)).2) rfl g469 e471 ?_
  refine ev_dup dX12_init_679 rfl ?_
  refine ev_bipush dX12_init_680 (v := (56 : Int32)) zcb_56 ?_
  refine ev_bipush dX12_init_682 (v := (100 : Int32)) zcb_100 ?_
  obtain ⟨g472, h⟩ := zgd h
  obtain ⟨J473, e474, h⟩ := zld h
  refine em_iastG dX12_init_684 (zKdB_has g303) (N := (D297 (((((((((((((n + 1) + 1) + 1) + 1) + 1) + 1) + 1) + 1) + 1) + 1) + 1) + 1) + 1)).2) rfl g472 e474 ?_
  refine ev_dup dX12_init_685 rfl ?_
  refine ev_bipush dX12_init_686 (v := (57 : Int32)) zcb_57 ?_
  refine ev_bipush dX12_init_688 (v := (111 : Int32)) zcb_111 ?_
  obtain ⟨g475, h⟩ := zgd h
  obtain ⟨J476, e477, h⟩ := zld h
  refine em_iastG dX12_init_690 (zKdB_has g303) (N := (D297 (((((((((((((n + 1) + 1) + 1) + 1) + 1) + 1) + 1) + 1) + 1) + 1) + 1) + 1) + 1)).2) rfl g475 e477 ?_
  refine ev_dup dX12_init_691 rfl ?_
  refine ev_bipush dX12_init_692 (v := (58 : Int32)) zcb_58 ?_
  refine ev_bipush dX12_init_694 (v := (110 : Int32)) zcb_110 ?_
  obtain ⟨g478, h⟩ := zgd h
  obtain ⟨J479, e480, h⟩ := zld h
  refine em_iastG dX12_init_696 (zKdB_has g303) (N := (D297 (((((((((((((n + 1) + 1) + 1) + 1) + 1) + 1) + 1) + 1) + 1) + 1) + 1) + 1) + 1)).2) rfl g478 e480 ?_
  refine ev_dup dX12_init_697 rfl ?_
  refine ev_bipush dX12_init_698 (v := (59 : Int32)) zcb_59 ?_
  refine ev_bipush dX12_init_700 (v := (101 : Int32)) zcb_101 ?_
  obtain ⟨g481, h⟩ := zgd h
  obtain ⟨J482, e483, h⟩ := zld h
  refine em_iastG dX12_init_702 (zKdB_has g303) (N := (D297 (((((((((((((n + 1) + 1) + 1) + 1) + 1) + 1) + 1) + 1) + 1) + 1) + 1) + 1) + 1)).2) rfl g481 e483 ?_
  refine ev_dup dX12_init_703 rfl ?_
  refine ev_bipush dX12_init_704 (v := (60 : Int32)) zcb_60 ?_
  refine ev_bipush dX12_init_706 (v := (32 : Int32)) zcb_32 ?_
  obtain ⟨g484, h⟩ := zgd h
  obtain ⟨J485, e486, h⟩ := zld h
  refine em_iastG dX12_init_708 (zKdB_has g303) (N := (D297 (((((((((((((n + 1) + 1) + 1) + 1) + 1) + 1) + 1) + 1) + 1) + 1) + 1) + 1) + 1)).2) rfl g484 e486 ?_
  refine ev_dup dX12_init_709 rfl ?_
  refine ev_bipush dX12_init_710 (v := (61 : Int32)) zcb_61 ?_
  refine ev_bipush dX12_init_712 (v := (32 : Int32)) zcb_32 ?_
  obtain ⟨g487, h⟩ := zgd h
  obtain ⟨J488, e489, h⟩ := zld h
  refine em_iastG dX12_init_714 (zKdB_has g303) (N := (D297 (((((((((((((n + 1) + 1) + 1) + 1) + 1) + 1) + 1) + 1) + 1) + 1) + 1) + 1) + 1)).2) rfl g487 e489 ?_
  refine ev_dup dX12_init_715 rfl ?_
  refine ev_bipush dX12_init_716 (v := (62 : Int32)) zcb_62 ?_
  refine ev_bipush dX12_init_718 (v := (32 : Int32)) zcb_32 ?_
  obtain ⟨g490, h⟩ := zgd h
  obtain ⟨J491, e492, h⟩ := zld h
  refine em_iastG dX12_init_720 (zKdB_has g303) (N := (D297 (((((((((((((n + 1) + 1) + 1) + 1) + 1) + 1) + 1) + 1) + 1) + 1) + 1) + 1) + 1)).2) rfl g490 e492 ?_
  refine ev_dup dX12_init_721 rfl ?_
  refine ev_bipush dX12_init_722 (v := (63 : Int32)) zcb_63 ?_
  refine ev_bipush dX12_init_724 (v := (32 : Int32)) zcb_32 ?_
  obtain ⟨g493, h⟩ := zgd h
  obtain ⟨J494, e495, h⟩ := zld h
  refine em_iastG dX12_init_726 (zKdB_has g303) (N := (D297 (((((((((((((n + 1) + 1) + 1) + 1) + 1) + 1) + 1) + 1) + 1) + 1) + 1) + 1) + 1)).2) rfl g493 e495 ?_
  refine ev_dup dX12_init_727 rfl ?_
  refine ev_bipush dX12_init_728 (v := (64 : Int32)) zcb_64 ?_
  refine ev_bipush dX12_init_730 (v := (109 : Int32)) zcb_109 ?_
  obtain ⟨g496, h⟩ := zgd h
  obtain ⟨J497, e498, h⟩ := zld h
  refine em_iastG dX12_init_732 (zKdB_has g303) (N := (D297 (((((((((((((n + 1) + 1) + 1) + 1) + 1) + 1) + 1) + 1) + 1) + 1) + 1) + 1) + 1)).2) rfl g496 e498 ?_
  refine ev_dup dX12_init_733 rfl ?_
  refine ev_bipush dX12_init_734 (v := (65 : Int32)) zcb_65 ?_
  refine ev_bipush dX12_init_736 (v := (97 : Int32)) zcb_97 ?_
  obtain ⟨g499, h⟩ := zgd h
  obtain ⟨J500, e501, h⟩ := zld h
  refine em_iastG dX12_init_738 (zKdB_has g303) (N := (D297 (((((((((((((n + 1) + 1) + 1) + 1) + 1) + 1) + 1) + 1) + 1) + 1) + 1) + 1) + 1)).2) rfl g499 e501 ?_
  refine ev_dup dX12_init_739 rfl ?_
  refine ev_bipush dX12_init_740 (v := (66 : Int32)) zcb_66 ?_
  refine ev_bipush dX12_init_742 (v := (110 : Int32)) zcb_110 ?_
  obtain ⟨g502, h⟩ := zgd h
  obtain ⟨J503, e504, h⟩ := zld h
  refine em_iastG dX12_init_744 (zKdB_has g303) (N := (D297 (((((((((((((n + 1) + 1) + 1) + 1) + 1) + 1) + 1) + 1) + 1) + 1) + 1) + 1) + 1)).2) rfl g502 e504 ?_
  refine ev_dup dX12_init_745 rfl ?_
  refine ev_bipush dX12_init_746 (v := (67 : Int32)) zcb_67 ?_
  refine ev_bipush dX12_init_748 (v := (121 : Int32)) zcb_121 ?_
  obtain ⟨g505, h⟩ := zgd h
  obtain ⟨J506, e507, h⟩ := zld h
  refine em_iastG dX12_init_750 (zKdB_has g303) (N := (D297 (((((((((((((n + 1) + 1) + 1) + 1) + 1) + 1) + 1) + 1) + 1) + 1) + 1) + 1) + 1)).2) rfl g505 e507 ?_
  refine ev_dup dX12_init_751 rfl ?_
  refine ev_bipush dX12_init_752 (v := (68 : Int32)) zcb_68 ?_
  refine ev_bipush dX12_init_754 (v := (32 : Int32)) zcb_32 ?_
  obtain ⟨g508, h⟩ := zgd h
  obtain ⟨J509, e510, h⟩ := zld h
  refine em_iastG dX12_init_756 (zKdB_has g303) (N := (D297 (((((((((((((n + 1) + 1) + 1) + 1) + 1) + 1) + 1) + 1) + 1) + 1) + 1) + 1) + 1)).2) rfl g508 e510 ?_
  refine ev_dup dX12_init_757 rfl ?_
  refine ev_bipush dX12_init_758 (v := (69 : Int32)) zcb_69 ?_
  refine ev_bipush dX12_init_760 (v := (32 : Int32)) zcb_32 ?_
  obtain ⟨g511, h⟩ := zgd h
  obtain ⟨J512, e513, h⟩ := zld h
  refine em_iastG dX12_init_762 (zKdB_has g303) (N := (D297 (((((((((((((n + 1) + 1) + 1) + 1) + 1) + 1) + 1) + 1) + 1) + 1) + 1) + 1) + 1)).2) rfl g511 e513 ?_
  refine ev_dup dX12_init_763 rfl ?_
  refine ev_bipush dX12_init_764 (v := (70 : Int32)) zcb_70 ?_
  refine ev_bipush dX12_init_766 (v := (32 : Int32)) zcb_32 ?_
  obtain ⟨g514, h⟩ := zgd h
  obtain ⟨J515, e516, h⟩ := zld h
  refine em_iastG dX12_init_768 (zKdB_has g303) (N := (D297 (((((((((((((n + 1) + 1) + 1) + 1) + 1) + 1) + 1) + 1) + 1) + 1) + 1) + 1) + 1)).2) rfl g514 e516 ?_
  refine ev_dup dX12_init_769 rfl ?_
  refine ev_bipush dX12_init_770 (v := (71 : Int32)) zcb_71 ?_
  refine ev_bipush dX12_init_772 (v := (32 : Int32)) zcb_32 ?_
  obtain ⟨g517, h⟩ := zgd h
  obtain ⟨J518, e519, h⟩ := zld h
  refine em_iastG dX12_init_774 (zKdB_has g303) (N := (D297 (((((((((((((n + 1) + 1) + 1) + 1) + 1) + 1) + 1) + 1) + 1) + 1) + 1) + 1) + 1)).2) rfl g517 e519 ?_
  refine ev_dup dX12_init_775 rfl ?_
  refine ev_bipush dX12_init_776 (v := (72 : Int32)) zcb_72 ?_
  refine ev_bipush dX12_init_778 (v := (111 : Int32)) zcb_111 ?_
  obtain ⟨g520, h⟩ := zgd h
  obtain ⟨J521, e522, h⟩ := zld h
  refine em_iastG dX12_init_780 (zKdB_has g303) (N := (D297 (((((((((((((n + 1) + 1) + 1) + 1) + 1) + 1) + 1) + 1) + 1) + 1) + 1) + 1) + 1)).2) rfl g520 e522 ?_
  refine ev_dup dX12_init_781 rfl ?_
  refine ev_bipush dX12_init_782 (v := (73 : Int32)) zcb_73 ?_
  refine ev_bipush dX12_init_784 (v := (114 : Int32)) zcb_114 ?_
  obtain ⟨g523, h⟩ := zgd h
  obtain ⟨J524, e525, h⟩ := zld h
  refine em_iastG dX12_init_786 (zKdB_has g303) (N := (D297 (((((((((((((n + 1) + 1) + 1) + 1) + 1) + 1) + 1) + 1) + 1) + 1) + 1) + 1) + 1)).2) rfl g523 e525 ?_
  refine ev_dup dX12_init_787 rfl ?_
  refine ev_bipush dX12_init_788 (v := (74 : Int32)) zcb_74 ?_
  refine ev_bipush dX12_init_790 (v := (32 : Int32)) zcb_32 ?_
  obtain ⟨g526, h⟩ := zgd h
  obtain ⟨J527, e528, h⟩ := zld h
  refine em_iastG dX12_init_792 (zKdB_has g303) (N := (D297 (((((((((((((n + 1) + 1) + 1) + 1) + 1) + 1) + 1) + 1) + 1) + 1) + 1) + 1) + 1)).2) rfl g526 e528 ?_
  refine ev_dup dX12_init_793 rfl ?_
  refine ev_bipush dX12_init_794 (v := (75 : Int32)) zcb_75 ?_
  refine ev_bipush dX12_init_796 (v := (32 : Int32)) zcb_32 ?_
  obtain ⟨g529, h⟩ := zgd h
  obtain ⟨J530, e531, h⟩ := zld h
  refine em_iastG dX12_init_798 (zKdB_has g303) (N := (D297 (((((((((((((n + 1) + 1) + 1) + 1) + 1) + 1) + 1) + 1) + 1) + 1) + 1) + 1) + 1)).2) rfl g529 e531 ?_
  refine ev_dup dX12_init_799 rfl ?_
  refine ev_bipush dX12_init_800 (v := (76 : Int32)) zcb_76 ?_
  refine ev_bipush dX12_init_802 (v := (32 : Int32)) zcb_32 ?_
  obtain ⟨g532, h⟩ := zgd h
  obtain ⟨J533, e534, h⟩ := zld h
  refine em_iastG dX12_init_804 (zKdB_has g303) (N := (D297 (((((((((((((n + 1) + 1) + 1) + 1) + 1) + 1) + 1) + 1) + 1) + 1) + 1) + 1) + 1)).2) rfl g532 e534 ?_
  refine ev_dup dX12_init_805 rfl ?_
  refine ev_bipush dX12_init_806 (v := (77 : Int32)) zcb_77 ?_
  refine ev_bipush dX12_init_808 (v := (32 : Int32)) zcb_32 ?_
  obtain ⟨g535, h⟩ := zgd h
  obtain ⟨J536, e537, h⟩ := zld h
  refine em_iastG dX12_init_810 (zKdB_has g303) (N := (D297 (((((((((((((n + 1) + 1) + 1) + 1) + 1) + 1) + 1) + 1) + 1) + 1) + 1) + 1) + 1)).2) rfl g535 e537 ?_
  refine ev_dup dX12_init_811 rfl ?_
  refine ev_bipush dX12_init_812 (v := (78 : Int32)) zcb_78 ?_
  refine ev_bipush dX12_init_814 (v := (32 : Int32)) zcb_32 ?_
  obtain ⟨g538, h⟩ := zgd h
  obtain ⟨J539, e540, h⟩ := zld h
  refine em_iastG dX12_init_816 (zKdB_has g303) (N := (D297 (((((((((((((n + 1) + 1) + 1) + 1) + 1) + 1) + 1) + 1) + 1) + 1) + 1) + 1) + 1)).2) rfl g538 e540 ?_
  refine ev_dup dX12_init_817 rfl ?_
  refine ev_bipush dX12_init_818 (v := (79 : Int32)) zcb_79 ?_
  refine ev_bipush dX12_init_820 (v := (32 : Int32)) zcb_32 ?_
  obtain ⟨g541, h⟩ := zgd h
  obtain ⟨J542, e543, h⟩ := zld h
  refine em_iastG dX12_init_822 (zKdB_has g303) (N := (D297 (((((((((((((n + 1) + 1) + 1) + 1) + 1) + 1) + 1) + 1) + 1) + 1) + 1) + 1) + 1)).2) rfl g541 e543 ?_
  refine ev_dup dX12_init_823 rfl ?_
  refine ev_bipush dX12_init_824 (v := (80 : Int32)) zcb_80 ?_
  refine ev_bipush dX12_init_826 (v := (97 : Int32)) zcb_97 ?_
  obtain ⟨g544, h⟩ := zgd h
  obtain ⟨J545, e546, h⟩ := zld h
  refine em_iastG dX12_init_828 (zKdB_has g303) (N := (D297 (((((((((((((n + 1) + 1) + 1) + 1) + 1) + 1) + 1) + 1) + 1) + 1) + 1) + 1) + 1)).2) rfl g544 e546 ?_
  refine ev_dup dX12_init_829 rfl ?_
  refine ev_bipush dX12_init_830 (v := (81 : Int32)) zcb_81 ?_
  refine ev_bipush dX12_init_832 (v := (110 : Int32)) zcb_110 ?_
  obtain ⟨g547, h⟩ := zgd h
  obtain ⟨J548, e549, h⟩ := zld h
  refine em_iastG dX12_init_834 (zKdB_has g303) (N := (D297 (((((((((((((n + 1) + 1) + 1) + 1) + 1) + 1) + 1) + 1) + 1) + 1) + 1) + 1) + 1)).2) rfl g547 e549 ?_
  refine ev_dup dX12_init_835 rfl ?_
  refine ev_bipush dX12_init_836 (v := (82 : Int32)) zcb_82 ?_
  refine ev_bipush dX12_init_838 (v := (100 : Int32)) zcb_100 ?_
  obtain ⟨g550, h⟩ := zgd h
  obtain ⟨J551, e552, h⟩ := zld h
  refine em_iastG dX12_init_840 (zKdB_has g303) (N := (D297 (((((((((((((n + 1) + 1) + 1) + 1) + 1) + 1) + 1) + 1) + 1) + 1) + 1) + 1) + 1)).2) rfl g550 e552 ?_
  refine ev_dup dX12_init_841 rfl ?_
  refine ev_bipush dX12_init_842 (v := (83 : Int32)) zcb_83 ?_
  refine ev_bipush dX12_init_844 (v := (32 : Int32)) zcb_32 ?_
  obtain ⟨g553, h⟩ := zgd h
  obtain ⟨J554, e555, h⟩ := zld h
  refine em_iastG dX12_init_846 (zKdB_has g303) (N := (D297 (((((((((((((n + 1) + 1) + 1) + 1) + 1) + 1) + 1) + 1) + 1) + 1) + 1) + 1) + 1)).2) rfl g553 e555 ?_
  refine ev_dup dX12_init_847 rfl ?_
  refine ev_bipush dX12_init_848 (v := (84 : Int32)) zcb_84 ?_
  refine ev_bipush dX12_init_850 (v := (32 : Int32)) zcb_32 ?_
  obtain ⟨g556, h⟩ := zgd h
  obtain ⟨J557, e558, h⟩ := zld h
  refine em_iastG dX12_init_852 (zKdB_has g303) (N := (D297 (((((((((((((n + 1) + 1) + 1) + 1) + 1) + 1) + 1) + 1) + 1) + 1) + 1) + 1) + 1)).2) rfl g556 e558 ?_
  refine ev_dup dX12_init_853 rfl ?_
  refine ev_bipush dX12_init_854 (v := (85 : Int32)) zcb_85 ?_
  refine ev_bipush dX12_init_856 (v := (32 : Int32)) zcb_32 ?_
  obtain ⟨g559, h⟩ := zgd h
  obtain ⟨J560, e561, h⟩ := zld h
  refine em_iastG dX12_init_858 (zKdB_has g303) (N := (D297 (((((((((((((n + 1) + 1) + 1) + 1) + 1) + 1) + 1) + 1) + 1) + 1) + 1) + 1) + 1)).2) rfl g559 e561 ?_
  refine ev_dup dX12_init_859 rfl ?_
  refine ev_bipush dX12_init_860 (v := (86 : Int32)) zcb_86 ?_
  refine ev_bipush dX12_init_862 (v := (32 : Int32)) zcb_32 ?_
  obtain ⟨g562, h⟩ := zgd h
  obtain ⟨J563, e564, h⟩ := zld h
  refine em_iastG dX12_init_864 (zKdB_has g303) (N := (D297 (((((((((((((n + 1) + 1) + 1) + 1) + 1) + 1) + 1) + 1) + 1) + 1) + 1) + 1) + 1)).2) rfl g562 e564 ?_
  refine ev_dup dX12_init_865 rfl ?_
  refine ev_bipush dX12_init_866 (v := (87 : Int32)) zcb_87 ?_
  refine ev_bipush dX12_init_868 (v := (32 : Int32)) zcb_32 ?_
  obtain ⟨g565, h⟩ := zgd h
  obtain ⟨J566, e567, h⟩ := zld h
  refine em_iastG dX12_init_870 (zKdB_has g303) (N := (D297 (((((((((((((n + 1) + 1) + 1) + 1) + 1) + 1) + 1) + 1) + 1) + 1) + 1) + 1) + 1)).2) rfl g565 e567 ?_
  refine ev_dup dX12_init_871 rfl ?_
  refine ev_bipush dX12_init_872 (v := (88 : Int32)) zcb_88 ?_
  refine ev_bipush dX12_init_874 (v := (110 : Int32)) zcb_110 ?_
  obtain ⟨g568, h⟩ := zgd h
  obtain ⟨J569, e570, h⟩ := zld h
  refine em_iastG dX12_init_876 (zKdB_has g303) (N := (D297 (((((((((((((n + 1) + 1) + 1) + 1) + 1) + 1) + 1) + 1) + 1) + 1) + 1) + 1) + 1)).2) rfl g568 e570 ?_
  refine ev_dup dX12_init_877 rfl ?_
  refine ev_bipush dX12_init_878 (v := (89 : Int32)) zcb_89 ?_
  refine ev_bipush dX12_init_880 (v := (111 : Int32)) zcb_111 ?_
  obtain ⟨g571, h⟩ := zgd h
  obtain ⟨J572, e573, h⟩ := zld h
  refine em_iastG dX12_init_882 (zKdB_has g303) (N := (D297 (((((((((((((n + 1) + 1) + 1) + 1) + 1) + 1) + 1) + 1) + 1) + 1) + 1) + 1) + 1)).2) rfl g571 e573 ?_
  refine ev_dup dX12_init_883 rfl ?_
  refine ev_bipush dX12_init_884 (v := (90 : Int32)) zcb_90 ?_
  refine ev_bipush dX12_init_886 (v := (116 : Int32)) zcb_116 ?_
  obtain ⟨g574, h⟩ := zgd h
  obtain ⟨J575, e576, h⟩ := zld h
  refine em_iastG dX12_init_888 (zKdB_has g303) (N := (D297 (((((((((((((n + 1) + 1) + 1) + 1) + 1) + 1) + 1) + 1) + 1) + 1) + 1) + 1) + 1)).2) rfl g574 e576 ?_
  refine ev_dup dX12_init_889 rfl ?_
  refine ev_bipush dX12_init_890 (v := (91 : Int32)) zcb_91 ?_
  refine ev_bipush dX12_init_892 (v := (32 : Int32)) zcb_32 ?_
  obtain ⟨g577, h⟩ := zgd h
  obtain ⟨J578, e579, h⟩ := zld h
  refine em_iastG dX12_init_894 (zKdB_has g303) (N := (D297 (((((((((((((n + 1) + 1) + 1) + 1) + 1) + 1) + 1) + 1) + 1) + 1) + 1) + 1) + 1)).2) rfl g577 e579 ?_
  refine ev_dup dX12_init_895 rfl ?_
  refine ev_bipush dX12_init_896 (v := (92 : Int32)) zcb_92 ?_
  refine ev_bipush dX12_init_898 (v := (32 : Int32)) zcb_32 ?_
  obtain ⟨g580, h⟩ := zgd h
  obtain ⟨J581, e582, h⟩ := zld h
  refine em_iastG dX12_init_900 (zKdB_has g303) (N := (D297 (((((((((((((n + 1) + 1) + 1) + 1) + 1) + 1) + 1) + 1) + 1) + 1) + 1) + 1) + 1)).2) rfl g580 e582 ?_
  refine ev_dup dX12_init_901 rfl ?_
  refine ev_bipush dX12_init_902 (v := (93 : Int32)) zcb_93 ?_
  refine ev_bipush dX12_init_904 (v := (32 : Int32)) zcb_32 ?_
  obtain ⟨g583, h⟩ := zgd h
  obtain ⟨J584, e585, h⟩ := zld h
  refine em_iastG dX12_init_906 (zKdB_has g303) (N := (D297 (((((((((((((n + 1) + 1) + 1) + 1) + 1) + 1) + 1) + 1) + 1) + 1) + 1) + 1) + 1)).2) rfl g583 e585 ?_
  refine ev_dup dX12_init_907 rfl ?_
  refine ev_bipush dX12_init_908 (v := (94 : Int32)) zcb_94 ?_
  refine ev_bipush dX12_init_910 (v := (32 : Int32)) zcb_32 ?_
  obtain ⟨g586, h⟩ := zgd h
  obtain ⟨J587, e588, h⟩ := zld h
  refine em_iastG dX12_init_912 (zKdB_has g303) (N := (D297 (((((((((((((n + 1) + 1) + 1) + 1) + 1) + 1) + 1) + 1) + 1) + 1) + 1) + 1) + 1)).2) rfl g586 e588 ?_
  refine ev_dup dX12_init_913 rfl ?_
  refine ev_bipush dX12_init_914 (v := (95 : Int32)) zcb_95 ?_
  refine ev_bipush dX12_init_916 (v := (32 : Int32)) zcb_32 ?_
  obtain ⟨g589, h⟩ := zgd h
  obtain ⟨J590, e591, h⟩ := zld h
  refine em_iastG dX12_init_918 (zKdB_has g303) (N := (D297 (((((((((((((n + 1) + 1) + 1) + 1) + 1) + 1) + 1) + 1) + 1) + 1) + 1) + 1) + 1)).2) rfl g589 e591 ?_
  obtain ⟨g592, h⟩ := zgd h
  obtain ⟨T593, e594, h⟩ := zld h
  refine cm_putO (o := some (((((((((((((n + 1) + 1) + 1) + 1) + 1) + 1) + 1) + 1) + 1) + 1) + 1) + 1) + 1)) dX12_init_919 zf_NineHeapsModel_53 (Or.inr ⟨rfl, rfl, rfl⟩) rfl hw (fun _ => rfl) (fun _ => rfl) rfl rfl (zKdB_has g592) e594 ?_
  refine ev_aload_n dX12_init_922 rfl rfl ?_
  refine ev_sipush dX12_init_923 (v := (200 : Int32)) zcs_200 ?_
  obtain ⟨D597, e598, h⟩ := zld h
  obtain ⟨J599, e600, h⟩ := zld h
  obtain ⟨T601, e602, h⟩ := zld h
  refine em_newIK (kc' := 17) (ks' := 692) dX12_init_926 (N := 200) (by decide) (by decide) (by decide) (by omega) (by omega) ?_
  rw [e598, e600, e602]
  obtain ⟨g603, h⟩ := zgd h
  obtain ⟨T604, e605, h⟩ := zld h
  refine cm_putO (o := some ((((((((((((((n + 1) + 1) + 1) + 1) + 1) + 1) + 1) + 1) + 1) + 1) + 1) + 1) + 1) + 1)) dX12_init_928 zf_NineHeapsModel_56 (Or.inr ⟨rfl, rfl, rfl⟩) rfl hw (fun _ => rfl) (fun _ => rfl) rfl rfl (zKdB_has g603) e605 ?_
  refine ev_aload_n dX12_init_931 rfl rfl ?_
  refine ev_sipush dX12_init_932 (v := (200 : Int32)) zcs_200 ?_
  obtain ⟨D608, e609, h⟩ := zld h
  obtain ⟨J610, e611, h⟩ := zld h
  obtain ⟨T612, e613, h⟩ := zld h
  refine em_newIK (kc' := 16) (ks' := 492) dX12_init_935 (N := 200) (by decide) (by decide) (by decide) (by omega) (by omega) ?_
  rw [e609, e611, e613]
  obtain ⟨g614, h⟩ := zgd h
  obtain ⟨T615, e616, h⟩ := zld h
  refine cm_putO (o := some (((((((((((((((n + 1) + 1) + 1) + 1) + 1) + 1) + 1) + 1) + 1) + 1) + 1) + 1) + 1) + 1) + 1)) dX12_init_937 zf_NineHeapsModel_59 (Or.inr ⟨rfl, rfl, rfl⟩) rfl hw (fun _ => rfl) (fun _ => rfl) rfl rfl (zKdB_has g614) e616 ?_
  refine ev_aload_n dX12_init_940 rfl rfl ?_
  refine ev_bipush dX12_init_941 (v := (6 : Int32)) zcb_6 ?_
  obtain ⟨D619, e620, h⟩ := zld h
  obtain ⟨J621, e622, h⟩ := zld h
  obtain ⟨T623, e624, h⟩ := zld h
  refine em_newIK (kc' := 15) (ks' := 486) dX12_init_943 (N := 6) (by decide) (by decide) (by decide) (by omega) (by omega) ?_
  rw [e620, e622, e624]
  obtain ⟨g625, h⟩ := zgd h
  obtain ⟨T626, e627, h⟩ := zld h
  refine cm_putO (o := some ((((((((((((((((n + 1) + 1) + 1) + 1) + 1) + 1) + 1) + 1) + 1) + 1) + 1) + 1) + 1) + 1) + 1) + 1)) dX12_init_945 zf_NineHeapsModel_62 (Or.inr ⟨rfl, rfl, rfl⟩) rfl hw (fun _ => rfl) (fun _ => rfl) rfl rfl (zKdB_has g625) e627 ?_
  refine ev_aload_n dX12_init_948 rfl rfl ?_
  refine ev_iconst dX12_init_949 (v := (5 : Int32)) zci_5 ?_
  obtain ⟨D630, e631, h⟩ := zld h
  obtain ⟨J632, e633, h⟩ := zld h
  obtain ⟨T634, e635, h⟩ := zld h
  refine em_newIK (kc' := 14) (ks' := 481) dX12_init_950 (N := 5) (by decide) (by decide) (by decide) (by omega) (by omega) ?_
  rw [e631, e633, e635]
  obtain ⟨g636, h⟩ := zgd h
  obtain ⟨T637, e638, h⟩ := zld h
  refine cm_putO (o := some (((((((((((((((((n + 1) + 1) + 1) + 1) + 1) + 1) + 1) + 1) + 1) + 1) + 1) + 1) + 1) + 1) + 1) + 1) + 1)) dX12_init_952 zf_NineHeapsModel_65 (Or.inr ⟨rfl, rfl, rfl⟩) rfl hw (fun _ => rfl) (fun _ => rfl) rfl rfl (zKdB_has g636) e638 ?_
  refine ev_aload_n dX12_init_955 rfl rfl ?_
  refine ev_iconst dX12_init_956 (v := (5 : Int32)) zci_5 ?_
  obtain ⟨D641, e642, h⟩ := zld h
  obtain ⟨J643, e644, h⟩ := zld h
  obtain ⟨T645, e646, h⟩ := zld h
  refine em_newIK (kc' := 13) (ks' := 476) dX12_init_957 (N := 5) (by decide) (by decide) (by decide) (by omega) (by omega) ?_
  rw [e642, e644, e646]
  obtain ⟨g647, h⟩ := zgd h
  obtain ⟨T648, e649, h⟩ := zld h
  refine cm_putO (o := some ((((((((((((((((((n + 1) + 1) + 1) + 1) + 1) + 1) + 1) + 1) + 1) + 1) + 1) + 1) + 1) + 1) + 1) + 1) + 1) + 1)) dX12_init_959 zf_NineHeapsModel_68 (Or.inr ⟨rfl, rfl, rfl⟩) rfl hw (fun _ => rfl) (fun _ => rfl) rfl rfl (zKdB_has g647) e649 ?_
  refine ev_aload_n dX12_init_962 rfl rfl ?_
  refine ev_iconst dX12_init_963 (v := (5 : Int32)) zci_5 ?_
  obtain ⟨D652, e653, h⟩ := zld h
  obtain ⟨J654, e655, h⟩ := zld h
  obtain ⟨T656, e657, h⟩ := zld h
  refine em_newIK (kc' := 12) (ks' := 471) dX12_init_964 (N := 5) (by decide) (by decide) (by decide) (by omega) (by omega) ?_
  rw [e653, e655, e657]
  obtain ⟨g658, h⟩ := zgd h
  obtain ⟨T659, e660, h⟩ := zld h
  refine cm_putO (o := some (((((((((((((((((((n + 1) + 1) + 1) + 1) + 1) + 1) + 1) + 1) + 1) + 1) + 1) + 1) + 1) + 1) + 1) + 1) + 1) + 1) + 1)) dX12_init_966 zf_NineHeapsModel_71 (Or.inr ⟨rfl, rfl, rfl⟩) rfl hw (fun _ => rfl) (fun _ => rfl) rfl rfl (zKdB_has g658) e660 ?_
  refine ev_aload_n dX12_init_969 rfl rfl ?_
  refine ev_iconst dX12_init_970 (v := (5 : Int32)) zci_5 ?_
  obtain ⟨D663, e664, h⟩ := zld h
  obtain ⟨J665, e666, h⟩ := zld h
  obtain ⟨T667, e668, h⟩ := zld h
  refine em_newIK (kc' := 11) (ks' := 466) dX12_init_971 (N := 5) (by decide) (by decide) (by decide) (by omega) (by omega) ?_
  rw [e664, e666, e668]
  obtain ⟨g669, h⟩ := zgd h
  obtain ⟨T670, e671, h⟩ := zld h
  refine cm_putO (o := some ((((((((((((((((((((n + 1) + 1) + 1) + 1) + 1) + 1) + 1) + 1) + 1) + 1) + 1) + 1) + 1) + 1) + 1) + 1) + 1) + 1) + 1) + 1)) dX12_init_973 zf_NineHeapsModel_74 (Or.inr ⟨rfl, rfl, rfl⟩) rfl hw (fun _ => rfl) (fun _ => rfl) rfl rfl (zKdB_has g669) e671 ?_
  refine ev_aload_n dX12_init_976 rfl rfl ?_
  refine ev_iconst dX12_init_977 (v := (5 : Int32)) zci_5 ?_
  obtain ⟨D674, e675, h⟩ := zld h
  obtain ⟨J676, e677, h⟩ := zld h
  obtain ⟨T678, e679, h⟩ := zld h
  refine em_newIK (kc' := 10) (ks' := 461) dX12_init_978 (N := 5) (by decide) (by decide) (by decide) (by omega) (by omega) ?_
  rw [e675, e677, e679]
  obtain ⟨g680, h⟩ := zgd h
  obtain ⟨T681, e682, h⟩ := zld h
  refine cm_putO (o := some (((((((((((((((((((((n + 1) + 1) + 1) + 1) + 1) + 1) + 1) + 1) + 1) + 1) + 1) + 1) + 1) + 1) + 1) + 1) + 1) + 1) + 1) + 1) + 1)) dX12_init_980 zf_NineHeapsModel_77 (Or.inr ⟨rfl, rfl, rfl⟩) rfl hw (fun _ => rfl) (fun _ => rfl) rfl rfl (zKdB_has g680) e682 ?_
  refine ev_aload_n dX12_init_983 rfl rfl ?_
  refine ev_iconst dX12_init_984 (v := (5 : Int32)) zci_5 ?_
  obtain ⟨D685, e686, h⟩ := zld h
  obtain ⟨J687, e688, h⟩ := zld h
  obtain ⟨T689, e690, h⟩ := zld h
  refine em_newIK (kc' := 9) (ks' := 456) dX12_init_985 (N := 5) (by decide) (by decide) (by decide) (by omega) (by omega) ?_
  rw [e686, e688, e690]
  obtain ⟨g691, h⟩ := zgd h
  obtain ⟨T692, e693, h⟩ := zld h
  refine cm_putO (o := some ((((((((((((((((((((((n + 1) + 1) + 1) + 1) + 1) + 1) + 1) + 1) + 1) + 1) + 1) + 1) + 1) + 1) + 1) + 1) + 1) + 1) + 1) + 1) + 1) + 1)) dX12_init_987 zf_NineHeapsModel_80 (Or.inr ⟨rfl, rfl, rfl⟩) rfl hw (fun _ => rfl) (fun _ => rfl) rfl rfl (zKdB_has g691) e693 ?_
  refine ev_aload_n dX12_init_990 rfl rfl ?_
  refine ev_iconst dX12_init_991 (v := (5 : Int32)) zci_5 ?_
  obtain ⟨D696, e697, h⟩ := zld h
  obtain ⟨J698, e699, h⟩ := zld h
  obtain ⟨T700, e701, h⟩ := zld h
  refine em_newIK (kc' := 8) (ks' := 451) dX12_init_992 (N := 5) (by decide) (by decide) (by decide) (by omega) (by omega) ?_
  rw [e697, e699, e701]
  obtain ⟨g702, h⟩ := zgd h
  obtain ⟨T703, e704, h⟩ := zld h
  refine cm_putO (o := some (((((((((((((((((((((((n + 1) + 1) + 1) + 1) + 1) + 1) + 1) + 1) + 1) + 1) + 1) + 1) + 1) + 1) + 1) + 1) + 1) + 1) + 1) + 1) + 1) + 1) + 1)) dX12_init_994 zf_NineHeapsModel_83 (Or.inr ⟨rfl, rfl, rfl⟩) rfl hw (fun _ => rfl) (fun _ => rfl) rfl rfl (zKdB_has g702) e704 ?_
  refine ev_aload_n dX12_init_997 rfl rfl ?_
  refine ev_iconst dX12_init_998 (v := (5 : Int32)) zci_5 ?_
  obtain ⟨D707, e708, h⟩ := zld h
  obtain ⟨J709, e710, h⟩ := zld h
  obtain ⟨T711, e712, h⟩ := zld h
  refine em_newIK (kc' := 7) (ks' := 446) dX12_init_999 (N := 5) (by decide) (by decide) (by decide) (by omega) (by omega) ?_
  rw [e708, e710, e712]
  obtain ⟨g713, h⟩ := zgd h
  obtain ⟨T714, e715, h⟩ := zld h
  refine cm_putO (o := some ((((((((((((((((((((((((n + 1) + 1) + 1) + 1) + 1) + 1) + 1) + 1) + 1) + 1) + 1) + 1) + 1) + 1) + 1) + 1) + 1) + 1) + 1) + 1) + 1) + 1) + 1) + 1)) dX12_init_1001 zf_NineHeapsModel_86 (Or.inr ⟨rfl, rfl, rfl⟩) rfl hw (fun _ => rfl) (fun _ => rfl) rfl rfl (zKdB_has g713) e715 ?_
  refine ev_aload_n dX12_init_1004 rfl rfl ?_
  refine ev_bipush dX12_init_1005 (v := (9 : Int32)) zcb_9 ?_
  obtain ⟨D718, e719, h⟩ := zld h
  obtain ⟨J720, e721, h⟩ := zld h
  obtain ⟨T722, e723, h⟩ := zld h
  refine em_newIK (kc' := 6) (ks' := 437) dX12_init_1007 (N := 9) (by decide) (by decide) (by decide) (by omega) (by omega) ?_
  rw [e719, e721, e723]
  obtain ⟨g724, h⟩ := zgd h
  obtain ⟨T725, e726, h⟩ := zld h
  refine cm_putO (o := some (((((((((((((((((((((((((n + 1) + 1) + 1) + 1) + 1) + 1) + 1) + 1) + 1) + 1) + 1) + 1) + 1) + 1) + 1) + 1) + 1) + 1) + 1) + 1) + 1) + 1) + 1) + 1) + 1)) dX12_init_1009 zf_NineHeapsModel_89 (Or.inr ⟨rfl, rfl, rfl⟩) rfl hw (fun _ => rfl) (fun _ => rfl) rfl rfl (zKdB_has g724) e726 ?_
  refine ev_aload_n dX12_init_1012 rfl rfl ?_
  refine ev_bipush dX12_init_1013 (v := (9 : Int32)) zcb_9 ?_
  obtain ⟨D729, e730, h⟩ := zld h
  obtain ⟨J731, e732, h⟩ := zld h
  obtain ⟨T733, e734, h⟩ := zld h
  refine em_newIK (kc' := 5) (ks' := 428) dX12_init_1015 (N := 9) (by decide) (by decide) (by decide) (by omega) (by omega) ?_
  rw [e730, e732, e734]
  obtain ⟨g735, h⟩ := zgd h
  obtain ⟨T736, e737, h⟩ := zld h
  refine cm_putO (o := some ((((((((((((((((((((((((((n + 1) + 1) + 1) + 1) + 1) + 1) + 1) + 1) + 1) + 1) + 1) + 1) + 1) + 1) + 1) + 1) + 1) + 1) + 1) + 1) + 1) + 1) + 1) + 1) + 1) + 1)) dX12_init_1017 zf_NineHeapsModel_92 (Or.inr ⟨rfl, rfl, rfl⟩) rfl hw (fun _ => rfl) (fun _ => rfl) rfl rfl (zKdB_has g735) e737 ?_
  refine ev_aload_n dX12_init_1020 rfl rfl ?_
  refine ev_bipush dX12_init_1021 (v := (9 : Int32)) zcb_9 ?_
  obtain ⟨D740, e741, h⟩ := zld h
  obtain ⟨J742, e743, h⟩ := zld h
  obtain ⟨T744, e745, h⟩ := zld h
  refine em_newIK (kc' := 4) (ks' := 419) dX12_init_1023 (N := 9) (by decide) (by decide) (by decide) (by omega) (by omega) ?_
  rw [e741, e743, e745]
  obtain ⟨g746, h⟩ := zgd h
  obtain ⟨T747, e748, h⟩ := zld h
  refine cm_putO (o := some (((((((((((((((((((((((((((n + 1) + 1) + 1) + 1) + 1) + 1) + 1) + 1) + 1) + 1) + 1) + 1) + 1) + 1) + 1) + 1) + 1) + 1) + 1) + 1) + 1) + 1) + 1) + 1) + 1) + 1) + 1)) dX12_init_1025 zf_NineHeapsModel_95 (Or.inr ⟨rfl, rfl, rfl⟩) rfl hw (fun _ => rfl) (fun _ => rfl) rfl rfl (zKdB_has g746) e748 ?_
  refine ev_aload_n dX12_init_1028 rfl rfl ?_
  refine ev_sipush dX12_init_1029 (v := (400 : Int32)) zcs_400 ?_
  obtain ⟨D751, e752, h⟩ := zld h
  obtain ⟨J753, e754, h⟩ := zld h
  obtain ⟨T755, e756, h⟩ := zld h
  refine em_newIK (kc' := 3) (ks' := 19) dX12_init_1032 (N := 400) (by decide) (by decide) (by decide) (by omega) (by omega) ?_
  rw [e752, e754, e756]
  obtain ⟨g757, h⟩ := zgd h
  obtain ⟨T758, e759, h⟩ := zld h
  refine cm_putO (o := some ((((((((((((((((((((((((((((n + 1) + 1) + 1) + 1) + 1) + 1) + 1) + 1) + 1) + 1) + 1) + 1) + 1) + 1) + 1) + 1) + 1) + 1) + 1) + 1) + 1) + 1) + 1) + 1) + 1) + 1) + 1) + 1)) dX12_init_1034 zf_NineHeapsModel_98 (Or.inr ⟨rfl, rfl, rfl⟩) rfl hw (fun _ => rfl) (fun _ => rfl) rfl rfl (zKdB_has g757) e759 ?_
  refine ev_aload_n dX12_init_1037 rfl rfl ?_
  refine ev_iconst dX12_init_1038 (v := (5 : Int32)) zci_5 ?_
  obtain ⟨D762, e763, h⟩ := zld h
  obtain ⟨J764, e765, h⟩ := zld h
  obtain ⟨T766, e767, h⟩ := zld h
  refine em_newIK (kc' := 2) (ks' := 14) dX12_init_1039 (N := 5) (by decide) (by decide) (by decide) (by omega) (by omega) ?_
  rw [e763, e765, e767]
  obtain ⟨g768, h⟩ := zgd h
  obtain ⟨T769, e770, h⟩ := zld h
  refine cm_putO (o := some (((((((((((((((((((((((((((((n + 1) + 1) + 1) + 1) + 1) + 1) + 1) + 1) + 1) + 1) + 1) + 1) + 1) + 1) + 1) + 1) + 1) + 1) + 1) + 1) + 1) + 1) + 1) + 1) + 1) + 1) + 1) + 1) + 1)) dX12_init_1041 zf_NineHeapsModel_101 (Or.inr ⟨rfl, rfl, rfl⟩) rfl hw (fun _ => rfl) (fun _ => rfl) rfl rfl (zKdB_has g768) e770 ?_
  refine ev_aload_n dX12_init_1044 rfl rfl ?_
  refine ev_iconst dX12_init_1045 (v := (5 : Int32)) zci_5 ?_
  obtain ⟨D773, e774, h⟩ := zld h
  obtain ⟨J775, e776, h⟩ := zld h
  obtain ⟨T777, e778, h⟩ := zld h
  refine em_newIK (kc' := 1) (ks' := 9) dX12_init_1046 (N := 5) (by decide) (by decide) (by decide) (by omega) (by omega) ?_
  rw [e774, e776, e778]
  obtain ⟨g779, h⟩ := zgd h
  obtain ⟨T780, e781, h⟩ := zld h
  refine cm_putO (o := some ((((((((((((((((((((((((((((((n + 1) + 1) + 1) + 1) + 1) + 1) + 1) + 1) + 1) + 1) + 1) + 1) + 1) + 1) + 1) + 1) + 1) + 1) + 1) + 1) + 1) + 1) + 1) + 1) + 1) + 1) + 1) + 1) + 1) + 1)) dX12_init_1048 zf_NineHeapsModel_104 (Or.inr ⟨rfl, rfl, rfl⟩) rfl hw (fun _ => rfl) (fun _ => rfl) rfl rfl (zKdB_has g779) e781 ?_
  refine ev_aload_n dX12_init_1051 rfl rfl ?_
  refine ev_bipush dX12_init_1052 (v := (9 : Int32)) zcb_9 ?_
  obtain ⟨D784, e785, h⟩ := zld h
  obtain ⟨J786, e787, h⟩ := zld h
  obtain ⟨T788, e789, h⟩ := zld h
  refine em_newIK (kc' := 0) (ks' := 0) dX12_init_1054 (N := 9) (by decide) (by decide) (by decide) (by omega) (by omega) ?_
  rw [e785, e787, e789]
  obtain ⟨g790, h⟩ := zgd h
  obtain ⟨T791, e792, h⟩ := zld h
  refine cm_putO (o := some (((((((((((((((((((((((((((((((n + 1) + 1) + 1) + 1) + 1) + 1) + 1) + 1) + 1) + 1) + 1) + 1) + 1) + 1) + 1) + 1) + 1) + 1) + 1) + 1) + 1) + 1) + 1) + 1) + 1) + 1) + 1) + 1) + 1) + 1) + 1)) dX12_init_1056 zf_NineHeapsModel_107 (Or.inr ⟨rfl, rfl, rfl⟩) rfl hw (fun _ => rfl) (fun _ => rfl) rfl rfl (zKdB_has g790) e792 ?_
  refine ev_iconst dX12_init_1059 (v := (0 : Int32)) zci_0 ?_
  refine ev_istore_n dX12_init_1060 rfl (by decide) rfl ?_
  exact EV.mask [true, true] rfl (EV.more (e12_initc_L1061 hw hd (fun l0' n' kd' I' R' h' => e12_initc_B1085 hw hd l0' n' kd' I' R' h') zF l0 (0 : Int32) ((((((((((((((((((((((((((((((((n + 1) + 1) + 1) + 1) + 1) + 1) + 1) + 1) + 1) + 1) + 1) + 1) + 1) + 1) + 1) + 1) + 1) + 1) + 1) + 1) + 1) + 1) + 1) + 1) + 1) + 1) + 1) + 1) + 1) + 1) + 1) + 1) D784 J786 T791 h) (Nat.le_refl _) (by omega) (by omega))
