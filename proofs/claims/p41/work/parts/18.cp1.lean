/-! the machine does as the functions say: laid by program -/
abbrev qJ7_fill_53178c (n : Nat) (kd : zMK) (R : zMR) (r : zMI) : Option Value → zM → Prop := fun v μ1 => v = none ∧ μ1 = (n, kd, r, R)
set_option maxHeartbeats 4000000 in
set_option maxRecDepth 100000 in
theorem eJ7_fill_53178c_L5 {w : zW} {d : Nat} {n : Nat} {kd : zMK} {R : zMR} {r : zMI}  (hw : ∀ a k, zst w a k = none) (hd : 1 ≤ d)  : ∀ (q : Nat) (l0 : Nat) (l1 : Int32) (l2 : Int32) (l3 : Int32) (I : zMI), fJ7_fill_53178c_L5 n kd q l0 l1 l2 l3 I = some r → EV w d 0 0 YJ7_fill_53178 5 [some (.ref l0), some (.int l1), some (.int l2), some (.int l3)] [] (n, kd, I, R) (qJ7_fill_53178c n kd R r) := by
  intro q
  induction q with
  | zero =>
    intro l0 l1 l2 l3 I h
    cases h
  | succ q ih =>
    intro l0 l1 l2 l3 I h
    unfold fJ7_fill_53178c_L5 at h
    refine ev_iload_n dJ7_fill_53178_5 rfl rfl ?_
    refine ev_iload_n dJ7_fill_53178_6 rfl rfl ?_
    refine ev_icmp_ge dJ7_fill_53178_7 (tgt := 20) (by decide) (fun c1 => ?_) (fun c1 => ?_)
    · replace h := zit c1 h
      obtain rfl := Option.some.inj h
      exact ev_end_v dJ7_fill_53178_20 rfl ⟨rfl, rfl⟩
    · replace h := zif c1 h
      refine ev_aload_n dJ7_fill_53178_10 rfl rfl ?_
      refine ev_iload_n dJ7_fill_53178_11 rfl rfl ?_
      refine ev_iload_n dJ7_fill_53178_12 rfl rfl ?_
      obtain ⟨g2, h⟩ := zgd h
      obtain ⟨g3, h⟩ := zgd h
      obtain ⟨J4, e5, h⟩ := zld h
      refine em_iastG dJ7_fill_53178_13 (zKdC_has g2) (N := (kd l0).2) rfl g3 e5 ?_
      refine ev_iinc dJ7_fill_53178_14 (v := l2 + (1 : Int32)) rfl rfl (by decide) rfl ?_
      refine ev_goto dJ7_fill_53178_17 (tgt := 5) (by decide) ?_
      exact EV.mask [true, true, true, true] rfl (EV.more (ih l0 l1 (l2 + (1 : Int32)) l3 J4 h) (Nat.le_refl _) (by omega) (by omega))
set_option maxHeartbeats 4000000 in
set_option maxRecDepth 100000 in
theorem eJ7_fill_53178c {w : zW} {d : Nat} {n : Nat} {kd : zMK} {I : zMI} {R : zMR} {r : zMI} {l0 : Nat} {l1 : Int32} (hw : ∀ a k, zst w a k = none) (hd : 1 ≤ d) (h : fJ7_fill_53178c n kd l0 l1 I = some r) : EV w d 0 0 YJ7_fill_53178 0 [some (.ref l0), some (.int l1), none, none] [] (n, kd, I, R) (qJ7_fill_53178c n kd R r) := by
  unfold fJ7_fill_53178c at h
  refine ev_iconst dJ7_fill_53178_0 (v := (0 : Int32)) zci_0 ?_
  refine ev_istore_n dJ7_fill_53178_1 rfl (by decide) rfl ?_
  refine ev_aload_n dJ7_fill_53178_2 rfl rfl ?_
  obtain ⟨g6, h⟩ := zgd h
  refine em_alen dJ7_fill_53178_3 (zKdC_has g6) (by decide) rfl rfl ?_
  obtain ⟨x7, e8, h⟩ := zld h
  refine ev_nm e8 ?_
  refine ev_istore_n dJ7_fill_53178_4 rfl (by decide) rfl ?_
  exact EV.mask [true, true, true, true] rfl (EV.more (eJ7_fill_53178c_L5 hw hd zF l0 l1 (0 : Int32) x7 I h) (Nat.le_refl _) (by omega) (by omega))
abbrev q3_boundedc (n : Nat) (kd : zMK) (I : zMI) (R : zMR) (r : Int32) : Option Value → zM → Prop := fun v μ1 => v = some (.int r) ∧ μ1 = (n, kd, I, R)
set_option maxHeartbeats 4000000 in
set_option maxRecDepth 100000 in
theorem e3_boundedc {w : zW} {d : Nat} {n : Nat} {kd : zMK} {I : zMI} {R : zMR} {r : Int32} {l0 : Int32} {l1 : Int32} (hw : ∀ a k, zst w a k = none) (hd : 2 ≤ d) (h : f3_boundedc l0 l1 = some r) : EV w d 0 0 Y3_bounded 0 [some (.int l0), some (.int l1)] [] (n, kd, I, R) (q3_boundedc n kd I R r) := by
  unfold f3_boundedc at h
  refine ev_iload_n dX3_bounded_0 rfl rfl ?_
  refine ev_iconst dX3_bounded_1 (v := (2 : Int32)) zci_2 ?_
  refine ev_icmp_ne dX3_bounded_2 (tgt := 18) (by decide) (fun c1 => ?_) (fun c1 => ?_)
  · replace h := zif c1 h
    refine ev_bipush dX3_bounded_18 (v := (20 : Int32)) zcb_20 ?_
    refine ev_iconst dX3_bounded_20 (v := (1 : Int32)) zci_1 ?_
    refine ev_iload_n dX3_bounded_21 rfl rfl ?_
    obtain ⟨x2, e3, h⟩ := zld h
    refine ev_max dX3_bounded_22 zl_NineHeaps_Law_45 zmm_max_s zn_java_lang_Math zmm_max_c (by omega) (Nat.le_of_ble_eq_true rfl) e3 ?_
    obtain ⟨x4, e5, h⟩ := zld h
    refine ev_min dX3_bounded_25 zl_NineHeaps_Law_58 zmm_min_s zn_java_lang_Math zmm_min_c (by omega) (Nat.le_of_ble_eq_true rfl) e5 ?_
    obtain rfl := Option.some.inj h
    exact ev_end_i dX3_bounded_28 rfl rfl ⟨rfl, rfl⟩
  · replace h := zit c1 h
    refine ev_bipush dX3_bounded_5 (v := (99 : Int32)) zcb_99 ?_
    refine ev_iconst dX3_bounded_7 (v := (0 : Int32)) zci_0 ?_
    refine ev_iload_n dX3_bounded_8 rfl rfl ?_
    obtain ⟨x6, e7, h⟩ := zld h
    refine ev_max dX3_bounded_9 zl_NineHeaps_Law_45 zmm_max_s zn_java_lang_Math zmm_max_c (by omega) (Nat.le_of_ble_eq_true rfl) e7 ?_
    obtain ⟨x8, e9, h⟩ := zld h
    refine ev_min dX3_bounded_12 zl_NineHeaps_Law_58 zmm_min_s zn_java_lang_Math zmm_min_c (by omega) (Nat.le_of_ble_eq_true rfl) e9 ?_
    refine ev_goto dX3_bounded_15 (tgt := 28) (by decide) ?_
    obtain rfl := Option.some.inj h
    exact ev_end_i dX3_bounded_28 rfl rfl ⟨rfl, rfl⟩
abbrev q3_initc  (r : (Nat × zMK) × zMI × zMR) : Option Value → zM → Prop := fun v μ1 => v = none ∧ μ1 = ((r.1).1, (r.1).2, r.2.1, r.2.2)
set_option maxHeartbeats 4000000 in
set_option maxRecDepth 100000 in
theorem e3_initc_B126 {w : zW} {d : Nat}  {r : (Nat × zMK) × zMI × zMR} {k51 : Nat → Int32 → Nat → zMK → zMI → zMR → Option ((Nat × zMK) × zMI × zMR)} (hw : ∀ a k, zst w a k = none) (hd : 3 ≤ d) (hk51 : ∀ (l0 : Nat) (l3 : Int32) (n : Nat) (kd : zMK) (I : zMI) (R : zMR), k51 l0 l3 n kd I R = some r → EV w d 0 0 Y3_init 51 [some (.ref l0), some (.ref 0), some (.ref 1), some (.int l3), none] [] (n, kd, I, R) (q3_initc  r)) : ∀ (l0 : Nat) (l3 : Int32) (n : Nat) (kd : zMK) (I : zMI) (R : zMR), f3_initc_B126 k51 l0 l3 n kd I R = some r → EV w d 0 0 Y3_init 126 [some (.ref l0), some (.ref 0), some (.ref 1), some (.int l3), none] [] (n, kd, I, R) (q3_initc  r) := by
  intro l0 l3 n kd I R h
  unfold f3_initc_B126 at h
  refine ev_iinc dX3_init_126 (v := l3 + (1 : Int32)) rfl rfl (by decide) rfl ?_
  refine ev_goto dX3_init_129 (tgt := 51) (by decide) ?_
  exact EV.mask [true, true, true, true, false] rfl (EV.more (hk51 l0 (l3 + (1 : Int32)) n kd I R h) (Nat.le_refl _) (by omega) (by omega))
set_option maxHeartbeats 4000000 in
set_option maxRecDepth 100000 in
theorem e3_initc_B125 {w : zW} {d : Nat}  {r : (Nat × zMK) × zMI × zMR} {k51 : Nat → Int32 → Nat → zMK → zMI → zMR → Option ((Nat × zMK) × zMI × zMR)} (hw : ∀ a k, zst w a k = none) (hd : 3 ≤ d) (hk51 : ∀ (l0 : Nat) (l3 : Int32) (n : Nat) (kd : zMK) (I : zMI) (R : zMR), k51 l0 l3 n kd I R = some r → EV w d 0 0 Y3_init 51 [some (.ref l0), some (.ref 0), some (.ref 1), some (.int l3), none] [] (n, kd, I, R) (q3_initc  r)) : ∀ (l0 : Nat) (l3 : Int32) (s0 : Nat) (s1 : Int32) (s2 : Int32) (n : Nat) (kd : zMK) (I : zMI) (R : zMR), f3_initc_B125 k51 l0 l3 s0 s1 s2 n kd I R = some r → EV w d 0 0 Y3_init 125 [some (.ref l0), some (.ref 0), some (.ref 1), some (.int l3), none] [.int s2, .int s1, .ref s0] (n, kd, I, R) (q3_initc  r) := by
  intro l0 l3 s0 s1 s2 n kd I R h
  unfold f3_initc_B125 at h
  obtain ⟨g1, h⟩ := zgd h
  obtain ⟨g2, h⟩ := zgd h
  obtain ⟨J3, e4, h⟩ := zld h
  refine em_iastG dX3_init_125 (zKdC_has g1) (N := (kd s0).2) rfl g2 e4 ?_
  exact EV.mask [true, true, true, true, false] rfl (EV.more (e3_initc_B126 hw hd hk51 l0 l3 n kd J3 R h) (Nat.le_refl _) (by omega) (by omega))
set_option maxHeartbeats 4000000 in
set_option maxRecDepth 100000 in
theorem e3_initc_B124 {w : zW} {d : Nat}  {r : (Nat × zMK) × zMI × zMR} {k51 : Nat → Int32 → Nat → zMK → zMI → zMR → Option ((Nat × zMK) × zMI × zMR)} (hw : ∀ a k, zst w a k = none) (hd : 3 ≤ d) (hk51 : ∀ (l0 : Nat) (l3 : Int32) (n : Nat) (kd : zMK) (I : zMI) (R : zMR), k51 l0 l3 n kd I R = some r → EV w d 0 0 Y3_init 51 [some (.ref l0), some (.ref 0), some (.ref 1), some (.int l3), none] [] (n, kd, I, R) (q3_initc  r)) : ∀ (l0 : Nat) (l3 : Int32) (s0 : Nat) (s1 : Int32) (n : Nat) (kd : zMK) (I : zMI) (R : zMR), f3_initc_B124 k51 l0 l3 s0 s1 n kd I R = some r → EV w d 0 0 Y3_init 124 [some (.ref l0), some (.ref 0), some (.ref 1), some (.int l3), none] [.int s1, .ref s0] (n, kd, I, R) (q3_initc  r) := by
  intro l0 l3 s0 s1 n kd I R h
  unfold f3_initc_B124 at h
  refine ev_iconst dX3_init_124 (v := (-1 : Int32)) zci_m1 ?_
  exact EV.mask [true, true, true, true, false] rfl (EV.more (e3_initc_B125 hw hd hk51 l0 l3 s0 s1 (-1 : Int32) n kd I R h) (Nat.le_refl _) (by omega) (by omega))
set_option maxHeartbeats 4000000 in
set_option maxRecDepth 100000 in
theorem e3_initc_L51 {w : zW} {d : Nat}  {r : (Nat × zMK) × zMI × zMR}  (hw : ∀ a k, zst w a k = none) (hd : 3 ≤ d)  : ∀ (q : Nat) (l0 : Nat) (l3 : Int32) (n : Nat) (kd : zMK) (I : zMI) (R : zMR), f3_initc_L51  q l0 l3 n kd I R = some r → EV w d 0 0 Y3_init 51 [some (.ref l0), some (.ref 0), some (.ref 1), some (.int l3), none] [] (n, kd, I, R) (q3_initc  r) := by
  intro q
  induction q with
  | zero =>
    intro l0 l3 n kd I R h
    cases h
  | succ q ih =>
    intro l0 l3 n kd I R h
    unfold f3_initc_L51 at h
    refine ev_iload_n dX3_init_51 rfl rfl ?_
    refine ev_iconst dX3_init_52 (v := (3 : Int32)) zci_3 ?_
    refine ev_icmp_ge dX3_init_53 (tgt := 132) (by decide) (fun c5 => ?_) (fun c5 => ?_)
    · replace h := zit c5 h
      obtain rfl := Option.some.inj h
      exact ev_end_v dX3_init_132 rfl ⟨rfl, rfl⟩
    · replace h := zif c5 h
      refine ev_aload_n dX3_init_56 rfl rfl ?_
      obtain ⟨g6, h⟩ := zgd h
      rcases zopt (R l0 4) with o8 | ⟨a7, o8⟩
      · have h9 := zmn o8 h
        cases h9
      replace h := zms o8 h
      refine cm_getO dX3_init_57 zf_NineHeaps_Law_18 rfl (zKdC_has g6) hw o8 ?_
      refine ev_iload_n dX3_init_60 rfl rfl ?_
      refine ev_iconst dX3_init_61 (v := (-1 : Int32)) zci_m1 ?_
      obtain ⟨g9, h⟩ := zgd h
      obtain ⟨g10, h⟩ := zgd h
      obtain ⟨J11, e12, h⟩ := zld h
      refine em_iastG dX3_init_62 (zKdC_has g9) (N := (kd a7).2) rfl g10 e12 ?_
      refine ev_iload_n dX3_init_63 rfl rfl ?_
      refine ev_iconst dX3_init_64 (v := (1 : Int32)) zci_1 ?_
      refine ev_iadd dX3_init_65 rfl ?_
      refine ev_aload_n dX3_init_66 rfl rfl ?_
      refine ev_alenO dX3_init_67 (by decide) (fun hG => hG.2.2.2.2.1.2) (x := (4 : Int32)) rfl ?_
      refine ev_icmp_ge dX3_init_68 (tgt := 126) (by decide) (fun c13 => ?_) (fun c13 => ?_)
      · replace h := zit c13 h
        exact EV.mask [true, true, true, true, false] rfl (EV.more (e3_initc_B126 hw hd (fun l0' l3' n' kd' I' R' h' => ih l0' l3' n' kd' I' R' h') l0 l3 n kd J11 R h) (Nat.le_refl _) (by omega) (by omega))
      · replace h := zif c13 h
        refine ev_aload_n dX3_init_71 rfl rfl ?_
        refine ev_iload_n dX3_init_72 rfl rfl ?_
        refine ev_iconst dX3_init_73 (v := (1 : Int32)) zci_1 ?_
        refine ev_iadd dX3_init_74 rfl ?_
        obtain ⟨g14, h⟩ := zgd h
        refine ev_ialdO dX3_init_75 (by decide) (fun hG => hG.2.2.2.2.1.2) (zib_in g14) rfl ?_
        refine ev_aload_n dX3_init_76 rfl rfl ?_
        refine ev_iload_n dX3_init_77 rfl rfl ?_
        obtain ⟨g15, h⟩ := zgd h
        refine ev_ialdO dX3_init_78 (by decide) (fun hG => hG.2.2.2.2.1.2) (zib_in g15) rfl ?_
        refine ev_iconst dX3_init_79 (v := (1 : Int32)) zci_1 ?_
        refine ev_iadd dX3_init_80 rfl ?_
        refine ev_icmp_ne dX3_init_81 (tgt := 126) (by decide) (fun c16 => ?_) (fun c16 => ?_)
        · replace h := zif c16 h
          exact EV.mask [true, true, true, true, false] rfl (EV.more (e3_initc_B126 hw hd (fun l0' l3' n' kd' I' R' h' => ih l0' l3' n' kd' I' R' h') l0 l3 n kd J11 R h) (Nat.le_refl _) (by omega) (by omega))
        · replace h := zit c16 h
          refine ev_aload_n dX3_init_84 rfl rfl ?_
          refine ev_iload_n dX3_init_85 rfl rfl ?_
          refine ev_ialdO dX3_init_86 (by decide) (fun hG => hG.2.2.2.2.1.2) (zib_in g15) rfl ?_
          refine ev_istore dX3_init_87 (by decide) rfl ?_
          refine ev_aload_n dX3_init_89 rfl rfl ?_
          rcases zopt (R l0 4) with o18 | ⟨a17, o18⟩
          · have h9 := zmn o18 h
            cases h9
          replace h := zms o18 h
          refine cm_getO dX3_init_90 zf_NineHeaps_Law_18 rfl (zKdC_has g6) hw o18 ?_
          refine ev_iload_n dX3_init_93 rfl rfl ?_
          refine ev_iload dX3_init_94 rfl ?_
          refine ev_if_lt dX3_init_96 (tgt := 124) (by decide) (fun c19 => ?_) (fun c19 => ?_)
          · replace h := zit c19 h
            exact EV.mask [true, true, true, true, false] rfl (EV.more (e3_initc_B124 hw hd (fun l0' l3' n' kd' I' R' h' => ih l0' l3' n' kd' I' R' h') l0 l3 a17 l3 n kd J11 R h) (Nat.le_refl _) (by omega) (by omega))
          · replace h := zif c19 h
            refine ev_iload dX3_init_99 rfl ?_
            refine ev_aload_n dX3_init_101 rfl rfl ?_
            refine ev_alenO dX3_init_102 (by decide) (fun hG => hG.2.2.2.1.2) (x := (3 : Int32)) rfl ?_
            refine ev_icmp_ge dX3_init_103 (tgt := 124) (by decide) (fun c20 => ?_) (fun c20 => ?_)
            · replace h := zit c20 h
              exact EV.mask [true, true, true, true, false] rfl (EV.more (e3_initc_B124 hw hd (fun l0' l3' n' kd' I' R' h' => ih l0' l3' n' kd' I' R' h') l0 l3 a17 l3 n kd J11 R h) (Nat.le_refl _) (by omega) (by omega))
            · replace h := zif c20 h
              refine ev_aload_n dX3_init_106 rfl rfl ?_
              refine ev_iload dX3_init_107 rfl ?_
              obtain ⟨g21, h⟩ := zgd h
              refine ev_ialdO dX3_init_109 (by decide) (fun hG => hG.2.2.2.1.2) (zib_in g21) rfl ?_
              refine ev_if_lt dX3_init_110 (tgt := 124) (by decide) (fun c22 => ?_) (fun c22 => ?_)
              · replace h := zit c22 h
                exact EV.mask [true, true, true, true, false] rfl (EV.more (e3_initc_B124 hw hd (fun l0' l3' n' kd' I' R' h' => ih l0' l3' n' kd' I' R' h') l0 l3 a17 l3 n kd J11 R h) (Nat.le_refl _) (by omega) (by omega))
              · replace h := zif c22 h
                refine ev_iload_n dX3_init_113 rfl rfl ?_
                refine ev_aload_n dX3_init_114 rfl rfl ?_
                refine ev_iload dX3_init_115 rfl ?_
                refine ev_ialdO dX3_init_117 (by decide) (fun hG => hG.2.2.2.1.2) (zib_in g21) rfl ?_
                obtain ⟨p23, e24, h⟩ := zbd h
                refine ev_callS0 dX3_init_118 zm3_bounded zl_NineHeaps_Law_32 zs3_bounded (As := [.int l3, .int (zFl (zFs l3.toNatClampNeg).toNatClampNeg)]) (rest := [.int l3, .ref a17]) rfl rfl (Nat.le_of_ble_eq_true rfl) rfl (Nat.le_of_ble_eq_true rfl) (d' := 2) (by omega) (e3_boundedc hw (Nat.le_refl _) e24) (fun v μ1 q => ?_)
                obtain ⟨rfl, rfl⟩ := q
                refine ev_goto dX3_init_121 (tgt := 125) (by decide) ?_
                exact EV.mask [true, true, true, true, false] rfl (EV.more (e3_initc_B125 hw hd (fun l0' l3' n' kd' I' R' h' => ih l0' l3' n' kd' I' R' h') l0 l3 a17 l3 p23 n kd J11 R h) (Nat.le_refl _) (by omega) (by omega))
set_option maxHeartbeats 4000000 in
set_option maxRecDepth 100000 in
theorem e3_initc {w : zW} {d : Nat} {n : Nat} {kd : zMK} {I : zMI} {R : zMR} {r : (Nat × zMK) × zMI × zMR} {l0 : Nat} (hw : ∀ a k, zst w a k = none) (hd : 3 ≤ d) (h : f3_initc l0 n kd I R = some r) : EV w d 5 369 Y3_init 0 [some (.ref l0), some (.ref 0), some (.ref 1), none, none] [] (n, kd, I, R) (q3_initc  r) := by
  unfold f3_initc at h
  refine ev_aload_n dX3_init_0 rfl rfl ?_
  refine ev_objInit dX3_init_1 zl_NineHeaps_Law_3 ziO_init zOco (by omega) (Nat.le_of_ble_eq_true rfl) ?_
  refine ev_aload_n dX3_init_4 rfl rfl ?_
  refine ev_bipush dX3_init_5 (v := (40 : Int32)) zcb_40 ?_
  obtain ⟨g25, h⟩ := zgd h
  obtain ⟨D28, e29, h⟩ := zld h
  obtain ⟨J30, e31, h⟩ := zld h
  obtain ⟨T32, e33, h⟩ := zld h
  refine em_newIK (kc' := 4) (ks' := 329) dX3_init_7 (N := 40) (by decide) (by decide) (by decide) (zrlB_ok g25) (by omega) (by omega) ?_
  rw [e29, e31, e33]
  obtain ⟨g34, h⟩ := zgd h
  obtain ⟨T35, e36, h⟩ := zld h
  refine cm_putO (o := some n) dX3_init_9 zf_NineHeaps_Law_11 (Or.inr ⟨rfl, rfl, rfl⟩) rfl hw (fun _ => rfl) (fun _ => rfl) rfl rfl (zKdC_has g34) e36 ?_
  refine ev_aload_n dX3_init_12 rfl rfl ?_
  refine ev_bipush dX3_init_13 (v := (6 : Int32)) zcb_6 ?_
  obtain ⟨g37, h⟩ := zgd h
  obtain ⟨D40, e41, h⟩ := zld h
  obtain ⟨J42, e43, h⟩ := zld h
  obtain ⟨T44, e45, h⟩ := zld h
  refine em_newIK (kc' := 3) (ks' := 323) dX3_init_15 (N := 6) (by decide) (by decide) (by decide) (zrlB_ok g37) (by omega) (by omega) ?_
  rw [e41, e43, e45]
  obtain ⟨g46, h⟩ := zgd h
  obtain ⟨T47, e48, h⟩ := zld h
  refine cm_putO (o := some (n + 1)) dX3_init_17 zf_NineHeaps_Law_15 (Or.inr ⟨rfl, rfl, rfl⟩) rfl hw (fun _ => rfl) (fun _ => rfl) rfl rfl (zKdC_has g46) e48 ?_
  refine ev_aload_n dX3_init_20 rfl rfl ?_
  refine ev_iconst dX3_init_21 (v := (3 : Int32)) zci_3 ?_
  obtain ⟨g49, h⟩ := zgd h
  obtain ⟨D52, e53, h⟩ := zld h
  obtain ⟨J54, e55, h⟩ := zld h
  obtain ⟨T56, e57, h⟩ := zld h
  refine em_newIK (kc' := 2) (ks' := 320) dX3_init_22 (N := 3) (by decide) (by decide) (by decide) (zrlB_ok g49) (by omega) (by omega) ?_
  rw [e53, e55, e57]
  obtain ⟨g58, h⟩ := zgd h
  obtain ⟨T59, e60, h⟩ := zld h
  refine cm_putO (o := some ((n + 1) + 1)) dX3_init_24 zf_NineHeaps_Law_18 (Or.inr ⟨rfl, rfl, rfl⟩) rfl hw (fun _ => rfl) (fun _ => rfl) rfl rfl (zKdC_has g58) e60 ?_
  refine ev_aload_n dX3_init_27 rfl rfl ?_
  refine ev_aload_n dX3_init_28 rfl rfl ?_
  obtain ⟨g61, h⟩ := zgd h
  obtain ⟨D64, e65, h⟩ := zld h
  obtain ⟨J66, e67, h⟩ := zld h
  obtain ⟨T68, e69, h⟩ := zld h
  refine cm_cloneS (kc' := 1) (ks' := 317) dX3_init_29 zl_NineHeaps_Law_21 (by decide) (fun hG => hG.2.2.2.1.2) (zrlB_ok g61) (by omega) (Nat.le_of_ble_eq_true rfl) (by omega) (by omega) ?_
  rw [e65, e67, e69]
  obtain ⟨g70, h⟩ := zgd h
  refine ev_castI dX3_init_32 zc_NineHeaps_Law_22 (zKdC_has g70) ?_
  obtain ⟨g71, h⟩ := zgd h
  obtain ⟨T72, e73, h⟩ := zld h
  refine cm_putO (o := some (((n + 1) + 1) + 1)) dX3_init_35 zf_NineHeaps_Law_26 (Or.inr ⟨rfl, rfl, rfl⟩) rfl hw (fun _ => rfl) (fun _ => rfl) rfl rfl (zKdC_has g71) e73 ?_
  refine ev_aload_n dX3_init_38 rfl rfl ?_
  refine ev_aload_n dX3_init_39 rfl rfl ?_
  obtain ⟨g74, h⟩ := zgd h
  obtain ⟨D77, e78, h⟩ := zld h
  obtain ⟨J79, e80, h⟩ := zld h
  obtain ⟨T81, e82, h⟩ := zld h
  refine cm_cloneS (kc' := 0) (ks' := 313) dX3_init_40 zl_NineHeaps_Law_21 (by decide) (fun hG => hG.2.2.2.2.1.2) (zrlB_ok g74) (by omega) (Nat.le_of_ble_eq_true rfl) (by omega) (by omega) ?_
  rw [e78, e80, e82]
  obtain ⟨g83, h⟩ := zgd h
  refine ev_castI dX3_init_43 zc_NineHeaps_Law_22 (zKdC_has g83) ?_
  obtain ⟨g84, h⟩ := zgd h
  obtain ⟨T85, e86, h⟩ := zld h
  refine cm_putO (o := some ((((n + 1) + 1) + 1) + 1)) dX3_init_46 zf_NineHeaps_Law_29 (Or.inr ⟨rfl, rfl, rfl⟩) rfl hw (fun _ => rfl) (fun _ => rfl) rfl rfl (zKdC_has g84) e86 ?_
  refine ev_iconst dX3_init_49 (v := (0 : Int32)) zci_0 ?_
  refine ev_istore_n dX3_init_50 rfl (by decide) rfl ?_
  exact EV.mask [true, true, true, true, false] rfl (EV.more (e3_initc_L51 hw hd zF l0 (0 : Int32) (((((n + 1) + 1) + 1) + 1) + 1) D77 J79 T85 h) (Nat.le_refl _) (by omega) (by omega))
abbrev q2_initc (n : Nat) (kd : zMK) (R : zMR) (r : zMI) : Option Value → zM → Prop := fun v μ1 => v = none ∧ μ1 = (n, kd, r, R)
set_option maxHeartbeats 4000000 in
set_option maxRecDepth 100000 in
theorem e2_initc {w : zW} {d : Nat} {n : Nat} {kd : zMK} {I : zMI} {R : zMR} {r : zMI} {l0 : Nat} {l1 : Int32} (hw : ∀ a k, zst w a k = none) (hd : 2 ≤ d) (h : f2_initc n kd l0 l1 I = some r) : EV w d 0 0 Y2_init 0 [some (.ref l0), some (.int l1)] [] (n, kd, I, R) (q2_initc n kd R r) := by
  unfold f2_initc at h
  refine ev_aload_n dX2_init_0 rfl rfl ?_
  refine ev_objInit dX2_init_1 zl_NineHeaps_Heap_3 ziO_init zOco (by omega) (Nat.le_of_ble_eq_true rfl) ?_
  refine ev_aload_n dX2_init_4 rfl rfl ?_
  refine ev_iload_n dX2_init_5 rfl rfl ?_
  obtain ⟨g1, h⟩ := zgd h
  obtain ⟨J2, e3, h⟩ := zld h
  refine em_putI dX2_init_6 zf_NineHeaps_Heap_9 (Or.inr ⟨rfl, rfl, rfl⟩) rfl rfl rfl (zKdC_has g1) e3 ?_
  obtain rfl := Option.some.inj h
  exact ev_end_v dX2_init_9 rfl ⟨rfl, rfl⟩
abbrev q6_initc  (r : (Nat × zMK) × zMI × zMR) : Option Value → zM → Prop := fun v μ1 => v = none ∧ μ1 = ((r.1).1, (r.1).2, r.2.1, r.2.2)
set_option maxHeartbeats 4000000 in
set_option maxRecDepth 100000 in
theorem e6_initc {w : zW} {d : Nat} {n : Nat} {kd : zMK} {I : zMI} {R : zMR} {r : (Nat × zMK) × zMI × zMR} {l0 : Nat} (hw : ∀ a k, zst w a k = none) (hd : 2 ≤ d) (h : f6_initc l0 n kd I R = some r) : EV w d 1 40 Y6_init 0 [some (.ref l0)] [] (n, kd, I, R) (q6_initc  r) := by
  unfold f6_initc at h
  refine ev_aload_n dX6_init_0 rfl rfl ?_
  refine ev_objInit dX6_init_1 zl_NineHeaps_Sheet_3 ziO_init zOco (by omega) (Nat.le_of_ble_eq_true rfl) ?_
  refine ev_aload_n dX6_init_4 rfl rfl ?_
  refine ev_iconst dX6_init_5 (v := (-1 : Int32)) zci_m1 ?_
  obtain ⟨g1, h⟩ := zgd h
  obtain ⟨J2, e3, h⟩ := zld h
  refine em_putI dX6_init_6 zf_NineHeaps_Sheet_9 (Or.inl rfl) rfl rfl rfl (zKdC_has g1) e3 ?_
  refine ev_aload_n dX6_init_9 rfl rfl ?_
  refine ev_bipush dX6_init_10 (v := (40 : Int32)) zcb_40 ?_
  obtain ⟨g4, h⟩ := zgd h
  obtain ⟨D7, e8, h⟩ := zld h
  obtain ⟨J9, e10, h⟩ := zld h
  obtain ⟨T11, e12, h⟩ := zld h
  refine em_newIK (kc' := 0) (ks' := 0) dX6_init_12 (N := 40) (by decide) (by decide) (by decide) (zrlB_ok g4) (by omega) (by omega) ?_
  rw [e8, e10, e12]
  obtain ⟨g13, h⟩ := zgd h
  obtain ⟨T14, e15, h⟩ := zld h
  refine cm_putO (o := some n) dX6_init_14 zf_NineHeaps_Sheet_15 (Or.inr ⟨rfl, rfl, rfl⟩) rfl hw (fun _ => rfl) (fun _ => rfl) rfl rfl (zKdC_has g13) e15 ?_
  obtain rfl := Option.some.inj h
  exact ev_end_v dX6_init_17 rfl ⟨rfl, rfl⟩
abbrev q7_initc  (r : (Nat × zMK) × zMI × zMR) : Option Value → zM → Prop := fun v μ1 => v = none ∧ μ1 = ((r.1).1, (r.1).2, r.2.1, r.2.2)
set_option maxHeartbeats 4000000 in
set_option maxRecDepth 100000 in
theorem e7_initc {w : zW} {d : Nat} {n : Nat} {kd : zMK} {I : zMI} {R : zMR} {r : (Nat × zMK) × zMI × zMR} {l0 : Nat} (hw : ∀ a k, zst w a k = none) (hd : 2 ≤ d) (h : f7_initc l0 n kd I R = some r) : EV w d 3 324 Y7_init 0 [some (.ref l0)] [] (n, kd, I, R) (q7_initc  r) := by
  unfold f7_initc at h
  refine ev_aload_n dX7_init_0 rfl rfl ?_
  refine ev_objInit dX7_init_1 zl_NineHeaps_Tape_3 ziO_init zOco (by omega) (Nat.le_of_ble_eq_true rfl) ?_
  refine ev_aload_n dX7_init_4 rfl rfl ?_
  refine ev_sipush dX7_init_5 (v := (160 : Int32)) zcs_160 ?_
  obtain ⟨g1, h⟩ := zgd h
  obtain ⟨D4, e5, h⟩ := zld h
  obtain ⟨J6, e7, h⟩ := zld h
  obtain ⟨T8, e9, h⟩ := zld h
  refine em_newIK (kc' := 2) (ks' := 164) dX7_init_8 (N := 160) (by decide) (by decide) (by decide) (zrlB_ok g1) (by omega) (by omega) ?_
  rw [e5, e7, e9]
  obtain ⟨g10, h⟩ := zgd h
  obtain ⟨T11, e12, h⟩ := zld h
  refine cm_putO (o := some n) dX7_init_10 zf_NineHeaps_Tape_9 (Or.inr ⟨rfl, rfl, rfl⟩) rfl hw (fun _ => rfl) (fun _ => rfl) rfl rfl (zKdC_has g10) e12 ?_
  refine ev_aload_n dX7_init_13 rfl rfl ?_
  refine ev_sipush dX7_init_14 (v := (160 : Int32)) zcs_160 ?_
  obtain ⟨g13, h⟩ := zgd h
  obtain ⟨D16, e17, h⟩ := zld h
  obtain ⟨J18, e19, h⟩ := zld h
  obtain ⟨T20, e21, h⟩ := zld h
  refine em_newIK (kc' := 1) (ks' := 4) dX7_init_17 (N := 160) (by decide) (by decide) (by decide) (zrlB_ok g13) (by omega) (by omega) ?_
  rw [e17, e19, e21]
  obtain ⟨g22, h⟩ := zgd h
  obtain ⟨T23, e24, h⟩ := zld h
  refine cm_putO (o := some (n + 1)) dX7_init_19 zf_NineHeaps_Tape_15 (Or.inr ⟨rfl, rfl, rfl⟩) rfl hw (fun _ => rfl) (fun _ => rfl) rfl rfl (zKdC_has g22) e24 ?_
  refine ev_aload_n dX7_init_22 rfl rfl ?_
  refine ev_iconst dX7_init_23 (v := (4 : Int32)) zci_4 ?_
  obtain ⟨g25, h⟩ := zgd h
  obtain ⟨D28, e29, h⟩ := zld h
  obtain ⟨J30, e31, h⟩ := zld h
  obtain ⟨T32, e33, h⟩ := zld h
  refine em_newIK (kc' := 0) (ks' := 0) dX7_init_24 (N := 4) (by decide) (by decide) (by decide) (zrlB_ok g25) (by omega) (by omega) ?_
  rw [e29, e31, e33]
  obtain ⟨g34, h⟩ := zgd h
  obtain ⟨T35, e36, h⟩ := zld h
  refine cm_putO (o := some ((n + 1) + 1)) dX7_init_26 zf_NineHeaps_Tape_20 (Or.inr ⟨rfl, rfl, rfl⟩) rfl hw (fun _ => rfl) (fun _ => rfl) rfl rfl (zKdC_has g34) e36 ?_
  obtain rfl := Option.some.inj h
  exact ev_end_v dX7_init_29 rfl ⟨rfl, rfl⟩
abbrev q0_initc  (r : (Nat × zMK) × zMI × zMR) : Option Value → zM → Prop := fun v μ1 => v = none ∧ μ1 = ((r.1).1, (r.1).2, r.2.1, r.2.2)
set_option maxHeartbeats 4000000 in
set_option maxRecDepth 100000 in
theorem e0_initc_L31 {w : zW} {d : Nat}  {r : (Nat × zMK) × zMI × zMR}  (hw : ∀ a k, zst w a k = none) (hd : 3 ≤ d)  : ∀ (q : Nat) (l0 : Nat) (l1 : Int32) (n : Nat) (kd : zMK) (I : zMI) (R : zMR), f0_initc_L31  q l0 l1 n kd I R = some r → EV w d (q * 1) (q * 7) Y0_init 31 [some (.ref l0), some (.int l1)] [] (n, kd, I, R) (q0_initc  r) := by
  intro q
  induction q with
  | zero =>
    intro l0 l1 n kd I R h
    cases h
  | succ q ih =>
    intro l0 l1 n kd I R h
    unfold f0_initc_L31 at h
    refine ev_iload_n dX0_init_31 rfl rfl ?_
    refine ev_bipush dX0_init_32 (v := (9 : Int32)) zcb_9 ?_
    refine ev_icmp_ge dX0_init_34 (tgt := 57) (by decide) (fun c1 => ?_) (fun c1 => ?_)
    · replace h := zit c1 h
      obtain rfl := Option.some.inj h
      exact ev_end_v dX0_init_57 rfl ⟨rfl, rfl⟩
    · replace h := zif c1 h
      refine ev_aload_n dX0_init_37 rfl rfl ?_
      obtain ⟨g2, h⟩ := zgd h
      refine cm_getO dX0_init_38 zf_NineHeaps_Going_11 rfl (zKdC_has g2) hw rfl ?_
      refine ev_iload_n dX0_init_41 rfl rfl ?_
      obtain ⟨g3, h⟩ := zgd h
      obtain ⟨D6, e7, h⟩ := zld h
      obtain ⟨J8, e9, h⟩ := zld h
      obtain ⟨T10, e11, h⟩ := zld h
      refine em_newK (kc' := (q * 1 + 0)) (ks' := (q * 7 + 0)) dX0_init_42 (c := 2) (N := 7) (by decide) zc_NineHeaps_Going_9 zj2 zn_NineHeaps_Heap rfl (fun k => hw _ _) (zrlB_ok g3) (by omega) (by omega) ?_
      rw [e7, e9, e11]
      refine ev_dup dX0_init_45 rfl ?_
      refine ev_iload_n dX0_init_46 rfl rfl ?_
      obtain ⟨p12, e13, h⟩ := zbd h
      refine ev_callIK (k2 := (q * 1 + 0)) (z2 := (q * 7 + 0)) dX0_init_47 zm2_init zl_NineHeaps_Going_27 zi2_init rfl rfl (As := [.int l1]) (rest := [.ref n, .int l1, va_rf (R l0 0)]) rfl rfl (by cases (R l0 0) <;> exact Nat.le_of_ble_eq_true rfl) rfl (Nat.le_of_ble_eq_true rfl) (d' := 2) (by omega) (e2_initc hw (Nat.le_refl _) e13) (by omega) (by omega) (fun v μ1 q => ?_)
      obtain ⟨rfl, rfl⟩ := q
      rcases zopt (R l0 0) with o15 | ⟨a14, o15⟩
      · have h9 := zmn o15 h
        cases h9
      replace h := zms o15 h
      rw [o15]
      obtain ⟨g16, h⟩ := zgd h
      obtain ⟨g17, h⟩ := zgd h
      obtain ⟨g18, h⟩ := zgd h
      obtain ⟨T19, e20, h⟩ := zld h
      refine cm_aast dX0_init_50 (zKdC_has g16) (by decide) (by decide) (zKdC_has g17) (by decide) (c2 := 2) (by decide) (fun _ => rfl) (Or.inl rfl) hw g18 e20 ?_
      refine ev_iinc dX0_init_51 (v := l1 + (1 : Int32)) rfl rfl (by decide) rfl ?_
      refine ev_goto dX0_init_54 (tgt := 31) (by decide) ?_
      exact EV.mask [true, true] rfl (EV.more (ih l0 (l1 + (1 : Int32)) (n + 1) D6 p12 T19 h) (Nat.le_refl _) (by omega) (by omega))
set_option maxHeartbeats 4000000 in
set_option maxRecDepth 100000 in
theorem e0_initc {w : zW} {d : Nat} {n : Nat} {kd : zMK} {I : zMI} {R : zMR} {r : (Nat × zMK) × zMI × zMR} {l0 : Nat} (hw : ∀ a k, zst w a k = none) (hd : 3 ≤ d) (h : f0_initc l0 n kd I R = some r) : EV w d 13 124 Y0_init 0 [some (.ref l0), none] [] (n, kd, I, R) (q0_initc  r) := by
  unfold f0_initc at h
  refine ev_aload_n dX0_init_0 rfl rfl ?_
  refine ev_objInit dX0_init_1 zl_NineHeaps_Going_3 ziO_init zOco (by omega) (Nat.le_of_ble_eq_true rfl) ?_
  refine ev_aload_n dX0_init_4 rfl rfl ?_
  refine ev_bipush dX0_init_5 (v := (9 : Int32)) zcb_9 ?_
  obtain ⟨g21, h⟩ := zgd h
  obtain ⟨D24, e25, h⟩ := zld h
  obtain ⟨J26, e27, h⟩ := zld h
  obtain ⟨T28, e29, h⟩ := zld h
  refine em_newQK (kc' := 12) (ks' := 115) dX0_init_7 (j := 5) (N := 9) (C := RX2) (by decide) (by decide) (by first | decide | simp) (fun _ => rfl) zc_NineHeaps_Going_9 (by decide) (by decide) (by decide) (fun _ => hw _ _) (zrlB_ok g21) (by omega) (by omega) ?_
  rw [e25, e27, e29]
  obtain ⟨g30, h⟩ := zgd h
  obtain ⟨T31, e32, h⟩ := zld h
  refine cm_putO (o := some n) dX0_init_10 zf_NineHeaps_Going_11 (Or.inr ⟨rfl, rfl, rfl⟩) rfl hw (fun _ => rfl) (fun _ => rfl) rfl rfl (zKdC_has g30) e32 ?_
  refine ev_aload_n dX0_init_13 rfl rfl ?_
  refine ev_iconst dX0_init_14 (v := (5 : Int32)) zci_5 ?_
  obtain ⟨g33, h⟩ := zgd h
  obtain ⟨D36, e37, h⟩ := zld h
  obtain ⟨J38, e39, h⟩ := zld h
  obtain ⟨T40, e41, h⟩ := zld h
  refine em_newQK (kc' := 11) (ks' := 110) dX0_init_15 (j := 2) (N := 5) (C := RX10) (by decide) (by decide) (by first | decide | simp) (fun _ => rfl) zc_NineHeaps_Going_17 (by decide) (by decide) (by decide) (fun _ => hw _ _) (zrlB_ok g33) (by omega) (by omega) ?_
  rw [e37, e39, e41]
  obtain ⟨g42, h⟩ := zgd h
  obtain ⟨T43, e44, h⟩ := zld h
  refine cm_putO (o := some (n + 1)) dX0_init_18 zf_NineHeaps_Going_19 (Or.inr ⟨rfl, rfl, rfl⟩) rfl hw (fun _ => rfl) (fun _ => rfl) rfl rfl (zKdC_has g42) e44 ?_
  refine ev_aload_n dX0_init_21 rfl rfl ?_
  refine ev_bipush dX0_init_22 (v := (40 : Int32)) zcb_40 ?_
  obtain ⟨g45, h⟩ := zgd h
  obtain ⟨D48, e49, h⟩ := zld h
  obtain ⟨J50, e51, h⟩ := zld h
  obtain ⟨T52, e53, h⟩ := zld h
  refine em_newIK (kc' := 10) (ks' := 70) dX0_init_24 (N := 40) (by decide) (by decide) (by decide) (zrlB_ok g45) (by omega) (by omega) ?_
  rw [e49, e51, e53]
  obtain ⟨g54, h⟩ := zgd h
  obtain ⟨T55, e56, h⟩ := zld h
  refine cm_putO (o := some ((n + 1) + 1)) dX0_init_26 zf_NineHeaps_Going_23 (Or.inr ⟨rfl, rfl, rfl⟩) rfl hw (fun _ => rfl) (fun _ => rfl) rfl rfl (zKdC_has g54) e56 ?_
  refine ev_iconst dX0_init_29 (v := (0 : Int32)) zci_0 ?_
  refine ev_istore_n dX0_init_30 rfl (by decide) rfl ?_
  exact EV.mask [true, true] rfl (EV.more (e0_initc_L31 hw hd 10 l0 (0 : Int32) (((n + 1) + 1) + 1) D48 J50 T55 h) (Nat.le_refl _) (by omega) (by omega))
abbrev q11_initc  (r : (Nat × zMK) × zMI × zMR) : Option Value → zM → Prop := fun v μ1 => v = none ∧ μ1 = ((r.1).1, (r.1).2, r.2.1, r.2.2)
set_option maxHeartbeats 4000000 in
set_option maxRecDepth 100000 in
theorem e11_initc_L162 {w : zW} {d : Nat}  {r : (Nat × zMK) × zMI × zMR}  (hw : ∀ a k, zst w a k = none) (hd : 4 ≤ d)  : ∀ (q : Nat) (l0 : Nat) (l1 : Int32) (n : Nat) (kd : zMK) (I : zMI) (R : zMR), f11_initc_L162  q l0 l1 n kd I R = some r → EV w d (q * 2) (q * 43) Y11_init 162 [some (.ref l0), some (.int l1)] [] (n, kd, I, R) (q11_initc  r) := by
  intro q
  induction q with
  | zero =>
    intro l0 l1 n kd I R h
    cases h
  | succ q ih =>
    intro l0 l1 n kd I R h
    unfold f11_initc_L162 at h
    refine ev_iload_n dX11_init_162 rfl rfl ?_
    refine ev_iconst dX11_init_163 (v := (4 : Int32)) zci_4 ?_
    refine ev_icmp_ge dX11_init_164 (tgt := 186) (by decide) (fun c1 => ?_) (fun c1 => ?_)
    · replace h := zit c1 h
      obtain rfl := Option.some.inj h
      exact ev_end_v dX11_init_186 rfl ⟨rfl, rfl⟩
    · replace h := zif c1 h
      refine ev_aload_n dX11_init_167 rfl rfl ?_
      obtain ⟨g2, h⟩ := zgd h
      refine cm_getO dX11_init_168 zf_NineHeaps_41 rfl (zKdC_has g2) hw rfl ?_
      refine ev_iload_n dX11_init_171 rfl rfl ?_
      obtain ⟨g3, h⟩ := zgd h
      obtain ⟨D6, e7, h⟩ := zld h
      obtain ⟨J8, e9, h⟩ := zld h
      obtain ⟨T10, e11, h⟩ := zld h
      refine em_newK (kc' := (q * 2 + 1)) (ks' := (q * 43 + 40)) dX11_init_172 (c := 6) (N := 3) (by decide) zc_NineHeaps_39 zj6 zn_NineHeaps_Sheet rfl (fun k => hw _ _) (zrlB_ok g3) (by omega) (by omega) ?_
      rw [e7, e9, e11]
      refine ev_dup dX11_init_175 rfl ?_
      obtain ⟨p12, e13, h⟩ := zbd h
      refine ev_callINK (host := RX11) (k2 := (q * 2 + 0)) (z2 := (q * 43 + 0)) dX11_init_176 zm6_init (by unfold zNw; exact List.Mem.tail _ (List.Mem.tail _ (List.Mem.tail _ (List.Mem.tail _ (List.Mem.tail _ (List.Mem.tail _ (List.Mem.tail _ (List.Mem.head _)))))))) zi6_init rfl rfl (As := []) (rest := [.ref n, .int l1, va_rf (R l0 9)]) rfl rfl (by cases (R l0 9) <;> exact Nat.le_of_ble_eq_true rfl) rfl (Nat.le_of_ble_eq_true rfl) (d' := 2) (by omega) (e6_initc hw (Nat.le_refl _) e13) (by omega) (by omega) (fun v μ1 q => ?_)
      obtain ⟨rfl, rfl⟩ := q
      rcases zopt (R l0 9) with o15 | ⟨a14, o15⟩
      · have h9 := zmn o15 h
        cases h9
      replace h := zms o15 h
      rw [o15]
      obtain ⟨g16, h⟩ := zgd h
      obtain ⟨g17, h⟩ := zgd h
      obtain ⟨g18, h⟩ := zgd h
      obtain ⟨T19, e20, h⟩ := zld h
      refine cm_aast dX11_init_179 (zKdC_has g16) (by decide) (by decide) (zKdC_has g17) (by decide) (c2 := 6) (by decide) (fun _ => rfl) (Or.inl rfl) hw g18 e20 ?_
      refine ev_iinc dX11_init_180 (v := l1 + (1 : Int32)) rfl rfl (by decide) rfl ?_
      refine ev_goto dX11_init_183 (tgt := 162) (by decide) ?_
      exact EV.mask [true, true] rfl (EV.more (ih l0 (l1 + (1 : Int32)) p12.1.1 p12.1.2 p12.2.1 T19 h) (Nat.le_refl _) (by omega) (by omega))
set_option maxHeartbeats 4000000 in
set_option maxRecDepth 100000 in
theorem e11_initc {w : zW} {d : Nat} {n : Nat} {kd : zMK} {I : zMI} {R : zMR} {r : (Nat × zMK) × zMI × zMR} {l0 : Nat} (hw : ∀ a k, zst w a k = none) (hd : 4 ≤ d) (h : f11_initc l0 n kd I R = some r) : EV w d 51 1192 Y11_init 0 [some (.ref l0), none] [] (n, kd, I, R) (q11_initc  r) := by
  unfold f11_initc at h
  refine ev_aload_n dX11_init_0 rfl rfl ?_
  refine ev_objInit dX11_init_1 zl_NineHeaps_1 ziO_init zOco (by omega) (Nat.le_of_ble_eq_true rfl) ?_
  refine ev_aload_n dX11_init_4 rfl rfl ?_
  refine ev_bipush dX11_init_5 (v := (9 : Int32)) zcb_9 ?_
  obtain ⟨g21, h⟩ := zgd h
  obtain ⟨D24, e25, h⟩ := zld h
  obtain ⟨J26, e27, h⟩ := zld h
  obtain ⟨T28, e29, h⟩ := zld h
  refine em_newIK (kc' := 50) (ks' := 1183) dX11_init_7 (N := 9) (by decide) (by decide) (by decide) (zrlB_ok g21) (by omega) (by omega) ?_
  rw [e25, e27, e29]
  obtain ⟨g30, h⟩ := zgd h
  obtain ⟨T31, e32, h⟩ := zld h
  refine cm_putO (o := some n) dX11_init_9 zf_NineHeaps_9 (Or.inr ⟨rfl, rfl, rfl⟩) rfl hw (fun _ => rfl) (fun _ => rfl) rfl rfl (zKdC_has g30) e32 ?_
  refine ev_aload_n dX11_init_12 rfl rfl ?_
  refine ev_bipush dX11_init_13 (v := (9 : Int32)) zcb_9 ?_
  obtain ⟨g33, h⟩ := zgd h
  obtain ⟨D36, e37, h⟩ := zld h
  obtain ⟨J38, e39, h⟩ := zld h
  obtain ⟨T40, e41, h⟩ := zld h
  refine em_newIK (kc' := 49) (ks' := 1174) dX11_init_15 (N := 9) (by decide) (by decide) (by decide) (zrlB_ok g33) (by omega) (by omega) ?_
  rw [e37, e39, e41]
  obtain ⟨g42, h⟩ := zgd h
  obtain ⟨T43, e44, h⟩ := zld h
  refine cm_putO (o := some (n + 1)) dX11_init_17 zf_NineHeaps_13 (Or.inr ⟨rfl, rfl, rfl⟩) rfl hw (fun _ => rfl) (fun _ => rfl) rfl rfl (zKdC_has g42) e44 ?_
  refine ev_aload_n dX11_init_20 rfl rfl ?_
  refine ev_bipush dX11_init_21 (v := (20 : Int32)) zcb_20 ?_
  obtain ⟨J45, e46, h⟩ := zld h
  refine em_putI dX11_init_23 zf_NineHeaps_16 (Or.inl rfl) rfl rfl rfl (zKdC_has g42) e46 ?_
  refine ev_aload_n dX11_init_26 rfl rfl ?_
  refine ev_iconst dX11_init_27 (v := (5 : Int32)) zci_5 ?_
  obtain ⟨g47, h⟩ := zgd h
  obtain ⟨D50, e51, h⟩ := zld h
  obtain ⟨J52, e53, h⟩ := zld h
  obtain ⟨T54, e55, h⟩ := zld h
  refine em_newQK (kc' := 48) (ks' := 1169) dX11_init_28 (j := 2) (N := 5) (C := RX10) (by decide) (by decide) (by first | decide | simp) (fun _ => rfl) zc_NineHeaps_20 (by decide) (by decide) (by decide) (fun _ => hw _ _) (zrlB_ok g47) (by omega) (by omega) ?_
  rw [e51, e53, e55]
  obtain ⟨g56, h⟩ := zgd h
  obtain ⟨T57, e58, h⟩ := zld h
  refine cm_putO (o := some ((n + 1) + 1)) dX11_init_31 zf_NineHeaps_22 (Or.inr ⟨rfl, rfl, rfl⟩) rfl hw (fun _ => rfl) (fun _ => rfl) rfl rfl (zKdC_has g56) e58 ?_
  refine ev_aload_n dX11_init_34 rfl rfl ?_
  refine ev_bipush dX11_init_35 (v := (6 : Int32)) zcb_6 ?_
  obtain ⟨g59, h⟩ := zgd h
  obtain ⟨D62, e63, h⟩ := zld h
  obtain ⟨J64, e65, h⟩ := zld h
  obtain ⟨T66, e67, h⟩ := zld h
  refine em_newQK (kc' := 47) (ks' := 1163) dX11_init_37 (j := 3) (N := 6) (C := RX3) (by decide) (by decide) (by first | decide | simp) (fun _ => rfl) zc_NineHeaps_26 (by decide) (by decide) (by decide) (fun _ => hw _ _) (zrlB_ok g59) (by omega) (by omega) ?_
  rw [e63, e65, e67]
  obtain ⟨g68, h⟩ := zgd h
  obtain ⟨T69, e70, h⟩ := zld h
  refine cm_putO (o := some (((n + 1) + 1) + 1)) dX11_init_40 zf_NineHeaps_28 (Or.inr ⟨rfl, rfl, rfl⟩) rfl hw (fun _ => rfl) (fun _ => rfl) rfl rfl (zKdC_has g68) e70 ?_
  refine ev_aload_n dX11_init_43 rfl rfl ?_
  obtain ⟨g71, h⟩ := zgd h
  obtain ⟨D74, e75, h⟩ := zld h
  obtain ⟨J76, e77, h⟩ := zld h
  obtain ⟨T78, e79, h⟩ := zld h
  refine em_newK (kc' := 46) (ks' := 1153) dX11_init_44 (c := 7) (N := 10) (by decide) zc_NineHeaps_32 zj7 zn_NineHeaps_Tape rfl (fun k => hw _ _) (zrlB_ok g71) (by omega) (by omega) ?_
  rw [e75, e77, e79]
  refine ev_dup dX11_init_47 rfl ?_
  obtain ⟨p80, e81, h⟩ := zbd h
  refine ev_callINK (host := RX11) (k2 := 43) (z2 := 829) dX11_init_48 zm7_init (by unfold zNw; exact List.Mem.tail _ (List.Mem.tail _ (List.Mem.tail _ (List.Mem.tail _ (List.Mem.tail _ (List.Mem.tail _ (List.Mem.head _))))))) zi7_init rfl rfl (As := []) (rest := [.ref ((((n + 1) + 1) + 1) + 1), .ref l0]) rfl rfl (Nat.le_of_ble_eq_true rfl) rfl (Nat.le_of_ble_eq_true rfl) (d' := 2) (by omega) (e7_initc hw (Nat.le_refl _) e81) (by omega) (by omega) (fun v μ1 q => ?_)
  obtain ⟨rfl, rfl⟩ := q
  obtain ⟨g82, h⟩ := zgd h
  obtain ⟨T83, e84, h⟩ := zld h
  refine cm_putO (o := some ((((n + 1) + 1) + 1) + 1)) dX11_init_51 zf_NineHeaps_35 (Or.inr ⟨rfl, rfl, rfl⟩) rfl hw (fun _ => rfl) (fun _ => rfl) rfl rfl (zKdC_has g82) e84 ?_
  refine ev_aload_n dX11_init_54 rfl rfl ?_
  refine ev_iconst dX11_init_55 (v := (4 : Int32)) zci_4 ?_
  obtain ⟨g85, h⟩ := zgd h
  obtain ⟨D88, e89, h⟩ := zld h
  obtain ⟨J90, e91, h⟩ := zld h
  obtain ⟨T92, e93, h⟩ := zld h
  refine em_newQK (kc' := 42) (ks' := 825) dX11_init_56 (j := 4) (N := 4) (C := RX6) (by decide) (by decide) (by first | decide | simp) (fun _ => rfl) zc_NineHeaps_39 (by decide) (by decide) (by decide) (fun _ => hw _ _) (zrlB_ok g85) (by omega) (by omega) ?_
  rw [e89, e91, e93]
  obtain ⟨g94, h⟩ := zgd h
  obtain ⟨T95, e96, h⟩ := zld h
  refine cm_putO (o := some p80.1.1) dX11_init_59 zf_NineHeaps_41 (Or.inr ⟨rfl, rfl, rfl⟩) rfl hw (fun _ => rfl) (fun _ => rfl) rfl rfl (zKdC_has g94) e96 ?_
  refine ev_aload_n dX11_init_62 rfl rfl ?_
  obtain ⟨g97, h⟩ := zgd h
  obtain ⟨D100, e101, h⟩ := zld h
  obtain ⟨J102, e103, h⟩ := zld h
  obtain ⟨T104, e105, h⟩ := zld h
  refine em_newK (kc' := 41) (ks' := 812) dX11_init_63 (c := 0) (N := 13) (by decide) zc_NineHeaps_45 zj0 zn_NineHeaps_Going rfl (fun k => hw _ _) (zrlB_ok g97) (by omega) (by omega) ?_
  rw [e101, e103, e105]
  refine ev_dup dX11_init_66 rfl ?_
  obtain ⟨p106, e107, h⟩ := zbd h
  refine ev_callIK (k2 := 28) (z2 := 688) dX11_init_67 zm0_init zl_NineHeaps_47 zi0_init rfl rfl (As := []) (rest := [.ref (p80.1.1 + 1), .ref l0]) rfl rfl (Nat.le_of_ble_eq_true rfl) rfl (Nat.le_of_ble_eq_true rfl) (d' := 3) (by omega) (e0_initc hw (Nat.le_refl _) e107) (by omega) (by omega) (fun v μ1 q => ?_)
  obtain ⟨rfl, rfl⟩ := q
  obtain ⟨g108, h⟩ := zgd h
  obtain ⟨T109, e110, h⟩ := zld h
  refine cm_putO (o := some (p80.1.1 + 1)) dX11_init_70 zf_NineHeaps_48 (Or.inr ⟨rfl, rfl, rfl⟩) rfl hw (fun _ => rfl) (fun _ => rfl) rfl rfl (zKdC_has g108) e110 ?_
  refine ev_aload_n dX11_init_73 rfl rfl ?_
  refine ev_iconst dX11_init_74 (v := (5 : Int32)) zci_5 ?_
  obtain ⟨g111, h⟩ := zgd h
  obtain ⟨D114, e115, h⟩ := zld h
  obtain ⟨J116, e117, h⟩ := zld h
  obtain ⟨T118, e119, h⟩ := zld h
  refine em_newIK (kc' := 27) (ks' := 683) dX11_init_75 (N := 5) (by decide) (by decide) (by decide) (zrlB_ok g111) (by omega) (by omega) ?_
  rw [e115, e117, e119]
  obtain ⟨g120, h⟩ := zgd h
  obtain ⟨T121, e122, h⟩ := zld h
  refine cm_putO (o := some p106.1.1) dX11_init_77 zf_NineHeaps_52 (Or.inr ⟨rfl, rfl, rfl⟩) rfl hw (fun _ => rfl) (fun _ => rfl) rfl rfl (zKdC_has g120) e122 ?_
  refine ev_aload_n dX11_init_80 rfl rfl ?_
  refine ev_bipush dX11_init_81 (v := (6 : Int32)) zcb_6 ?_
  refine ev_bipush dX11_init_83 (v := (10 : Int32)) zcb_10 ?_
  obtain ⟨g123, h⟩ := zgd h
  obtain ⟨M124, e125, h⟩ := zld h
  refine em_mulK (kc' := 20) (ks' := 617) dX11_init_85 zc_NineHeaps_55 (of_decide_eq_true g123) (by decide) (by decide) (N := 6) (by decide) (M := 10) (by decide) (by decide) (by decide) (fun _ => hw _ _) (by omega) (by omega) e125 ?_
  obtain ⟨g126, h⟩ := zgd h
  obtain ⟨T127, e128, h⟩ := zld h
  refine cm_putO (o := some (p106.1.1 + 1)) dX11_init_89 zf_NineHeaps_57 (Or.inr ⟨rfl, rfl, rfl⟩) rfl hw (fun _ => rfl) (fun _ => rfl) rfl rfl (zKdC_has g126) e128 ?_
  refine ev_aload_n dX11_init_92 rfl rfl ?_
  refine ev_iconst dX11_init_93 (v := (5 : Int32)) zci_5 ?_
  obtain ⟨g129, h⟩ := zgd h
  obtain ⟨D132, e133, h⟩ := zld h
  obtain ⟨J134, e135, h⟩ := zld h
  obtain ⟨T136, e137, h⟩ := zld h
  refine em_newIK (kc' := 19) (ks' := 612) dX11_init_94 (N := 5) (by decide) (by decide) (by decide) (zrlB_ok g129) (by omega) (by omega) ?_
  rw [e133, e135, e137]
  obtain ⟨g138, h⟩ := zgd h
  obtain ⟨T139, e140, h⟩ := zld h
  refine cm_putO (o := some M124.1) dX11_init_96 zf_NineHeaps_60 (Or.inr ⟨rfl, rfl, rfl⟩) rfl hw (fun _ => rfl) (fun _ => rfl) rfl rfl (zKdC_has g138) e140 ?_
  refine ev_aload_n dX11_init_99 rfl rfl ?_
  refine ev_bipush dX11_init_100 (v := (9 : Int32)) zcb_9 ?_
  obtain ⟨g141, h⟩ := zgd h
  obtain ⟨D144, e145, h⟩ := zld h
  obtain ⟨J146, e147, h⟩ := zld h
  obtain ⟨T148, e149, h⟩ := zld h
  refine em_newIK (kc' := 18) (ks' := 603) dX11_init_102 (N := 9) (by decide) (by decide) (by decide) (zrlB_ok g141) (by omega) (by omega) ?_
  rw [e145, e147, e149]
  obtain ⟨g150, h⟩ := zgd h
  obtain ⟨T151, e152, h⟩ := zld h
  refine cm_putO (o := some (M124.1 + 1)) dX11_init_104 zf_NineHeaps_63 (Or.inr ⟨rfl, rfl, rfl⟩) rfl hw (fun _ => rfl) (fun _ => rfl) rfl rfl (zKdC_has g150) e152 ?_
  refine ev_aload_n dX11_init_107 rfl rfl ?_
  refine ev_bipush dX11_init_108 (v := (9 : Int32)) zcb_9 ?_
  obtain ⟨g153, h⟩ := zgd h
  obtain ⟨D156, e157, h⟩ := zld h
  obtain ⟨J158, e159, h⟩ := zld h
  obtain ⟨T160, e161, h⟩ := zld h
  refine em_newIK (kc' := 17) (ks' := 594) dX11_init_110 (N := 9) (by decide) (by decide) (by decide) (zrlB_ok g153) (by omega) (by omega) ?_
  rw [e157, e159, e161]
  obtain ⟨g162, h⟩ := zgd h
  obtain ⟨T163, e164, h⟩ := zld h
  refine cm_putO (o := some ((M124.1 + 1) + 1)) dX11_init_112 zf_NineHeaps_66 (Or.inr ⟨rfl, rfl, rfl⟩) rfl hw (fun _ => rfl) (fun _ => rfl) rfl rfl (zKdC_has g162) e164 ?_
  refine ev_aload_n dX11_init_115 rfl rfl ?_
  refine ev_iconst dX11_init_116 (v := (5 : Int32)) zci_5 ?_
  obtain ⟨g165, h⟩ := zgd h
  obtain ⟨D168, e169, h⟩ := zld h
  obtain ⟨J170, e171, h⟩ := zld h
  obtain ⟨T172, e173, h⟩ := zld h
  refine em_newIK (kc' := 16) (ks' := 589) dX11_init_117 (N := 5) (by decide) (by decide) (by decide) (zrlB_ok g165) (by omega) (by omega) ?_
  rw [e169, e171, e173]
  obtain ⟨g174, h⟩ := zgd h
  obtain ⟨T175, e176, h⟩ := zld h
  refine cm_putO (o := some (((M124.1 + 1) + 1) + 1)) dX11_init_119 zf_NineHeaps_69 (Or.inr ⟨rfl, rfl, rfl⟩) rfl hw (fun _ => rfl) (fun _ => rfl) rfl rfl (zKdC_has g174) e176 ?_
  refine ev_aload_n dX11_init_122 rfl rfl ?_
  refine ev_iconst dX11_init_123 (v := (-1 : Int32)) zci_m1 ?_
  obtain ⟨J177, e178, h⟩ := zld h
  refine em_putI dX11_init_124 zf_NineHeaps_72 (Or.inl rfl) rfl rfl rfl (zKdC_has g174) e178 ?_
  refine ev_aload_n dX11_init_127 rfl rfl ?_
  rcases zopt (T175 l0 0) with o180 | ⟨a179, o180⟩
  · have h9 := zmn o180 h
    cases h9
  replace h := zms o180 h
  refine cm_getO dX11_init_128 zf_NineHeaps_9 rfl (zKdC_has g174) hw o180 ?_
  refine ev_bipush dX11_init_131 (v := (50 : Int32)) zcb_50 ?_
  obtain ⟨p181, e182, h⟩ := zbd h
  refine ev_callS0 dX11_init_133 zmJ7_fill_53178 zl_NineHeaps_75 zsJ7_fill_53178 (As := [.ref a179, .int (50 : Int32)]) (rest := []) rfl rfl (Nat.le_of_ble_eq_true rfl) rfl (Nat.le_of_ble_eq_true rfl) (d' := 1) (by omega) (eJ7_fill_53178c hw (Nat.le_refl _) e182) (fun v μ1 q => ?_)
  obtain ⟨rfl, rfl⟩ := q
  refine ev_aload_n dX11_init_136 rfl rfl ?_
  refine cm_getO dX11_init_137 zf_NineHeaps_28 rfl (zKdC_has g174) hw rfl ?_
  refine ev_iconst dX11_init_140 (v := (0 : Int32)) zci_0 ?_
  obtain ⟨g183, h⟩ := zgd h
  obtain ⟨D186, e187, h⟩ := zld h
  obtain ⟨J188, e189, h⟩ := zld h
  obtain ⟨T190, e191, h⟩ := zld h
  refine em_newK (kc' := 15) (ks' := 584) dX11_init_141 (c := 3) (N := 5) (by decide) zc_NineHeaps_26 zj3 zn_NineHeaps_Law rfl (fun k => hw _ _) (zrlB_ok g183) (by omega) (by omega) ?_
  rw [e187, e189, e191]
  refine ev_dup dX11_init_144 rfl ?_
  refine ev_getsF dX11_init_145 zf_NineHeaps_81 ?_
  refine ev_getsS dX11_init_148 zf_NineHeaps_84 ?_
  obtain ⟨p192, e193, h⟩ := zbd h
  refine ev_callIK (k2 := 10) (z2 := 215) dX11_init_151 zm3_init zl_NineHeaps_87 zi3_init rfl rfl (As := [.ref 0, .ref 1]) (rest := [.ref ((((M124.1 + 1) + 1) + 1) + 1), .int (0 : Int32), va_rf (T175 l0 5)]) rfl rfl (by cases (T175 l0 5) <;> exact Nat.le_of_ble_eq_true rfl) rfl (Nat.le_of_ble_eq_true rfl) (d' := 3) (by omega) (e3_initc hw (Nat.le_refl _) e193) (by omega) (by omega) (fun v μ1 q => ?_)
  obtain ⟨rfl, rfl⟩ := q
  rcases zopt (T175 l0 5) with o195 | ⟨a194, o195⟩
  · have h9 := zmn o195 h
    cases h9
  replace h := zms o195 h
  rw [o195]
  obtain ⟨g196, h⟩ := zgd h
  obtain ⟨g197, h⟩ := zgd h
  obtain ⟨g198, h⟩ := zgd h
  obtain ⟨T199, e200, h⟩ := zld h
  refine cm_aast dX11_init_154 (zKdC_has g196) (by decide) (by decide) (zKdC_has g197) (by decide) (c2 := 3) (by decide) (fun _ => rfl) (Or.inl rfl) hw g198 e200 ?_
  refine ev_aload_n dX11_init_155 rfl rfl ?_
  refine ev_iconst dX11_init_156 (v := (1 : Int32)) zci_1 ?_
  obtain ⟨g201, h⟩ := zgd h
  obtain ⟨J202, e203, h⟩ := zld h
  refine em_putI dX11_init_157 zf_NineHeaps_90 (Or.inl rfl) rfl rfl rfl (zKdC_has g201) e203 ?_
  refine ev_iconst dX11_init_160 (v := (0 : Int32)) zci_0 ?_
  refine ev_istore_n dX11_init_161 rfl (by decide) rfl ?_
  exact EV.mask [true, true] rfl (EV.more (e11_initc_L162 hw hd 5 l0 (0 : Int32) p192.1.1 p192.1.2 J202 T199 h) (Nat.le_refl _) (by omega) (by omega))
