/-! the machine does as the reference's functions say: laid by program -/
abbrev q12_walkersBy (n : Nat) (kd : zMK) (R : zMR) (r : Int32 × zMI) : Option Value → zM → Prop := fun v μ1 => v = some (.int r.1) ∧ μ1 = (n, kd, r.2, R)
set_option maxHeartbeats 4000000 in
set_option maxRecDepth 100000 in
theorem e12_walkersBy_L63 {w : zW} {d : Nat} {n : Nat} {kd : zMK} {R : zMR} {r : Int32 × zMI}  (hw : zst w = zSt0) (hS : zSh n kd) (hd : 4 ≤ d)   : ∀ (q : Nat) (l1 : Int32) (l3 : Int32) (l4 : Int32) (l5 : Int32) (l6 : Int32) (I : zMI), f12_walkersBy_L63  q l1 l3 l4 l5 l6 I = some r → EV w d 0 0 Y12_walkersBy 63 [some (.ref 81), some (.int l1), none, some (.int l3), some (.int l4), some (.int l5), some (.int l6), none, none] [] (n, kd, I, R) (q12_walkersBy n kd R r) := by
  intro q
  induction q with
  | zero =>
    intro l1 l3 l4 l5 l6 I h
    cases h
  | succ q ih =>
    intro l1 l3 l4 l5 l6 I h
    unfold f12_walkersBy_L63 at h
    refine ev_iload dX12_walkersBy_63 rfl ?_
    refine ev_iload dX12_walkersBy_65 rfl ?_
    refine ev_icmp_ge dX12_walkersBy_67 (tgt := 161) (by decide) (fun c1 => ?_) (fun c1 => ?_)
    · replace h := zit c1 h
      refine ev_iload dX12_walkersBy_161 rfl ?_
      obtain rfl := Option.some.inj h
      exact ev_end_i dX12_walkersBy_163 rfl rfl ⟨rfl, rfl⟩
    · replace h := zif c1 h
      refine ev_iload_n dX12_walkersBy_70 rfl rfl ?_
      refine ev_iconst dX12_walkersBy_71 (v := (3 : Int32)) zci_3 ?_
      refine ev_iload dX12_walkersBy_72 rfl ?_
      refine ev_imul dX12_walkersBy_74 rfl ?_
      refine ev_iadd dX12_walkersBy_75 rfl ?_
      obtain ⟨x2, e3, h⟩ := zld h
      refine ev_nm e3 ?_
      refine ev_istore dX12_walkersBy_76 (by decide) rfl ?_
      refine ev_iload_n dX12_walkersBy_78 rfl rfl ?_
      refine ev_if_lt dX12_walkersBy_79 (tgt := 101) (by decide) (fun c4 => ?_) (fun c4 => ?_)
      · replace h := zit c4 h
        refine ev_bipush dX12_walkersBy_101 (v := (-12 : Int32)) zcb_m12 ?_
        obtain rfl := Option.some.inj h
        exact ev_end_i dX12_walkersBy_103 rfl rfl ⟨rfl, rfl⟩
      · replace h := zif c4 h
        refine ev_iload dX12_walkersBy_82 rfl ?_
        refine ev_iload_n dX12_walkersBy_84 rfl rfl ?_
        refine ev_icmp_lt dX12_walkersBy_85 (tgt := 101) (by decide) (fun c5 => ?_) (fun c5 => ?_)
        · replace h := zit c5 h
          refine ev_bipush dX12_walkersBy_101 (v := (-12 : Int32)) zcb_m12 ?_
          obtain rfl := Option.some.inj h
          exact ev_end_i dX12_walkersBy_103 rfl rfl ⟨rfl, rfl⟩
        · replace h := zif c5 h
          refine ev_iload dX12_walkersBy_88 rfl ?_
          refine ev_aload_n dX12_walkersBy_90 rfl rfl ?_
          refine em_getA dX12_walkersBy_91 zf_NineHeapsModel_44 rfl (hS.has 81 (by decide) (by decide) rfl) hw rfl ?_
          refine ev_iload_n dX12_walkersBy_94 rfl rfl ?_
          obtain ⟨g6, h⟩ := zgd h
          refine em_iald dX12_walkersBy_95 hS (by decide) (by decide) (N := 4) rfl g6 rfl ?_
          refine ev_iconst dX12_walkersBy_96 (v := (3 : Int32)) zci_3 ?_
          refine ev_isub dX12_walkersBy_97 rfl ?_
          refine ev_icmp_le dX12_walkersBy_98 (tgt := 104) (by decide) (fun c7 => ?_) (fun c7 => ?_)
          · replace h := zit c7 h
            refine ev_bipush dX12_walkersBy_104 (v := (40 : Int32)) zcb_40 ?_
            refine ev_iload_n dX12_walkersBy_106 rfl rfl ?_
            refine ev_imul dX12_walkersBy_107 rfl ?_
            refine ev_iload dX12_walkersBy_108 rfl ?_
            refine ev_iadd dX12_walkersBy_110 rfl ?_
            obtain ⟨x8, e9, h⟩ := zld h
            refine ev_nm e9 ?_
            refine ev_istore dX12_walkersBy_111 (by decide) rfl ?_
            refine ev_iload dX12_walkersBy_113 rfl ?_
            refine ev_aload_n dX12_walkersBy_115 rfl rfl ?_
            refine ev_aload_n dX12_walkersBy_116 rfl rfl ?_
            refine em_getA dX12_walkersBy_117 zf_NineHeapsModel_47 rfl (hS.has 81 (by decide) (by decide) rfl) hw rfl ?_
            refine ev_iload dX12_walkersBy_120 rfl ?_
            obtain ⟨g10, h⟩ := zgd h
            refine em_iald dX12_walkersBy_122 hS (by decide) (by decide) (N := 160) rfl g10 rfl ?_
            refine ev_aload_n dX12_walkersBy_123 rfl rfl ?_
            refine em_getA dX12_walkersBy_124 zf_NineHeapsModel_47 rfl (hS.has 81 (by decide) (by decide) rfl) hw rfl ?_
            refine ev_iload dX12_walkersBy_127 rfl ?_
            refine ev_iconst dX12_walkersBy_129 (v := (1 : Int32)) zci_1 ?_
            refine ev_iadd dX12_walkersBy_130 rfl ?_
            obtain ⟨g11, h⟩ := zgd h
            refine em_iald dX12_walkersBy_131 hS (by decide) (by decide) (N := 160) rfl g11 rfl ?_
            refine ev_aload_n dX12_walkersBy_132 rfl rfl ?_
            refine em_getA dX12_walkersBy_133 zf_NineHeapsModel_47 rfl (hS.has 81 (by decide) (by decide) rfl) hw rfl ?_
            refine ev_iload dX12_walkersBy_136 rfl ?_
            refine ev_iconst dX12_walkersBy_138 (v := (2 : Int32)) zci_2 ?_
            refine ev_iadd dX12_walkersBy_139 rfl ?_
            obtain ⟨g12, h⟩ := zgd h
            refine em_iald dX12_walkersBy_140 hS (by decide) (by decide) (N := 160) rfl g12 rfl ?_
            obtain ⟨p13, e14, h⟩ := zbd h
            refine ev_callV0 dX12_walkersBy_141 zm12_walker zl_NineHeapsModel_346 zi12_walker zv12_walker (zrcM hS) (As := [.int (I 93 x8.toNatClampNeg), .int (I 93 (x8 + (1 : Int32)).toNatClampNeg), .int (I 93 (x8 + (2 : Int32)).toNatClampNeg)]) (rest := [.int l5]) rfl rfl (Nat.le_of_ble_eq_true rfl) rfl (Nat.le_of_ble_eq_true rfl) (d' := 3) (by omega) (e12_walker hw hS (Nat.le_refl _) e14) (fun v μ1 q => ?_)
            obtain ⟨rfl, rfl⟩ := q
            obtain ⟨x16, e17, h⟩ := zld h
            have k18 : EV w d 0 0 Y12_walkersBy 152 [some (.ref 81), some (.int l1), none, some (.int l3), some (.int l4), some (.int l5), some (.int l6), some (.int x2), some (.int x8)] [.int x16, .int l5] (n, kd, p13.2, R) (q12_walkersBy n kd R r) := by
              refine ev_iadd dX12_walkersBy_152 rfl ?_
              refine ev_istore dX12_walkersBy_153 (by decide) rfl ?_
              refine ev_iinc dX12_walkersBy_155 (v := l6 + (1 : Int32)) rfl rfl (by decide) rfl ?_
              refine ev_goto dX12_walkersBy_158 (tgt := 63) (by decide) ?_
              exact EV.mask [true, true, false, true, true, true, true, false, false] rfl (ih l1 l3 l4 (l5 + x16) (l6 + (1 : Int32)) p13.2 h)
            clear h
            have h := e17
            clear e17
            refine ev_if_lt dX12_walkersBy_144 (tgt := 151) (by decide) (fun c15 => ?_) (fun c15 => ?_)
            · replace h := zit c15 h
              refine ev_iconst dX12_walkersBy_151 (v := (0 : Int32)) zci_0 ?_
              obtain rfl := h
              exact k18
            · replace h := zif c15 h
              refine ev_iconst dX12_walkersBy_147 (v := (1 : Int32)) zci_1 ?_
              refine ev_goto dX12_walkersBy_148 (tgt := 152) (by decide) ?_
              obtain rfl := h
              exact k18
          · replace h := zif c7 h
            refine ev_bipush dX12_walkersBy_101 (v := (-12 : Int32)) zcb_m12 ?_
            obtain rfl := Option.some.inj h
            exact ev_end_i dX12_walkersBy_103 rfl rfl ⟨rfl, rfl⟩
set_option maxHeartbeats 4000000 in
set_option maxRecDepth 100000 in
theorem e12_walkersBy {w : zW} {d : Nat} {n : Nat} {kd : zMK} {I : zMI} {R : zMR} {r : Int32 × zMI} {l1 : Int32} {l2 : Int32} {l3 : Int32} {l4 : Int32} (hw : zst w = zSt0) (hS : zSh n kd) (hd : 4 ≤ d)  (h : f12_walkersBy l1 l2 l3 l4 I = some r) : EV w d 0 0 Y12_walkersBy 0 [some (.ref 81), some (.int l1), some (.int l2), some (.int l3), some (.int l4), none, none, none, none] [] (n, kd, I, R) (q12_walkersBy n kd R r) := by
  unfold f12_walkersBy at h
  refine ev_iload_n dX12_walkersBy_0 rfl rfl ?_
  refine ev_iconst dX12_walkersBy_1 (v := (0 : Int32)) zci_0 ?_
  refine ev_iconst dX12_walkersBy_2 (v := (3 : Int32)) zci_3 ?_
  obtain ⟨p19, e20, h⟩ := zbd h
  refine ev_callS0 dX12_walkersBy_3 zm12_in zl_NineHeapsModel_120 zs12_in (As := [.int l1, .int (0 : Int32), .int (3 : Int32)]) (rest := []) rfl rfl (Nat.le_of_ble_eq_true rfl) rfl (Nat.le_of_ble_eq_true rfl) (d' := 1) (by omega) (e12_in hw hS (Nat.le_refl _) e20) (fun v μ1 q => ?_)
  obtain ⟨rfl, rfl⟩ := q
  refine ev_if_eq dX12_walkersBy_6 (tgt := 28) (by decide) (fun c21 => ?_) (fun c21 => ?_)
  · replace h := zit c21 h
    refine ev_bipush dX12_walkersBy_28 (v := (-2 : Int32)) zcb_m2 ?_
    obtain rfl := Option.some.inj h
    exact ev_end_i dX12_walkersBy_30 rfl rfl ⟨rfl, rfl⟩
  · replace h := zif c21 h
    refine ev_iload_n dX12_walkersBy_9 rfl rfl ?_
    refine ev_iconst dX12_walkersBy_10 (v := (0 : Int32)) zci_0 ?_
    refine ev_iconst dX12_walkersBy_11 (v := (2 : Int32)) zci_2 ?_
    obtain ⟨p22, e23, h⟩ := zbd h
    refine ev_callS0 dX12_walkersBy_12 zm12_in zl_NineHeapsModel_120 zs12_in (As := [.int l2, .int (0 : Int32), .int (2 : Int32)]) (rest := []) rfl rfl (Nat.le_of_ble_eq_true rfl) rfl (Nat.le_of_ble_eq_true rfl) (d' := 1) (by omega) (e12_in hw hS (Nat.le_refl _) e23) (fun v μ1 q => ?_)
    obtain ⟨rfl, rfl⟩ := q
    refine ev_if_eq dX12_walkersBy_15 (tgt := 28) (by decide) (fun c24 => ?_) (fun c24 => ?_)
    · replace h := zit c24 h
      refine ev_bipush dX12_walkersBy_28 (v := (-2 : Int32)) zcb_m2 ?_
      obtain rfl := Option.some.inj h
      exact ev_end_i dX12_walkersBy_30 rfl rfl ⟨rfl, rfl⟩
    · replace h := zif c24 h
      refine ev_iload dX12_walkersBy_18 rfl ?_
      refine ev_iconst dX12_walkersBy_20 (v := (0 : Int32)) zci_0 ?_
      refine ev_iconst dX12_walkersBy_21 (v := (5 : Int32)) zci_5 ?_
      obtain ⟨p25, e26, h⟩ := zbd h
      refine ev_callS0 dX12_walkersBy_22 zm12_in zl_NineHeapsModel_120 zs12_in (As := [.int l4, .int (0 : Int32), .int (5 : Int32)]) (rest := []) rfl rfl (Nat.le_of_ble_eq_true rfl) rfl (Nat.le_of_ble_eq_true rfl) (d' := 1) (by omega) (e12_in hw hS (Nat.le_refl _) e26) (fun v μ1 q => ?_)
      obtain ⟨rfl, rfl⟩ := q
      refine ev_if_ne dX12_walkersBy_25 (tgt := 31) (by decide) (fun c27 => ?_) (fun c27 => ?_)
      · replace h := zif c27 h
        refine ev_aload_n dX12_walkersBy_31 rfl rfl ?_
        refine em_getA dX12_walkersBy_32 zf_NineHeapsModel_41 rfl (hS.has 81 (by decide) (by decide) rfl) hw rfl ?_
        refine ev_iload_n dX12_walkersBy_35 rfl rfl ?_
        obtain ⟨g28, h⟩ := zgd h
        refine em_iald dX12_walkersBy_36 hS (by decide) (by decide) (N := 4) rfl g28 rfl ?_
        refine ev_iconst dX12_walkersBy_37 (v := (-1 : Int32)) zci_m1 ?_
        refine ev_icmp_ne dX12_walkersBy_38 (tgt := 44) (by decide) (fun c29 => ?_) (fun c29 => ?_)
        · replace h := zif c29 h
          refine ev_aload_n dX12_walkersBy_44 rfl rfl ?_
          refine em_getA dX12_walkersBy_45 zf_NineHeapsModel_41 rfl (hS.has 81 (by decide) (by decide) rfl) hw rfl ?_
          refine ev_iload_n dX12_walkersBy_48 rfl rfl ?_
          refine em_iald dX12_walkersBy_49 hS (by decide) (by decide) (N := 4) rfl g28 rfl ?_
          refine ev_iload_n dX12_walkersBy_50 rfl rfl ?_
          refine ev_icmp_eq dX12_walkersBy_51 (tgt := 57) (by decide) (fun c30 => ?_) (fun c30 => ?_)
          · replace h := zit c30 h
            refine ev_iconst dX12_walkersBy_57 (v := (0 : Int32)) zci_0 ?_
            refine ev_istore dX12_walkersBy_58 (by decide) rfl ?_
            refine ev_iconst dX12_walkersBy_60 (v := (0 : Int32)) zci_0 ?_
            refine ev_istore dX12_walkersBy_61 (by decide) rfl ?_
            exact EV.mask [true, true, false, true, true, true, true, false, false] rfl (e12_walkersBy_L63 hw hS hd zF l1 l3 l4 (0 : Int32) (0 : Int32) I h)
          · replace h := zif c30 h
            refine ev_bipush dX12_walkersBy_54 (v := (-13 : Int32)) zcb_m13 ?_
            obtain rfl := Option.some.inj h
            exact ev_end_i dX12_walkersBy_56 rfl rfl ⟨rfl, rfl⟩
        · replace h := zit c29 h
          refine ev_bipush dX12_walkersBy_41 (v := (-11 : Int32)) zcb_m11 ?_
          obtain rfl := Option.some.inj h
          exact ev_end_i dX12_walkersBy_43 rfl rfl ⟨rfl, rfl⟩
      · replace h := zit c27 h
        refine ev_bipush dX12_walkersBy_28 (v := (-2 : Int32)) zcb_m2 ?_
        obtain rfl := Option.some.inj h
        exact ev_end_i dX12_walkersBy_30 rfl rfl ⟨rfl, rfl⟩
abbrev q12_isUnder (n : Nat) (kd : zMK) (I : zMI) (R : zMR) (r : Int32) : Option Value → zM → Prop := fun v μ1 => v = some (.int r) ∧ μ1 = (n, kd, I, R)
set_option maxHeartbeats 4000000 in
set_option maxRecDepth 100000 in
theorem e12_isUnder {w : zW} {d : Nat} {n : Nat} {kd : zMK} {I : zMI} {R : zMR} {r : Int32} {l0 : Int32} {l1 : Int32} (hw : zst w = zSt0) (hS : zSh n kd) (hd : 1 ≤ d)  (h : f12_isUnder l0 l1 = some r) : EV w d 0 0 Y12_isUnder 0 [some (.int l0), some (.int l1)] [] (n, kd, I, R) (q12_isUnder n kd I R r) := by
  unfold f12_isUnder at h
  refine ev_iload_n dX12_isUnder_0 rfl rfl ?_
  obtain ⟨x9, e10, h⟩ := zld h
  have k12 : EV w d 0 0 Y12_isUnder 34 [some (.int l0), some (.int l1)] [.int x9] (n, kd, I, R) (q12_isUnder n kd I R r) := by
    obtain ⟨g11, h⟩ := zgd h
    obtain rfl := Option.some.inj h
    exact ev_end_i dX12_isUnder_34 rfl (zbB_n g11) ⟨rfl, rfl⟩
  clear h
  have h := e10
  clear e10
  refine ev_if_eq dX12_isUnder_1 (tgt := 29) (by decide) (fun c1 => ?_) (fun c1 => ?_)
  · replace h := zit c1 h
    refine ev_iconst dX12_isUnder_29 (v := (1 : Int32)) zci_1 ?_
    refine ev_goto dX12_isUnder_30 (tgt := 34) (by decide) ?_
    obtain rfl := h
    exact k12
  · replace h := zif c1 h
    refine ev_iload_n dX12_isUnder_4 rfl rfl ?_
    refine ev_iload_n dX12_isUnder_5 rfl rfl ?_
    refine ev_icmp_eq dX12_isUnder_6 (tgt := 29) (by decide) (fun c2 => ?_) (fun c2 => ?_)
    · replace h := zit c2 h
      refine ev_iconst dX12_isUnder_29 (v := (1 : Int32)) zci_1 ?_
      refine ev_goto dX12_isUnder_30 (tgt := 34) (by decide) ?_
      obtain rfl := h
      exact k12
    · replace h := zif c2 h
      refine ev_iload_n dX12_isUnder_9 rfl rfl ?_
      refine ev_iconst dX12_isUnder_10 (v := (1 : Int32)) zci_1 ?_
      refine ev_icmp_ne dX12_isUnder_11 (tgt := 19) (by decide) (fun c3 => ?_) (fun c3 => ?_)
      · replace h := zif c3 h
        refine ev_iload_n dX12_isUnder_19 rfl rfl ?_
        refine ev_iconst dX12_isUnder_20 (v := (2 : Int32)) zci_2 ?_
        refine ev_icmp_ne dX12_isUnder_21 (tgt := 33) (by decide) (fun c4 => ?_) (fun c4 => ?_)
        · replace h := zif c4 h
          refine ev_iconst dX12_isUnder_33 (v := (0 : Int32)) zci_0 ?_
          obtain rfl := h
          exact k12
        · replace h := zit c4 h
          refine ev_iload_n dX12_isUnder_24 rfl rfl ?_
          refine ev_iconst dX12_isUnder_25 (v := (4 : Int32)) zci_4 ?_
          refine ev_icmp_ne dX12_isUnder_26 (tgt := 33) (by decide) (fun c5 => ?_) (fun c5 => ?_)
          · replace h := zif c5 h
            refine ev_iconst dX12_isUnder_33 (v := (0 : Int32)) zci_0 ?_
            obtain rfl := h
            exact k12
          · replace h := zit c5 h
            refine ev_iconst dX12_isUnder_29 (v := (1 : Int32)) zci_1 ?_
            refine ev_goto dX12_isUnder_30 (tgt := 34) (by decide) ?_
            obtain rfl := h
            exact k12
      · replace h := zit c3 h
        refine ev_iload_n dX12_isUnder_14 rfl rfl ?_
        refine ev_iconst dX12_isUnder_15 (v := (3 : Int32)) zci_3 ?_
        refine ev_icmp_eq dX12_isUnder_16 (tgt := 29) (by decide) (fun c6 => ?_) (fun c6 => ?_)
        · replace h := zit c6 h
          refine ev_iconst dX12_isUnder_29 (v := (1 : Int32)) zci_1 ?_
          refine ev_goto dX12_isUnder_30 (tgt := 34) (by decide) ?_
          obtain rfl := h
          exact k12
        · replace h := zif c6 h
          refine ev_iload_n dX12_isUnder_19 rfl rfl ?_
          refine ev_iconst dX12_isUnder_20 (v := (2 : Int32)) zci_2 ?_
          refine ev_icmp_ne dX12_isUnder_21 (tgt := 33) (by decide) (fun c7 => ?_) (fun c7 => ?_)
          · replace h := zif c7 h
            refine ev_iconst dX12_isUnder_33 (v := (0 : Int32)) zci_0 ?_
            obtain rfl := h
            exact k12
          · replace h := zit c7 h
            refine ev_iload_n dX12_isUnder_24 rfl rfl ?_
            refine ev_iconst dX12_isUnder_25 (v := (4 : Int32)) zci_4 ?_
            refine ev_icmp_ne dX12_isUnder_26 (tgt := 33) (by decide) (fun c8 => ?_) (fun c8 => ?_)
            · replace h := zif c8 h
              refine ev_iconst dX12_isUnder_33 (v := (0 : Int32)) zci_0 ?_
              obtain rfl := h
              exact k12
            · replace h := zit c8 h
              refine ev_iconst dX12_isUnder_29 (v := (1 : Int32)) zci_1 ?_
              refine ev_goto dX12_isUnder_30 (tgt := 34) (by decide) ?_
              obtain rfl := h
              exact k12
abbrev q12_taken (n : Nat) (kd : zMK) (I : zMI) (R : zMR) (r : Int32) : Option Value → zM → Prop := fun v μ1 => v = some (.int r) ∧ μ1 = (n, kd, I, R)
set_option maxHeartbeats 4000000 in
set_option maxRecDepth 100000 in
theorem e12_taken {w : zW} {d : Nat} {n : Nat} {kd : zMK} {I : zMI} {R : zMR} {r : Int32} {l1 : Int32} {l2 : Int32} (hw : zst w = zSt0) (hS : zSh n kd) (hd : 2 ≤ d)  (h : f12_taken I l1 l2 = some r) : EV w d 0 0 Y12_taken 0 [some (.ref 81), some (.int l1), some (.int l2)] [] (n, kd, I, R) (q12_taken n kd I R r) := by
  unfold f12_taken at h
  refine ev_iload_n dX12_taken_0 rfl rfl ?_
  refine ev_iconst dX12_taken_1 (v := (0 : Int32)) zci_0 ?_
  refine ev_bipush dX12_taken_2 (v := (6 : Int32)) zcb_6 ?_
  obtain ⟨p1, e2, h⟩ := zbd h
  refine ev_callS0 dX12_taken_4 zm12_in zl_NineHeapsModel_120 zs12_in (As := [.int l2, .int (0 : Int32), .int (6 : Int32)]) (rest := []) rfl rfl (Nat.le_of_ble_eq_true rfl) rfl (Nat.le_of_ble_eq_true rfl) (d' := 1) (by omega) (e12_in hw hS (Nat.le_refl _) e2) (fun v μ1 q => ?_)
  obtain ⟨rfl, rfl⟩ := q
  refine ev_if_ne dX12_taken_7 (tgt := 13) (by decide) (fun c3 => ?_) (fun c3 => ?_)
  · replace h := zif c3 h
    refine ev_iload_n dX12_taken_13 rfl rfl ?_
    refine ev_iconst dX12_taken_14 (v := (0 : Int32)) zci_0 ?_
    refine ev_bipush dX12_taken_15 (v := (13 : Int32)) zcb_13 ?_
    obtain ⟨p4, e5, h⟩ := zbd h
    refine ev_callS0 dX12_taken_17 zm12_in zl_NineHeapsModel_120 zs12_in (As := [.int l1, .int (0 : Int32), .int (13 : Int32)]) (rest := []) rfl rfl (Nat.le_of_ble_eq_true rfl) rfl (Nat.le_of_ble_eq_true rfl) (d' := 1) (by omega) (e12_in hw hS (Nat.le_refl _) e5) (fun v μ1 q => ?_)
    obtain ⟨rfl, rfl⟩ := q
    refine ev_if_ne dX12_taken_20 (tgt := 26) (by decide) (fun c6 => ?_) (fun c6 => ?_)
    · replace h := zif c6 h
      refine ev_iload_n dX12_taken_26 rfl rfl ?_
      refine ev_bipush dX12_taken_27 (v := (9 : Int32)) zcb_9 ?_
      refine ev_icmp_ge dX12_taken_29 (tgt := 64) (by decide) (fun c7 => ?_) (fun c7 => ?_)
      · replace h := zit c7 h
        refine ev_iload_n dX12_taken_64 rfl rfl ?_
        refine ev_bipush dX12_taken_65 (v := (9 : Int32)) zcb_9 ?_
        refine ev_isub dX12_taken_67 rfl ?_
        refine ev_aload_n dX12_taken_68 rfl rfl ?_
        refine em_getI dX12_taken_69 zf_NineHeapsModel_117 rfl (hS.has 81 (by decide) (by decide) rfl) rfl ?_
        refine ev_icmp_lt dX12_taken_72 (tgt := 80) (by decide) (fun c8 => ?_) (fun c8 => ?_)
        · replace h := zit c8 h
          refine ev_iload_n dX12_taken_80 rfl rfl ?_
          refine ev_bipush dX12_taken_81 (v := (6 : Int32)) zcb_6 ?_
          refine ev_icmp_ge dX12_taken_83 (tgt := 109) (by decide) (fun c9 => ?_) (fun c9 => ?_)
          · replace h := zit c9 h
            refine ev_bipush dX12_taken_109 (v := (-13 : Int32)) zcb_m13 ?_
            obtain rfl := Option.some.inj h
            exact ev_end_i dX12_taken_111 rfl rfl ⟨rfl, rfl⟩
          · replace h := zif c9 h
            refine ev_aload_n dX12_taken_86 rfl rfl ?_
            refine em_getA dX12_taken_87 zf_NineHeapsModel_20 rfl (hS.has 81 (by decide) (by decide) rfl) hw rfl ?_
            refine ev_iload_n dX12_taken_90 rfl rfl ?_
            refine ev_bipush dX12_taken_91 (v := (9 : Int32)) zcb_9 ?_
            refine ev_isub dX12_taken_93 rfl ?_
            obtain ⟨g10, h⟩ := zgd h
            refine em_iald dX12_taken_94 hS (by decide) (by decide) (N := 5) rfl g10 rfl ?_
            refine ev_iload_n dX12_taken_95 rfl rfl ?_
            obtain ⟨p11, e12, h⟩ := zbd h
            refine ev_callS0 dX12_taken_96 zm12_isUnder zl_NineHeapsModel_349 zs12_isUnder (As := [.int (I 84 (l1 - (9 : Int32)).toNatClampNeg), .int l2]) (rest := []) rfl rfl (Nat.le_of_ble_eq_true rfl) rfl (Nat.le_of_ble_eq_true rfl) (d' := 1) (by omega) (e12_isUnder hw hS (Nat.le_refl _) e12) (fun v μ1 q => ?_)
            obtain ⟨rfl, rfl⟩ := q
            refine ev_if_eq dX12_taken_99 (tgt := 109) (by decide) (fun c13 => ?_) (fun c13 => ?_)
            · replace h := zit c13 h
              refine ev_bipush dX12_taken_109 (v := (-13 : Int32)) zcb_m13 ?_
              obtain rfl := Option.some.inj h
              exact ev_end_i dX12_taken_111 rfl rfl ⟨rfl, rfl⟩
            · replace h := zif c13 h
              refine ev_iload_n dX12_taken_102 rfl rfl ?_
              refine ev_bipush dX12_taken_103 (v := (9 : Int32)) zcb_9 ?_
              refine ev_isub dX12_taken_105 rfl ?_
              refine ev_goto dX12_taken_106 (tgt := 111) (by decide) ?_
              obtain rfl := Option.some.inj h
              exact ev_end_i dX12_taken_111 rfl rfl ⟨rfl, rfl⟩
        · replace h := zif c8 h
          refine ev_bipush dX12_taken_75 (v := (-11 : Int32)) zcb_m11 ?_
          refine ev_goto dX12_taken_77 (tgt := 111) (by decide) ?_
          obtain rfl := Option.some.inj h
          exact ev_end_i dX12_taken_111 rfl rfl ⟨rfl, rfl⟩
      · replace h := zif c7 h
        refine ev_aload_n dX12_taken_32 rfl rfl ?_
        refine em_getA dX12_taken_33 zf_NineHeapsModel_7 rfl (hS.has 81 (by decide) (by decide) rfl) hw rfl ?_
        refine ev_iload_n dX12_taken_36 rfl rfl ?_
        obtain ⟨g14, h⟩ := zgd h
        refine em_iald dX12_taken_37 hS (by decide) (by decide) (N := 9) rfl g14 rfl ?_
        obtain ⟨x17, e18, h⟩ := zld h
        have k19 : EV w d 0 0 Y12_taken 63 [some (.ref 81), some (.int l1), some (.int l2)] [.int x17] (n, kd, I, R) (q12_taken n kd I R r) := by
          obtain rfl := Option.some.inj h
          exact ev_end_i dX12_taken_63 rfl rfl ⟨rfl, rfl⟩
        clear h
        have h := e18
        clear e18
        refine ev_if_ne dX12_taken_38 (tgt := 46) (by decide) (fun c15 => ?_) (fun c15 => ?_)
        · replace h := zif c15 h
          refine ev_iload_n dX12_taken_46 rfl rfl ?_
          refine ev_bipush dX12_taken_47 (v := (6 : Int32)) zcb_6 ?_
          refine ev_icmp_ne dX12_taken_49 (tgt := 61) (by decide) (fun c16 => ?_) (fun c16 => ?_)
          · replace h := zif c16 h
            refine ev_bipush dX12_taken_61 (v := (-13 : Int32)) zcb_m13 ?_
            obtain rfl := h
            exact k19
          · replace h := zit c16 h
            refine ev_aload_n dX12_taken_52 rfl rfl ?_
            refine em_getA dX12_taken_53 zf_NineHeapsModel_7 rfl (hS.has 81 (by decide) (by decide) rfl) hw rfl ?_
            refine ev_iload_n dX12_taken_56 rfl rfl ?_
            refine em_iald dX12_taken_57 hS (by decide) (by decide) (N := 9) rfl g14 rfl ?_
            refine ev_goto dX12_taken_58 (tgt := 63) (by decide) ?_
            obtain rfl := h
            exact k19
        · replace h := zit c15 h
          refine ev_bipush dX12_taken_41 (v := (-11 : Int32)) zcb_m11 ?_
          refine ev_goto dX12_taken_43 (tgt := 63) (by decide) ?_
          obtain rfl := h
          exact k19
    · replace h := zit c6 h
      refine ev_bipush dX12_taken_23 (v := (-12 : Int32)) zcb_m12 ?_
      obtain rfl := Option.some.inj h
      exact ev_end_i dX12_taken_25 rfl rfl ⟨rfl, rfl⟩
  · replace h := zit c3 h
    refine ev_bipush dX12_taken_10 (v := (-2 : Int32)) zcb_m2 ?_
    obtain rfl := Option.some.inj h
    exact ev_end_i dX12_taken_12 rfl rfl ⟨rfl, rfl⟩
