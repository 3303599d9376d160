/-! the machine does as the functions say: laid by program -/
abbrev qL_text (n : Nat) (kd : zMK) (R : zMR) (r : zMI) : Option Value → zM → Prop := fun v μ1 => v = none ∧ μ1 = (n, kd, r, R)
set_option maxHeartbeats 4000000 in
set_option maxRecDepth 100000 in
theorem eL_text_L2 {w : zW} {d : Nat} {sl : Nat} {sf : Nat → Int32}  {n : Nat} {kd : zMK} {R : zMR} {r : zMI}  (hsl : zxl w = sl) (hsf : zxs w = sf) (hw : zst w = zSt0) (hS : zSh n kd) (hd : 5 ≤ d)   : ∀ (q : Nat) (l1 : Nat) (l2 : Int32) (I : zMI), fL_text_L2 n kd R sl sf q l1 l2 I = some r → EV w d 0 0 YL_text 2 [some (.ref 32), some (.ref l1), some (.int l2)] [] (n, kd, I, R) (qL_text n kd R r) := by
  intro q
  induction q with
  | zero =>
    intro l1 l2 I h
    cases h
  | succ q ih =>
    intro l1 l2 I h
    unfold fL_text_L2 at h
    refine ev_iload_n dL_text_2 rfl rfl ?_
    refine ev_aload_n dL_text_3 rfl rfl ?_
    obtain ⟨g1, h⟩ := zgd h
    obtain ⟨p2, e3, h⟩ := zbd h
    refine ev_callV0 dL_text_4 zmJ0_length_8abf5 zl_NineHeapsLaw_7 ziJ0_length_8abf5 zvJ0_length_8abf5 (zrcDS hS g1) (As := []) (rest := [.int l2]) rfl rfl (Nat.le_of_ble_eq_true rfl) rfl (Nat.le_of_ble_eq_true rfl) (d' := 2) (by omega) (eJ0_length_8abf5D hw hS (Nat.le_refl _) e3) (fun v μ1 q => ?_)
    obtain ⟨rfl, rfl⟩ := q
    refine ev_icmp_ge dL_text_7 (tgt := 31) (by decide) (fun c4 => ?_) (fun c4 => ?_)
    · replace h := zit c4 h
      obtain rfl := Option.some.inj h
      exact ev_end_v dL_text_31 rfl ⟨rfl, rfl⟩
    · replace h := zif c4 h
      refine ev_aload_n dL_text_10 rfl rfl ?_
      refine ev_iconst dL_text_11 (v := (1 : Int32)) zci_1 ?_
      refine ev_aload_n dL_text_12 rfl rfl ?_
      refine ev_iload_n dL_text_13 rfl rfl ?_
      obtain ⟨p5, e6, h⟩ := zbd h
      refine ev_callV0 dL_text_14 zmJ0_charAt_5068e zl_NineHeapsLaw_13 ziJ0_charAt_5068e zvJ0_charAt_5068e (zrcDS hS g1) (As := [.int l2]) (rest := [.int (1 : Int32), .ref 32]) rfl rfl (Nat.le_of_ble_eq_true rfl) rfl (Nat.le_of_ble_eq_true rfl) (d' := 4) (by omega) (eJ0_charAt_5068eD hw hS (Nat.le_refl _) e6) (fun v μ1 q => ?_)
      obtain ⟨rfl, rfl⟩ := q
      refine ev_iconst dL_text_17 (v := (0 : Int32)) zci_0 ?_
      refine ev_iconst dL_text_18 (v := (0 : Int32)) zci_0 ?_
      refine ev_iconst dL_text_19 (v := (0 : Int32)) zci_0 ?_
      refine ev_iconst dL_text_20 (v := (0 : Int32)) zci_0 ?_
      obtain ⟨p7, e8, h⟩ := zbd h
      refine ev_callV0 dL_text_21 zm11_feed zl_NineHeapsLaw_17 zi11_feed zv11_feed (zrcX hS) (As := [.int (1 : Int32), .int p5, .int (0 : Int32), .int (0 : Int32), .int (0 : Int32), .int (0 : Int32)]) (rest := []) rfl rfl (Nat.le_of_ble_eq_true rfl) rfl (Nat.le_of_ble_eq_true rfl) (d' := 2) (by omega) (e11_feed hw hS (Nat.le_refl _) e8) (fun v μ1 q => ?_)
      obtain ⟨rfl, rfl⟩ := q
      obtain ⟨p9, e10, h⟩ := zbd h
      obtain ⟨g11, h⟩ := zgp h
      refine EV.ghost g11 ?_
      refine ev_pop dL_text_24 rfl ?_
      refine ev_iinc dL_text_25 (v := l2 + (1 : Int32)) rfl rfl (by decide) rfl ?_
      refine ev_goto dL_text_28 (tgt := 2) (by decide) ?_
      exact EV.mask [true, true, true] rfl (ih l1 (l2 + (1 : Int32)) p9.2 h)
set_option maxHeartbeats 4000000 in
set_option maxRecDepth 100000 in
theorem eL_text {w : zW} {d : Nat} {sl : Nat} {sf : Nat → Int32}  {n : Nat} {kd : zMK} {I : zMI} {R : zMR} {r : zMI} {l1 : Nat} (hsl : zxl w = sl) (hsf : zxs w = sf) (hw : zst w = zSt0) (hS : zSh n kd) (hd : 5 ≤ d)  (h : fL_text n kd R sl sf l1 I = some r) : EV w d 0 0 YL_text 0 [some (.ref 32), some (.ref l1), none] [] (n, kd, I, R) (qL_text n kd R r) := by
  unfold fL_text at h
  refine ev_iconst dL_text_0 (v := (0 : Int32)) zci_0 ?_
  refine ev_istore_n dL_text_1 rfl (by decide) rfl ?_
  exact EV.mask [true, true, true] rfl (eL_text_L2 hsl hsf hw hS hd zF l1 (0 : Int32) I h)
abbrev qL_build  (r : Nat × (Nat × zMK) × zMI × zMR) : Option Value → zM → Prop := fun v μ1 => v = some (.ref r.1) ∧ μ1 = ((r.2.1).1, (r.2.1).2, r.2.2.1, r.2.2.2)
set_option maxHeartbeats 4000000 in
set_option maxRecDepth 100000 in
theorem eL_build_L10 {w : zW} {d : Nat} {sl : Nat} {sf : Nat → Int32}   {r : Nat × (Nat × zMK) × zMI × zMR} {k46 : Nat → zMK → zMI → zMR → Option (Nat × (Nat × zMK) × zMI × zMR)} (hsl : zxl w = sl) (hsf : zxs w = sf) (hw : zst w = zSt0) (hd : 138 ≤ d) (hk46 : ∀  (n : Nat) (kd : zMK) (I : zMI) (R : zMR), k46 n kd I R = some r → EV w d 23 2037 YL_build 46 [some (.ref 26), some (.ref 32), none] [] (n, kd, I, R) (qL_build  r)) : ∀ (q : Nat) (l2 : Int32) (n : Nat) (kd : zMK) (I : zMI) (R : zMR), fL_build_L10 sl sf k46 q l2 n kd I R = some r → EV w d 23 2037 YL_build 10 [some (.ref 26), some (.ref 32), some (.int l2)] [] (n, kd, I, R) (qL_build  r) := by
  intro q
  induction q with
  | zero =>
    intro l2 n kd I R h
    cases h
  | succ q ih =>
    intro l2 n kd I R h
    unfold fL_build_L10 at h
    obtain ⟨g1, h⟩ := zgd h
    have hS := zShB_sh g1
    refine ev_iload_n dL_build_10 rfl rfl ?_
    refine ev_bipush dL_build_11 (v := (9 : Int32)) zcb_9 ?_
    refine ev_icmp_ge dL_build_13 (tgt := 46) (by decide) (fun c2 => ?_) (fun c2 => ?_)
    · replace h := zit c2 h
      exact EV.mask [true, true, false] rfl (EV.more (hk46 n kd I R h) (Nat.le_refl _) (by omega) (by omega))
    · replace h := zif c2 h
      refine ev_aload_n dL_build_16 rfl rfl ?_
      refine ev_iconst dL_build_17 (v := (0 : Int32)) zci_0 ?_
      refine ev_iload_n dL_build_18 rfl rfl ?_
      refine ev_aload_n dL_build_19 rfl rfl ?_
      refine ev_iload_n dL_build_20 rfl rfl ?_
      obtain ⟨p3, e4, h⟩ := zbd h
      refine ev_callS0 dL_build_21 zmL_high zl_NineHeapsLaw_24 zsL_high (As := [.ref 26, .int l2]) (rest := [.int l2, .int (0 : Int32), .ref 32]) rfl rfl (Nat.le_of_ble_eq_true rfl) rfl (Nat.le_of_ble_eq_true rfl) (d' := 2) (by omega) (eL_high hsl hsf (Nat.le_refl _) e4) (fun v μ1 q => ?_)
      obtain ⟨rfl, rfl⟩ := q
      obtain ⟨p5, e6, h⟩ := zbd h
      refine ev_callV0 dL_build_24 zm11_set zl_NineHeapsLaw_30 zi11_set zv11_set (zrcX hS) (As := [.int (0 : Int32), .int l2, .int p3]) (rest := []) rfl rfl (Nat.le_of_ble_eq_true rfl) rfl (Nat.le_of_ble_eq_true rfl) (d' := 2) (by omega) (e11_set hw hS (Nat.le_refl _) e6) (fun v μ1 q => ?_)
      obtain ⟨rfl, rfl⟩ := q
      obtain ⟨p7, e8, h⟩ := zbd h
      obtain ⟨g9, h⟩ := zgp h
      refine EV.ghost g9 ?_
      refine ev_pop dL_build_27 rfl ?_
      refine ev_aload_n dL_build_28 rfl rfl ?_
      refine ev_iconst dL_build_29 (v := (1 : Int32)) zci_1 ?_
      refine ev_iload_n dL_build_30 rfl rfl ?_
      refine ev_aload_n dL_build_31 rfl rfl ?_
      refine ev_iload_n dL_build_32 rfl rfl ?_
      obtain ⟨p10, e11, h⟩ := zbd h
      refine ev_callS0 dL_build_33 zmL_stick zl_NineHeapsLaw_34 zsL_stick (As := [.ref 26, .int l2]) (rest := [.int l2, .int (1 : Int32), .ref 32]) rfl rfl (Nat.le_of_ble_eq_true rfl) rfl (Nat.le_of_ble_eq_true rfl) (d' := 2) (by omega) (eL_stick hsl hsf (Nat.le_refl _) e11) (fun v μ1 q => ?_)
      obtain ⟨rfl, rfl⟩ := q
      obtain ⟨p12, e13, h⟩ := zbd h
      refine ev_callV0 dL_build_36 zm11_set zl_NineHeapsLaw_30 zi11_set zv11_set (zrcX hS) (As := [.int (1 : Int32), .int l2, .int p10]) (rest := []) rfl rfl (Nat.le_of_ble_eq_true rfl) rfl (Nat.le_of_ble_eq_true rfl) (d' := 2) (by omega) (e11_set hw hS (Nat.le_refl _) e13) (fun v μ1 q => ?_)
      obtain ⟨rfl, rfl⟩ := q
      obtain ⟨p14, e15, h⟩ := zbd h
      obtain ⟨g16, h⟩ := zgp h
      refine EV.ghost g16 ?_
      refine ev_pop dL_build_39 rfl ?_
      refine ev_iinc dL_build_40 (v := l2 + (1 : Int32)) rfl rfl (by decide) rfl ?_
      refine ev_goto dL_build_43 (tgt := 10) (by decide) ?_
      exact EV.mask [true, true, true] rfl (EV.more (ih (l2 + (1 : Int32)) n kd p14.2 R h) (Nat.le_refl _) (by omega) (by omega))
set_option maxHeartbeats 4000000 in
set_option maxRecDepth 100000 in
theorem eL_build_L59 {w : zW} {d : Nat} {sl : Nat} {sf : Nat → Int32}   {r : Nat × (Nat × zMK) × zMI × zMR} {k93 : Nat → zMK → zMI → zMR → Option (Nat × (Nat × zMK) × zMI × zMR)} (hsl : zxl w = sl) (hsf : zxs w = sf) (hw : zst w = zSt0) (hd : 138 ≤ d) (hk93 : ∀  (n : Nat) (kd : zMK) (I : zMI) (R : zMR), k93 n kd I R = some r → EV w d 18 1982 YL_build 93 [some (.ref 26), some (.ref 32), none] [] (n, kd, I, R) (qL_build  r)) : ∀ (q : Nat) (l2 : Int32) (n : Nat) (kd : zMK) (I : zMI) (R : zMR), fL_build_L59 sl sf k93 q l2 n kd I R = some r → EV w d (q * 1 + 18) (q * 11 + 1982) YL_build 59 [some (.ref 26), some (.ref 32), some (.int l2)] [] (n, kd, I, R) (qL_build  r) := by
  intro q
  induction q with
  | zero =>
    intro l2 n kd I R h
    cases h
  | succ q ih =>
    intro l2 n kd I R h
    unfold fL_build_L59 at h
    obtain ⟨g17, h⟩ := zgd h
    have hS := zShB_sh g17
    refine ev_iload_n dL_build_59 rfl rfl ?_
    refine ev_aload_n dL_build_60 rfl rfl ?_
    obtain ⟨p18, e19, h⟩ := zbd h
    refine ev_callS0 dL_build_61 zmL_many zl_NineHeapsLaw_41 zsL_many (As := [.ref 26]) (rest := [.int l2]) rfl rfl (Nat.le_of_ble_eq_true rfl) rfl (Nat.le_of_ble_eq_true rfl) (d' := 2) (by omega) (eL_many hsl hsf (Nat.le_refl _) e19) (fun v μ1 q => ?_)
    obtain ⟨rfl, rfl⟩ := q
    refine ev_icmp_ge dL_build_64 (tgt := 93) (by decide) (fun c20 => ?_) (fun c20 => ?_)
    · replace h := zit c20 h
      exact EV.mask [true, true, false] rfl (EV.more (hk93 n kd I R h) (Nat.le_refl _) (by omega) (by omega))
    · replace h := zif c20 h
      refine ev_aload_n dL_build_67 rfl rfl ?_
      refine ev_aload_n dL_build_68 rfl rfl ?_
      refine ev_iload_n dL_build_69 rfl rfl ?_
      obtain ⟨p21, e22, h⟩ := zbd h
      refine ev_callS0 dL_build_70 zmL_kind zl_NineHeapsLaw_44 zsL_kind (As := [.ref 26, .int l2]) (rest := [.ref 32]) rfl rfl (Nat.le_of_ble_eq_true rfl) rfl (Nat.le_of_ble_eq_true rfl) (d' := 2) (by omega) (eL_kind hsl hsf (Nat.le_refl _) e22) (fun v μ1 q => ?_)
      obtain ⟨rfl, rfl⟩ := q
      refine ev_aload_n dL_build_73 rfl rfl ?_
      refine ev_iload_n dL_build_74 rfl rfl ?_
      obtain ⟨p23, e24, h⟩ := zbd h
      refine ev_callS0 dL_build_75 zmL_more zl_NineHeapsLaw_47 zsL_more (As := [.ref 26, .int l2]) (rest := [.int p21, .ref 32]) rfl rfl (Nat.le_of_ble_eq_true rfl) rfl (Nat.le_of_ble_eq_true rfl) (d' := 2) (by omega) (eL_more hsl hsf (Nat.le_refl _) e24) (fun v μ1 q => ?_)
      obtain ⟨rfl, rfl⟩ := q
      refine ev_aload_n dL_build_78 rfl rfl ?_
      refine ev_iload_n dL_build_79 rfl rfl ?_
      obtain ⟨p25, e26, h⟩ := zbd h
      refine ev_callS0 dL_build_80 zmL_from zl_NineHeapsLaw_50 zsL_from (As := [.ref 26, .int l2]) (rest := [.int p23, .int p21, .ref 32]) rfl rfl (Nat.le_of_ble_eq_true rfl) rfl (Nat.le_of_ble_eq_true rfl) (d' := 2) (by omega) (eL_from hsl hsf (Nat.le_refl _) e26) (fun v μ1 q => ?_)
      obtain ⟨rfl, rfl⟩ := q
      obtain ⟨p27, e28, h⟩ := zbd h
      refine ev_callVK (k2 := (q * 1 + 18)) (z2 := (q * 11 + 1982)) dL_build_83 zm11_walker zl_NineHeapsLaw_53 zi11_walker zv11_walker (zrcX hS) (As := [.int p21, .int p23, .int p25]) (rest := []) rfl rfl (Nat.le_of_ble_eq_true rfl) rfl (Nat.le_of_ble_eq_true rfl) (d' := 6) (by omega) (e11_walker hw hS (Nat.le_refl _) e28) (by omega) (by omega) (fun v μ1 q => ?_)
      obtain ⟨rfl, rfl⟩ := q
      obtain ⟨g29, h⟩ := zgd h
      have hS := zShB_sh g29
      obtain ⟨p30, e31, h⟩ := zbd h
      obtain ⟨g32, h⟩ := zgp h
      refine EV.ghost g32 ?_
      refine ev_pop dL_build_86 rfl ?_
      refine ev_iinc dL_build_87 (v := l2 + (1 : Int32)) rfl rfl (by decide) rfl ?_
      refine ev_goto dL_build_90 (tgt := 59) (by decide) ?_
      exact EV.mask [true, true, true] rfl (EV.more (ih (l2 + (1 : Int32)) p27.2.1.1 p27.2.1.2 p30.2 p27.2.2.2 h) (Nat.le_refl _) (by omega) (by omega))
set_option maxHeartbeats 4000000 in
set_option maxRecDepth 100000 in
theorem eL_build_B93 {w : zW} {d : Nat} {sl : Nat} {sf : Nat → Int32}   {r : Nat × (Nat × zMK) × zMI × zMR}  (hsl : zxl w = sl) (hsf : zxs w = sf) (hw : zst w = zSt0) (hd : 138 ≤ d)  : ∀  (n : Nat) (kd : zMK) (I : zMI) (R : zMR), fL_build_B93 sl sf n kd I R = some r → EV w d 18 1982 YL_build 93 [some (.ref 26), some (.ref 32), none] [] (n, kd, I, R) (qL_build  r) := by
  intro n kd I R h
  unfold fL_build_B93 at h
  obtain ⟨g33, h⟩ := zgd h
  have hS := zShB_sh g33
  refine ev_aload_n dL_build_93 rfl rfl ?_
  obtain ⟨p34, e35, h⟩ := zbd h
  refine ev_callS0 dL_build_94 zmL_plain zl_NineHeapsLaw_56 zsL_plain (As := [.ref 26]) (rest := []) rfl rfl (Nat.le_of_ble_eq_true rfl) rfl (Nat.le_of_ble_eq_true rfl) (d' := 2) (by omega) (eL_plain hsl hsf (Nat.le_refl _) e35) (fun v μ1 q => ?_)
  obtain ⟨rfl, rfl⟩ := q
  refine ev_if_ne dL_build_97 (tgt := 182) (by decide) (fun c36 => ?_) (fun c36 => ?_)
  · replace h := zif c36 h
    refine ev_aload_n dL_build_182 rfl rfl ?_
    obtain rfl := Option.some.inj h
    exact ev_end_r dL_build_183 rfl (Or.inl ⟨_, rfl⟩) ⟨rfl, rfl⟩
  · replace h := zit c36 h
    refine ev_aload_n dL_build_100 rfl rfl ?_
    obtain ⟨D39, e40, h⟩ := zld h
    obtain ⟨J41, e42, h⟩ := zld h
    obtain ⟨T43, e44, h⟩ := zld h
    refine em_newK (kc' := 17) (ks' := 1978) dL_build_101 (c := 12) (N := 4) (by decide) zc_NineHeapsLaw_60 zj12 zn_java_lang_StringBuilder rfl (fun k => by rw [hw]; exact zSt0_big (Nat.le_trans hS.1 (by omega)) k) hS.top (by omega) (by omega) ?_
    rw [e40, e42, e44]
    obtain ⟨g45, h⟩ := zgd h
    have hS := zShB_sh g45
    refine ev_dup dL_build_104 rfl ?_
    obtain ⟨p46, e47, h⟩ := zbd h
    refine ev_callIK (k2 := 16) (z2 := 1818) dL_build_105 zmJ4_init_da8c8 zl_NineHeapsLaw_62 ziJ4_init_da8c8 rfl rfl (As := []) (rest := [.ref n, .ref 32]) rfl rfl (Nat.le_of_ble_eq_true rfl) rfl (Nat.le_of_ble_eq_true rfl) (d' := 3) (by omega) (eJ4_init_da8c8j hw hS (Nat.le_refl _) e47) (by omega) (by omega) (fun v μ1 q => ?_)
    obtain ⟨rfl, rfl⟩ := q
    obtain ⟨g48, h⟩ := zgd h
    have hS := zShB_sh g48
    refine ev_ldcT (i := 0) dL_build_108 (by decide) rfl rfl ?_
    obtain ⟨g49, h⟩ := zgd h
    obtain ⟨p50, e51, h⟩ := zbd h
    refine ev_callVK (k2 := 15) (z2 := 1658) dL_build_110 zmJ4_append_15ec4 zl_NineHeapsLaw_65 ziJ4_append_15ec4 zvJ4_append_15ec4 (zrcSB hS g49) (As := [.ref 81]) (rest := [.ref 32]) rfl rfl (Nat.le_of_ble_eq_true rfl) rfl (Nat.le_of_ble_eq_true rfl) (d' := 8) (by omega) (eJ4_append_15ec4j hw hS (Nat.le_refl _) e51) (by omega) (by omega) (fun v μ1 q => ?_)
    obtain ⟨rfl, rfl⟩ := q
    obtain ⟨g52, h⟩ := zgd h
    have hS := zShB_sh g52
    refine ev_aload_n dL_build_113 rfl rfl ?_
    refine ev_iconst dL_build_114 (v := (0 : Int32)) zci_0 ?_
    obtain ⟨p53, e54, h⟩ := zbd h
    refine ev_callS0 dL_build_115 zmL_at zl_NineHeapsLaw_69 zsL_at (As := [.ref 26, .int (0 : Int32)]) (rest := [.ref p50.1, .ref 32]) rfl rfl (Nat.le_of_ble_eq_true rfl) rfl (Nat.le_of_ble_eq_true rfl) (d' := 1) (by omega) (eL_at hsl hsf (Nat.le_refl _) e54) (fun v μ1 q => ?_)
    obtain ⟨rfl, rfl⟩ := q
    refine ev_bipush dL_build_118 (v := (6 : Int32)) zcb_6 ?_
    refine ev_ishr dL_build_120 rfl ?_
    refine ev_iconst dL_build_121 (v := (1 : Int32)) zci_1 ?_
    refine ev_iand dL_build_122 rfl ?_
    obtain ⟨g55, h⟩ := zgd h
    obtain ⟨p56, e57, h⟩ := zbd h
    refine ev_callVK (k2 := 14) (z2 := 1498) dL_build_123 zmJ4_append_bf812 zl_NineHeapsLaw_72 ziJ4_append_bf812 zvJ4_append_bf812 (zrcSB hS g55) (As := [.int ((p53 >>> ((6 : Int32) &&& 31)) &&& (1 : Int32))]) (rest := [.ref 32]) rfl rfl (Nat.le_of_ble_eq_true rfl) rfl (Nat.le_of_ble_eq_true rfl) (d' := 7) (by omega) (eJ4_append_bf812j hw hS (Nat.le_refl _) e57) (by omega) (by omega) (fun v μ1 q => ?_)
    obtain ⟨rfl, rfl⟩ := q
    obtain ⟨g58, h⟩ := zgd h
    have hS := zShB_sh g58
    refine ev_ldcT (i := 1) dL_build_126 (by decide) rfl rfl ?_
    obtain ⟨g59, h⟩ := zgd h
    obtain ⟨p60, e61, h⟩ := zbd h
    refine ev_callVK (k2 := 13) (z2 := 1338) dL_build_128 zmJ4_append_15ec4 zl_NineHeapsLaw_65 ziJ4_append_15ec4 zvJ4_append_15ec4 (zrcSB hS g59) (As := [.ref 82]) (rest := [.ref 32]) rfl rfl (Nat.le_of_ble_eq_true rfl) rfl (Nat.le_of_ble_eq_true rfl) (d' := 8) (by omega) (eJ4_append_15ec4j hw hS (Nat.le_refl _) e61) (by omega) (by omega) (fun v μ1 q => ?_)
    obtain ⟨rfl, rfl⟩ := q
    obtain ⟨g62, h⟩ := zgd h
    have hS := zShB_sh g62
    refine ev_aload_n dL_build_131 rfl rfl ?_
    refine ev_iconst dL_build_132 (v := (0 : Int32)) zci_0 ?_
    obtain ⟨p63, e64, h⟩ := zbd h
    refine ev_callS0 dL_build_133 zmL_at zl_NineHeapsLaw_69 zsL_at (As := [.ref 26, .int (0 : Int32)]) (rest := [.ref p60.1, .ref 32]) rfl rfl (Nat.le_of_ble_eq_true rfl) rfl (Nat.le_of_ble_eq_true rfl) (d' := 1) (by omega) (eL_at hsl hsf (Nat.le_refl _) e64) (fun v μ1 q => ?_)
    obtain ⟨rfl, rfl⟩ := q
    refine ev_bipush dL_build_136 (v := (7 : Int32)) zcb_7 ?_
    refine ev_ishr dL_build_138 rfl ?_
    refine ev_iconst dL_build_139 (v := (3 : Int32)) zci_3 ?_
    refine ev_iand dL_build_140 rfl ?_
    obtain ⟨g65, h⟩ := zgd h
    obtain ⟨p66, e67, h⟩ := zbd h
    refine ev_callVK (k2 := 12) (z2 := 1178) dL_build_141 zmJ4_append_bf812 zl_NineHeapsLaw_72 ziJ4_append_bf812 zvJ4_append_bf812 (zrcSB hS g65) (As := [.int ((p63 >>> ((7 : Int32) &&& 31)) &&& (3 : Int32))]) (rest := [.ref 32]) rfl rfl (Nat.le_of_ble_eq_true rfl) rfl (Nat.le_of_ble_eq_true rfl) (d' := 7) (by omega) (eJ4_append_bf812j hw hS (Nat.le_refl _) e67) (by omega) (by omega) (fun v μ1 q => ?_)
    obtain ⟨rfl, rfl⟩ := q
    obtain ⟨g68, h⟩ := zgd h
    have hS := zShB_sh g68
    refine ev_ldcT (i := 2) dL_build_144 (by decide) rfl rfl ?_
    obtain ⟨g69, h⟩ := zgd h
    obtain ⟨p70, e71, h⟩ := zbd h
    refine ev_callVK (k2 := 11) (z2 := 1018) dL_build_146 zmJ4_append_15ec4 zl_NineHeapsLaw_65 ziJ4_append_15ec4 zvJ4_append_15ec4 (zrcSB hS g69) (As := [.ref 83]) (rest := [.ref 32]) rfl rfl (Nat.le_of_ble_eq_true rfl) rfl (Nat.le_of_ble_eq_true rfl) (d' := 8) (by omega) (eJ4_append_15ec4j hw hS (Nat.le_refl _) e71) (by omega) (by omega) (fun v μ1 q => ?_)
    obtain ⟨rfl, rfl⟩ := q
    obtain ⟨g72, h⟩ := zgd h
    have hS := zShB_sh g72
    refine ev_aload_n dL_build_149 rfl rfl ?_
    refine ev_iconst dL_build_150 (v := (0 : Int32)) zci_0 ?_
    obtain ⟨p73, e74, h⟩ := zbd h
    refine ev_callS0 dL_build_151 zmL_at zl_NineHeapsLaw_69 zsL_at (As := [.ref 26, .int (0 : Int32)]) (rest := [.ref p70.1, .ref 32]) rfl rfl (Nat.le_of_ble_eq_true rfl) rfl (Nat.le_of_ble_eq_true rfl) (d' := 1) (by omega) (eL_at hsl hsf (Nat.le_refl _) e74) (fun v μ1 q => ?_)
    obtain ⟨rfl, rfl⟩ := q
    refine ev_bipush dL_build_154 (v := (9 : Int32)) zcb_9 ?_
    refine ev_ishr dL_build_156 rfl ?_
    refine ev_iconst dL_build_157 (v := (3 : Int32)) zci_3 ?_
    refine ev_iand dL_build_158 rfl ?_
    obtain ⟨g75, h⟩ := zgd h
    obtain ⟨p76, e77, h⟩ := zbd h
    refine ev_callVK (k2 := 10) (z2 := 858) dL_build_159 zmJ4_append_bf812 zl_NineHeapsLaw_72 ziJ4_append_bf812 zvJ4_append_bf812 (zrcSB hS g75) (As := [.int ((p73 >>> ((9 : Int32) &&& 31)) &&& (3 : Int32))]) (rest := [.ref 32]) rfl rfl (Nat.le_of_ble_eq_true rfl) rfl (Nat.le_of_ble_eq_true rfl) (d' := 7) (by omega) (eJ4_append_bf812j hw hS (Nat.le_refl _) e77) (by omega) (by omega) (fun v μ1 q => ?_)
    obtain ⟨rfl, rfl⟩ := q
    obtain ⟨g78, h⟩ := zgd h
    have hS := zShB_sh g78
    refine ev_ldcT (i := 3) dL_build_162 (by decide) rfl rfl ?_
    obtain ⟨g79, h⟩ := zgd h
    obtain ⟨p80, e81, h⟩ := zbd h
    refine ev_callVK (k2 := 9) (z2 := 698) dL_build_164 zmJ4_append_15ec4 zl_NineHeapsLaw_65 ziJ4_append_15ec4 zvJ4_append_15ec4 (zrcSB hS g79) (As := [.ref 84]) (rest := [.ref 32]) rfl rfl (Nat.le_of_ble_eq_true rfl) rfl (Nat.le_of_ble_eq_true rfl) (d' := 8) (by omega) (eJ4_append_15ec4j hw hS (Nat.le_refl _) e81) (by omega) (by omega) (fun v μ1 q => ?_)
    obtain ⟨rfl, rfl⟩ := q
    obtain ⟨g82, h⟩ := zgd h
    have hS := zShB_sh g82
    obtain ⟨g83, h⟩ := zgd h
    obtain ⟨p84, e85, h⟩ := zbd h
    refine ev_callVK (k2 := 7) (z2 := 534) dL_build_167 zmJ4_toString_0e30d zl_NineHeapsLaw_81 ziJ4_toString_0e30d zvJ4_toString_0e30d (zrcSB hS g83) (As := []) (rest := [.ref 32]) rfl rfl (Nat.le_of_ble_eq_true rfl) rfl (Nat.le_of_ble_eq_true rfl) (d' := 7) (by omega) (eJ4_toString_0e30dj hw hS (Nat.le_refl _) e85) (by omega) (by omega) (fun v μ1 q => ?_)
    obtain ⟨rfl, rfl⟩ := q
    obtain ⟨g86, h⟩ := zgd h
    have hS := zShB_sh g86
    obtain ⟨p87, e88, h⟩ := zbd h
    refine ev_callS0 dL_build_170 zmL_text zl_NineHeapsLaw_85 zsL_text (As := [.ref 32, .ref p84.1]) (rest := []) rfl rfl (Nat.le_of_ble_eq_true rfl) rfl (Nat.le_of_ble_eq_true rfl) (d' := 5) (by omega) (eL_text hsl hsf hw hS (Nat.le_refl _) e88) (fun v μ1 q => ?_)
    obtain ⟨rfl, rfl⟩ := q
    refine ev_aload_n dL_build_173 rfl rfl ?_
    refine ev_aload_n dL_build_174 rfl rfl ?_
    obtain ⟨p89, e90, h⟩ := zbd h
    refine ev_callVK (k2 := 0) (z2 := 0) dL_build_175 zm11_text zl_NineHeapsLaw_89 zi11_text zv11_text (zrcX hS) (As := []) (rest := [.ref 32]) rfl rfl (Nat.le_of_ble_eq_true rfl) rfl (Nat.le_of_ble_eq_true rfl) (d' := 137) (by omega) (e11_text hw hS (Nat.le_refl _) e90) (by omega) (by omega) (fun v μ1 q => ?_)
    obtain ⟨rfl, rfl⟩ := q
    obtain ⟨g91, h⟩ := zgd h
    have hS := zShB_sh g91
    obtain ⟨p92, e93, h⟩ := zbd h
    obtain ⟨g94, h⟩ := zgp h
    refine EV.ghost g94 ?_
    obtain ⟨p95, e96, h⟩ := zbd h
    refine ev_callV0 dL_build_178 zm11_force zl_NineHeapsLaw_91 zi11_force zv11_force (zrcX hS) (As := [.int p89.1]) (rest := []) rfl rfl (Nat.le_of_ble_eq_true rfl) rfl (Nat.le_of_ble_eq_true rfl) (d' := 1) (by omega) (e11_force hw hS (Nat.le_refl _) e96) (fun v μ1 q => ?_)
    obtain ⟨rfl, rfl⟩ := q
    obtain ⟨p97, e98, h⟩ := zbd h
    obtain ⟨g99, h⟩ := zgp h
    refine EV.ghost g99 ?_
    refine ev_pop dL_build_181 rfl ?_
    refine ev_aload_n dL_build_182 rfl rfl ?_
    obtain rfl := Option.some.inj h
    exact ev_end_r dL_build_183 rfl (Or.inl ⟨_, rfl⟩) ⟨rfl, rfl⟩
set_option maxHeartbeats 4000000 in
set_option maxRecDepth 100000 in
theorem eL_build_B46 {w : zW} {d : Nat} {sl : Nat} {sf : Nat → Int32}   {r : Nat × (Nat × zMK) × zMI × zMR}  (hsl : zxl w = sl) (hsf : zxs w = sf) (hw : zst w = zSt0) (hd : 138 ≤ d)  : ∀  (n : Nat) (kd : zMK) (I : zMI) (R : zMR), fL_build_B46 sl sf n kd I R = some r → EV w d 23 2037 YL_build 46 [some (.ref 26), some (.ref 32), none] [] (n, kd, I, R) (qL_build  r) := by
  intro n kd I R h
  unfold fL_build_B46 at h
  obtain ⟨g100, h⟩ := zgd h
  have hS := zShB_sh g100
  refine ev_aload_n dL_build_46 rfl rfl ?_
  refine ev_iconst dL_build_47 (v := (2 : Int32)) zci_2 ?_
  refine ev_iconst dL_build_48 (v := (0 : Int32)) zci_0 ?_
  refine ev_aload_n dL_build_49 rfl rfl ?_
  obtain ⟨p101, e102, h⟩ := zbd h
  refine ev_callS0 dL_build_50 zmL_want zl_NineHeapsLaw_37 zsL_want (As := [.ref 26]) (rest := [.int (0 : Int32), .int (2 : Int32), .ref 32]) rfl rfl (Nat.le_of_ble_eq_true rfl) rfl (Nat.le_of_ble_eq_true rfl) (d' := 2) (by omega) (eL_want hsl hsf (Nat.le_refl _) e102) (fun v μ1 q => ?_)
  obtain ⟨rfl, rfl⟩ := q
  obtain ⟨p103, e104, h⟩ := zbd h
  refine ev_callV0 dL_build_53 zm11_set zl_NineHeapsLaw_30 zi11_set zv11_set (zrcX hS) (As := [.int (2 : Int32), .int (0 : Int32), .int p101]) (rest := []) rfl rfl (Nat.le_of_ble_eq_true rfl) rfl (Nat.le_of_ble_eq_true rfl) (d' := 2) (by omega) (e11_set hw hS (Nat.le_refl _) e104) (fun v μ1 q => ?_)
  obtain ⟨rfl, rfl⟩ := q
  obtain ⟨p105, e106, h⟩ := zbd h
  obtain ⟨g107, h⟩ := zgp h
  refine EV.ghost g107 ?_
  refine ev_pop dL_build_56 rfl ?_
  refine ev_iconst dL_build_57 (v := (0 : Int32)) zci_0 ?_
  refine ev_istore_n dL_build_58 rfl (by decide) rfl ?_
  exact EV.mask [true, true, true] rfl (EV.more (eL_build_L59 hsl hsf hw hd (fun n' kd' I' R' h' => eL_build_B93 hsl hsf hw hd n' kd' I' R' h') 5 (0 : Int32) n kd p105.2 R h) (Nat.le_refl _) (by omega) (by omega))
set_option maxHeartbeats 4000000 in
set_option maxRecDepth 100000 in
theorem eL_build {w : zW} {d : Nat} {sl : Nat} {sf : Nat → Int32}  {n : Nat} {kd : zMK} {I : zMI} {R : zMR} {r : Nat × (Nat × zMK) × zMI × zMR}  (hsl : zxl w = sl) (hsf : zxs w = sf) (hw : zst w = zSt0) (hS : zSh n kd) (hd : 138 ≤ d) (h : fL_build sl sf n kd I R = some r) : EV w d 23 2037 YL_build 8 [some (.ref 26), some (.ref 32), none] [] (n, kd, I, R) (qL_build  r) := by
  unfold fL_build at h
  refine ev_iconst dL_build_8 (v := (0 : Int32)) zci_0 ?_
  refine ev_istore_n dL_build_9 rfl (by decide) rfl ?_
  exact EV.mask [true, true, true] rfl (EV.more (eL_build_L10 hsl hsf hw hd (fun n' kd' I' R' h' => eL_build_B46 hsl hsf hw hd n' kd' I' R' h') zF (0 : Int32) n kd I R h) (Nat.le_refl _) (by omega) (by omega))
