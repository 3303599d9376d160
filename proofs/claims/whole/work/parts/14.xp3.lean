/-! the machine does as the functions say: laid by program -/
abbrev q11_slowest (n : Nat) (kd : zMK) (r : Int32 × zMI × zMR) : Option Value → zM → Prop := fun v μ1 => v = some (.int r.1) ∧ μ1 = (n, kd, r.2.1, r.2.2)
set_option maxHeartbeats 4000000 in
set_option maxRecDepth 100000 in
theorem e11_slowest_L27 {w : zW} {d : Nat} {n : Nat} {kd : zMK} {r : Int32 × zMI × zMR}  (hw : zst w = zSt0) (hS : zSh n kd) (hd : 8 ≤ d)   : ∀ (q : Nat) (l1 : Int32) (l2 : Int32) (l3 : Int32) (I : zMI) (R : zMR), f11_slowest_L27 n kd q l1 l2 l3 I R = some r → EV w d 0 0 Y11_slowest 27 [some (.ref 32), some (.int l1), some (.int l2), some (.int l3)] [] (n, kd, I, R) (q11_slowest n kd r) := by
  intro q
  induction q with
  | zero =>
    intro l1 l2 l3 I R h
    cases h
  | succ q ih =>
    intro l1 l2 l3 I R h
    unfold f11_slowest_L27 at h
    refine ev_iload_n dX11_slowest_27 rfl rfl ?_
    refine ev_aload_n dX11_slowest_28 rfl rfl ?_
    refine em_getI dX11_slowest_29 zf_NineHeaps_94 rfl (hS.has 32 (by decide) (by decide) rfl) rfl ?_
    refine ev_icmp_ge dX11_slowest_32 (tgt := 73) (by decide) (fun c1 => ?_) (fun c1 => ?_)
    · replace h := zit c1 h
      refine ev_iconst dX11_slowest_73 (v := (-1 : Int32)) zci_m1 ?_
      obtain rfl := Option.some.inj h
      exact ev_end_i dX11_slowest_74 rfl rfl ⟨rfl, rfl⟩
    · replace h := zif c1 h
      refine ev_iload_n dX11_slowest_35 rfl rfl ?_
      refine ev_iconst dX11_slowest_36 (v := (5 : Int32)) zci_5 ?_
      refine ev_icmp_ge dX11_slowest_37 (tgt := 73) (by decide) (fun c2 => ?_) (fun c2 => ?_)
      · replace h := zit c2 h
        refine ev_iconst dX11_slowest_73 (v := (-1 : Int32)) zci_m1 ?_
        obtain rfl := Option.some.inj h
        exact ev_end_i dX11_slowest_74 rfl rfl ⟨rfl, rfl⟩
      · replace h := zif c2 h
        refine ev_aload_n dX11_slowest_40 rfl rfl ?_
        refine ev_iload_n dX11_slowest_41 rfl rfl ?_
        refine ev_iload_n dX11_slowest_42 rfl rfl ?_
        refine ev_aload_n dX11_slowest_43 rfl rfl ?_
        refine em_getA dX11_slowest_44 zf_NineHeaps_60 rfl (hS.has 32 (by decide) (by decide) rfl) hw rfl ?_
        refine ev_iload_n dX11_slowest_47 rfl rfl ?_
        obtain ⟨g3, h⟩ := zgd h
        refine em_iald dX11_slowest_48 hS (by decide) (by decide) (N := 5) rfl g3 rfl ?_
        obtain ⟨p4, e5, h⟩ := zbd h
        refine ev_callV0 dX11_slowest_49 zm11_ownSeconds zl_NineHeaps_266 zi11_ownSeconds zv11_ownSeconds (zrcX hS) (As := [.int l3, .int l2, .int (I 63 l3.toNatClampNeg)]) (rest := []) rfl rfl (Nat.le_of_ble_eq_true rfl) rfl (Nat.le_of_ble_eq_true rfl) (d' := 5) (by omega) (e11_ownSeconds hw hS (Nat.le_refl _) e5) (fun v μ1 q => ?_)
        obtain ⟨rfl, rfl⟩ := q
        refine ev_iload_n dX11_slowest_52 rfl rfl ?_
        refine ev_icmp_ne dX11_slowest_53 (tgt := 58) (by decide) (fun c6 => ?_) (fun c6 => ?_)
        · replace h := zif c6 h
          refine ev_iload_n dX11_slowest_58 rfl rfl ?_
          refine ev_aload_n dX11_slowest_59 rfl rfl ?_
          refine em_getA dX11_slowest_60 zf_NineHeaps_60 rfl (hS.has 32 (by decide) (by decide) rfl) hw rfl ?_
          refine ev_iload_n dX11_slowest_63 rfl rfl ?_
          refine em_iald dX11_slowest_64 hS (by decide) (by decide) (N := 5) rfl g3 rfl ?_
          refine ev_iadd dX11_slowest_65 rfl ?_
          obtain ⟨x7, e8, h⟩ := zld h
          refine ev_nm e8 ?_
          refine ev_istore_n dX11_slowest_66 rfl (by decide) rfl ?_
          refine ev_iinc dX11_slowest_67 (v := l3 + (1 : Int32)) rfl rfl (by decide) rfl ?_
          refine ev_goto dX11_slowest_70 (tgt := 27) (by decide) ?_
          exact EV.mask [true, true, true, true] rfl (ih l1 x7 (l3 + (1 : Int32)) p4.2 R h)
        · replace h := zit c6 h
          refine ev_iload_n dX11_slowest_56 rfl rfl ?_
          obtain rfl := Option.some.inj h
          exact ev_end_i dX11_slowest_57 rfl rfl ⟨rfl, rfl⟩
set_option maxHeartbeats 4000000 in
set_option maxRecDepth 100000 in
theorem e11_slowest {w : zW} {d : Nat} {n : Nat} {kd : zMK} {I : zMI} {R : zMR} {r : Int32 × zMI × zMR}  (hw : zst w = zSt0) (hS : zSh n kd) (hd : 8 ≤ d)  (h : f11_slowest n kd I R = some r) : EV w d 0 0 Y11_slowest 0 [some (.ref 32), none, none, none] [] (n, kd, I, R) (q11_slowest n kd r) := by
  unfold f11_slowest at h
  refine ev_aload_n dX11_slowest_0 rfl rfl ?_
  refine em_getI dX11_slowest_1 zf_NineHeaps_94 rfl (hS.has 32 (by decide) (by decide) rfl) rfl ?_
  refine ev_if_ne dX11_slowest_4 (tgt := 9) (by decide) (fun c9 => ?_) (fun c9 => ?_)
  · replace h := zif c9 h
    refine ev_aload_n dX11_slowest_9 rfl rfl ?_
    obtain ⟨p10, e11, h⟩ := zbd h
    refine ev_callV0 dX11_slowest_10 zm11_layHeaps zl_NineHeaps_243 zi11_layHeaps zv11_layHeaps (zrcX hS) (As := []) (rest := []) rfl rfl (Nat.le_of_ble_eq_true rfl) rfl (Nat.le_of_ble_eq_true rfl) (d' := 3) (by omega) (e11_layHeaps hw hS (Nat.le_refl _) e11) (fun v μ1 q => ?_)
    obtain ⟨rfl, rfl⟩ := q
    refine ev_aload_n dX11_slowest_13 rfl rfl ?_
    obtain ⟨p12, e13, h⟩ := zbd h
    refine ev_callV0 dX11_slowest_14 zm11_planStretches zl_NineHeaps_254 zi11_planStretches zv11_planStretches (zrcX hS) (As := []) (rest := []) rfl rfl (Nat.le_of_ble_eq_true rfl) rfl (Nat.le_of_ble_eq_true rfl) (d' := 7) (by omega) (e11_planStretches hw hS (Nat.le_refl _) e13) (fun v μ1 q => ?_)
    obtain ⟨rfl, rfl⟩ := q
    refine ev_istore_n dX11_slowest_17 rfl (by decide) rfl ?_
    refine ev_aload_n dX11_slowest_18 rfl rfl ?_
    refine ev_iload_n dX11_slowest_19 rfl rfl ?_
    obtain ⟨p14, e15, h⟩ := zbd h
    refine ev_callV0 dX11_slowest_20 zm11_shareHeaps zl_NineHeaps_257 zi11_shareHeaps zv11_shareHeaps (zrcX hS) (As := [.int p12.1]) (rest := []) rfl rfl (Nat.le_of_ble_eq_true rfl) rfl (Nat.le_of_ble_eq_true rfl) (d' := 1) (by omega) (e11_shareHeaps hw hS (Nat.le_refl _) e15) (fun v μ1 q => ?_)
    obtain ⟨rfl, rfl⟩ := q
    refine ev_iconst dX11_slowest_23 (v := (0 : Int32)) zci_0 ?_
    refine ev_istore_n dX11_slowest_24 rfl (by decide) rfl ?_
    refine ev_iconst dX11_slowest_25 (v := (0 : Int32)) zci_0 ?_
    refine ev_istore_n dX11_slowest_26 rfl (by decide) rfl ?_
    exact EV.mask [true, true, true, true] rfl (e11_slowest_L27 hw hS hd zF p12.1 (0 : Int32) (0 : Int32) p14 p10.2 h)
  · replace h := zit c9 h
    refine ev_iconst dX11_slowest_7 (v := (-1 : Int32)) zci_m1 ?_
    obtain rfl := Option.some.inj h
    exact ev_end_i dX11_slowest_8 rfl rfl ⟨rfl, rfl⟩
abbrev q11_sheetOf (n : Nat) (kd : zMK) (I : zMI) (R : zMR) (r : Option Nat) : Option Value → zM → Prop := fun v μ1 => v = some (va_rf r) ∧ μ1 = (n, kd, I, R)
set_option maxHeartbeats 4000000 in
set_option maxRecDepth 100000 in
theorem e11_sheetOf {w : zW} {d : Nat} {n : Nat} {kd : zMK} {I : zMI} {R : zMR} {r : Option Nat} {l1 : Int32} (hw : zst w = zSt0) (hS : zSh n kd) (hd : 1 ≤ d)  (h : f11_sheetOf l1 = some r) : EV w d 0 0 Y11_sheetOf 0 [some (.ref 32), some (.int l1)] [] (n, kd, I, R) (q11_sheetOf n kd I R r) := by
  unfold f11_sheetOf at h
  refine ev_iload_n dX11_sheetOf_0 rfl rfl ?_
  refine ev_if_lt dX11_sheetOf_1 (tgt := 18) (by decide) (fun c1 => ?_) (fun c1 => ?_)
  · replace h := zit c1 h
    refine ev_null dX11_sheetOf_18 ?_
    obtain rfl := Option.some.inj h
    exact ev_end_n dX11_sheetOf_19 rfl (Or.inl ⟨_, rfl⟩) ⟨rfl, rfl⟩
  · replace h := zif c1 h
    refine ev_iload_n dX11_sheetOf_4 rfl rfl ?_
    refine ev_iconst dX11_sheetOf_5 (v := (4 : Int32)) zci_4 ?_
    refine ev_icmp_ge dX11_sheetOf_6 (tgt := 18) (by decide) (fun c2 => ?_) (fun c2 => ?_)
    · replace h := zit c2 h
      refine ev_null dX11_sheetOf_18 ?_
      obtain rfl := Option.some.inj h
      exact ev_end_n dX11_sheetOf_19 rfl (Or.inl ⟨_, rfl⟩) ⟨rfl, rfl⟩
    · replace h := zif c2 h
      refine ev_aload_n dX11_sheetOf_9 rfl rfl ?_
      refine em_getA dX11_sheetOf_10 zf_NineHeaps_41 rfl (hS.has 32 (by decide) (by decide) rfl) hw rfl ?_
      refine ev_iload_n dX11_sheetOf_13 rfl rfl ?_
      obtain ⟨g3, h⟩ := zgd h
      refine em_aaldA dX11_sheetOf_14 hS (by decide) (by decide) (N := 4) rfl (by decide) (by decide) hw g3 (zsheet g3) ?_
      refine ev_goto dX11_sheetOf_15 (tgt := 19) (by decide) ?_
      obtain rfl := Option.some.inj h
      exact ev_end_r dX11_sheetOf_19 rfl (Or.inl ⟨_, rfl⟩) ⟨rfl, rfl⟩
abbrev q11_refusedTelling (n : Nat) (kd : zMK) (I : zMI) (R : zMR) (r : Int32) : Option Value → zM → Prop := fun v μ1 => v = some (.int r) ∧ μ1 = (n, kd, I, R)
set_option maxHeartbeats 4000000 in
set_option maxRecDepth 100000 in
theorem e11_refusedTelling {w : zW} {d : Nat} {n : Nat} {kd : zMK} {I : zMI} {R : zMR} {r : Int32} {l1 : Int32} (hw : zst w = zSt0) (hS : zSh n kd) (hd : 2 ≤ d)  (h : f11_refusedTelling I l1 = some r) : EV w d 0 0 Y11_refusedTelling 0 [some (.ref 32), some (.int l1), none] [] (n, kd, I, R) (q11_refusedTelling n kd I R r) := by
  unfold f11_refusedTelling at h
  refine ev_aload_n dX11_refusedTelling_0 rfl rfl ?_
  refine ev_iload_n dX11_refusedTelling_1 rfl rfl ?_
  obtain ⟨p1, e2, h⟩ := zbd h
  refine ev_callV0 dX11_refusedTelling_2 zm11_sheetOf zl_NineHeaps_303 zi11_sheetOf zv11_sheetOf (zrcX hS) (As := [.int l1]) (rest := []) rfl rfl (Nat.le_of_ble_eq_true rfl) rfl (Nat.le_of_ble_eq_true rfl) (d' := 1) (by omega) (e11_sheetOf hw hS (Nat.le_refl _) e2) (fun v μ1 q => ?_)
  obtain ⟨rfl, rfl⟩ := q
  refine ev_astore_no dX11_refusedTelling_5 rfl (by decide) rfl ?_
  refine ev_aload_no dX11_refusedTelling_6 rfl rfl ?_
  refine ev_ifnonnull_o dX11_refusedTelling_7 (tgt := 13) (by decide) (fun a3 o4 => ?_) (fun o4 => ?_)
  · replace h := zms o4 h
    refine ev_aload_nk dX11_refusedTelling_13 rfl o4 rfl ?_
    obtain ⟨g5, h⟩ := zgd h
    obtain ⟨p6, e7, h⟩ := zbd h
    refine ev_callV0 dX11_refusedTelling_14 zm6_missing zl_NineHeaps_313 zi6_missing zv6_missing (zrcSe hS g5) (As := []) (rest := []) rfl rfl (Nat.le_of_ble_eq_true rfl) rfl (Nat.le_of_ble_eq_true rfl) (d' := 1) (by omega) (e6_missing hw hS (Nat.le_refl _) e7) (fun v μ1 q => ?_)
    obtain ⟨rfl, rfl⟩ := q
    refine ev_if_eq dX11_refusedTelling_17 (tgt := 23) (by decide) (fun c8 => ?_) (fun c8 => ?_)
    · replace h := zit c8 h
      refine ev_aload_nk dX11_refusedTelling_23 rfl o4 rfl ?_
      refine em_getI dX11_refusedTelling_24 zf_NineHeaps_316 rfl (zSeB_has hS g5).1 rfl ?_
      refine ev_bipush dX11_refusedTelling_27 (v := (9 : Int32)) zcb_9 ?_
      obtain ⟨x10, e11, h⟩ := zld h
      have k12 : EV w d 0 0 Y11_refusedTelling 38 [some (.ref 32), some (.int l1), some (va_rf p1)] [.int x10] (n, kd, I, R) (q11_refusedTelling n kd I R r) := by
        obtain rfl := Option.some.inj h
        exact ev_end_i dX11_refusedTelling_38 rfl rfl ⟨rfl, rfl⟩
      clear h
      have h := e11
      clear e11
      refine ev_icmp_ne dX11_refusedTelling_29 (tgt := 36) (by decide) (fun c9 => ?_) (fun c9 => ?_)
      · replace h := zif c9 h
        refine ev_bipush dX11_refusedTelling_36 (v := (-2 : Int32)) zcb_m2 ?_
        obtain rfl := h
        exact k12
      · replace h := zit c9 h
        refine ev_iconst dX11_refusedTelling_32 (v := (0 : Int32)) zci_0 ?_
        refine ev_goto dX11_refusedTelling_33 (tgt := 38) (by decide) ?_
        obtain rfl := h
        exact k12
    · replace h := zif c8 h
      refine ev_bipush dX11_refusedTelling_20 (v := (-11 : Int32)) zcb_m11 ?_
      obtain rfl := Option.some.inj h
      exact ev_end_i dX11_refusedTelling_22 rfl rfl ⟨rfl, rfl⟩
  · replace h := zmn o4 h
    refine ev_bipush dX11_refusedTelling_10 (v := (-2 : Int32)) zcb_m2 ?_
    obtain rfl := Option.some.inj h
    exact ev_end_i dX11_refusedTelling_12 rfl rfl ⟨rfl, rfl⟩
abbrev q11_refusedJudging (n : Nat) (kd : zMK) (I : zMI) (R : zMR) (r : Int32) : Option Value → zM → Prop := fun v μ1 => v = some (.int r) ∧ μ1 = (n, kd, I, R)
set_option maxHeartbeats 4000000 in
set_option maxRecDepth 100000 in
theorem e11_refusedJudging {w : zW} {d : Nat} {n : Nat} {kd : zMK} {I : zMI} {R : zMR} {r : Int32} {l1 : Int32} {l2 : Int32} (hw : zst w = zSt0) (hS : zSh n kd) (hd : 3 ≤ d)  (h : f11_refusedJudging I l1 l2 = some r) : EV w d 0 0 Y11_refusedJudging 0 [some (.ref 32), some (.int l1), some (.int l2), none] [] (n, kd, I, R) (q11_refusedJudging n kd I R r) := by
  unfold f11_refusedJudging at h
  refine ev_aload_n dX11_refusedJudging_0 rfl rfl ?_
  refine ev_iload_n dX11_refusedJudging_1 rfl rfl ?_
  obtain ⟨p1, e2, h⟩ := zbd h
  refine ev_callV0 dX11_refusedJudging_2 zm11_refusedTelling zl_NineHeaps_289 zi11_refusedTelling zv11_refusedTelling (zrcX hS) (As := [.int l1]) (rest := []) rfl rfl (Nat.le_of_ble_eq_true rfl) rfl (Nat.le_of_ble_eq_true rfl) (d' := 2) (by omega) (e11_refusedTelling hw hS (Nat.le_refl _) e2) (fun v μ1 q => ?_)
  obtain ⟨rfl, rfl⟩ := q
  refine ev_istore_n dX11_refusedJudging_5 rfl (by decide) rfl ?_
  refine ev_iload_n dX11_refusedJudging_6 rfl rfl ?_
  refine ev_if_ne dX11_refusedJudging_7 (tgt := 22) (by decide) (fun c3 => ?_) (fun c3 => ?_)
  · replace h := zif c3 h
    refine ev_iload_n dX11_refusedJudging_22 rfl rfl ?_
    obtain rfl := Option.some.inj h
    exact ev_end_i dX11_refusedJudging_23 rfl rfl ⟨rfl, rfl⟩
  · replace h := zit c3 h
    refine ev_iload_n dX11_refusedJudging_10 rfl rfl ?_
    obtain ⟨p4, e5, h⟩ := zbd h
    refine ev_callS0 dX11_refusedJudging_11 zm11_noSeconds zl_NineHeaps_164 zs11_noSeconds (As := [.int l2]) (rest := []) rfl rfl (Nat.le_of_ble_eq_true rfl) rfl (Nat.le_of_ble_eq_true rfl) (d' := 1) (by omega) (e11_noSeconds hw hS (Nat.le_refl _) e5) (fun v μ1 q => ?_)
    obtain ⟨rfl, rfl⟩ := q
    refine ev_if_eq dX11_refusedJudging_14 (tgt := 22) (by decide) (fun c6 => ?_) (fun c6 => ?_)
    · replace h := zit c6 h
      refine ev_iload_n dX11_refusedJudging_22 rfl rfl ?_
      obtain rfl := Option.some.inj h
      exact ev_end_i dX11_refusedJudging_23 rfl rfl ⟨rfl, rfl⟩
    · replace h := zif c6 h
      refine ev_bipush dX11_refusedJudging_17 (v := (-7 : Int32)) zcb_m7 ?_
      refine ev_goto dX11_refusedJudging_19 (tgt := 23) (by decide) ?_
      obtain rfl := Option.some.inj h
      exact ev_end_i dX11_refusedJudging_23 rfl rfl ⟨rfl, rfl⟩
abbrev q11_firstOtherwise (n : Nat) (kd : zMK) (I : zMI) (R : zMR) (r : Int32) : Option Value → zM → Prop := fun v μ1 => v = some (.int r) ∧ μ1 = (n, kd, I, R)
set_option maxHeartbeats 4000000 in
set_option maxRecDepth 100000 in
theorem e11_firstOtherwise_L8 {w : zW} {d : Nat} {n : Nat} {kd : zMK} {I : zMI} {R : zMR} {r : Int32}  (hw : zst w = zSt0) (hS : zSh n kd) (hd : 3 ≤ d)   : ∀ (q : Nat) (l2 : Option Nat) (l3 : Int32) , f11_firstOtherwise_L8 I q l2 l3 = some r → EV w d 0 0 Y11_firstOtherwise 8 [some (.ref 32), none, some (va_rf l2), some (.int l3)] [] (n, kd, I, R) (q11_firstOtherwise n kd I R r) := by
  intro q
  induction q with
  | zero =>
    intro l2 l3 h
    cases h
  | succ q ih =>
    intro l2 l3 h
    unfold f11_firstOtherwise_L8 at h
    refine ev_iload_n dX11_firstOtherwise_8 rfl rfl ?_
    refine ev_bipush dX11_firstOtherwise_9 (v := (9 : Int32)) zcb_9 ?_
    refine ev_icmp_ge dX11_firstOtherwise_11 (tgt := 46) (by decide) (fun c1 => ?_) (fun c1 => ?_)
    · replace h := zit c1 h
      refine ev_iconst dX11_firstOtherwise_46 (v := (-1 : Int32)) zci_m1 ?_
      obtain rfl := Option.some.inj h
      exact ev_end_i dX11_firstOtherwise_47 rfl rfl ⟨rfl, rfl⟩
    · replace h := zif c1 h
      refine ev_aload_no dX11_firstOtherwise_14 rfl rfl ?_
      refine ev_ifnull_o dX11_firstOtherwise_15 (tgt := 46) (by decide) (fun o3 => ?_) (fun a2 o3 => ?_)
      · replace h := zmn o3 h
        refine ev_iconst dX11_firstOtherwise_46 (v := (-1 : Int32)) zci_m1 ?_
        obtain rfl := Option.some.inj h
        exact ev_end_i dX11_firstOtherwise_47 rfl rfl ⟨rfl, rfl⟩
      · replace h := zms o3 h
        refine ev_aload_nk dX11_firstOtherwise_18 rfl o3 rfl ?_
        obtain ⟨g4, h⟩ := zgd h
        refine em_getA dX11_firstOtherwise_19 zf_NineHeaps_317 rfl (zSeB_has hS g4).1 hw (zSeB_has hS g4).2.2.2 ?_
        refine ev_iload_n dX11_firstOtherwise_22 rfl rfl ?_
        obtain ⟨g5, h⟩ := zgd h
        refine em_ialdG dX11_firstOtherwise_23 (zSeB_has hS g4).2.1 (N := 40) (zSeB_has hS g4).2.2.1 g5 rfl ?_
        refine ev_aload_n dX11_firstOtherwise_24 rfl rfl ?_
        refine em_getA dX11_firstOtherwise_25 zf_NineHeaps_48 rfl (hS.has 32 (by decide) (by decide) rfl) hw rfl ?_
        refine ev_iload_n dX11_firstOtherwise_28 rfl rfl ?_
        obtain ⟨p6, e7, h⟩ := zbd h
        refine ev_callV0 dX11_firstOtherwise_29 zm0_heapAt zl_NineHeaps_203 zi0_heapAt zv0_heapAt (zrcG hS) (As := [.int l3]) (rest := [.int (I (a2 + 1) l3.toNatClampNeg)]) rfl rfl (Nat.le_of_ble_eq_true rfl) rfl (Nat.le_of_ble_eq_true rfl) (d' := 2) (by omega) (e0_heapAt hw hS (Nat.le_refl _) e7) (fun v μ1 q => ?_)
        obtain ⟨rfl, rfl⟩ := q
        obtain ⟨g8, h⟩ := zgd h
        refine em_getI dX11_firstOtherwise_32 zf_NineHeaps_207 rfl (zHpB_has hS g8) rfl ?_
        refine ev_icmp_eq dX11_firstOtherwise_35 (tgt := 40) (by decide) (fun c9 => ?_) (fun c9 => ?_)
        · replace h := zit c9 h
          refine ev_iinc dX11_firstOtherwise_40 (v := l3 + (1 : Int32)) rfl rfl (by decide) (by cases l2 <;> rfl) ?_
          refine ev_goto dX11_firstOtherwise_43 (tgt := 8) (by decide) ?_
          first | exact EV.mask [true, false, true, true] rfl (ih l2 (l3 + (1 : Int32)) h) | (rw [← o3]; exact EV.mask [true, false, true, true] rfl (ih l2 (l3 + (1 : Int32)) h))
        · replace h := zif c9 h
          refine ev_iload_n dX11_firstOtherwise_38 rfl rfl ?_
          obtain rfl := Option.some.inj h
          exact ev_end_i dX11_firstOtherwise_39 rfl rfl ⟨rfl, rfl⟩
set_option maxHeartbeats 4000000 in
set_option maxRecDepth 100000 in
theorem e11_firstOtherwise {w : zW} {d : Nat} {n : Nat} {kd : zMK} {I : zMI} {R : zMR} {r : Int32} {l1 : Int32} (hw : zst w = zSt0) (hS : zSh n kd) (hd : 3 ≤ d)  (h : f11_firstOtherwise I l1 = some r) : EV w d 0 0 Y11_firstOtherwise 0 [some (.ref 32), some (.int l1), none, none] [] (n, kd, I, R) (q11_firstOtherwise n kd I R r) := by
  unfold f11_firstOtherwise at h
  refine ev_aload_n dX11_firstOtherwise_0 rfl rfl ?_
  refine ev_iload_n dX11_firstOtherwise_1 rfl rfl ?_
  obtain ⟨p10, e11, h⟩ := zbd h
  refine ev_callV0 dX11_firstOtherwise_2 zm11_sheetOf zl_NineHeaps_303 zi11_sheetOf zv11_sheetOf (zrcX hS) (As := [.int l1]) (rest := []) rfl rfl (Nat.le_of_ble_eq_true rfl) rfl (Nat.le_of_ble_eq_true rfl) (d' := 1) (by omega) (e11_sheetOf hw hS (Nat.le_refl _) e11) (fun v μ1 q => ?_)
  obtain ⟨rfl, rfl⟩ := q
  refine ev_astore_no dX11_firstOtherwise_5 rfl (by decide) rfl ?_
  refine ev_iconst dX11_firstOtherwise_6 (v := (0 : Int32)) zci_0 ?_
  refine ev_istore_n dX11_firstOtherwise_7 rfl (by decide) (by cases p10 <;> rfl) ?_
  exact EV.mask [true, false, true, true] rfl (e11_firstOtherwise_L8 hw hS hd zF p10 (0 : Int32) h)
abbrev q11_judge (n : Nat) (kd : zMK) (r : Int32 × zMI × zMR) : Option Value → zM → Prop := fun v μ1 => v = some (.int r.1) ∧ μ1 = (n, kd, r.2.1, r.2.2)
set_option maxHeartbeats 4000000 in
set_option maxRecDepth 100000 in
theorem e11_judge {w : zW} {d : Nat} {n : Nat} {kd : zMK} {I : zMI} {R : zMR} {r : Int32 × zMI × zMR} {l1 : Int32} {l2 : Int32} (hw : zst w = zSt0) (hS : zSh n kd) (hd : 8 ≤ d)  (h : f11_judge n kd l1 l2 I R = some r) : EV w d 0 0 Y11_judge 0 [some (.ref 32), some (.int l1), some (.int l2), none] [] (n, kd, I, R) (q11_judge n kd r) := by
  unfold f11_judge at h
  refine ev_aload_n dX11_judge_0 rfl rfl ?_
  refine ev_iload_n dX11_judge_1 rfl rfl ?_
  refine ev_iload_n dX11_judge_2 rfl rfl ?_
  obtain ⟨p1, e2, h⟩ := zbd h
  refine ev_callV0 dX11_judge_3 zm11_refusedJudging zl_NineHeaps_283 zi11_refusedJudging zv11_refusedJudging (zrcX hS) (As := [.int l1, .int l2]) (rest := []) rfl rfl (Nat.le_of_ble_eq_true rfl) rfl (Nat.le_of_ble_eq_true rfl) (d' := 3) (by omega) (e11_refusedJudging hw hS (Nat.le_refl _) e2) (fun v μ1 q => ?_)
  obtain ⟨rfl, rfl⟩ := q
  refine ev_istore_n dX11_judge_6 rfl (by decide) rfl ?_
  refine ev_iload_n dX11_judge_7 rfl rfl ?_
  refine ev_if_eq dX11_judge_8 (tgt := 13) (by decide) (fun c3 => ?_) (fun c3 => ?_)
  · replace h := zit c3 h
    refine ev_aload_n dX11_judge_13 rfl rfl ?_
    obtain ⟨p4, e5, h⟩ := zbd h
    refine ev_callV0 dX11_judge_14 zm11_layPlain zl_NineHeaps_167 zi11_layPlain zv11_layPlain (zrcX hS) (As := []) (rest := []) rfl rfl (Nat.le_of_ble_eq_true rfl) rfl (Nat.le_of_ble_eq_true rfl) (d' := 6) (by omega) (e11_layPlain hw hS (Nat.le_refl _) e5) (fun v μ1 q => ?_)
    obtain ⟨rfl, rfl⟩ := q
    refine ev_aload_n dX11_judge_17 rfl rfl ?_
    refine em_getA dX11_judge_18 zf_NineHeaps_48 rfl (hS.has 32 (by decide) (by decide) rfl) hw rfl ?_
    refine ev_iload_n dX11_judge_21 rfl rfl ?_
    obtain ⟨p6, e7, h⟩ := zbd h
    refine ev_callV0 dX11_judge_22 zm0_pass zl_NineHeaps_170 zi0_pass zv0_pass (zrcG hS) (As := [.int l2]) (rest := []) rfl rfl (Nat.le_of_ble_eq_true rfl) rfl (Nat.le_of_ble_eq_true rfl) (d' := 7) (by omega) (e0_pass hw hS (Nat.le_refl _) e7) (fun v μ1 q => ?_)
    obtain ⟨rfl, rfl⟩ := q
    refine ev_aload_n dX11_judge_25 rfl rfl ?_
    refine ev_iload_n dX11_judge_26 rfl rfl ?_
    obtain ⟨p8, e9, h⟩ := zbd h
    refine ev_callV0 dX11_judge_27 zm11_firstOtherwise zl_NineHeaps_286 zi11_firstOtherwise zv11_firstOtherwise (zrcX hS) (As := [.int l1]) (rest := []) rfl rfl (Nat.le_of_ble_eq_true rfl) rfl (Nat.le_of_ble_eq_true rfl) (d' := 3) (by omega) (e11_firstOtherwise hw hS (Nat.le_refl _) e9) (fun v μ1 q => ?_)
    obtain ⟨rfl, rfl⟩ := q
    obtain rfl := Option.some.inj h
    exact ev_end_i dX11_judge_30 rfl rfl ⟨rfl, rfl⟩
  · replace h := zif c3 h
    refine ev_iload_n dX11_judge_11 rfl rfl ?_
    obtain rfl := Option.some.inj h
    exact ev_end_i dX11_judge_12 rfl rfl ⟨rfl, rfl⟩
abbrev q11_when (n : Nat) (kd : zMK) (r : Int32 × zMI × zMR) : Option Value → zM → Prop := fun v μ1 => v = some (.int r.1) ∧ μ1 = (n, kd, r.2.1, r.2.2)
set_option maxHeartbeats 4000000 in
set_option maxRecDepth 100000 in
theorem e11_when_B85 {w : zW} {d : Nat} {n : Nat} {kd : zMK} {r : Int32 × zMI × zMR} {k37 : Int32 → Int32 → Int32 → Int32 → Int32 → zMI → zMR → Option (Int32 × zMI × zMR)} (hw : zst w = zSt0) (hS : zSh n kd) (hd : 8 ≤ d)  (hk37 : ∀ (l1 : Int32) (l2 : Int32) (l4 : Int32) (l5 : Int32) (l6 : Int32) (I : zMI) (R : zMR), k37 l1 l2 l4 l5 l6 I R = some r → EV w d 0 0 Y11_when 37 [some (.ref 32), some (.int l1), some (.int l2), none, some (.int l4), some (.int l5), some (.int l6)] [] (n, kd, I, R) (q11_when n kd r)) : ∀ (l1 : Int32) (l2 : Int32) (l4 : Int32) (l5 : Int32) (l6 : Int32) (I : zMI) (R : zMR), f11_when_B85 n kd k37 l1 l2 l4 l5 l6 I R = some r → EV w d 0 0 Y11_when 85 [some (.ref 32), some (.int l1), some (.int l2), none, some (.int l4), some (.int l5), some (.int l6)] [] (n, kd, I, R) (q11_when n kd r) := by
  intro l1 l2 l4 l5 l6 I R h
  unfold f11_when_B85 at h
  refine ev_iinc dX11_when_85 (v := l6 + (1 : Int32)) rfl rfl (by decide) rfl ?_
  refine ev_goto dX11_when_88 (tgt := 37) (by decide) ?_
  exact EV.mask [true, true, true, false, true, true, true] rfl (hk37 l1 l2 l4 l5 (l6 + (1 : Int32)) I R h)
set_option maxHeartbeats 4000000 in
set_option maxRecDepth 100000 in
theorem e11_when_B58 {w : zW} {d : Nat} {n : Nat} {kd : zMK} {r : Int32 × zMI × zMR} {k37 : Int32 → Int32 → Int32 → Int32 → Int32 → zMI → zMR → Option (Int32 × zMI × zMR)} (hw : zst w = zSt0) (hS : zSh n kd) (hd : 8 ≤ d)  (hk37 : ∀ (l1 : Int32) (l2 : Int32) (l4 : Int32) (l5 : Int32) (l6 : Int32) (I : zMI) (R : zMR), k37 l1 l2 l4 l5 l6 I R = some r → EV w d 0 0 Y11_when 37 [some (.ref 32), some (.int l1), some (.int l2), none, some (.int l4), some (.int l5), some (.int l6)] [] (n, kd, I, R) (q11_when n kd r)) : ∀ (l1 : Int32) (l2 : Int32) (l4 : Int32) (l5 : Int32) (l6 : Int32) (I : zMI) (R : zMR), f11_when_B58 n kd k37 l1 l2 l4 l5 l6 I R = some r → EV w d 0 0 Y11_when 58 [some (.ref 32), some (.int l1), some (.int l2), none, some (.int l4), some (.int l5), some (.int l6)] [] (n, kd, I, R) (q11_when n kd r) := by
  intro l1 l2 l4 l5 l6 I R h
  unfold f11_when_B58 at h
  refine ev_aload_n dX11_when_58 rfl rfl ?_
  refine ev_iload_n dX11_when_59 rfl rfl ?_
  obtain ⟨p1, e2, h⟩ := zbd h
  refine ev_callV0 dX11_when_60 zm11_firstOtherwise zl_NineHeaps_286 zi11_firstOtherwise zv11_firstOtherwise (zrcX hS) (As := [.int l1]) (rest := []) rfl rfl (Nat.le_of_ble_eq_true rfl) rfl (Nat.le_of_ble_eq_true rfl) (d' := 3) (by omega) (e11_firstOtherwise hw hS (Nat.le_refl _) e2) (fun v μ1 q => ?_)
  obtain ⟨rfl, rfl⟩ := q
  refine ev_iconst dX11_when_63 (v := (-1 : Int32)) zci_m1 ?_
  refine ev_icmp_ne dX11_when_64 (tgt := 85) (by decide) (fun c3 => ?_) (fun c3 => ?_)
  · replace h := zif c3 h
    exact EV.mask [true, true, true, false, true, true, true] rfl (e11_when_B85 hw hS hd hk37 l1 l2 l4 l5 l6 I R h)
  · replace h := zit c3 h
    refine ev_iinc dX11_when_67 (v := l5 + (1 : Int32)) rfl rfl (by decide) rfl ?_
    refine ev_iload dX11_when_70 rfl ?_
    refine ev_iconst dX11_when_72 (v := (-1 : Int32)) zci_m1 ?_
    obtain ⟨x5, e6, h⟩ := zld h
    have k7 : EV w d 0 0 Y11_when 83 [some (.ref 32), some (.int l1), some (.int l2), none, some (.int l4), some (.int (l5 + (1 : Int32))), some (.int l6)] [.int x5] (n, kd, I, R) (q11_when n kd r) := by
      refine ev_istore dX11_when_83 (by decide) rfl ?_
      exact EV.mask [true, true, true, false, true, true, true] rfl (e11_when_B85 hw hS hd hk37 l1 l2 x5 (l5 + (1 : Int32)) l6 I R h)
    clear h
    have h := e6
    clear e6
    refine ev_icmp_ne dX11_when_73 (tgt := 81) (by decide) (fun c4 => ?_) (fun c4 => ?_)
    · replace h := zif c4 h
      refine ev_iload dX11_when_81 rfl ?_
      obtain rfl := h
      exact k7
    · replace h := zit c4 h
      refine ev_iload dX11_when_76 rfl ?_
      refine ev_goto dX11_when_78 (tgt := 83) (by decide) ?_
      obtain rfl := h
      exact k7
set_option maxHeartbeats 4000000 in
set_option maxRecDepth 100000 in
theorem e11_when_L37 {w : zW} {d : Nat} {n : Nat} {kd : zMK} {r : Int32 × zMI × zMR} {k91 : Int32 → Int32 → Int32 → zMI → zMR → Option (Int32 × zMI × zMR)} (hw : zst w = zSt0) (hS : zSh n kd) (hd : 8 ≤ d)  (hk91 : ∀ (l2 : Int32) (l4 : Int32) (l5 : Int32) (I : zMI) (R : zMR), k91 l2 l4 l5 I R = some r → EV w d 0 0 Y11_when 91 [none, none, some (.int l2), none, some (.int l4), some (.int l5), none] [] (n, kd, I, R) (q11_when n kd r)) : ∀ (q : Nat) (l1 : Int32) (l2 : Int32) (l4 : Int32) (l5 : Int32) (l6 : Int32) (I : zMI) (R : zMR), f11_when_L37 n kd k91 q l1 l2 l4 l5 l6 I R = some r → EV w d 0 0 Y11_when 37 [some (.ref 32), some (.int l1), some (.int l2), none, some (.int l4), some (.int l5), some (.int l6)] [] (n, kd, I, R) (q11_when n kd r) := by
  intro q
  induction q with
  | zero =>
    intro l1 l2 l4 l5 l6 I R h
    cases h
  | succ q ih =>
    intro l1 l2 l4 l5 l6 I R h
    unfold f11_when_L37 at h
    refine ev_iload dX11_when_37 rfl ?_
    refine ev_sipush dX11_when_39 (v := (600 : Int32)) zcs_600 ?_
    refine ev_icmp_gt dX11_when_42 (tgt := 91) (by decide) (fun c8 => ?_) (fun c8 => ?_)
    · replace h := zit c8 h
      exact EV.mask [false, false, true, false, true, true, false] rfl (hk91 l2 l4 l5 I R h)
    · replace h := zif c8 h
      refine ev_iload dX11_when_45 rfl ?_
      refine ev_if_le dX11_when_47 (tgt := 58) (by decide) (fun c9 => ?_) (fun c9 => ?_)
      · replace h := zit c9 h
        exact EV.mask [true, true, true, false, true, true, true] rfl (e11_when_B58 hw hS hd (fun l1' l2' l4' l5' l6' I' R' h' => ih l1' l2' l4' l5' l6' I' R' h') l1 l2 l4 l5 l6 I R h)
      · replace h := zif c9 h
        refine ev_aload_n dX11_when_50 rfl rfl ?_
        refine em_getA dX11_when_51 zf_NineHeaps_48 rfl (hS.has 32 (by decide) (by decide) rfl) hw rfl ?_
        refine ev_iconst dX11_when_54 (v := (1 : Int32)) zci_1 ?_
        obtain ⟨p10, e11, h⟩ := zbd h
        refine ev_callV0 dX11_when_55 zm0_pass zl_NineHeaps_170 zi0_pass zv0_pass (zrcG hS) (As := [.int (1 : Int32)]) (rest := []) rfl rfl (Nat.le_of_ble_eq_true rfl) rfl (Nat.le_of_ble_eq_true rfl) (d' := 7) (by omega) (e0_pass hw hS (Nat.le_refl _) e11) (fun v μ1 q => ?_)
        obtain ⟨rfl, rfl⟩ := q
        exact EV.mask [true, true, true, false, true, true, true] rfl (e11_when_B58 hw hS hd (fun l1' l2' l4' l5' l6' I' R' h' => ih l1' l2' l4' l5' l6' I' R' h') l1 l2 l4 l5 l6 p10 R h)
set_option maxHeartbeats 4000000 in
set_option maxRecDepth 100000 in
theorem e11_when_B91 {w : zW} {d : Nat} {n : Nat} {kd : zMK} {r : Int32 × zMI × zMR}  (hw : zst w = zSt0) (hS : zSh n kd) (hd : 8 ≤ d)   : ∀ (l2 : Int32) (l4 : Int32) (l5 : Int32) (I : zMI) (R : zMR), f11_when_B91 n kd l2 l4 l5 I R = some r → EV w d 0 0 Y11_when 91 [none, none, some (.int l2), none, some (.int l4), some (.int l5), none] [] (n, kd, I, R) (q11_when n kd r) := by
  intro l2 l4 l5 I R h
  unfold f11_when_B91 at h
  refine ev_iload_n dX11_when_91 rfl rfl ?_
  obtain ⟨x13, e14, h⟩ := zld h
  have k15 : EV w d 0 0 Y11_when 102 [none, none, some (.int l2), none, some (.int l4), some (.int l5), none] [.int x13] (n, kd, I, R) (q11_when n kd r) := by
    obtain rfl := Option.some.inj h
    exact ev_end_i dX11_when_102 rfl rfl ⟨rfl, rfl⟩
  clear h
  have h := e14
  clear e14
  refine ev_if_ne dX11_when_92 (tgt := 100) (by decide) (fun c12 => ?_) (fun c12 => ?_)
  · replace h := zif c12 h
    refine ev_iload dX11_when_100 rfl ?_
    obtain rfl := h
    exact k15
  · replace h := zit c12 h
    refine ev_iload dX11_when_95 rfl ?_
    refine ev_goto dX11_when_97 (tgt := 102) (by decide) ?_
    obtain rfl := h
    exact k15
set_option maxHeartbeats 4000000 in
set_option maxRecDepth 100000 in
theorem e11_when {w : zW} {d : Nat} {n : Nat} {kd : zMK} {I : zMI} {R : zMR} {r : Int32 × zMI × zMR} {l1 : Int32} {l2 : Int32} (hw : zst w = zSt0) (hS : zSh n kd) (hd : 8 ≤ d)  (h : f11_when n kd l1 l2 I R = some r) : EV w d 0 0 Y11_when 0 [some (.ref 32), some (.int l1), some (.int l2), none, none, none, none] [] (n, kd, I, R) (q11_when n kd r) := by
  unfold f11_when at h
  refine ev_aload_n dX11_when_0 rfl rfl ?_
  refine ev_iload_n dX11_when_1 rfl rfl ?_
  obtain ⟨p16, e17, h⟩ := zbd h
  refine ev_callV0 dX11_when_2 zm11_refusedTelling zl_NineHeaps_289 zi11_refusedTelling zv11_refusedTelling (zrcX hS) (As := [.int l1]) (rest := []) rfl rfl (Nat.le_of_ble_eq_true rfl) rfl (Nat.le_of_ble_eq_true rfl) (d' := 2) (by omega) (e11_refusedTelling hw hS (Nat.le_refl _) e17) (fun v μ1 q => ?_)
  obtain ⟨rfl, rfl⟩ := q
  refine ev_istore_n dX11_when_5 rfl (by decide) rfl ?_
  refine ev_iload_n dX11_when_6 rfl rfl ?_
  refine ev_if_eq dX11_when_7 (tgt := 12) (by decide) (fun c18 => ?_) (fun c18 => ?_)
  · replace h := zit c18 h
    refine ev_iload_n dX11_when_12 rfl rfl ?_
    refine ev_if_lt dX11_when_13 (tgt := 21) (by decide) (fun c19 => ?_) (fun c19 => ?_)
    · replace h := zit c19 h
      refine ev_bipush dX11_when_21 (v := (-7 : Int32)) zcb_m7 ?_
      obtain rfl := Option.some.inj h
      exact ev_end_i dX11_when_23 rfl rfl ⟨rfl, rfl⟩
    · replace h := zif c19 h
      refine ev_iload_n dX11_when_16 rfl rfl ?_
      refine ev_iconst dX11_when_17 (v := (1 : Int32)) zci_1 ?_
      refine ev_icmp_le dX11_when_18 (tgt := 24) (by decide) (fun c20 => ?_) (fun c20 => ?_)
      · replace h := zit c20 h
        refine ev_iconst dX11_when_24 (v := (-1 : Int32)) zci_m1 ?_
        refine ev_istore dX11_when_25 (by decide) rfl ?_
        refine ev_iconst dX11_when_27 (v := (0 : Int32)) zci_0 ?_
        refine ev_istore dX11_when_28 (by decide) rfl ?_
        refine ev_aload_n dX11_when_30 rfl rfl ?_
        obtain ⟨p21, e22, h⟩ := zbd h
        refine ev_callV0 dX11_when_31 zm11_layPlain zl_NineHeaps_167 zi11_layPlain zv11_layPlain (zrcX hS) (As := []) (rest := []) rfl rfl (Nat.le_of_ble_eq_true rfl) rfl (Nat.le_of_ble_eq_true rfl) (d' := 6) (by omega) (e11_layPlain hw hS (Nat.le_refl _) e22) (fun v μ1 q => ?_)
        obtain ⟨rfl, rfl⟩ := q
        refine ev_iconst dX11_when_34 (v := (0 : Int32)) zci_0 ?_
        refine ev_istore dX11_when_35 (by decide) rfl ?_
        exact EV.mask [true, true, true, false, true, true, true] rfl (e11_when_L37 hw hS hd (fun l2' l4' l5' I' R' h' => e11_when_B91 hw hS hd l2' l4' l5' I' R' h') zF l1 l2 (-1 : Int32) (0 : Int32) (0 : Int32) p21.1 p21.2 h)
      · replace h := zif c20 h
        refine ev_bipush dX11_when_21 (v := (-7 : Int32)) zcb_m7 ?_
        obtain rfl := Option.some.inj h
        exact ev_end_i dX11_when_23 rfl rfl ⟨rfl, rfl⟩
  · replace h := zif c18 h
    refine ev_iload_n dX11_when_10 rfl rfl ?_
    obtain rfl := Option.some.inj h
    exact ev_end_i dX11_when_11 rfl rfl ⟨rfl, rfl⟩
abbrev q11_sticks (n : Nat) (kd : zMK) (r : Int32 × zMI × zMR) : Option Value → zM → Prop := fun v μ1 => v = some (.int r.1) ∧ μ1 = (n, kd, r.2.1, r.2.2)
set_option maxHeartbeats 4000000 in
set_option maxRecDepth 100000 in
theorem e11_sticks_L32 {w : zW} {d : Nat} {n : Nat} {kd : zMK} {r : Int32 × zMI × zMR}  (hw : zst w = zSt0) (hS : zSh n kd) (hd : 8 ≤ d)   : ∀ (q : Nat) (l1 : Int32) (l2 : Int32) (l3 : Int32) (l5 : Int32) (l6 : Int32) (I : zMI) (R : zMR), f11_sticks_L32 n kd q l1 l2 l3 l5 l6 I R = some r → EV w d 0 0 Y11_sticks 32 [some (.ref 32), some (.int l1), some (.int l2), some (.int l3), none, some (.int l5), some (.int l6)] [] (n, kd, I, R) (q11_sticks n kd r) := by
  intro q
  induction q with
  | zero =>
    intro l1 l2 l3 l5 l6 I R h
    cases h
  | succ q ih =>
    intro l1 l2 l3 l5 l6 I R h
    unfold f11_sticks_L32 at h
    refine ev_iload dX11_sticks_32 rfl ?_
    refine ev_bipush dX11_sticks_34 (v := (9 : Int32)) zcb_9 ?_
    refine ev_icmp_gt dX11_sticks_36 (tgt := 92) (by decide) (fun c1 => ?_) (fun c1 => ?_)
    · replace h := zit c1 h
      refine ev_iload dX11_sticks_92 rfl ?_
      obtain rfl := Option.some.inj h
      exact ev_end_i dX11_sticks_94 rfl rfl ⟨rfl, rfl⟩
    · replace h := zif c1 h
      refine ev_aload_n dX11_sticks_39 rfl rfl ?_
      obtain ⟨p2, e3, h⟩ := zbd h
      refine ev_callV0 dX11_sticks_40 zm11_layPlain zl_NineHeaps_167 zi11_layPlain zv11_layPlain (zrcX hS) (As := []) (rest := []) rfl rfl (Nat.le_of_ble_eq_true rfl) rfl (Nat.le_of_ble_eq_true rfl) (d' := 6) (by omega) (e11_layPlain hw hS (Nat.le_refl _) e3) (fun v μ1 q => ?_)
      obtain ⟨rfl, rfl⟩ := q
      refine ev_aload_n dX11_sticks_43 rfl rfl ?_
      refine em_getA dX11_sticks_44 zf_NineHeaps_48 rfl (hS.has 32 (by decide) (by decide) rfl) hw rfl ?_
      refine ev_iload_n dX11_sticks_47 rfl rfl ?_
      obtain ⟨p4, e5, h⟩ := zbd h
      refine ev_callV0 dX11_sticks_48 zm0_heapAt zl_NineHeaps_203 zi0_heapAt zv0_heapAt (zrcG hS) (As := [.int l3]) (rest := []) rfl rfl (Nat.le_of_ble_eq_true rfl) rfl (Nat.le_of_ble_eq_true rfl) (d' := 2) (by omega) (e0_heapAt hw hS (Nat.le_refl _) e5) (fun v μ1 q => ?_)
      obtain ⟨rfl, rfl⟩ := q
      refine ev_iload dX11_sticks_51 rfl ?_
      obtain ⟨g6, h⟩ := zgd h
      obtain ⟨J7, e8, h⟩ := zld h
      refine em_putI dX11_sticks_53 zf_NineHeaps_292 (Or.inl rfl) rfl rfl rfl (zHpB_has hS g6) e8 ?_
      refine ev_aload_n dX11_sticks_56 rfl rfl ?_
      refine em_getA dX11_sticks_57 zf_NineHeaps_48 rfl (hS.has 32 (by decide) (by decide) rfl) hw rfl ?_
      refine ev_iload_n dX11_sticks_60 rfl rfl ?_
      obtain ⟨p9, e10, h⟩ := zbd h
      refine ev_callV0 dX11_sticks_61 zm0_pass zl_NineHeaps_170 zi0_pass zv0_pass (zrcG hS) (As := [.int l2]) (rest := []) rfl rfl (Nat.le_of_ble_eq_true rfl) rfl (Nat.le_of_ble_eq_true rfl) (d' := 7) (by omega) (e0_pass hw hS (Nat.le_refl _) e10) (fun v μ1 q => ?_)
      obtain ⟨rfl, rfl⟩ := q
      refine ev_iload dX11_sticks_64 rfl ?_
      refine ev_aload_n dX11_sticks_66 rfl rfl ?_
      refine ev_iload_n dX11_sticks_67 rfl rfl ?_
      obtain ⟨p11, e12, h⟩ := zbd h
      refine ev_callV0 dX11_sticks_68 zm11_firstOtherwise zl_NineHeaps_286 zi11_firstOtherwise zv11_firstOtherwise (zrcX hS) (As := [.int l1]) (rest := [.int l5]) rfl rfl (Nat.le_of_ble_eq_true rfl) rfl (Nat.le_of_ble_eq_true rfl) (d' := 3) (by omega) (e11_firstOtherwise hw hS (Nat.le_refl _) e12) (fun v μ1 q => ?_)
      obtain ⟨rfl, rfl⟩ := q
      refine ev_iconst dX11_sticks_71 (v := (-1 : Int32)) zci_m1 ?_
      obtain ⟨x14, e15, h⟩ := zld h
      have k16 : EV w d 0 0 Y11_sticks 83 [some (.ref 32), some (.int l1), some (.int l2), some (.int l3), none, some (.int l5), some (.int l6)] [.int x14, .int l5] (n, kd, p9, p2.2) (q11_sticks n kd r) := by
        refine ev_ior dX11_sticks_83 rfl ?_
        refine ev_istore dX11_sticks_84 (by decide) rfl ?_
        refine ev_iinc dX11_sticks_86 (v := l6 + (1 : Int32)) rfl rfl (by decide) rfl ?_
        refine ev_goto dX11_sticks_89 (tgt := 32) (by decide) ?_
        exact EV.mask [true, true, true, true, false, true, true] rfl (ih l1 l2 l3 (l5 ||| x14) (l6 + (1 : Int32)) p9 p2.2 h)
      clear h
      have h := e15
      clear e15
      refine ev_icmp_ne dX11_sticks_72 (tgt := 82) (by decide) (fun c13 => ?_) (fun c13 => ?_)
      · replace h := zif c13 h
        refine ev_iconst dX11_sticks_82 (v := (0 : Int32)) zci_0 ?_
        obtain rfl := h
        exact k16
      · replace h := zit c13 h
        refine ev_iconst dX11_sticks_75 (v := (1 : Int32)) zci_1 ?_
        refine ev_iload dX11_sticks_76 rfl ?_
        refine ev_ishl dX11_sticks_78 rfl ?_
        refine ev_goto dX11_sticks_79 (tgt := 83) (by decide) ?_
        obtain rfl := h
        exact k16
set_option maxHeartbeats 4000000 in
set_option maxRecDepth 100000 in
theorem e11_sticks {w : zW} {d : Nat} {n : Nat} {kd : zMK} {I : zMI} {R : zMR} {r : Int32 × zMI × zMR} {l1 : Int32} {l2 : Int32} {l3 : Int32} (hw : zst w = zSt0) (hS : zSh n kd) (hd : 8 ≤ d)  (h : f11_sticks n kd l1 l2 l3 I R = some r) : EV w d 0 0 Y11_sticks 0 [some (.ref 32), some (.int l1), some (.int l2), some (.int l3), none, none, none] [] (n, kd, I, R) (q11_sticks n kd r) := by
  unfold f11_sticks at h
  refine ev_aload_n dX11_sticks_0 rfl rfl ?_
  refine ev_iload_n dX11_sticks_1 rfl rfl ?_
  refine ev_iload_n dX11_sticks_2 rfl rfl ?_
  obtain ⟨p17, e18, h⟩ := zbd h
  refine ev_callV0 dX11_sticks_3 zm11_refusedJudging zl_NineHeaps_283 zi11_refusedJudging zv11_refusedJudging (zrcX hS) (As := [.int l1, .int l2]) (rest := []) rfl rfl (Nat.le_of_ble_eq_true rfl) rfl (Nat.le_of_ble_eq_true rfl) (d' := 3) (by omega) (e11_refusedJudging hw hS (Nat.le_refl _) e18) (fun v μ1 q => ?_)
  obtain ⟨rfl, rfl⟩ := q
  refine ev_istore dX11_sticks_6 (by decide) rfl ?_
  refine ev_iload dX11_sticks_8 rfl ?_
  refine ev_if_eq dX11_sticks_10 (tgt := 16) (by decide) (fun c19 => ?_) (fun c19 => ?_)
  · replace h := zit c19 h
    refine ev_iload_n dX11_sticks_16 rfl rfl ?_
    obtain ⟨p20, e21, h⟩ := zbd h
    refine ev_callS0 dX11_sticks_17 zm11_noHeap zl_NineHeaps_107 zs11_noHeap (As := [.int l3]) (rest := []) rfl rfl (Nat.le_of_ble_eq_true rfl) rfl (Nat.le_of_ble_eq_true rfl) (d' := 1) (by omega) (e11_noHeap hw hS (Nat.le_refl _) e21) (fun v μ1 q => ?_)
    obtain ⟨rfl, rfl⟩ := q
    refine ev_if_eq dX11_sticks_20 (tgt := 26) (by decide) (fun c22 => ?_) (fun c22 => ?_)
    · replace h := zit c22 h
      refine ev_iconst dX11_sticks_26 (v := (0 : Int32)) zci_0 ?_
      refine ev_istore dX11_sticks_27 (by decide) rfl ?_
      refine ev_iconst dX11_sticks_29 (v := (0 : Int32)) zci_0 ?_
      refine ev_istore dX11_sticks_30 (by decide) rfl ?_
      exact EV.mask [true, true, true, true, false, true, true] rfl (e11_sticks_L32 hw hS hd zF l1 l2 l3 (0 : Int32) (0 : Int32) I R h)
    · replace h := zif c22 h
      refine ev_bipush dX11_sticks_23 (v := (-6 : Int32)) zcb_m6 ?_
      obtain rfl := Option.some.inj h
      exact ev_end_i dX11_sticks_25 rfl rfl ⟨rfl, rfl⟩
  · replace h := zif c19 h
    refine ev_iload dX11_sticks_13 rfl ?_
    obtain rfl := Option.some.inj h
    exact ev_end_i dX11_sticks_15 rfl rfl ⟨rfl, rfl⟩
abbrev q11_layPlainWith (n : Nat) (kd : zMK) (r : zMI × zMR) : Option Value → zM → Prop := fun v μ1 => v = none ∧ μ1 = (n, kd, r.1, r.2)
set_option maxHeartbeats 4000000 in
set_option maxRecDepth 100000 in
theorem e11_layPlainWith_B39 {w : zW} {d : Nat} {n : Nat} {kd : zMK} {r : zMI × zMR} {k6 : Option Nat → Int32 → zMI → zMR → Option (zMI × zMR)} (hw : zst w = zSt0) (hS : zSh n kd) (hd : 5 ≤ d)  (hk6 : ∀ (l1 : Option Nat) (l2 : Int32) (I : zMI) (R : zMR), k6 l1 l2 I R = some r → EV w d 0 0 Y11_layPlainWith 6 [some (.ref 32), some (va_rf l1), some (.int l2)] [] (n, kd, I, R) (q11_layPlainWith n kd r)) : ∀ (l1 : Option Nat) (l2 : Int32) (s1 : Option Nat) (I : zMI) (R : zMR), f11_layPlainWith_B39 n kd k6 l1 l2 s1 I R = some r → EV w d 0 0 Y11_layPlainWith 39 [some (.ref 32), some (va_rf l1), some (.int l2)] [va_rf s1, .ref 42] (n, kd, I, R) (q11_layPlainWith n kd r) := by
  intro l1 l2 s1 I R h
  unfold f11_layPlainWith_B39 at h
  obtain ⟨p1, e2, h⟩ := zbd h
  refine ev_callV0 dX11_layPlainWith_39 zm0_join zl_NineHeaps_246 zi0_join zv0_join (zrcG hS) (As := [va_rf s1]) (rest := []) rfl rfl (Nat.le_of_ble_eq_true rfl) (by cases s1 <;> rfl) (by cases s1 <;> exact Nat.le_of_ble_eq_true rfl) (d' := 4) (by omega) (e0_join hw hS (Nat.le_refl _) e2) (fun v μ1 q => ?_)
  obtain ⟨rfl, rfl⟩ := q
  refine ev_iinc dX11_layPlainWith_42 (v := l2 + (1 : Int32)) rfl rfl (by decide) (by cases l1 <;> rfl) ?_
  refine ev_goto dX11_layPlainWith_45 (tgt := 6) (by decide) ?_
  exact EV.mask [true, true, true] rfl (hk6 l1 (l2 + (1 : Int32)) p1.1 p1.2 h)
set_option maxHeartbeats 4000000 in
set_option maxRecDepth 100000 in
theorem e11_layPlainWith_B34 {w : zW} {d : Nat} {n : Nat} {kd : zMK} {r : zMI × zMR} {k6 : Option Nat → Int32 → zMI → zMR → Option (zMI × zMR)} (hw : zst w = zSt0) (hS : zSh n kd) (hd : 5 ≤ d)  (hk6 : ∀ (l1 : Option Nat) (l2 : Int32) (I : zMI) (R : zMR), k6 l1 l2 I R = some r → EV w d 0 0 Y11_layPlainWith 6 [some (.ref 32), some (va_rf l1), some (.int l2)] [] (n, kd, I, R) (q11_layPlainWith n kd r)) : ∀ (l1 : Option Nat) (l2 : Int32) (I : zMI) (R : zMR), f11_layPlainWith_B34 n kd k6 l1 l2 I R = some r → EV w d 0 0 Y11_layPlainWith 34 [some (.ref 32), some (va_rf l1), some (.int l2)] [.ref 42] (n, kd, I, R) (q11_layPlainWith n kd r) := by
  intro l1 l2 I R h
  unfold f11_layPlainWith_B34 at h
  refine ev_aload_n dX11_layPlainWith_34 rfl rfl ?_
  refine ev_iload_n dX11_layPlainWith_35 rfl rfl ?_
  obtain ⟨p3, e4, h⟩ := zbd h
  refine ev_callV0 dX11_layPlainWith_36 zm11_walkerOf zl_NineHeaps_135 zi11_walkerOf zv11_walkerOf (zrcX hS) (As := [.int l2]) (rest := [.ref 42]) rfl rfl (Nat.le_of_ble_eq_true rfl) rfl (Nat.le_of_ble_eq_true rfl) (d' := 1) (by omega) (e11_walkerOf hw hS (Nat.le_refl _) e4) (fun v μ1 q => ?_)
  obtain ⟨rfl, rfl⟩ := q
  exact EV.mask [true, true, true] rfl (e11_layPlainWith_B39 hw hS hd hk6 l1 l2 p3 I R h)
set_option maxHeartbeats 4000000 in
set_option maxRecDepth 100000 in
theorem e11_layPlainWith_L6 {w : zW} {d : Nat} {n : Nat} {kd : zMK} {r : zMI × zMR}  (hw : zst w = zSt0) (hS : zSh n kd) (hd : 5 ≤ d)   : ∀ (q : Nat) (l1 : Option Nat) (l2 : Int32) (I : zMI) (R : zMR), f11_layPlainWith_L6 n kd q l1 l2 I R = some r → EV w d 0 0 Y11_layPlainWith 6 [some (.ref 32), some (va_rf l1), some (.int l2)] [] (n, kd, I, R) (q11_layPlainWith n kd r) := by
  intro q
  induction q with
  | zero =>
    intro l1 l2 I R h
    cases h
  | succ q ih =>
    intro l1 l2 I R h
    unfold f11_layPlainWith_L6 at h
    refine ev_iload_n dX11_layPlainWith_6 rfl rfl ?_
    refine ev_aload_n dX11_layPlainWith_7 rfl rfl ?_
    refine em_getI dX11_layPlainWith_8 zf_NineHeaps_94 rfl (hS.has 32 (by decide) (by decide) rfl) rfl ?_
    refine ev_icmp_ge dX11_layPlainWith_11 (tgt := 48) (by decide) (fun c5 => ?_) (fun c5 => ?_)
    · replace h := zit c5 h
      obtain rfl := Option.some.inj h
      exact ev_end_v dX11_layPlainWith_48 rfl ⟨rfl, rfl⟩
    · replace h := zif c5 h
      refine ev_aload_n dX11_layPlainWith_14 rfl rfl ?_
      refine em_getA dX11_layPlainWith_15 zf_NineHeaps_48 rfl (hS.has 32 (by decide) (by decide) rfl) hw rfl ?_
      refine ev_aload_no dX11_layPlainWith_18 rfl rfl ?_
      refine ev_ifnull_o dX11_layPlainWith_19 (tgt := 34) (by decide) (fun o7 => ?_) (fun a6 o7 => ?_)
      · replace h := zmn o7 h
        exact EV.mask [true, true, true] rfl (e11_layPlainWith_B34 hw hS hd (fun l1' l2' I' R' h' => ih l1' l2' I' R' h') l1 l2 I R h)
      · replace h := zms o7 h
        refine ev_iload_n dX11_layPlainWith_22 rfl rfl ?_
        refine ev_aload_nk dX11_layPlainWith_23 rfl o7 rfl ?_
        obtain ⟨g8, h⟩ := zgd h
        obtain ⟨cg8, wg8, yg8⟩ := zWkB_has g8
        refine em_getI dX11_layPlainWith_24 (zf_NineHeaps_294 wg8) (by rcases wg8 with rfl | rfl | rfl | rfl | rfl | rfl <;> rfl) yg8 rfl ?_
        refine ev_icmp_ne dX11_layPlainWith_27 (tgt := 34) (by decide) (fun c9 => ?_) (fun c9 => ?_)
        · replace h := zif c9 h
          first | exact EV.mask [true, true, true] rfl (e11_layPlainWith_B34 hw hS hd (fun l1' l2' I' R' h' => ih l1' l2' I' R' h') l1 l2 I R h) | (rw [← o7]; exact EV.mask [true, true, true] rfl (e11_layPlainWith_B34 hw hS hd (fun l1' l2' I' R' h' => ih l1' l2' I' R' h') l1 l2 I R h))
        · replace h := zit c9 h
          refine ev_aload_nk dX11_layPlainWith_30 rfl o7 rfl ?_
          refine ev_goto dX11_layPlainWith_31 (tgt := 39) (by decide) ?_
          first | exact EV.mask [true, true, true] rfl (e11_layPlainWith_B39 hw hS hd (fun l1' l2' I' R' h' => ih l1' l2' I' R' h') l1 l2 (some a6) I R h) | (rw [← o7]; exact EV.mask [true, true, true] rfl (e11_layPlainWith_B39 hw hS hd (fun l1' l2' I' R' h' => ih l1' l2' I' R' h') l1 l2 (some a6) I R h))
set_option maxHeartbeats 4000000 in
set_option maxRecDepth 100000 in
theorem e11_layPlainWith {w : zW} {d : Nat} {n : Nat} {kd : zMK} {I : zMI} {R : zMR} {r : zMI × zMR} {l1 : Option Nat} (hw : zst w = zSt0) (hS : zSh n kd) (hd : 5 ≤ d)  (h : f11_layPlainWith n kd l1 I R = some r) : EV w d 0 0 Y11_layPlainWith 0 [some (.ref 32), some (va_rf l1), none] [] (n, kd, I, R) (q11_layPlainWith n kd r) := by
  unfold f11_layPlainWith at h
  refine ev_aload_n dX11_layPlainWith_0 rfl rfl ?_
  obtain ⟨p10, e11, h⟩ := zbd h
  refine ev_callV0 dX11_layPlainWith_1 zm11_layHeaps zl_NineHeaps_243 zi11_layHeaps zv11_layHeaps (zrcX hS) (As := []) (rest := []) rfl rfl (Nat.le_of_ble_eq_true rfl) rfl (Nat.le_of_ble_eq_true rfl) (d' := 3) (by omega) (e11_layHeaps hw hS (Nat.le_refl _) e11) (fun v μ1 q => ?_)
  obtain ⟨rfl, rfl⟩ := q
  refine ev_iconst dX11_layPlainWith_4 (v := (0 : Int32)) zci_0 ?_
  refine ev_istore_n dX11_layPlainWith_5 rfl (by decide) (by cases l1 <;> rfl) ?_
  exact EV.mask [true, true, true] rfl (e11_layPlainWith_L6 hw hS hd zF l1 (0 : Int32) p10.1 p10.2 h)
abbrev q11_laws (n : Nat) (kd : zMK) (r : Int32 × zMI × zMR) : Option Value → zM → Prop := fun v μ1 => v = some (.int r.1) ∧ μ1 = (n, kd, r.2.1, r.2.2)
set_option maxHeartbeats 4000000 in
set_option maxRecDepth 100000 in
theorem e11_laws_L19 {w : zW} {d : Nat} {n : Nat} {kd : zMK} {r : Int32 × zMI × zMR}  (hw : zst w = zSt0) (hS : zSh n kd) (hd : 8 ≤ d)   : ∀ (q : Nat) (l1 : Int32) (l2 : Int32) (l4 : Int32) (l5 : Int32) (I : zMI) (R : zMR), f11_laws_L19 n kd q l1 l2 l4 l5 I R = some r → EV w d 0 0 Y11_laws 19 [some (.ref 32), some (.int l1), some (.int l2), none, some (.int l4), some (.int l5)] [] (n, kd, I, R) (q11_laws n kd r) := by
  intro q
  induction q with
  | zero =>
    intro l1 l2 l4 l5 I R h
    cases h
  | succ q ih =>
    intro l1 l2 l4 l5 I R h
    unfold f11_laws_L19 at h
    refine ev_iload dX11_laws_19 rfl ?_
    refine ev_aload_n dX11_laws_21 rfl rfl ?_
    refine em_getI dX11_laws_22 zf_NineHeaps_90 rfl (hS.has 32 (by decide) (by decide) rfl) rfl ?_
    refine ev_icmp_ge dX11_laws_25 (tgt := 81) (by decide) (fun c1 => ?_) (fun c1 => ?_)
    · replace h := zit c1 h
      refine ev_iload dX11_laws_81 rfl ?_
      obtain rfl := Option.some.inj h
      exact ev_end_i dX11_laws_83 rfl rfl ⟨rfl, rfl⟩
    · replace h := zif c1 h
      refine ev_aload_n dX11_laws_28 rfl rfl ?_
      obtain ⟨p2, e3, h⟩ := zbd h
      refine ev_callV0 dX11_laws_29 zm11_layPlain zl_NineHeaps_167 zi11_layPlain zv11_layPlain (zrcX hS) (As := []) (rest := []) rfl rfl (Nat.le_of_ble_eq_true rfl) rfl (Nat.le_of_ble_eq_true rfl) (d' := 6) (by omega) (e11_layPlain hw hS (Nat.le_refl _) e3) (fun v μ1 q => ?_)
      obtain ⟨rfl, rfl⟩ := q
      refine ev_aload_n dX11_laws_32 rfl rfl ?_
      refine em_getA dX11_laws_33 zf_NineHeaps_48 rfl (hS.has 32 (by decide) (by decide) rfl) hw rfl ?_
      refine ev_aload_n dX11_laws_36 rfl rfl ?_
      refine ev_iload dX11_laws_37 rfl ?_
      obtain ⟨p4, e5, h⟩ := zbd h
      refine ev_callV0 dX11_laws_39 zm11_textOf zl_NineHeaps_139 zi11_textOf zv11_textOf (zrcX hS) (As := [.int l5]) (rest := [.ref 42]) rfl rfl (Nat.le_of_ble_eq_true rfl) rfl (Nat.le_of_ble_eq_true rfl) (d' := 1) (by omega) (e11_textOf hw hS (Nat.le_refl _) e5) (fun v μ1 q => ?_)
      obtain ⟨rfl, rfl⟩ := q
      obtain ⟨T6, e7, h⟩ := zld h
      refine em_putO dX11_laws_42 zf_NineHeaps_300 (Or.inl rfl) rfl hw rfl (fun _ => rfl) (fun _ => rfl) rfl rfl (hS.has 42 (by decide) (by decide) rfl) e7 ?_
      refine ev_aload_n dX11_laws_45 rfl rfl ?_
      refine em_getA dX11_laws_46 zf_NineHeaps_48 rfl (hS.has 32 (by decide) (by decide) rfl) hw rfl ?_
      refine ev_iload_n dX11_laws_49 rfl rfl ?_
      obtain ⟨p8, e9, h⟩ := zbd h
      refine ev_callV0 dX11_laws_50 zm0_pass zl_NineHeaps_170 zi0_pass zv0_pass (zrcG hS) (As := [.int l2]) (rest := []) rfl rfl (Nat.le_of_ble_eq_true rfl) rfl (Nat.le_of_ble_eq_true rfl) (d' := 7) (by omega) (e0_pass hw hS (Nat.le_refl _) e9) (fun v μ1 q => ?_)
      obtain ⟨rfl, rfl⟩ := q
      refine ev_iload dX11_laws_53 rfl ?_
      refine ev_aload_n dX11_laws_55 rfl rfl ?_
      refine ev_iload_n dX11_laws_56 rfl rfl ?_
      obtain ⟨p10, e11, h⟩ := zbd h
      refine ev_callV0 dX11_laws_57 zm11_firstOtherwise zl_NineHeaps_286 zi11_firstOtherwise zv11_firstOtherwise (zrcX hS) (As := [.int l1]) (rest := [.int l4]) rfl rfl (Nat.le_of_ble_eq_true rfl) rfl (Nat.le_of_ble_eq_true rfl) (d' := 3) (by omega) (e11_firstOtherwise hw hS (Nat.le_refl _) e11) (fun v μ1 q => ?_)
      obtain ⟨rfl, rfl⟩ := q
      refine ev_iconst dX11_laws_60 (v := (-1 : Int32)) zci_m1 ?_
      obtain ⟨x13, e14, h⟩ := zld h
      have k15 : EV w d 0 0 Y11_laws 72 [some (.ref 32), some (.int l1), some (.int l2), none, some (.int l4), some (.int l5)] [.int x13, .int l4] (n, kd, p8, T6) (q11_laws n kd r) := by
        refine ev_ior dX11_laws_72 rfl ?_
        refine ev_istore dX11_laws_73 (by decide) rfl ?_
        refine ev_iinc dX11_laws_75 (v := l5 + (1 : Int32)) rfl rfl (by decide) rfl ?_
        refine ev_goto dX11_laws_78 (tgt := 19) (by decide) ?_
        exact EV.mask [true, true, true, false, true, true] rfl (ih l1 l2 (l4 ||| x13) (l5 + (1 : Int32)) p8 T6 h)
      clear h
      have h := e14
      clear e14
      refine ev_icmp_ne dX11_laws_61 (tgt := 71) (by decide) (fun c12 => ?_) (fun c12 => ?_)
      · replace h := zif c12 h
        refine ev_iconst dX11_laws_71 (v := (0 : Int32)) zci_0 ?_
        obtain rfl := h
        exact k15
      · replace h := zit c12 h
        refine ev_iconst dX11_laws_64 (v := (1 : Int32)) zci_1 ?_
        refine ev_iload dX11_laws_65 rfl ?_
        refine ev_ishl dX11_laws_67 rfl ?_
        refine ev_goto dX11_laws_68 (tgt := 72) (by decide) ?_
        obtain rfl := h
        exact k15
set_option maxHeartbeats 4000000 in
set_option maxRecDepth 100000 in
theorem e11_laws {w : zW} {d : Nat} {n : Nat} {kd : zMK} {I : zMI} {R : zMR} {r : Int32 × zMI × zMR} {l1 : Int32} {l2 : Int32} (hw : zst w = zSt0) (hS : zSh n kd) (hd : 8 ≤ d)  (h : f11_laws n kd l1 l2 I R = some r) : EV w d 0 0 Y11_laws 0 [some (.ref 32), some (.int l1), some (.int l2), none, none, none] [] (n, kd, I, R) (q11_laws n kd r) := by
  unfold f11_laws at h
  refine ev_aload_n dX11_laws_0 rfl rfl ?_
  refine ev_iload_n dX11_laws_1 rfl rfl ?_
  refine ev_iload_n dX11_laws_2 rfl rfl ?_
  obtain ⟨p16, e17, h⟩ := zbd h
  refine ev_callV0 dX11_laws_3 zm11_refusedJudging zl_NineHeaps_283 zi11_refusedJudging zv11_refusedJudging (zrcX hS) (As := [.int l1, .int l2]) (rest := []) rfl rfl (Nat.le_of_ble_eq_true rfl) rfl (Nat.le_of_ble_eq_true rfl) (d' := 3) (by omega) (e11_refusedJudging hw hS (Nat.le_refl _) e17) (fun v μ1 q => ?_)
  obtain ⟨rfl, rfl⟩ := q
  refine ev_istore_n dX11_laws_6 rfl (by decide) rfl ?_
  refine ev_iload_n dX11_laws_7 rfl rfl ?_
  refine ev_if_eq dX11_laws_8 (tgt := 13) (by decide) (fun c18 => ?_) (fun c18 => ?_)
  · replace h := zit c18 h
    refine ev_iconst dX11_laws_13 (v := (0 : Int32)) zci_0 ?_
    refine ev_istore dX11_laws_14 (by decide) rfl ?_
    refine ev_iconst dX11_laws_16 (v := (0 : Int32)) zci_0 ?_
    refine ev_istore dX11_laws_17 (by decide) rfl ?_
    exact EV.mask [true, true, true, false, true, true] rfl (e11_laws_L19 hw hS hd zF l1 l2 (0 : Int32) (0 : Int32) I R h)
  · replace h := zif c18 h
    refine ev_iload_n dX11_laws_11 rfl rfl ?_
    obtain rfl := Option.some.inj h
    exact ev_end_i dX11_laws_12 rfl rfl ⟨rfl, rfl⟩
abbrev q11_film (n : Nat) (kd : zMK) (r : Int32 × zMI × zMR) : Option Value → zM → Prop := fun v μ1 => v = some (.int r.1) ∧ μ1 = (n, kd, r.2.1, r.2.2)
set_option maxHeartbeats 4000000 in
set_option maxRecDepth 100000 in
theorem e11_film_L42 {w : zW} {d : Nat} {n : Nat} {kd : zMK} {r : Int32 × zMI × zMR}  (hw : zst w = zSt0) (hS : zSh n kd) (hd : 8 ≤ d)   : ∀ (q : Nat) (l3 : Option Nat) (l4 : Int32) (I : zMI) (R : zMR), f11_film_L42 n kd q l3 l4 I R = some r → EV w d 0 0 Y11_film 42 [some (.ref 32), none, none, some (va_rf l3), some (.int l4)] [] (n, kd, I, R) (q11_film n kd r) := by
  intro q
  induction q with
  | zero =>
    intro l3 l4 I R h
    cases h
  | succ q ih =>
    intro l3 l4 I R h
    unfold f11_film_L42 at h
    refine ev_iload dX11_film_42 rfl ?_
    refine ev_bipush dX11_film_44 (v := (9 : Int32)) zcb_9 ?_
    refine ev_icmp_ge dX11_film_46 (tgt := 73) (by decide) (fun c1 => ?_) (fun c1 => ?_)
    · replace h := zit c1 h
      refine ev_bipush dX11_film_73 (v := (9 : Int32)) zcb_9 ?_
      obtain rfl := Option.some.inj h
      exact ev_end_i dX11_film_75 rfl rfl ⟨rfl, rfl⟩
    · replace h := zif c1 h
      refine ev_aload_no dX11_film_49 rfl rfl ?_
      refine ev_iload dX11_film_50 rfl ?_
      refine ev_aload_n dX11_film_52 rfl rfl ?_
      refine em_getA dX11_film_53 zf_NineHeaps_48 rfl (hS.has 32 (by decide) (by decide) rfl) hw rfl ?_
      refine ev_iload dX11_film_56 rfl ?_
      obtain ⟨p2, e3, h⟩ := zbd h
      refine ev_callV0 dX11_film_58 zm0_heapAt zl_NineHeaps_203 zi0_heapAt zv0_heapAt (zrcG hS) (As := [.int l4]) (rest := [.int l4, va_rf l3]) rfl rfl (by cases l3 <;> exact Nat.le_of_ble_eq_true rfl) rfl (Nat.le_of_ble_eq_true rfl) (d' := 2) (by omega) (e0_heapAt hw hS (Nat.le_refl _) e3) (fun v μ1 q => ?_)
      obtain ⟨rfl, rfl⟩ := q
      obtain ⟨g4, h⟩ := zgd h
      refine em_getI dX11_film_61 zf_NineHeaps_207 rfl (zHpB_has hS g4) rfl ?_
      rcases zopt l3 with o6 | ⟨a5, o6⟩
      · have h9 := zmn o6 h
        cases h9
      replace h := zms o6 h
      rw [o6]
      obtain ⟨g7, h⟩ := zgd h
      obtain ⟨p8, e9, h⟩ := zbd h
      refine ev_callV0 dX11_film_64 zm6_put zl_NineHeaps_310 zi6_put zv6_put (zrcSe hS g7) (As := [.int l4, .int (I p2 1)]) (rest := []) rfl rfl (Nat.le_of_ble_eq_true rfl) rfl (Nat.le_of_ble_eq_true rfl) (d' := 2) (by omega) (e6_put hw hS (Nat.le_refl _) e9) (fun v μ1 q => ?_)
      obtain ⟨rfl, rfl⟩ := q
      refine ev_iinc dX11_film_67 (v := l4 + (1 : Int32)) rfl rfl (by decide) (by cases l3 <;> rfl) ?_
      refine ev_goto dX11_film_70 (tgt := 42) (by decide) ?_
      first | exact EV.mask [true, false, false, true, true] rfl (ih l3 (l4 + (1 : Int32)) p8 R h) | (rw [← o6]; exact EV.mask [true, false, false, true, true] rfl (ih l3 (l4 + (1 : Int32)) p8 R h))
set_option maxHeartbeats 4000000 in
set_option maxRecDepth 100000 in
theorem e11_film {w : zW} {d : Nat} {n : Nat} {kd : zMK} {I : zMI} {R : zMR} {r : Int32 × zMI × zMR} {l1 : Int32} {l2 : Int32} (hw : zst w = zSt0) (hS : zSh n kd) (hd : 8 ≤ d)  (h : f11_film n kd l1 l2 I R = some r) : EV w d 0 0 Y11_film 0 [some (.ref 32), some (.int l1), some (.int l2), none, none] [] (n, kd, I, R) (q11_film n kd r) := by
  unfold f11_film at h
  refine ev_aload_n dX11_film_0 rfl rfl ?_
  refine ev_iload_n dX11_film_1 rfl rfl ?_
  obtain ⟨p10, e11, h⟩ := zbd h
  refine ev_callV0 dX11_film_2 zm11_sheetOf zl_NineHeaps_303 zi11_sheetOf zv11_sheetOf (zrcX hS) (As := [.int l1]) (rest := []) rfl rfl (Nat.le_of_ble_eq_true rfl) rfl (Nat.le_of_ble_eq_true rfl) (d' := 1) (by omega) (e11_sheetOf hw hS (Nat.le_refl _) e11) (fun v μ1 q => ?_)
  obtain ⟨rfl, rfl⟩ := q
  refine ev_astore_no dX11_film_5 rfl (by decide) rfl ?_
  refine ev_aload_no dX11_film_6 rfl rfl ?_
  refine ev_ifnull_o dX11_film_7 (tgt := 17) (by decide) (fun o13 => ?_) (fun a12 o13 => ?_)
  · replace h := zmn o13 h
    refine ev_bipush dX11_film_17 (v := (-2 : Int32)) zcb_m2 ?_
    obtain rfl := Option.some.inj h
    exact ev_end_i dX11_film_19 rfl rfl ⟨rfl, rfl⟩
  · replace h := zms o13 h
    refine ev_iload_n dX11_film_10 rfl rfl ?_
    obtain ⟨p14, e15, h⟩ := zbd h
    refine ev_callS0 dX11_film_11 zm11_noSeconds zl_NineHeaps_164 zs11_noSeconds (As := [.int l2]) (rest := []) rfl rfl (Nat.le_of_ble_eq_true rfl) rfl (Nat.le_of_ble_eq_true rfl) (d' := 1) (by omega) (e11_noSeconds hw hS (Nat.le_refl _) e15) (fun v μ1 q => ?_)
    obtain ⟨rfl, rfl⟩ := q
    refine ev_if_eq dX11_film_14 (tgt := 20) (by decide) (fun c16 => ?_) (fun c16 => ?_)
    · replace h := zit c16 h
      refine ev_aload_n dX11_film_20 rfl rfl ?_
      obtain ⟨p17, e18, h⟩ := zbd h
      refine ev_callV0 dX11_film_21 zm11_layPlain zl_NineHeaps_167 zi11_layPlain zv11_layPlain (zrcX hS) (As := []) (rest := []) rfl rfl (Nat.le_of_ble_eq_true rfl) rfl (Nat.le_of_ble_eq_true rfl) (d' := 6) (by omega) (e11_layPlain hw hS (Nat.le_refl _) e18) (fun v μ1 q => ?_)
      obtain ⟨rfl, rfl⟩ := q
      refine ev_aload_n dX11_film_24 rfl rfl ?_
      refine em_getA dX11_film_25 zf_NineHeaps_48 rfl (hS.has 32 (by decide) (by decide) rfl) hw rfl ?_
      refine ev_iload_n dX11_film_28 rfl rfl ?_
      obtain ⟨p19, e20, h⟩ := zbd h
      refine ev_callV0 dX11_film_29 zm0_pass zl_NineHeaps_170 zi0_pass zv0_pass (zrcG hS) (As := [.int l2]) (rest := []) rfl rfl (Nat.le_of_ble_eq_true rfl) rfl (Nat.le_of_ble_eq_true rfl) (d' := 7) (by omega) (e0_pass hw hS (Nat.le_refl _) e20) (fun v μ1 q => ?_)
      obtain ⟨rfl, rfl⟩ := q
      refine ev_aload_nk dX11_film_32 rfl o13 rfl ?_
      refine ev_iconst dX11_film_33 (v := (1 : Int32)) zci_1 ?_
      refine ev_bipush dX11_film_34 (v := (9 : Int32)) zcb_9 ?_
      obtain ⟨g21, h⟩ := zgd h
      obtain ⟨p22, e23, h⟩ := zbd h
      refine ev_callV0 dX11_film_36 zm6_become zl_NineHeaps_307 zi6_become zv6_become (zrcSe hS g21) (As := [.int (1 : Int32), .int (9 : Int32)]) (rest := []) rfl rfl (Nat.le_of_ble_eq_true rfl) rfl (Nat.le_of_ble_eq_true rfl) (d' := 2) (by omega) (e6_become hw hS (Nat.le_refl _) e23) (fun v μ1 q => ?_)
      obtain ⟨rfl, rfl⟩ := q
      refine ev_iconst dX11_film_39 (v := (0 : Int32)) zci_0 ?_
      refine ev_istore dX11_film_40 (by decide) (by cases p10 <;> rfl) ?_
      first | exact EV.mask [true, false, false, true, true] rfl (e11_film_L42 hw hS hd zF p10 (0 : Int32) p22 p17.2 h) | (rw [← o13]; exact EV.mask [true, false, false, true, true] rfl (e11_film_L42 hw hS hd zF p10 (0 : Int32) p22 p17.2 h))
    · replace h := zif c16 h
      refine ev_bipush dX11_film_17 (v := (-2 : Int32)) zcb_m2 ?_
      obtain rfl := Option.some.inj h
      exact ev_end_i dX11_film_19 rfl rfl ⟨rfl, rfl⟩
abbrev q11_drawn (n : Nat) (kd : zMK) (r : Int32 × zMI × zMR) : Option Value → zM → Prop := fun v μ1 => v = some (.int r.1) ∧ μ1 = (n, kd, r.2.1, r.2.2)
set_option maxHeartbeats 4000000 in
set_option maxRecDepth 100000 in
theorem e11_drawn {w : zW} {d : Nat} {n : Nat} {kd : zMK} {I : zMI} {R : zMR} {r : Int32 × zMI × zMR} {l1 : Int32} {l2 : Int32} (hw : zst w = zSt0) (hS : zSh n kd) (hd : 8 ≤ d)  (h : f11_drawn n kd l1 l2 I R = some r) : EV w d 0 0 Y11_drawn 0 [some (.ref 32), some (.int l1), some (.int l2)] [] (n, kd, I, R) (q11_drawn n kd r) := by
  unfold f11_drawn at h
  refine ev_iload_n dX11_drawn_0 rfl rfl ?_
  refine ev_if_lt dX11_drawn_1 (tgt := 20) (by decide) (fun c1 => ?_) (fun c1 => ?_)
  · replace h := zit c1 h
    refine ev_bipush dX11_drawn_20 (v := (-2 : Int32)) zcb_m2 ?_
    obtain rfl := Option.some.inj h
    exact ev_end_i dX11_drawn_22 rfl rfl ⟨rfl, rfl⟩
  · replace h := zif c1 h
    refine ev_iload_n dX11_drawn_4 rfl rfl ?_
    refine ev_ldcw dX11_drawn_5 zk_NineHeaps_320 ?_
    refine ev_icmp_gt dX11_drawn_8 (tgt := 20) (by decide) (fun c2 => ?_) (fun c2 => ?_)
    · replace h := zit c2 h
      refine ev_bipush dX11_drawn_20 (v := (-2 : Int32)) zcb_m2 ?_
      obtain rfl := Option.some.inj h
      exact ev_end_i dX11_drawn_22 rfl rfl ⟨rfl, rfl⟩
    · replace h := zif c2 h
      refine ev_iload_n dX11_drawn_11 rfl rfl ?_
      refine ev_if_lt dX11_drawn_12 (tgt := 20) (by decide) (fun c3 => ?_) (fun c3 => ?_)
      · replace h := zit c3 h
        refine ev_bipush dX11_drawn_20 (v := (-2 : Int32)) zcb_m2 ?_
        obtain rfl := Option.some.inj h
        exact ev_end_i dX11_drawn_22 rfl rfl ⟨rfl, rfl⟩
      · replace h := zif c3 h
        refine ev_iload_n dX11_drawn_15 rfl rfl ?_
        refine ev_iconst dX11_drawn_16 (v := (2 : Int32)) zci_2 ?_
        refine ev_icmp_le dX11_drawn_17 (tgt := 23) (by decide) (fun c4 => ?_) (fun c4 => ?_)
        · replace h := zit c4 h
          refine ev_aload_n dX11_drawn_23 rfl rfl ?_
          obtain ⟨p5, e6, h⟩ := zbd h
          refine ev_callV0 dX11_drawn_24 zm11_layPlain zl_NineHeaps_167 zi11_layPlain zv11_layPlain (zrcX hS) (As := []) (rest := []) rfl rfl (Nat.le_of_ble_eq_true rfl) rfl (Nat.le_of_ble_eq_true rfl) (d' := 6) (by omega) (e11_layPlain hw hS (Nat.le_refl _) e6) (fun v μ1 q => ?_)
          obtain ⟨rfl, rfl⟩ := q
          refine ev_aload_n dX11_drawn_27 rfl rfl ?_
          refine em_getA dX11_drawn_28 zf_NineHeaps_48 rfl (hS.has 32 (by decide) (by decide) rfl) hw rfl ?_
          refine ev_iload_n dX11_drawn_31 rfl rfl ?_
          obtain ⟨p7, e8, h⟩ := zbd h
          refine ev_callV0 dX11_drawn_32 zm0_draw zl_NineHeaps_321 zi0_draw zv0_draw (zrcG hS) (As := [.int l1]) (rest := []) rfl rfl (Nat.le_of_ble_eq_true rfl) rfl (Nat.le_of_ble_eq_true rfl) (d' := 1) (by omega) (e0_draw hw hS (Nat.le_refl _) e8) (fun v μ1 q => ?_)
          obtain ⟨rfl, rfl⟩ := q
          refine ev_aload_n dX11_drawn_35 rfl rfl ?_
          refine em_getA dX11_drawn_36 zf_NineHeaps_48 rfl (hS.has 32 (by decide) (by decide) rfl) hw rfl ?_
          refine ev_sipush dX11_drawn_39 (v := (600 : Int32)) zcs_600 ?_
          obtain ⟨p9, e10, h⟩ := zbd h
          refine ev_callV0 dX11_drawn_42 zm0_pass zl_NineHeaps_170 zi0_pass zv0_pass (zrcG hS) (As := [.int (600 : Int32)]) (rest := []) rfl rfl (Nat.le_of_ble_eq_true rfl) rfl (Nat.le_of_ble_eq_true rfl) (d' := 7) (by omega) (e0_pass hw hS (Nat.le_refl _) e10) (fun v μ1 q => ?_)
          obtain ⟨rfl, rfl⟩ := q
          refine ev_iload_n dX11_drawn_45 rfl rfl ?_
          by_cases c11 : l2 = (0 : Int32)
          · replace h := zit c11 h
            refine ev_lookup dX11_drawn_46 (by decide) (off := 26) (by rw [c11]; decide) (tgt := 72) (by decide) ?_
            refine ev_aload_n dX11_drawn_72 rfl rfl ?_
            refine em_getA dX11_drawn_73 zf_NineHeaps_48 rfl (hS.has 32 (by decide) (by decide) rfl) hw rfl ?_
            refine em_getI dX11_drawn_76 zf_NineHeaps_173 rfl (hS.has 42 (by decide) (by decide) rfl) rfl ?_
            obtain rfl := Option.some.inj h
            exact ev_end_i dX11_drawn_79 rfl rfl ⟨rfl, rfl⟩
          · replace h := zif c11 h
            by_cases c12 : l2 = (1 : Int32)
            · replace h := zit c12 h
              refine ev_lookup dX11_drawn_46 (by decide) (off := 34) (by rw [c12]; decide) (tgt := 80) (by decide) ?_
              refine ev_aload_n dX11_drawn_80 rfl rfl ?_
              refine em_getA dX11_drawn_81 zf_NineHeaps_48 rfl (hS.has 32 (by decide) (by decide) rfl) hw rfl ?_
              refine em_getI dX11_drawn_84 zf_NineHeaps_176 rfl (hS.has 42 (by decide) (by decide) rfl) rfl ?_
              obtain rfl := Option.some.inj h
              exact ev_end_i dX11_drawn_87 rfl rfl ⟨rfl, rfl⟩
            · replace h := zif c12 h
              refine ev_lookup dX11_drawn_46 (by decide) (off := 42) (by show Op.lookupswitch.offset [(0, 26), (1, 34)] 42 _ = _; rw [lv_osw c11 (by decide), lv_osw c12 (by decide)]; rfl) (tgt := 88) (by decide) ?_
              refine ev_aload_n dX11_drawn_88 rfl rfl ?_
              refine em_getA dX11_drawn_89 zf_NineHeaps_48 rfl (hS.has 32 (by decide) (by decide) rfl) hw rfl ?_
              refine em_getI dX11_drawn_92 zf_NineHeaps_179 rfl (hS.has 42 (by decide) (by decide) rfl) rfl ?_
              obtain rfl := Option.some.inj h
              exact ev_end_i dX11_drawn_95 rfl rfl ⟨rfl, rfl⟩
        · replace h := zif c4 h
          refine ev_bipush dX11_drawn_20 (v := (-2 : Int32)) zcb_m2 ?_
          obtain rfl := Option.some.inj h
          exact ev_end_i dX11_drawn_22 rfl rfl ⟨rfl, rfl⟩
abbrev q11_commonDivisor (n : Nat) (kd : zMK) (I : zMI) (R : zMR) (r : Int32) : Option Value → zM → Prop := fun v μ1 => v = some (.int r) ∧ μ1 = (n, kd, I, R)
set_option maxHeartbeats 4000000 in
set_option maxRecDepth 100000 in
theorem e11_commonDivisor_L2 {w : zW} {d : Nat} {n : Nat} {kd : zMK} {I : zMI} {R : zMR} {r : Int32}  (hw : zst w = zSt0) (hS : zSh n kd) (hd : 1 ≤ d)   : ∀ (q : Nat) (l0 : Int32) (l1 : Int32) (l2 : Int32) , f11_commonDivisor_L2  q l0 l1 l2 = some r → EV w d 0 0 Y11_commonDivisor 2 [some (.int l0), some (.int l1), some (.int l2), none] [] (n, kd, I, R) (q11_commonDivisor n kd I R r) := by
  intro q
  induction q with
  | zero =>
    intro l0 l1 l2 h
    cases h
  | succ q ih =>
    intro l0 l1 l2 h
    unfold f11_commonDivisor_L2 at h
    refine ev_iload_n dX11_commonDivisor_2 rfl rfl ?_
    refine ev_bipush dX11_commonDivisor_3 (v := (64 : Int32)) zcb_64 ?_
    refine ev_icmp_ge dX11_commonDivisor_5 (tgt := 26) (by decide) (fun c1 => ?_) (fun c1 => ?_)
    · replace h := zit c1 h
      refine ev_iload_n dX11_commonDivisor_26 rfl rfl ?_
      obtain rfl := Option.some.inj h
      exact ev_end_i dX11_commonDivisor_27 rfl rfl ⟨rfl, rfl⟩
    · replace h := zif c1 h
      refine ev_iload_n dX11_commonDivisor_8 rfl rfl ?_
      refine ev_if_eq dX11_commonDivisor_9 (tgt := 26) (by decide) (fun c2 => ?_) (fun c2 => ?_)
      · replace h := zit c2 h
        refine ev_iload_n dX11_commonDivisor_26 rfl rfl ?_
        obtain rfl := Option.some.inj h
        exact ev_end_i dX11_commonDivisor_27 rfl rfl ⟨rfl, rfl⟩
      · replace h := zif c2 h
        refine ev_iload_n dX11_commonDivisor_12 rfl rfl ?_
        refine ev_iload_n dX11_commonDivisor_13 rfl rfl ?_
        obtain ⟨g3, h⟩ := zgd h
        refine ev_irem dX11_commonDivisor_14 g3 rfl ?_
        refine ev_istore_n dX11_commonDivisor_15 rfl (by decide) rfl ?_
        refine ev_iload_n dX11_commonDivisor_16 rfl rfl ?_
        refine ev_istore_n dX11_commonDivisor_17 rfl (by decide) rfl ?_
        refine ev_iload_n dX11_commonDivisor_18 rfl rfl ?_
        refine ev_istore_n dX11_commonDivisor_19 rfl (by decide) rfl ?_
        refine ev_iinc dX11_commonDivisor_20 (v := l2 + (1 : Int32)) rfl rfl (by decide) rfl ?_
        refine ev_goto dX11_commonDivisor_23 (tgt := 2) (by decide) ?_
        exact EV.mask [true, true, true, false] rfl (ih l1 (l0 - l0 / l1 * l1) (l2 + (1 : Int32)) h)
set_option maxHeartbeats 4000000 in
set_option maxRecDepth 100000 in
theorem e11_commonDivisor {w : zW} {d : Nat} {n : Nat} {kd : zMK} {I : zMI} {R : zMR} {r : Int32} {l0 : Int32} {l1 : Int32} (hw : zst w = zSt0) (hS : zSh n kd) (hd : 1 ≤ d)  (h : f11_commonDivisor l0 l1 = some r) : EV w d 0 0 Y11_commonDivisor 0 [some (.int l0), some (.int l1), none, none] [] (n, kd, I, R) (q11_commonDivisor n kd I R r) := by
  unfold f11_commonDivisor at h
  refine ev_iconst dX11_commonDivisor_0 (v := (0 : Int32)) zci_0 ?_
  refine ev_istore_n dX11_commonDivisor_1 rfl (by decide) rfl ?_
  exact EV.mask [true, true, true, false] rfl (e11_commonDivisor_L2 hw hS hd zF l0 l1 (0 : Int32) h)
abbrev q11_odds (n : Nat) (kd : zMK) (r : Int64 × zMI × zMR) : Option Value → zM → Prop := fun v μ1 => v = some (.long r.1) ∧ μ1 = (n, kd, r.2.1, r.2.2)
set_option maxHeartbeats 4000000 in
set_option maxRecDepth 100000 in
theorem e11_odds_L53 {w : zW} {d : Nat} {n : Nat} {kd : zMK} {r : Int64 × zMI × zMR} {k128 : Int32 → Int32 → Int32 → zMI → zMR → Option (Int64 × zMI × zMR)} (hw : zst w = zSt0) (hS : zSh n kd) (hd : 8 ≤ d)  (hk128 : ∀ (l4 : Int32) (l5 : Int32) (l6 : Int32) (I : zMI) (R : zMR), k128 l4 l5 l6 I R = some r → EV w d 0 0 Y11_odds 128 [none, none, none, none, some (.int l4), some (.int l5), some (.int l6), none] [] (n, kd, I, R) (q11_odds n kd r)) : ∀ (q : Nat) (l1 : Int32) (l2 : Int32) (l3 : Int32) (l4 : Int32) (l5 : Int32) (l6 : Int32) (l7 : Int32) (I : zMI) (R : zMR), f11_odds_L53 n kd k128 q l1 l2 l3 l4 l5 l6 l7 I R = some r → EV w d 0 0 Y11_odds 53 [some (.ref 32), some (.int l1), some (.int l2), some (.int l3), some (.int l4), some (.int l5), some (.int l6), some (.int l7)] [] (n, kd, I, R) (q11_odds n kd r) := by
  intro q
  induction q with
  | zero =>
    intro l1 l2 l3 l4 l5 l6 l7 I R h
    cases h
  | succ q ih =>
    intro l1 l2 l3 l4 l5 l6 l7 I R h
    unfold f11_odds_L53 at h
    refine ev_iload dX11_odds_53 rfl ?_
    refine ev_iload_n dX11_odds_55 rfl rfl ?_
    refine ev_icmp_ge dX11_odds_56 (tgt := 128) (by decide) (fun c1 => ?_) (fun c1 => ?_)
    · replace h := zit c1 h
      exact EV.mask [false, false, false, false, true, true, true, false] rfl (hk128 l4 l5 l6 I R h)
    · replace h := zif c1 h
      refine ev_aload_n dX11_odds_59 rfl rfl ?_
      obtain ⟨p2, e3, h⟩ := zbd h
      refine ev_callV0 dX11_odds_60 zm11_layPlain zl_NineHeaps_167 zi11_layPlain zv11_layPlain (zrcX hS) (As := []) (rest := []) rfl rfl (Nat.le_of_ble_eq_true rfl) rfl (Nat.le_of_ble_eq_true rfl) (d' := 6) (by omega) (e11_layPlain hw hS (Nat.le_refl _) e3) (fun v μ1 q => ?_)
      obtain ⟨rfl, rfl⟩ := q
      refine ev_aload_n dX11_odds_63 rfl rfl ?_
      refine em_getA dX11_odds_64 zf_NineHeaps_48 rfl (hS.has 32 (by decide) (by decide) rfl) hw rfl ?_
      refine ev_iload_n dX11_odds_67 rfl rfl ?_
      refine ev_iload dX11_odds_68 rfl ?_
      refine ev_iadd dX11_odds_70 rfl ?_
      obtain ⟨p4, e5, h⟩ := zbd h
      refine ev_callV0 dX11_odds_71 zm0_draw zl_NineHeaps_321 zi0_draw zv0_draw (zrcG hS) (As := [.int (l1 + l7)]) (rest := []) rfl rfl (Nat.le_of_ble_eq_true rfl) rfl (Nat.le_of_ble_eq_true rfl) (d' := 1) (by omega) (e0_draw hw hS (Nat.le_refl _) e5) (fun v μ1 q => ?_)
      obtain ⟨rfl, rfl⟩ := q
      refine ev_aload_n dX11_odds_74 rfl rfl ?_
      refine em_getA dX11_odds_75 zf_NineHeaps_48 rfl (hS.has 32 (by decide) (by decide) rfl) hw rfl ?_
      refine ev_iload_n dX11_odds_78 rfl rfl ?_
      obtain ⟨p6, e7, h⟩ := zbd h
      refine ev_callV0 dX11_odds_79 zm0_pass zl_NineHeaps_170 zi0_pass zv0_pass (zrcG hS) (As := [.int l3]) (rest := []) rfl rfl (Nat.le_of_ble_eq_true rfl) rfl (Nat.le_of_ble_eq_true rfl) (d' := 7) (by omega) (e0_pass hw hS (Nat.le_refl _) e7) (fun v μ1 q => ?_)
      obtain ⟨rfl, rfl⟩ := q
      refine ev_iload dX11_odds_82 rfl ?_
      refine ev_aload_n dX11_odds_84 rfl rfl ?_
      refine em_getA dX11_odds_85 zf_NineHeaps_48 rfl (hS.has 32 (by decide) (by decide) rfl) hw rfl ?_
      refine em_getI dX11_odds_88 zf_NineHeaps_173 rfl (hS.has 42 (by decide) (by decide) rfl) rfl ?_
      refine ev_iadd dX11_odds_91 rfl ?_
      refine ev_istore dX11_odds_92 (by decide) rfl ?_
      refine ev_iload dX11_odds_94 rfl ?_
      refine ev_aload_n dX11_odds_96 rfl rfl ?_
      refine em_getA dX11_odds_97 zf_NineHeaps_48 rfl (hS.has 32 (by decide) (by decide) rfl) hw rfl ?_
      refine em_getI dX11_odds_100 zf_NineHeaps_173 rfl (hS.has 42 (by decide) (by decide) rfl) rfl ?_
      refine ev_aload_n dX11_odds_103 rfl rfl ?_
      refine em_getA dX11_odds_104 zf_NineHeaps_48 rfl (hS.has 32 (by decide) (by decide) rfl) hw rfl ?_
      refine em_getI dX11_odds_107 zf_NineHeaps_176 rfl (hS.has 42 (by decide) (by decide) rfl) rfl ?_
      refine ev_isub dX11_odds_110 rfl ?_
      refine ev_aload_n dX11_odds_111 rfl rfl ?_
      refine em_getA dX11_odds_112 zf_NineHeaps_48 rfl (hS.has 32 (by decide) (by decide) rfl) hw rfl ?_
      refine em_getI dX11_odds_115 zf_NineHeaps_179 rfl (hS.has 42 (by decide) (by decide) rfl) rfl ?_
      refine ev_isub dX11_odds_118 rfl ?_
      refine ev_iadd dX11_odds_119 rfl ?_
      obtain ⟨x8, e9, h⟩ := zld h
      refine ev_nm e9 ?_
      refine ev_istore dX11_odds_120 (by decide) rfl ?_
      refine ev_iinc dX11_odds_122 (v := l7 + (1 : Int32)) rfl rfl (by decide) rfl ?_
      refine ev_goto dX11_odds_125 (tgt := 53) (by decide) ?_
      exact EV.mask [true, true, true, true, true, true, true, true] rfl (ih l1 l2 l3 l4 (l5 + (p6 42 9)) x8 (l7 + (1 : Int32)) p6 p2.2 h)
set_option maxHeartbeats 4000000 in
set_option maxRecDepth 100000 in
theorem e11_odds_B128 {w : zW} {d : Nat} {n : Nat} {kd : zMK} {r : Int64 × zMI × zMR}  (hw : zst w = zSt0) (hS : zSh n kd) (hd : 8 ≤ d)   : ∀ (l4 : Int32) (l5 : Int32) (l6 : Int32) (I : zMI) (R : zMR), f11_odds_B128 n kd l4 l5 l6 I R = some r → EV w d 0 0 Y11_odds 128 [none, none, none, none, some (.int l4), some (.int l5), some (.int l6), none] [] (n, kd, I, R) (q11_odds n kd r) := by
  intro l4 l5 l6 I R h
  unfold f11_odds_B128 at h
  refine ev_iload dX11_odds_128 rfl ?_
  refine ev_iload dX11_odds_130 rfl ?_
  obtain ⟨p10, e11, h⟩ := zbd h
  refine ev_callS0 dX11_odds_132 zm11_commonDivisor zl_NineHeaps_326 zs11_commonDivisor (As := [.int l5, .int l6]) (rest := []) rfl rfl (Nat.le_of_ble_eq_true rfl) rfl (Nat.le_of_ble_eq_true rfl) (d' := 1) (by omega) (e11_commonDivisor hw hS (Nat.le_refl _) e11) (fun v μ1 q => ?_)
  obtain ⟨rfl, rfl⟩ := q
  refine ev_istore dX11_odds_135 (by decide) rfl ?_
  refine ev_iload dX11_odds_137 rfl ?_
  refine ev_if_gt dX11_odds_139 (tgt := 146) (by decide) (fun c12 => ?_) (fun c12 => ?_)
  · replace h := zit c12 h
    refine ev_iload dX11_odds_146 rfl ?_
    obtain ⟨x14, e15, h⟩ := zld h
    have k17 : EV w d 0 0 Y11_odds 158 [none, none, none, none, some (.int l4), some (.int l5), some (.int l6), some (.int p10)] [.int x14] (n, kd, I, R) (q11_odds n kd r) := by
      refine ev_iload dX11_odds_158 rfl ?_
      obtain ⟨g16, h⟩ := zgd h
      refine ev_idiv dX11_odds_160 g16 rfl ?_
      refine ev_i2l dX11_odds_161 rfl ?_
      obtain rfl := Option.some.inj h
      exact ev_end_l dX11_odds_162 rfl ⟨rfl, rfl⟩
    clear h
    have h := e15
    clear e15
    refine ev_if_ne dX11_odds_148 (tgt := 156) (by decide) (fun c13 => ?_) (fun c13 => ?_)
    · replace h := zif c13 h
      refine ev_iload dX11_odds_156 rfl ?_
      obtain rfl := h
      exact k17
    · replace h := zit c13 h
      refine ev_iload dX11_odds_151 rfl ?_
      refine ev_goto dX11_odds_153 (tgt := 158) (by decide) ?_
      obtain rfl := h
      exact k17
  · replace h := zif c12 h
    refine ev_ldc2 dX11_odds_142 zk_NineHeaps_324 ?_
    obtain rfl := Option.some.inj h
    exact ev_end_l dX11_odds_145 rfl ⟨rfl, rfl⟩
set_option maxHeartbeats 4000000 in
set_option maxRecDepth 100000 in
theorem e11_odds {w : zW} {d : Nat} {n : Nat} {kd : zMK} {I : zMI} {R : zMR} {r : Int64 × zMI × zMR} {l1 : Int32} {l2 : Int32} {l3 : Int32} {l4 : Int32} (hw : zst w = zSt0) (hS : zSh n kd) (hd : 8 ≤ d)  (h : f11_odds n kd l1 l2 l3 l4 I R = some r) : EV w d 0 0 Y11_odds 0 [some (.ref 32), some (.int l1), some (.int l2), some (.int l3), some (.int l4), none, none, none] [] (n, kd, I, R) (q11_odds n kd r) := by
  unfold f11_odds at h
  refine ev_iload_n dX11_odds_0 rfl rfl ?_
  refine ev_if_lt dX11_odds_1 (tgt := 40) (by decide) (fun c18 => ?_) (fun c18 => ?_)
  · replace h := zit c18 h
    refine ev_ldc2 dX11_odds_40 zk_NineHeaps_324 ?_
    obtain rfl := Option.some.inj h
    exact ev_end_l dX11_odds_43 rfl ⟨rfl, rfl⟩
  · replace h := zif c18 h
    refine ev_iload_n dX11_odds_4 rfl rfl ?_
    refine ev_ldcw dX11_odds_5 zk_NineHeaps_320 ?_
    refine ev_icmp_gt dX11_odds_8 (tgt := 40) (by decide) (fun c19 => ?_) (fun c19 => ?_)
    · replace h := zit c19 h
      refine ev_ldc2 dX11_odds_40 zk_NineHeaps_324 ?_
      obtain rfl := Option.some.inj h
      exact ev_end_l dX11_odds_43 rfl ⟨rfl, rfl⟩
    · replace h := zif c19 h
      refine ev_iload_n dX11_odds_11 rfl rfl ?_
      refine ev_iconst dX11_odds_12 (v := (1 : Int32)) zci_1 ?_
      refine ev_icmp_lt dX11_odds_13 (tgt := 40) (by decide) (fun c20 => ?_) (fun c20 => ?_)
      · replace h := zit c20 h
        refine ev_ldc2 dX11_odds_40 zk_NineHeaps_324 ?_
        obtain rfl := Option.some.inj h
        exact ev_end_l dX11_odds_43 rfl ⟨rfl, rfl⟩
      · replace h := zif c20 h
        refine ev_iload_n dX11_odds_16 rfl rfl ?_
        refine ev_bipush dX11_odds_17 (v := (10 : Int32)) zcb_10 ?_
        refine ev_icmp_gt dX11_odds_19 (tgt := 40) (by decide) (fun c21 => ?_) (fun c21 => ?_)
        · replace h := zit c21 h
          refine ev_ldc2 dX11_odds_40 zk_NineHeaps_324 ?_
          obtain rfl := Option.some.inj h
          exact ev_end_l dX11_odds_43 rfl ⟨rfl, rfl⟩
        · replace h := zif c21 h
          refine ev_iload_n dX11_odds_22 rfl rfl ?_
          obtain ⟨p22, e23, h⟩ := zbd h
          refine ev_callS0 dX11_odds_23 zm11_noSeconds zl_NineHeaps_164 zs11_noSeconds (As := [.int l3]) (rest := []) rfl rfl (Nat.le_of_ble_eq_true rfl) rfl (Nat.le_of_ble_eq_true rfl) (d' := 1) (by omega) (e11_noSeconds hw hS (Nat.le_refl _) e23) (fun v μ1 q => ?_)
          obtain ⟨rfl, rfl⟩ := q
          refine ev_if_ne dX11_odds_26 (tgt := 40) (by decide) (fun c24 => ?_) (fun c24 => ?_)
          · replace h := zif c24 h
            refine ev_ldc2 dX11_odds_40 zk_NineHeaps_324 ?_
            obtain rfl := Option.some.inj h
            exact ev_end_l dX11_odds_43 rfl ⟨rfl, rfl⟩
          · replace h := zit c24 h
            refine ev_iload dX11_odds_29 rfl ?_
            refine ev_if_lt dX11_odds_31 (tgt := 40) (by decide) (fun c25 => ?_) (fun c25 => ?_)
            · replace h := zit c25 h
              refine ev_ldc2 dX11_odds_40 zk_NineHeaps_324 ?_
              obtain rfl := Option.some.inj h
              exact ev_end_l dX11_odds_43 rfl ⟨rfl, rfl⟩
            · replace h := zif c25 h
              refine ev_iload dX11_odds_34 rfl ?_
              refine ev_iconst dX11_odds_36 (v := (1 : Int32)) zci_1 ?_
              refine ev_icmp_le dX11_odds_37 (tgt := 44) (by decide) (fun c26 => ?_) (fun c26 => ?_)
              · replace h := zit c26 h
                refine ev_iconst dX11_odds_44 (v := (0 : Int32)) zci_0 ?_
                refine ev_istore dX11_odds_45 (by decide) rfl ?_
                refine ev_iconst dX11_odds_47 (v := (0 : Int32)) zci_0 ?_
                refine ev_istore dX11_odds_48 (by decide) rfl ?_
                refine ev_iconst dX11_odds_50 (v := (0 : Int32)) zci_0 ?_
                refine ev_istore dX11_odds_51 (by decide) rfl ?_
                exact EV.mask [true, true, true, true, true, true, true, true] rfl (e11_odds_L53 hw hS hd (fun l4' l5' l6' I' R' h' => e11_odds_B128 hw hS hd l4' l5' l6' I' R' h') zF l1 l2 l3 l4 (0 : Int32) (0 : Int32) (0 : Int32) I R h)
              · replace h := zif c26 h
                refine ev_ldc2 dX11_odds_40 zk_NineHeaps_324 ?_
                obtain rfl := Option.some.inj h
                exact ev_end_l dX11_odds_43 rfl ⟨rfl, rfl⟩
abbrev q11_image (n : Nat) (kd : zMK) (R : zMR) (r : Int32 × zMI) : Option Value → zM → Prop := fun v μ1 => v = some (.int r.1) ∧ μ1 = (n, kd, r.2, R)
set_option maxHeartbeats 4000000 in
set_option maxRecDepth 100000 in
theorem e11_image_L2 {w : zW} {d : Nat} {n : Nat} {kd : zMK} {R : zMR} {r : Int32 × zMI} {k38 : zMI → Option (Int32 × zMI)} (hw : zst w = zSt0) (hS : zSh n kd) (hd : 1 ≤ d)  (hk38 : ∀  (I : zMI), k38 I = some r → EV w d 0 0 Y11_image 38 [some (.ref 32), none, none] [] (n, kd, I, R) (q11_image n kd R r)) : ∀ (q : Nat) (l1 : Int32) (I : zMI), f11_image_L2 n kd R k38 q l1 I = some r → EV w d 0 0 Y11_image 2 [some (.ref 32), some (.int l1), none] [] (n, kd, I, R) (q11_image n kd R r) := by
  intro q
  induction q with
  | zero =>
    intro l1 I h
    cases h
  | succ q ih =>
    intro l1 I h
    unfold f11_image_L2 at h
    refine ev_iload_n dX11_image_2 rfl rfl ?_
    refine ev_bipush dX11_image_3 (v := (9 : Int32)) zcb_9 ?_
    refine ev_icmp_ge dX11_image_5 (tgt := 38) (by decide) (fun c1 => ?_) (fun c1 => ?_)
    · replace h := zit c1 h
      exact EV.mask [true, false, false] rfl (hk38 I h)
    · replace h := zif c1 h
      refine ev_aload_n dX11_image_8 rfl rfl ?_
      refine em_getA dX11_image_9 zf_NineHeaps_63 rfl (hS.has 32 (by decide) (by decide) rfl) hw rfl ?_
      refine ev_iload_n dX11_image_12 rfl rfl ?_
      refine ev_aload_n dX11_image_13 rfl rfl ?_
      refine em_getA dX11_image_14 zf_NineHeaps_9 rfl (hS.has 32 (by decide) (by decide) rfl) hw rfl ?_
      refine ev_iload_n dX11_image_17 rfl rfl ?_
      obtain ⟨g2, h⟩ := zgd h
      refine em_iald dX11_image_18 hS (by decide) (by decide) (N := 9) rfl g2 rfl ?_
      obtain ⟨J3, e4, h⟩ := zld h
      refine em_iast dX11_image_19 hS (by decide) (by decide) (N := 9) rfl g2 e4 ?_
      refine ev_aload_n dX11_image_20 rfl rfl ?_
      refine em_getA dX11_image_21 zf_NineHeaps_66 rfl (hS.has 32 (by decide) (by decide) rfl) hw rfl ?_
      refine ev_iload_n dX11_image_24 rfl rfl ?_
      refine ev_aload_n dX11_image_25 rfl rfl ?_
      refine em_getA dX11_image_26 zf_NineHeaps_13 rfl (hS.has 32 (by decide) (by decide) rfl) hw rfl ?_
      refine ev_iload_n dX11_image_29 rfl rfl ?_
      refine em_iald dX11_image_30 hS (by decide) (by decide) (N := 9) rfl g2 rfl ?_
      obtain ⟨J5, e6, h⟩ := zld h
      refine em_iast dX11_image_31 hS (by decide) (by decide) (N := 9) rfl g2 e6 ?_
      refine ev_iinc dX11_image_32 (v := l1 + (1 : Int32)) rfl rfl (by decide) rfl ?_
      refine ev_goto dX11_image_35 (tgt := 2) (by decide) ?_
      exact EV.mask [true, true, false] rfl (ih (l1 + (1 : Int32)) J5 h)
set_option maxHeartbeats 4000000 in
set_option maxRecDepth 100000 in
theorem e11_image_B77 {w : zW} {d : Nat} {n : Nat} {kd : zMK} {R : zMR} {r : Int32 × zMI} {k40 : Int32 → zMI → Option (Int32 × zMI)} (hw : zst w = zSt0) (hS : zSh n kd) (hd : 1 ≤ d)  (hk40 : ∀ (l1 : Int32) (I : zMI), k40 l1 I = some r → EV w d 0 0 Y11_image 40 [some (.ref 32), some (.int l1), none] [] (n, kd, I, R) (q11_image n kd R r)) : ∀ (l1 : Int32) (s1 : Int32) (s2 : Int32) (I : zMI), f11_image_B77 n kd R k40 l1 s1 s2 I = some r → EV w d 0 0 Y11_image 77 [some (.ref 32), some (.int l1), none] [.int s2, .int s1, .ref 66] (n, kd, I, R) (q11_image n kd R r) := by
  intro l1 s1 s2 I h
  unfold f11_image_B77 at h
  obtain ⟨g7, h⟩ := zgd h
  obtain ⟨J8, e9, h⟩ := zld h
  refine em_iast dX11_image_77 hS (by decide) (by decide) (N := 5) rfl g7 e9 ?_
  refine ev_iinc dX11_image_78 (v := l1 + (1 : Int32)) rfl rfl (by decide) rfl ?_
  refine ev_goto dX11_image_81 (tgt := 40) (by decide) ?_
  exact EV.mask [true, true, false] rfl (hk40 (l1 + (1 : Int32)) J8 h)
set_option maxHeartbeats 4000000 in
set_option maxRecDepth 100000 in
theorem e11_image_L40 {w : zW} {d : Nat} {n : Nat} {kd : zMK} {R : zMR} {r : Int32 × zMI} {k84 : zMI → Option (Int32 × zMI)} (hw : zst w = zSt0) (hS : zSh n kd) (hd : 1 ≤ d)  (hk84 : ∀  (I : zMI), k84 I = some r → EV w d 0 0 Y11_image 84 [some (.ref 32), none, none] [] (n, kd, I, R) (q11_image n kd R r)) : ∀ (q : Nat) (l1 : Int32) (I : zMI), f11_image_L40 n kd R k84 q l1 I = some r → EV w d 0 0 Y11_image 40 [some (.ref 32), some (.int l1), none] [] (n, kd, I, R) (q11_image n kd R r) := by
  intro q
  induction q with
  | zero =>
    intro l1 I h
    cases h
  | succ q ih =>
    intro l1 I h
    unfold f11_image_L40 at h
    refine ev_iload_n dX11_image_40 rfl rfl ?_
    refine ev_aload_n dX11_image_41 rfl rfl ?_
    refine em_getI dX11_image_42 zf_NineHeaps_94 rfl (hS.has 32 (by decide) (by decide) rfl) rfl ?_
    refine ev_icmp_ge dX11_image_45 (tgt := 84) (by decide) (fun c10 => ?_) (fun c10 => ?_)
    · replace h := zit c10 h
      exact EV.mask [true, false, false] rfl (hk84 I h)
    · replace h := zif c10 h
      refine ev_iload_n dX11_image_48 rfl rfl ?_
      refine ev_iconst dX11_image_49 (v := (5 : Int32)) zci_5 ?_
      refine ev_icmp_ge dX11_image_50 (tgt := 84) (by decide) (fun c11 => ?_) (fun c11 => ?_)
      · replace h := zit c11 h
        exact EV.mask [true, false, false] rfl (hk84 I h)
      · replace h := zif c11 h
        refine ev_aload_n dX11_image_53 rfl rfl ?_
        refine em_getA dX11_image_54 zf_NineHeaps_22 rfl (hS.has 32 (by decide) (by decide) rfl) hw rfl ?_
        refine ev_iload_n dX11_image_57 rfl rfl ?_
        obtain ⟨g12, h⟩ := zgd h
        refine em_aaldO dX11_image_58 hS (by decide) (by decide) (N := 5) rfl (by decide) (by decide) hw (fun _ => rfl) g12 rfl ?_
        refine ev_astore_no dX11_image_59 rfl (by decide) rfl ?_
        refine ev_aload_n dX11_image_60 rfl rfl ?_
        refine em_getA dX11_image_61 zf_NineHeaps_69 rfl (hS.has 32 (by decide) (by decide) rfl) hw rfl ?_
        refine ev_iload_n dX11_image_64 rfl rfl ?_
        refine ev_aload_no dX11_image_65 rfl rfl ?_
        refine ev_ifnonnull_o dX11_image_66 (tgt := 73) (by decide) (fun a13 o14 => ?_) (fun o14 => ?_)
        · replace h := zms o14 h
          refine ev_aload_nk dX11_image_73 rfl o14 rfl ?_
          obtain ⟨g15, h⟩ := zgd h
          obtain ⟨cg15, wg15, yg15⟩ := zWkB_has g15
          refine em_getI dX11_image_74 (zf_NineHeaps_151 wg15) (by rcases wg15 with rfl | rfl | rfl | rfl | rfl | rfl <;> rfl) yg15 rfl ?_
          first | exact EV.mask [true, true, false] rfl (e11_image_B77 hw hS hd (fun l1' I' h' => ih l1' I' h') l1 l1 (I a13 2) I h) | (rw [← o14]; exact EV.mask [true, true, false] rfl (e11_image_B77 hw hS hd (fun l1' I' h' => ih l1' I' h') l1 l1 (I a13 2) I h))
        · replace h := zmn o14 h
          refine ev_iconst dX11_image_69 (v := (0 : Int32)) zci_0 ?_
          refine ev_goto dX11_image_70 (tgt := 77) (by decide) ?_
          exact EV.mask [true, true, false] rfl (e11_image_B77 hw hS hd (fun l1' I' h' => ih l1' I' h') l1 l1 (0 : Int32) I h)
set_option maxHeartbeats 4000000 in
set_option maxRecDepth 100000 in
theorem e11_image_B84 {w : zW} {d : Nat} {n : Nat} {kd : zMK} {R : zMR} {r : Int32 × zMI}  (hw : zst w = zSt0) (hS : zSh n kd) (hd : 1 ≤ d)   : ∀  (I : zMI), f11_image_B84 n kd R I = some r → EV w d 0 0 Y11_image 84 [some (.ref 32), none, none] [] (n, kd, I, R) (q11_image n kd R r) := by
  intro I h
  unfold f11_image_B84 at h
  refine ev_aload_n dX11_image_84 rfl rfl ?_
  refine ev_aload_n dX11_image_85 rfl rfl ?_
  refine em_getI dX11_image_86 zf_NineHeaps_16 rfl (hS.has 32 (by decide) (by decide) rfl) rfl ?_
  obtain ⟨J16, e17, h⟩ := zld h
  refine em_putI dX11_image_89 zf_NineHeaps_329 (Or.inl rfl) rfl rfl rfl (hS.has 32 (by decide) (by decide) rfl) e17 ?_
  refine ev_aload_n dX11_image_92 rfl rfl ?_
  refine ev_aload_n dX11_image_93 rfl rfl ?_
  refine em_getI dX11_image_94 zf_NineHeaps_94 rfl (hS.has 32 (by decide) (by decide) rfl) rfl ?_
  obtain ⟨J18, e19, h⟩ := zld h
  refine em_putI dX11_image_97 zf_NineHeaps_72 (Or.inl rfl) rfl rfl rfl (hS.has 32 (by decide) (by decide) rfl) e19 ?_
  refine ev_aload_n dX11_image_100 rfl rfl ?_
  refine ev_aload_n dX11_image_101 rfl rfl ?_
  refine em_getI dX11_image_102 zf_NineHeaps_97 rfl (hS.has 32 (by decide) (by decide) rfl) rfl ?_
  obtain ⟨J20, e21, h⟩ := zld h
  refine em_putI dX11_image_105 zf_NineHeaps_332 (Or.inl rfl) rfl rfl rfl (hS.has 32 (by decide) (by decide) rfl) e21 ?_
  refine ev_aload_n dX11_image_108 rfl rfl ?_
  refine em_getI dX11_image_109 zf_NineHeaps_94 rfl (hS.has 32 (by decide) (by decide) rfl) rfl ?_
  obtain rfl := Option.some.inj h
  exact ev_end_i dX11_image_112 rfl rfl ⟨rfl, rfl⟩
set_option maxHeartbeats 4000000 in
set_option maxRecDepth 100000 in
theorem e11_image_B38 {w : zW} {d : Nat} {n : Nat} {kd : zMK} {R : zMR} {r : Int32 × zMI}  (hw : zst w = zSt0) (hS : zSh n kd) (hd : 1 ≤ d)   : ∀  (I : zMI), f11_image_B38 n kd R I = some r → EV w d 0 0 Y11_image 38 [some (.ref 32), none, none] [] (n, kd, I, R) (q11_image n kd R r) := by
  intro I h
  unfold f11_image_B38 at h
  refine ev_iconst dX11_image_38 (v := (0 : Int32)) zci_0 ?_
  refine ev_istore_n dX11_image_39 rfl (by decide) rfl ?_
  exact EV.mask [true, true, false] rfl (e11_image_L40 hw hS hd (fun I' h' => e11_image_B84 hw hS hd I' h') zF (0 : Int32) I h)
set_option maxHeartbeats 4000000 in
set_option maxRecDepth 100000 in
theorem e11_image {w : zW} {d : Nat} {n : Nat} {kd : zMK} {I : zMI} {R : zMR} {r : Int32 × zMI}  (hw : zst w = zSt0) (hS : zSh n kd) (hd : 1 ≤ d)  (h : f11_image n kd R I = some r) : EV w d 0 0 Y11_image 0 [some (.ref 32), none, none] [] (n, kd, I, R) (q11_image n kd R r) := by
  unfold f11_image at h
  refine ev_iconst dX11_image_0 (v := (0 : Int32)) zci_0 ?_
  refine ev_istore_n dX11_image_1 rfl (by decide) rfl ?_
  exact EV.mask [true, true, false] rfl (e11_image_L2 hw hS hd (fun I' h' => e11_image_B38 hw hS hd I' h') zF (0 : Int32) I h)
abbrev q11_back (n : Nat) (kd : zMK) (r : Int32 × zMI × zMR) : Option Value → zM → Prop := fun v μ1 => v = some (.int r.1) ∧ μ1 = (n, kd, r.2.1, r.2.2)
set_option maxHeartbeats 4000000 in
set_option maxRecDepth 100000 in
theorem e11_back_L13 {w : zW} {d : Nat} {n : Nat} {kd : zMK} {r : Int32 × zMI × zMR} {k49 : zMI → zMR → Option (Int32 × zMI × zMR)} (hw : zst w = zSt0) (hS : zSh n kd) (hd : 1 ≤ d)  (hk49 : ∀  (I : zMI) (R : zMR), k49 I R = some r → EV w d 0 0 Y11_back 49 [some (.ref 32), none, none] [] (n, kd, I, R) (q11_back n kd r)) : ∀ (q : Nat) (l1 : Int32) (I : zMI) (R : zMR), f11_back_L13 n kd k49 q l1 I R = some r → EV w d 0 0 Y11_back 13 [some (.ref 32), some (.int l1), none] [] (n, kd, I, R) (q11_back n kd r) := by
  intro q
  induction q with
  | zero =>
    intro l1 I R h
    cases h
  | succ q ih =>
    intro l1 I R h
    unfold f11_back_L13 at h
    refine ev_iload_n dX11_back_13 rfl rfl ?_
    refine ev_bipush dX11_back_14 (v := (9 : Int32)) zcb_9 ?_
    refine ev_icmp_ge dX11_back_16 (tgt := 49) (by decide) (fun c1 => ?_) (fun c1 => ?_)
    · replace h := zit c1 h
      exact EV.mask [true, false, false] rfl (hk49 I R h)
    · replace h := zif c1 h
      refine ev_aload_n dX11_back_19 rfl rfl ?_
      refine em_getA dX11_back_20 zf_NineHeaps_9 rfl (hS.has 32 (by decide) (by decide) rfl) hw rfl ?_
      refine ev_iload_n dX11_back_23 rfl rfl ?_
      refine ev_aload_n dX11_back_24 rfl rfl ?_
      refine em_getA dX11_back_25 zf_NineHeaps_63 rfl (hS.has 32 (by decide) (by decide) rfl) hw rfl ?_
      refine ev_iload_n dX11_back_28 rfl rfl ?_
      obtain ⟨g2, h⟩ := zgd h
      refine em_iald dX11_back_29 hS (by decide) (by decide) (N := 9) rfl g2 rfl ?_
      obtain ⟨J3, e4, h⟩ := zld h
      refine em_iast dX11_back_30 hS (by decide) (by decide) (N := 9) rfl g2 e4 ?_
      refine ev_aload_n dX11_back_31 rfl rfl ?_
      refine em_getA dX11_back_32 zf_NineHeaps_13 rfl (hS.has 32 (by decide) (by decide) rfl) hw rfl ?_
      refine ev_iload_n dX11_back_35 rfl rfl ?_
      refine ev_aload_n dX11_back_36 rfl rfl ?_
      refine em_getA dX11_back_37 zf_NineHeaps_66 rfl (hS.has 32 (by decide) (by decide) rfl) hw rfl ?_
      refine ev_iload_n dX11_back_40 rfl rfl ?_
      refine em_iald dX11_back_41 hS (by decide) (by decide) (N := 9) rfl g2 rfl ?_
      obtain ⟨J5, e6, h⟩ := zld h
      refine em_iast dX11_back_42 hS (by decide) (by decide) (N := 9) rfl g2 e6 ?_
      refine ev_iinc dX11_back_43 (v := l1 + (1 : Int32)) rfl rfl (by decide) rfl ?_
      refine ev_goto dX11_back_46 (tgt := 13) (by decide) ?_
      exact EV.mask [true, true, false] rfl (ih (l1 + (1 : Int32)) J5 R h)
set_option maxHeartbeats 4000000 in
set_option maxRecDepth 100000 in
theorem e11_back_B95 {w : zW} {d : Nat} {n : Nat} {kd : zMK} {r : Int32 × zMI × zMR} {k51 : Int32 → zMI → zMR → Option (Int32 × zMI × zMR)} (hw : zst w = zSt0) (hS : zSh n kd) (hd : 1 ≤ d)  (hk51 : ∀ (l1 : Int32) (I : zMI) (R : zMR), k51 l1 I R = some r → EV w d 0 0 Y11_back 51 [some (.ref 32), some (.int l1), none] [] (n, kd, I, R) (q11_back n kd r)) : ∀ (l1 : Int32) (I : zMI) (R : zMR), f11_back_B95 n kd k51 l1 I R = some r → EV w d 0 0 Y11_back 95 [some (.ref 32), some (.int l1), none] [] (n, kd, I, R) (q11_back n kd r) := by
  intro l1 I R h
  unfold f11_back_B95 at h
  refine ev_iinc dX11_back_95 (v := l1 + (1 : Int32)) rfl rfl (by decide) rfl ?_
  refine ev_goto dX11_back_98 (tgt := 51) (by decide) ?_
  exact EV.mask [true, true, false] rfl (hk51 (l1 + (1 : Int32)) I R h)
set_option maxHeartbeats 4000000 in
set_option maxRecDepth 100000 in
theorem e11_back_L51 {w : zW} {d : Nat} {n : Nat} {kd : zMK} {r : Int32 × zMI × zMR} {k101 : zMI → zMR → Option (Int32 × zMI × zMR)} (hw : zst w = zSt0) (hS : zSh n kd) (hd : 1 ≤ d)  (hk101 : ∀  (I : zMI) (R : zMR), k101 I R = some r → EV w d 0 0 Y11_back 101 [some (.ref 32), none, none] [] (n, kd, I, R) (q11_back n kd r)) : ∀ (q : Nat) (l1 : Int32) (I : zMI) (R : zMR), f11_back_L51 n kd k101 q l1 I R = some r → EV w d 0 0 Y11_back 51 [some (.ref 32), some (.int l1), none] [] (n, kd, I, R) (q11_back n kd r) := by
  intro q
  induction q with
  | zero =>
    intro l1 I R h
    cases h
  | succ q ih =>
    intro l1 I R h
    unfold f11_back_L51 at h
    refine ev_iload_n dX11_back_51 rfl rfl ?_
    refine ev_iconst dX11_back_52 (v := (5 : Int32)) zci_5 ?_
    refine ev_icmp_ge dX11_back_53 (tgt := 101) (by decide) (fun c7 => ?_) (fun c7 => ?_)
    · replace h := zit c7 h
      exact EV.mask [true, false, false] rfl (hk101 I R h)
    · replace h := zif c7 h
      refine ev_aload_n dX11_back_56 rfl rfl ?_
      refine em_getA dX11_back_57 zf_NineHeaps_22 rfl (hS.has 32 (by decide) (by decide) rfl) hw rfl ?_
      refine ev_iload_n dX11_back_60 rfl rfl ?_
      obtain ⟨g8, h⟩ := zgd h
      refine em_aaldO dX11_back_61 hS (by decide) (by decide) (N := 5) rfl (by decide) (by decide) hw (fun _ => rfl) g8 rfl ?_
      refine ev_astore_no dX11_back_62 rfl (by decide) rfl ?_
      refine ev_iload_n dX11_back_63 rfl rfl ?_
      refine ev_aload_n dX11_back_64 rfl rfl ?_
      refine em_getI dX11_back_65 zf_NineHeaps_72 rfl (hS.has 32 (by decide) (by decide) rfl) rfl ?_
      refine ev_icmp_lt dX11_back_68 (tgt := 81) (by decide) (fun c9 => ?_) (fun c9 => ?_)
      · replace h := zit c9 h
        refine ev_aload_no dX11_back_81 rfl rfl ?_
        refine ev_ifnull_o dX11_back_82 (tgt := 95) (by decide) (fun o11 => ?_) (fun a10 o11 => ?_)
        · replace h := zmn o11 h
          exact EV.mask [true, true, false] rfl (e11_back_B95 hw hS hd (fun l1' I' R' h' => ih l1' I' R' h') l1 I R h)
        · replace h := zms o11 h
          refine ev_aload_nk dX11_back_85 rfl o11 rfl ?_
          refine ev_aload_n dX11_back_86 rfl rfl ?_
          refine em_getA dX11_back_87 zf_NineHeaps_69 rfl (hS.has 32 (by decide) (by decide) rfl) hw rfl ?_
          refine ev_iload_n dX11_back_90 rfl rfl ?_
          refine em_iald dX11_back_91 hS (by decide) (by decide) (N := 5) rfl g8 rfl ?_
          obtain ⟨g12, h⟩ := zgd h
          obtain ⟨cg12, wg12, yg12⟩ := zWkB_has g12
          obtain ⟨J13, e14, h⟩ := zld h
          refine em_putI dX11_back_92 (zf_NineHeaps_151 wg12)  (by rcases wg12 with rfl | rfl | rfl | rfl | rfl | rfl <;> exact Or.inl rfl)  (by rcases wg12 with rfl | rfl | rfl | rfl | rfl | rfl <;> rfl)  (by rcases wg12 with rfl | rfl | rfl | rfl | rfl | rfl <;> rfl) (by rcases wg12 with rfl | rfl | rfl | rfl | rfl | rfl <;> rfl) yg12 e14 ?_
          first | exact EV.mask [true, true, false] rfl (e11_back_B95 hw hS hd (fun l1' I' R' h' => ih l1' I' R' h') l1 J13 R h) | (rw [← o11]; exact EV.mask [true, true, false] rfl (e11_back_B95 hw hS hd (fun l1' I' R' h' => ih l1' I' R' h') l1 J13 R h))
      · replace h := zif c9 h
        refine ev_aload_n dX11_back_71 rfl rfl ?_
        refine em_getA dX11_back_72 zf_NineHeaps_22 rfl (hS.has 32 (by decide) (by decide) rfl) hw rfl ?_
        refine ev_iload_n dX11_back_75 rfl rfl ?_
        refine ev_null dX11_back_76 ?_
        obtain ⟨T15, e16, h⟩ := zld h
        refine em_aastN dX11_back_77 hS (by decide) (by decide) (N := 5) rfl (by decide) (by decide) hw (fun _ => rfl) g8 e16 ?_
        refine ev_goto dX11_back_78 (tgt := 95) (by decide) ?_
        exact EV.mask [true, true, false] rfl (e11_back_B95 hw hS hd (fun l1' I' R' h' => ih l1' I' R' h') l1 I T15 h)
set_option maxHeartbeats 4000000 in
set_option maxRecDepth 100000 in
theorem e11_back_B101 {w : zW} {d : Nat} {n : Nat} {kd : zMK} {r : Int32 × zMI × zMR}  (hw : zst w = zSt0) (hS : zSh n kd) (hd : 1 ≤ d)   : ∀  (I : zMI) (R : zMR), f11_back_B101 n kd I R = some r → EV w d 0 0 Y11_back 101 [some (.ref 32), none, none] [] (n, kd, I, R) (q11_back n kd r) := by
  intro I R h
  unfold f11_back_B101 at h
  refine ev_aload_n dX11_back_101 rfl rfl ?_
  refine ev_aload_n dX11_back_102 rfl rfl ?_
  refine em_getI dX11_back_103 zf_NineHeaps_329 rfl (hS.has 32 (by decide) (by decide) rfl) rfl ?_
  obtain ⟨J17, e18, h⟩ := zld h
  refine em_putI dX11_back_106 zf_NineHeaps_16 (Or.inl rfl) rfl rfl rfl (hS.has 32 (by decide) (by decide) rfl) e18 ?_
  refine ev_aload_n dX11_back_109 rfl rfl ?_
  refine ev_aload_n dX11_back_110 rfl rfl ?_
  refine em_getI dX11_back_111 zf_NineHeaps_72 rfl (hS.has 32 (by decide) (by decide) rfl) rfl ?_
  obtain ⟨J19, e20, h⟩ := zld h
  refine em_putI dX11_back_114 zf_NineHeaps_94 (Or.inl rfl) rfl rfl rfl (hS.has 32 (by decide) (by decide) rfl) e20 ?_
  refine ev_aload_n dX11_back_117 rfl rfl ?_
  refine ev_aload_n dX11_back_118 rfl rfl ?_
  refine em_getI dX11_back_119 zf_NineHeaps_332 rfl (hS.has 32 (by decide) (by decide) rfl) rfl ?_
  obtain ⟨J21, e22, h⟩ := zld h
  refine em_putI dX11_back_122 zf_NineHeaps_97 (Or.inl rfl) rfl rfl rfl (hS.has 32 (by decide) (by decide) rfl) e22 ?_
  refine ev_aload_n dX11_back_125 rfl rfl ?_
  refine em_getI dX11_back_126 zf_NineHeaps_94 rfl (hS.has 32 (by decide) (by decide) rfl) rfl ?_
  obtain rfl := Option.some.inj h
  exact ev_end_i dX11_back_129 rfl rfl ⟨rfl, rfl⟩
set_option maxHeartbeats 4000000 in
set_option maxRecDepth 100000 in
theorem e11_back_B49 {w : zW} {d : Nat} {n : Nat} {kd : zMK} {r : Int32 × zMI × zMR}  (hw : zst w = zSt0) (hS : zSh n kd) (hd : 1 ≤ d)   : ∀  (I : zMI) (R : zMR), f11_back_B49 n kd I R = some r → EV w d 0 0 Y11_back 49 [some (.ref 32), none, none] [] (n, kd, I, R) (q11_back n kd r) := by
  intro I R h
  unfold f11_back_B49 at h
  refine ev_iconst dX11_back_49 (v := (0 : Int32)) zci_0 ?_
  refine ev_istore_n dX11_back_50 rfl (by decide) rfl ?_
  exact EV.mask [true, true, false] rfl (e11_back_L51 hw hS hd (fun I' R' h' => e11_back_B101 hw hS hd I' R' h') zF (0 : Int32) I R h)
set_option maxHeartbeats 4000000 in
set_option maxRecDepth 100000 in
theorem e11_back {w : zW} {d : Nat} {n : Nat} {kd : zMK} {I : zMI} {R : zMR} {r : Int32 × zMI × zMR}  (hw : zst w = zSt0) (hS : zSh n kd) (hd : 1 ≤ d)  (h : f11_back n kd I R = some r) : EV w d 0 0 Y11_back 0 [some (.ref 32), none, none] [] (n, kd, I, R) (q11_back n kd r) := by
  unfold f11_back at h
  refine ev_aload_n dX11_back_0 rfl rfl ?_
  refine em_getI dX11_back_1 zf_NineHeaps_72 rfl (hS.has 32 (by decide) (by decide) rfl) rfl ?_
  refine ev_iconst dX11_back_4 (v := (-1 : Int32)) zci_m1 ?_
  refine ev_icmp_ne dX11_back_5 (tgt := 11) (by decide) (fun c23 => ?_) (fun c23 => ?_)
  · replace h := zif c23 h
    refine ev_iconst dX11_back_11 (v := (0 : Int32)) zci_0 ?_
    refine ev_istore_n dX11_back_12 rfl (by decide) rfl ?_
    exact EV.mask [true, true, false] rfl (e11_back_L13 hw hS hd (fun I' R' h' => e11_back_B49 hw hS hd I' R' h') zF (0 : Int32) I R h)
  · replace h := zit c23 h
    refine ev_bipush dX11_back_8 (v := (-3 : Int32)) zcb_m3 ?_
    obtain rfl := Option.some.inj h
    exact ev_end_i dX11_back_10 rfl rfl ⟨rfl, rfl⟩
abbrev q11_sheet (n : Nat) (kd : zMK) (R : zMR) (r : Int32 × zMI) : Option Value → zM → Prop := fun v μ1 => v = some (.int r.1) ∧ μ1 = (n, kd, r.2, R)
set_option maxHeartbeats 4000000 in
set_option maxRecDepth 100000 in
theorem e11_sheet {w : zW} {d : Nat} {n : Nat} {kd : zMK} {I : zMI} {R : zMR} {r : Int32 × zMI} {l1 : Int32} {l2 : Int32} {l3 : Int32} (hw : zst w = zSt0) (hS : zSh n kd) (hd : 3 ≤ d)  (h : f11_sheet n kd l1 l2 l3 I = some r) : EV w d 0 0 Y11_sheet 0 [some (.ref 32), some (.int l1), some (.int l2), some (.int l3), none] [] (n, kd, I, R) (q11_sheet n kd R r) := by
  unfold f11_sheet at h
  refine ev_aload_n dX11_sheet_0 rfl rfl ?_
  refine ev_iload_n dX11_sheet_1 rfl rfl ?_
  obtain ⟨p1, e2, h⟩ := zbd h
  refine ev_callV0 dX11_sheet_2 zm11_sheetOf zl_NineHeaps_303 zi11_sheetOf zv11_sheetOf (zrcX hS) (As := [.int l1]) (rest := []) rfl rfl (Nat.le_of_ble_eq_true rfl) rfl (Nat.le_of_ble_eq_true rfl) (d' := 1) (by omega) (e11_sheetOf hw hS (Nat.le_refl _) e2) (fun v μ1 q => ?_)
  obtain ⟨rfl, rfl⟩ := q
  refine ev_astore_o dX11_sheet_5 (by decide) rfl ?_
  refine ev_aload_o dX11_sheet_7 rfl ?_
  refine ev_ifnull_o dX11_sheet_9 (tgt := 22) (by decide) (fun o4 => ?_) (fun a3 o4 => ?_)
  · replace h := zmn o4 h
    refine ev_bipush dX11_sheet_22 (v := (-2 : Int32)) zcb_m2 ?_
    obtain rfl := Option.some.inj h
    exact ev_end_i dX11_sheet_24 rfl rfl ⟨rfl, rfl⟩
  · replace h := zms o4 h
    refine ev_iload_n dX11_sheet_12 rfl rfl ?_
    refine ev_iconst dX11_sheet_13 (v := (-1 : Int32)) zci_m1 ?_
    refine ev_icmp_lt dX11_sheet_14 (tgt := 22) (by decide) (fun c5 => ?_) (fun c5 => ?_)
    · replace h := zit c5 h
      refine ev_bipush dX11_sheet_22 (v := (-2 : Int32)) zcb_m2 ?_
      obtain rfl := Option.some.inj h
      exact ev_end_i dX11_sheet_24 rfl rfl ⟨rfl, rfl⟩
    · replace h := zif c5 h
      refine ev_iload_n dX11_sheet_17 rfl rfl ?_
      refine ev_iconst dX11_sheet_18 (v := (2 : Int32)) zci_2 ?_
      refine ev_icmp_le dX11_sheet_19 (tgt := 25) (by decide) (fun c6 => ?_) (fun c6 => ?_)
      · replace h := zit c6 h
        refine ev_iload_n dX11_sheet_25 rfl rfl ?_
        refine ev_iconst dX11_sheet_26 (v := (-1 : Int32)) zci_m1 ?_
        refine ev_icmp_ne dX11_sheet_27 (tgt := 39) (by decide) (fun c7 => ?_) (fun c7 => ?_)
        · replace h := zif c7 h
          refine ev_iload_n dX11_sheet_39 rfl rfl ?_
          refine ev_bipush dX11_sheet_40 (v := (40 : Int32)) zcb_40 ?_
          refine ev_icmp_le dX11_sheet_42 (tgt := 48) (by decide) (fun c8 => ?_) (fun c8 => ?_)
          · replace h := zit c8 h
            refine ev_iload_n dX11_sheet_48 rfl rfl ?_
            refine ev_if_ge dX11_sheet_49 (tgt := 55) (by decide) (fun c9 => ?_) (fun c9 => ?_)
            · replace h := zit c9 h
              refine ev_aload_k dX11_sheet_55 o4 rfl ?_
              refine ev_iload_n dX11_sheet_57 rfl rfl ?_
              refine ev_iload_n dX11_sheet_58 rfl rfl ?_
              obtain ⟨g10, h⟩ := zgd h
              obtain ⟨p11, e12, h⟩ := zbd h
              refine ev_callV0 dX11_sheet_59 zm6_become zl_NineHeaps_307 zi6_become zv6_become (zrcSe hS g10) (As := [.int l2, .int l3]) (rest := []) rfl rfl (Nat.le_of_ble_eq_true rfl) rfl (Nat.le_of_ble_eq_true rfl) (d' := 2) (by omega) (e6_become hw hS (Nat.le_refl _) e12) (fun v μ1 q => ?_)
              obtain ⟨rfl, rfl⟩ := q
              refine ev_iconst dX11_sheet_62 (v := (1 : Int32)) zci_1 ?_
              obtain rfl := Option.some.inj h
              exact ev_end_i dX11_sheet_63 rfl rfl ⟨rfl, rfl⟩
            · replace h := zif c9 h
              refine ev_bipush dX11_sheet_52 (v := (-14 : Int32)) zcb_m14 ?_
              obtain rfl := Option.some.inj h
              exact ev_end_i dX11_sheet_54 rfl rfl ⟨rfl, rfl⟩
          · replace h := zif c8 h
            refine ev_bipush dX11_sheet_45 (v := (-2 : Int32)) zcb_m2 ?_
            obtain rfl := Option.some.inj h
            exact ev_end_i dX11_sheet_47 rfl rfl ⟨rfl, rfl⟩
        · replace h := zit c7 h
          refine ev_aload_k dX11_sheet_30 o4 rfl ?_
          refine ev_iconst dX11_sheet_32 (v := (-1 : Int32)) zci_m1 ?_
          refine ev_iconst dX11_sheet_33 (v := (0 : Int32)) zci_0 ?_
          obtain ⟨g13, h⟩ := zgd h
          obtain ⟨p14, e15, h⟩ := zbd h
          refine ev_callV0 dX11_sheet_34 zm6_become zl_NineHeaps_307 zi6_become zv6_become (zrcSe hS g13) (As := [.int (-1 : Int32), .int (0 : Int32)]) (rest := []) rfl rfl (Nat.le_of_ble_eq_true rfl) rfl (Nat.le_of_ble_eq_true rfl) (d' := 2) (by omega) (e6_become hw hS (Nat.le_refl _) e15) (fun v μ1 q => ?_)
          obtain ⟨rfl, rfl⟩ := q
          refine ev_iconst dX11_sheet_37 (v := (1 : Int32)) zci_1 ?_
          obtain rfl := Option.some.inj h
          exact ev_end_i dX11_sheet_38 rfl rfl ⟨rfl, rfl⟩
      · replace h := zif c6 h
        refine ev_bipush dX11_sheet_22 (v := (-2 : Int32)) zcb_m2 ?_
        obtain rfl := Option.some.inj h
        exact ev_end_i dX11_sheet_24 rfl rfl ⟨rfl, rfl⟩
abbrev q11_cell (n : Nat) (kd : zMK) (R : zMR) (r : Int32 × zMI) : Option Value → zM → Prop := fun v μ1 => v = some (.int r.1) ∧ μ1 = (n, kd, r.2, R)
set_option maxHeartbeats 4000000 in
set_option maxRecDepth 100000 in
theorem e11_cell {w : zW} {d : Nat} {n : Nat} {kd : zMK} {I : zMI} {R : zMR} {r : Int32 × zMI} {l1 : Int32} {l2 : Int32} {l3 : Int32} (hw : zst w = zSt0) (hS : zSh n kd) (hd : 3 ≤ d)  (h : f11_cell l1 l2 l3 I = some r) : EV w d 0 0 Y11_cell 0 [some (.ref 32), some (.int l1), some (.int l2), some (.int l3), none] [] (n, kd, I, R) (q11_cell n kd R r) := by
  unfold f11_cell at h
  refine ev_aload_n dX11_cell_0 rfl rfl ?_
  refine ev_iload_n dX11_cell_1 rfl rfl ?_
  obtain ⟨p1, e2, h⟩ := zbd h
  refine ev_callV0 dX11_cell_2 zm11_sheetOf zl_NineHeaps_303 zi11_sheetOf zv11_sheetOf (zrcX hS) (As := [.int l1]) (rest := []) rfl rfl (Nat.le_of_ble_eq_true rfl) rfl (Nat.le_of_ble_eq_true rfl) (d' := 1) (by omega) (e11_sheetOf hw hS (Nat.le_refl _) e2) (fun v μ1 q => ?_)
  obtain ⟨rfl, rfl⟩ := q
  refine ev_astore_o dX11_cell_5 (by decide) rfl ?_
  refine ev_aload_o dX11_cell_7 rfl ?_
  refine ev_ifnonnull_o dX11_cell_9 (tgt := 15) (by decide) (fun a3 o4 => ?_) (fun o4 => ?_)
  · replace h := zms o4 h
    refine ev_aload_k dX11_cell_15 o4 rfl ?_
    obtain ⟨g5, h⟩ := zgd h
    obtain ⟨p6, e7, h⟩ := zbd h
    refine ev_callV0 dX11_cell_17 zm6_missing zl_NineHeaps_313 zi6_missing zv6_missing (zrcSe hS g5) (As := []) (rest := []) rfl rfl (Nat.le_of_ble_eq_true rfl) rfl (Nat.le_of_ble_eq_true rfl) (d' := 1) (by omega) (e6_missing hw hS (Nat.le_refl _) e7) (fun v μ1 q => ?_)
    obtain ⟨rfl, rfl⟩ := q
    refine ev_if_eq dX11_cell_20 (tgt := 26) (by decide) (fun c8 => ?_) (fun c8 => ?_)
    · replace h := zit c8 h
      refine ev_aload_k dX11_cell_26 o4 rfl ?_
      refine ev_iload_n dX11_cell_28 rfl rfl ?_
      refine ev_iconst dX11_cell_29 (v := (1 : Int32)) zci_1 ?_
      obtain ⟨p9, e10, h⟩ := zbd h
      refine ev_callV0 dX11_cell_30 zm6_holds zl_NineHeaps_335 zi6_holds zv6_holds (zrcSe hS g5) (As := [.int l2, .int (1 : Int32)]) (rest := []) rfl rfl (Nat.le_of_ble_eq_true rfl) rfl (Nat.le_of_ble_eq_true rfl) (d' := 1) (by omega) (e6_holds hw hS (Nat.le_refl _) e10) (fun v μ1 q => ?_)
      obtain ⟨rfl, rfl⟩ := q
      refine ev_if_ne dX11_cell_33 (tgt := 39) (by decide) (fun c11 => ?_) (fun c11 => ?_)
      · replace h := zif c11 h
        refine ev_aload_k dX11_cell_39 o4 rfl ?_
        refine ev_iload_n dX11_cell_41 rfl rfl ?_
        refine ev_iload_n dX11_cell_42 rfl rfl ?_
        obtain ⟨p12, e13, h⟩ := zbd h
        refine ev_callV0 dX11_cell_43 zm6_put zl_NineHeaps_310 zi6_put zv6_put (zrcSe hS g5) (As := [.int l2, .int l3]) (rest := []) rfl rfl (Nat.le_of_ble_eq_true rfl) rfl (Nat.le_of_ble_eq_true rfl) (d' := 2) (by omega) (e6_put hw hS (Nat.le_refl _) e13) (fun v μ1 q => ?_)
        obtain ⟨rfl, rfl⟩ := q
        refine ev_iconst dX11_cell_46 (v := (1 : Int32)) zci_1 ?_
        obtain rfl := Option.some.inj h
        exact ev_end_i dX11_cell_47 rfl rfl ⟨rfl, rfl⟩
      · replace h := zit c11 h
        refine ev_bipush dX11_cell_36 (v := (-12 : Int32)) zcb_m12 ?_
        obtain rfl := Option.some.inj h
        exact ev_end_i dX11_cell_38 rfl rfl ⟨rfl, rfl⟩
    · replace h := zif c8 h
      refine ev_bipush dX11_cell_23 (v := (-11 : Int32)) zcb_m11 ?_
      obtain rfl := Option.some.inj h
      exact ev_end_i dX11_cell_25 rfl rfl ⟨rfl, rfl⟩
  · replace h := zmn o4 h
    refine ev_bipush dX11_cell_12 (v := (-2 : Int32)) zcb_m2 ?_
    obtain rfl := Option.some.inj h
    exact ev_end_i dX11_cell_14 rfl rfl ⟨rfl, rfl⟩
abbrev q11_copy (n : Nat) (kd : zMK) (R : zMR) (r : Int32 × zMI) : Option Value → zM → Prop := fun v μ1 => v = some (.int r.1) ∧ μ1 = (n, kd, r.2, R)
set_option maxHeartbeats 4000000 in
set_option maxRecDepth 100000 in
theorem e11_copy {w : zW} {d : Nat} {n : Nat} {kd : zMK} {I : zMI} {R : zMR} {r : Int32 × zMI} {l1 : Int32} {l2 : Int32} {l3 : Int32} {l4 : Int32} {l5 : Int32} (hw : zst w = zSt0) (hS : zSh n kd) (hd : 2 ≤ d)  (h : f11_copy l1 l2 l3 l4 l5 I = some r) : EV w d 0 0 Y11_copy 0 [some (.ref 32), some (.int l1), some (.int l2), some (.int l3), some (.int l4), some (.int l5), none, none] [] (n, kd, I, R) (q11_copy n kd R r) := by
  unfold f11_copy at h
  refine ev_aload_n dX11_copy_0 rfl rfl ?_
  refine ev_iload_n dX11_copy_1 rfl rfl ?_
  obtain ⟨p1, e2, h⟩ := zbd h
  refine ev_callV0 dX11_copy_2 zm11_sheetOf zl_NineHeaps_303 zi11_sheetOf zv11_sheetOf (zrcX hS) (As := [.int l1]) (rest := []) rfl rfl (Nat.le_of_ble_eq_true rfl) rfl (Nat.le_of_ble_eq_true rfl) (d' := 1) (by omega) (e11_sheetOf hw hS (Nat.le_refl _) e2) (fun v μ1 q => ?_)
  obtain ⟨rfl, rfl⟩ := q
  refine ev_astore_o dX11_copy_5 (by decide) rfl ?_
  refine ev_aload_n dX11_copy_7 rfl rfl ?_
  refine ev_iload_n dX11_copy_8 rfl rfl ?_
  obtain ⟨p3, e4, h⟩ := zbd h
  refine ev_callV0 dX11_copy_9 zm11_sheetOf zl_NineHeaps_303 zi11_sheetOf zv11_sheetOf (zrcX hS) (As := [.int l3]) (rest := []) rfl rfl (Nat.le_of_ble_eq_true rfl) rfl (Nat.le_of_ble_eq_true rfl) (d' := 1) (by omega) (e11_sheetOf hw hS (Nat.le_refl _) e4) (fun v μ1 q => ?_)
  obtain ⟨rfl, rfl⟩ := q
  refine ev_astore_o dX11_copy_12 (by decide) (by cases p1 <;> rfl) ?_
  refine ev_aload_o dX11_copy_14 rfl ?_
  refine ev_ifnull_o dX11_copy_16 (tgt := 24) (by decide) (fun o6 => ?_) (fun a5 o6 => ?_)
  · replace h := zmn o6 h
    refine ev_bipush dX11_copy_24 (v := (-2 : Int32)) zcb_m2 ?_
    obtain rfl := Option.some.inj h
    exact ev_end_i dX11_copy_26 rfl rfl ⟨rfl, rfl⟩
  · replace h := zms o6 h
    refine ev_aload_o dX11_copy_19 rfl ?_
    refine ev_ifnonnull_o dX11_copy_21 (tgt := 27) (by decide) (fun a7 o8 => ?_) (fun o8 => ?_)
    · replace h := zms o8 h
      refine ev_aload_k dX11_copy_27 o6 rfl ?_
      obtain ⟨g9, h⟩ := zgd h
      obtain ⟨p10, e11, h⟩ := zbd h
      refine ev_callV0 dX11_copy_29 zm6_missing zl_NineHeaps_313 zi6_missing zv6_missing (zrcSe hS g9) (As := []) (rest := []) rfl rfl (Nat.le_of_ble_eq_true rfl) rfl (Nat.le_of_ble_eq_true rfl) (d' := 1) (by omega) (e6_missing hw hS (Nat.le_refl _) e11) (fun v μ1 q => ?_)
      obtain ⟨rfl, rfl⟩ := q
      refine ev_if_ne dX11_copy_32 (tgt := 43) (by decide) (fun c12 => ?_) (fun c12 => ?_)
      · replace h := zif c12 h
        refine ev_bipush dX11_copy_43 (v := (-11 : Int32)) zcb_m11 ?_
        obtain rfl := Option.some.inj h
        exact ev_end_i dX11_copy_45 rfl rfl ⟨rfl, rfl⟩
      · replace h := zit c12 h
        refine ev_aload_k dX11_copy_35 o8 rfl ?_
        obtain ⟨g13, h⟩ := zgd h
        obtain ⟨p14, e15, h⟩ := zbd h
        refine ev_callV0 dX11_copy_37 zm6_missing zl_NineHeaps_313 zi6_missing zv6_missing (zrcSe hS g13) (As := []) (rest := []) rfl rfl (Nat.le_of_ble_eq_true rfl) rfl (Nat.le_of_ble_eq_true rfl) (d' := 1) (by omega) (e6_missing hw hS (Nat.le_refl _) e15) (fun v μ1 q => ?_)
        obtain ⟨rfl, rfl⟩ := q
        refine ev_if_eq dX11_copy_40 (tgt := 46) (by decide) (fun c16 => ?_) (fun c16 => ?_)
        · replace h := zit c16 h
          refine ev_aload_k dX11_copy_46 o6 rfl ?_
          refine em_getI dX11_copy_48 zf_NineHeaps_339 rfl (zSeB_has hS g9).1 rfl ?_
          refine ev_aload_k dX11_copy_51 o8 rfl ?_
          refine em_getI dX11_copy_53 zf_NineHeaps_339 rfl (zSeB_has hS g13).1 rfl ?_
          refine ev_icmp_eq dX11_copy_56 (tgt := 62) (by decide) (fun c17 => ?_) (fun c17 => ?_)
          · replace h := zit c17 h
            refine ev_aload_k dX11_copy_62 o6 rfl ?_
            refine ev_iload_n dX11_copy_64 rfl rfl ?_
            refine ev_iload dX11_copy_65 rfl ?_
            obtain ⟨p18, e19, h⟩ := zbd h
            refine ev_callV0 dX11_copy_67 zm6_holds zl_NineHeaps_335 zi6_holds zv6_holds (zrcSe hS g9) (As := [.int l2, .int l5]) (rest := []) rfl rfl (Nat.le_of_ble_eq_true rfl) rfl (Nat.le_of_ble_eq_true rfl) (d' := 1) (by omega) (e6_holds hw hS (Nat.le_refl _) e19) (fun v μ1 q => ?_)
            obtain ⟨rfl, rfl⟩ := q
            refine ev_if_eq dX11_copy_70 (tgt := 85) (by decide) (fun c20 => ?_) (fun c20 => ?_)
            · replace h := zit c20 h
              refine ev_bipush dX11_copy_85 (v := (-12 : Int32)) zcb_m12 ?_
              obtain rfl := Option.some.inj h
              exact ev_end_i dX11_copy_87 rfl rfl ⟨rfl, rfl⟩
            · replace h := zif c20 h
              refine ev_aload_k dX11_copy_73 o8 rfl ?_
              refine ev_iload dX11_copy_75 rfl ?_
              refine ev_iload dX11_copy_77 rfl ?_
              obtain ⟨p21, e22, h⟩ := zbd h
              refine ev_callV0 dX11_copy_79 zm6_holds zl_NineHeaps_335 zi6_holds zv6_holds (zrcSe hS g13) (As := [.int l4, .int l5]) (rest := []) rfl rfl (Nat.le_of_ble_eq_true rfl) rfl (Nat.le_of_ble_eq_true rfl) (d' := 1) (by omega) (e6_holds hw hS (Nat.le_refl _) e22) (fun v μ1 q => ?_)
              obtain ⟨rfl, rfl⟩ := q
              refine ev_if_ne dX11_copy_82 (tgt := 88) (by decide) (fun c23 => ?_) (fun c23 => ?_)
              · replace h := zif c23 h
                refine ev_aload_k dX11_copy_88 o6 rfl ?_
                refine em_getA dX11_copy_90 zf_NineHeaps_317 rfl (zSeB_has hS g9).1 hw (zSeB_has hS g9).2.2.2 ?_
                refine ev_iload_n dX11_copy_93 rfl rfl ?_
                refine ev_aload_k dX11_copy_94 o8 rfl ?_
                refine em_getA dX11_copy_96 zf_NineHeaps_317 rfl (zSeB_has hS g13).1 hw (zSeB_has hS g13).2.2.2 ?_
                refine ev_iload dX11_copy_99 rfl ?_
                refine ev_iload dX11_copy_101 rfl ?_
                obtain ⟨g24, h⟩ := zgd h
                obtain ⟨J25, e26, h⟩ := zld h
                refine em_copy dX11_copy_103 zl_NineHeaps_342 (zSeB_has hS g9).2.1 (zSeB_has hS g13).2.1 (zSeB_has hS g9).2.2.1 (zSeB_has hS g13).2.2.1 g24 (by omega) (Nat.le_of_ble_eq_true rfl) e26 ?_
                refine ev_iload dX11_copy_106 rfl ?_
                obtain rfl := Option.some.inj h
                exact ev_end_i dX11_copy_108 rfl rfl ⟨rfl, rfl⟩
              · replace h := zit c23 h
                refine ev_bipush dX11_copy_85 (v := (-12 : Int32)) zcb_m12 ?_
                obtain rfl := Option.some.inj h
                exact ev_end_i dX11_copy_87 rfl rfl ⟨rfl, rfl⟩
          · replace h := zif c17 h
            refine ev_bipush dX11_copy_59 (v := (-13 : Int32)) zcb_m13 ?_
            obtain rfl := Option.some.inj h
            exact ev_end_i dX11_copy_61 rfl rfl ⟨rfl, rfl⟩
        · replace h := zif c16 h
          refine ev_bipush dX11_copy_43 (v := (-11 : Int32)) zcb_m11 ?_
          obtain rfl := Option.some.inj h
          exact ev_end_i dX11_copy_45 rfl rfl ⟨rfl, rfl⟩
    · replace h := zmn o8 h
      refine ev_bipush dX11_copy_24 (v := (-2 : Int32)) zcb_m2 ?_
      obtain rfl := Option.some.inj h
      exact ev_end_i dX11_copy_26 rfl rfl ⟨rfl, rfl⟩
abbrev q11_heapTaken (n : Nat) (kd : zMK) (I : zMI) (R : zMR) (r : Int32) : Option Value → zM → Prop := fun v μ1 => v = some (.int r) ∧ μ1 = (n, kd, I, R)
set_option maxHeartbeats 4000000 in
set_option maxRecDepth 100000 in
theorem e11_heapTaken {w : zW} {d : Nat} {n : Nat} {kd : zMK} {I : zMI} {R : zMR} {r : Int32} {l1 : Int32} {l2 : Int32} (hw : zst w = zSt0) (hS : zSh n kd) (hd : 2 ≤ d)  (h : f11_heapTaken I l1 l2 = some r) : EV w d 0 0 Y11_heapTaken 0 [some (.ref 32), some (.int l1), some (.int l2)] [] (n, kd, I, R) (q11_heapTaken n kd I R r) := by
  unfold f11_heapTaken at h
  refine ev_iload_n dX11_heapTaken_0 rfl rfl ?_
  obtain ⟨p1, e2, h⟩ := zbd h
  refine ev_callS0 dX11_heapTaken_1 zm11_noHeap zl_NineHeaps_107 zs11_noHeap (As := [.int l1]) (rest := []) rfl rfl (Nat.le_of_ble_eq_true rfl) rfl (Nat.le_of_ble_eq_true rfl) (d' := 1) (by omega) (e11_noHeap hw hS (Nat.le_refl _) e2) (fun v μ1 q => ?_)
  obtain ⟨rfl, rfl⟩ := q
  refine ev_if_ne dX11_heapTaken_4 (tgt := 16) (by decide) (fun c3 => ?_) (fun c3 => ?_)
  · replace h := zif c3 h
    refine ev_bipush dX11_heapTaken_16 (v := (-11 : Int32)) zcb_m11 ?_
    obtain rfl := Option.some.inj h
    exact ev_end_i dX11_heapTaken_18 rfl rfl ⟨rfl, rfl⟩
  · replace h := zit c3 h
    refine ev_aload_n dX11_heapTaken_7 rfl rfl ?_
    refine em_getA dX11_heapTaken_8 zf_NineHeaps_9 rfl (hS.has 32 (by decide) (by decide) rfl) hw rfl ?_
    refine ev_iload_n dX11_heapTaken_11 rfl rfl ?_
    obtain ⟨g4, h⟩ := zgd h
    refine em_iald dX11_heapTaken_12 hS (by decide) (by decide) (N := 9) rfl g4 rfl ?_
    refine ev_if_ne dX11_heapTaken_13 (tgt := 19) (by decide) (fun c5 => ?_) (fun c5 => ?_)
    · replace h := zif c5 h
      refine ev_iload_n dX11_heapTaken_19 rfl rfl ?_
      refine ev_bipush dX11_heapTaken_20 (v := (6 : Int32)) zcb_6 ?_
      obtain ⟨x7, e8, h⟩ := zld h
      have k9 : EV w d 0 0 Y11_heapTaken 36 [some (.ref 32), some (.int l1), some (.int l2)] [.int x7] (n, kd, I, R) (q11_heapTaken n kd I R r) := by
        obtain rfl := Option.some.inj h
        exact ev_end_i dX11_heapTaken_36 rfl rfl ⟨rfl, rfl⟩
      clear h
      have h := e8
      clear e8
      refine ev_icmp_ne dX11_heapTaken_22 (tgt := 34) (by decide) (fun c6 => ?_) (fun c6 => ?_)
      · replace h := zif c6 h
        refine ev_bipush dX11_heapTaken_34 (v := (-13 : Int32)) zcb_m13 ?_
        obtain rfl := h
        exact k9
      · replace h := zit c6 h
        refine ev_aload_n dX11_heapTaken_25 rfl rfl ?_
        refine em_getA dX11_heapTaken_26 zf_NineHeaps_9 rfl (hS.has 32 (by decide) (by decide) rfl) hw rfl ?_
        refine ev_iload_n dX11_heapTaken_29 rfl rfl ?_
        refine em_iald dX11_heapTaken_30 hS (by decide) (by decide) (N := 9) rfl g4 rfl ?_
        refine ev_goto dX11_heapTaken_31 (tgt := 36) (by decide) ?_
        obtain rfl := h
        exact k9
    · replace h := zit c5 h
      refine ev_bipush dX11_heapTaken_16 (v := (-11 : Int32)) zcb_m11 ?_
      obtain rfl := Option.some.inj h
      exact ev_end_i dX11_heapTaken_18 rfl rfl ⟨rfl, rfl⟩
abbrev q11_walkerTaken (n : Nat) (kd : zMK) (I : zMI) (R : zMR) (r : Int32) : Option Value → zM → Prop := fun v μ1 => v = some (.int r) ∧ μ1 = (n, kd, I, R)
set_option maxHeartbeats 4000000 in
set_option maxRecDepth 100000 in
theorem e11_walkerTaken {w : zW} {d : Nat} {n : Nat} {kd : zMK} {I : zMI} {R : zMR} {r : Int32} {l1 : Int32} {l2 : Int32} (hw : zst w = zSt0) (hS : zSh n kd) (hd : 4 ≤ d)  (h : f11_walkerTaken n kd I R l1 l2 = some r) : EV w d 0 0 Y11_walkerTaken 0 [some (.ref 32), some (.int l1), some (.int l2), none] [] (n, kd, I, R) (q11_walkerTaken n kd I R r) := by
  unfold f11_walkerTaken at h
  refine ev_aload_n dX11_walkerTaken_0 rfl rfl ?_
  refine ev_iload_n dX11_walkerTaken_1 rfl rfl ?_
  obtain ⟨p1, e2, h⟩ := zbd h
  refine ev_callV0 dX11_walkerTaken_2 zm11_walkerOf zl_NineHeaps_135 zi11_walkerOf zv11_walkerOf (zrcX hS) (As := [.int l1]) (rest := []) rfl rfl (Nat.le_of_ble_eq_true rfl) rfl (Nat.le_of_ble_eq_true rfl) (d' := 1) (by omega) (e11_walkerOf hw hS (Nat.le_refl _) e2) (fun v μ1 q => ?_)
  obtain ⟨rfl, rfl⟩ := q
  refine ev_astore_no dX11_walkerTaken_5 rfl (by decide) rfl ?_
  refine ev_aload_no dX11_walkerTaken_6 rfl rfl ?_
  refine ev_ifnonnull_o dX11_walkerTaken_7 (tgt := 13) (by decide) (fun a3 o4 => ?_) (fun o4 => ?_)
  · replace h := zms o4 h
    refine ev_aload_nk dX11_walkerTaken_13 rfl o4 rfl ?_
    refine ev_iload_n dX11_walkerTaken_14 rfl rfl ?_
    obtain ⟨g5, h⟩ := zgd h
    obtain ⟨cg5, wg5, yg5⟩ := zWkB_has g5
    obtain ⟨p6, e7, h⟩ := zbd h
    refine ec_isOf dX11_walkerTaken_15 zl_NineHeaps_357 hw hS g5 e7 (by omega) (rest := []) (Nat.le_of_ble_eq_true rfl) ?_
    obtain ⟨x9, e10, h⟩ := zld h
    have k11 : EV w d 0 0 Y11_walkerTaken 30 [some (.ref 32), some (.int l1), some (.int l2), some (va_rf p1)] [.int x9] (n, kd, I, R) (q11_walkerTaken n kd I R r) := by
      obtain rfl := Option.some.inj h
      exact ev_end_i dX11_walkerTaken_30 rfl rfl ⟨rfl, rfl⟩
    clear h
    have h := e10
    clear e10
    refine ev_if_eq dX11_walkerTaken_18 (tgt := 28) (by decide) (fun c8 => ?_) (fun c8 => ?_)
    · replace h := zit c8 h
      refine ev_bipush dX11_walkerTaken_28 (v := (-13 : Int32)) zcb_m13 ?_
      obtain rfl := h
      exact k11
    · replace h := zif c8 h
      refine ev_aload_nk dX11_walkerTaken_21 rfl o4 rfl ?_
      refine em_getI dX11_walkerTaken_22 (zf_NineHeaps_294 wg5) (by rcases wg5 with rfl | rfl | rfl | rfl | rfl | rfl <;> rfl) yg5 rfl ?_
      refine ev_goto dX11_walkerTaken_25 (tgt := 30) (by decide) ?_
      obtain rfl := h
      exact k11
  · replace h := zmn o4 h
    refine ev_bipush dX11_walkerTaken_10 (v := (-11 : Int32)) zcb_m11 ?_
    obtain rfl := Option.some.inj h
    exact ev_end_i dX11_walkerTaken_12 rfl rfl ⟨rfl, rfl⟩
abbrev q11_taken (n : Nat) (kd : zMK) (I : zMI) (R : zMR) (r : Int32) : Option Value → zM → Prop := fun v μ1 => v = some (.int r) ∧ μ1 = (n, kd, I, R)
set_option maxHeartbeats 4000000 in
set_option maxRecDepth 100000 in
theorem e11_taken {w : zW} {d : Nat} {n : Nat} {kd : zMK} {I : zMI} {R : zMR} {r : Int32} {l1 : Int32} {l2 : Int32} (hw : zst w = zSt0) (hS : zSh n kd) (hd : 5 ≤ d)  (h : f11_taken n kd I R l1 l2 = some r) : EV w d 0 0 Y11_taken 0 [some (.ref 32), some (.int l1), some (.int l2)] [] (n, kd, I, R) (q11_taken n kd I R r) := by
  unfold f11_taken at h
  refine ev_iload_n dX11_taken_0 rfl rfl ?_
  refine ev_if_lt dX11_taken_1 (tgt := 10) (by decide) (fun c1 => ?_) (fun c1 => ?_)
  · replace h := zit c1 h
    refine ev_bipush dX11_taken_10 (v := (-2 : Int32)) zcb_m2 ?_
    obtain rfl := Option.some.inj h
    exact ev_end_i dX11_taken_12 rfl rfl ⟨rfl, rfl⟩
  · replace h := zif c1 h
    refine ev_iload_n dX11_taken_4 rfl rfl ?_
    refine ev_bipush dX11_taken_5 (v := (6 : Int32)) zcb_6 ?_
    refine ev_icmp_le dX11_taken_7 (tgt := 13) (by decide) (fun c2 => ?_) (fun c2 => ?_)
    · replace h := zit c2 h
      refine ev_iload_n dX11_taken_13 rfl rfl ?_
      refine ev_if_lt dX11_taken_14 (tgt := 23) (by decide) (fun c3 => ?_) (fun c3 => ?_)
      · replace h := zit c3 h
        refine ev_bipush dX11_taken_23 (v := (-12 : Int32)) zcb_m12 ?_
        obtain rfl := Option.some.inj h
        exact ev_end_i dX11_taken_25 rfl rfl ⟨rfl, rfl⟩
      · replace h := zif c3 h
        refine ev_iload_n dX11_taken_17 rfl rfl ?_
        refine ev_bipush dX11_taken_18 (v := (14 : Int32)) zcb_14 ?_
        refine ev_icmp_lt dX11_taken_20 (tgt := 26) (by decide) (fun c4 => ?_) (fun c4 => ?_)
        · replace h := zit c4 h
          refine ev_iload_n dX11_taken_26 rfl rfl ?_
          refine ev_bipush dX11_taken_27 (v := (9 : Int32)) zcb_9 ?_
          refine ev_icmp_ge dX11_taken_29 (tgt := 41) (by decide) (fun c5 => ?_) (fun c5 => ?_)
          · replace h := zit c5 h
            refine ev_aload_n dX11_taken_41 rfl rfl ?_
            refine ev_iload_n dX11_taken_42 rfl rfl ?_
            refine ev_bipush dX11_taken_43 (v := (9 : Int32)) zcb_9 ?_
            refine ev_isub dX11_taken_45 rfl ?_
            refine ev_iload_n dX11_taken_46 rfl rfl ?_
            obtain ⟨p6, e7, h⟩ := zbd h
            refine ev_callV0 dX11_taken_47 zm11_walkerTaken zl_NineHeaps_354 zi11_walkerTaken zv11_walkerTaken (zrcX hS) (As := [.int (l1 - (9 : Int32)), .int l2]) (rest := []) rfl rfl (Nat.le_of_ble_eq_true rfl) rfl (Nat.le_of_ble_eq_true rfl) (d' := 4) (by omega) (e11_walkerTaken hw hS (Nat.le_refl _) e7) (fun v μ1 q => ?_)
            obtain ⟨rfl, rfl⟩ := q
            obtain rfl := Option.some.inj h
            exact ev_end_i dX11_taken_50 rfl rfl ⟨rfl, rfl⟩
          · replace h := zif c5 h
            refine ev_aload_n dX11_taken_32 rfl rfl ?_
            refine ev_iload_n dX11_taken_33 rfl rfl ?_
            refine ev_iload_n dX11_taken_34 rfl rfl ?_
            obtain ⟨p8, e9, h⟩ := zbd h
            refine ev_callV0 dX11_taken_35 zm11_heapTaken zl_NineHeaps_351 zi11_heapTaken zv11_heapTaken (zrcX hS) (As := [.int l1, .int l2]) (rest := []) rfl rfl (Nat.le_of_ble_eq_true rfl) rfl (Nat.le_of_ble_eq_true rfl) (d' := 2) (by omega) (e11_heapTaken hw hS (Nat.le_refl _) e9) (fun v μ1 q => ?_)
            obtain ⟨rfl, rfl⟩ := q
            refine ev_goto dX11_taken_38 (tgt := 50) (by decide) ?_
            obtain rfl := Option.some.inj h
            exact ev_end_i dX11_taken_50 rfl rfl ⟨rfl, rfl⟩
        · replace h := zif c4 h
          refine ev_bipush dX11_taken_23 (v := (-12 : Int32)) zcb_m12 ?_
          obtain rfl := Option.some.inj h
          exact ev_end_i dX11_taken_25 rfl rfl ⟨rfl, rfl⟩
    · replace h := zif c2 h
      refine ev_bipush dX11_taken_10 (v := (-2 : Int32)) zcb_m2 ?_
      obtain rfl := Option.some.inj h
      exact ev_end_i dX11_taken_12 rfl rfl ⟨rfl, rfl⟩
