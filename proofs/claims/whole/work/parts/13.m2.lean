/-! the machine does as the reference's functions say: laid by program -/
abbrev q12_goesPlain (n : Nat) (kd : zMK) (R : zMR) (r : zMI) : Option Value → zM → Prop := fun v μ1 => v = none ∧ μ1 = (n, kd, r, R)
set_option maxHeartbeats 4000000 in
set_option maxRecDepth 100000 in
theorem e12_goesPlain {w : zW} {d : Nat} {n : Nat} {kd : zMK} {I : zMI} {R : zMR} {r : zMI} {l1 : Int32} (hw : zst w = zSt0) (hS : zSh n kd) (hd : 8 ≤ d)  (h : f12_goesPlain l1 I = some r) : EV w d 0 0 Y12_goesPlain 0 [some (.ref 81), some (.int l1)] [] (n, kd, I, R) (q12_goesPlain n kd R r) := by
  unfold f12_goesPlain at h
  refine ev_aload_n dX12_goesPlain_0 rfl rfl ?_
  refine ev_iconst dX12_goesPlain_1 (v := (-1 : Int32)) zci_m1 ?_
  obtain ⟨p1, e2, h⟩ := zbd h
  refine ev_callV0 dX12_goesPlain_2 zm12_orders zl_NineHeapsModel_251 zi12_orders zv12_orders (zrcM hS) (As := [.int (-1 : Int32)]) (rest := []) rfl rfl (Nat.le_of_ble_eq_true rfl) rfl (Nat.le_of_ble_eq_true rfl) (d' := 1) (by omega) (e12_orders hw hS (Nat.le_refl _) e2) (fun v μ1 q => ?_)
  obtain ⟨rfl, rfl⟩ := q
  refine ev_aload_n dX12_goesPlain_5 rfl rfl ?_
  refine ev_iload_n dX12_goesPlain_6 rfl rfl ?_
  obtain ⟨p3, e4, h⟩ := zbd h
  refine ev_callV0 dX12_goesPlain_7 zm12_goesFor zl_NineHeapsModel_254 zi12_goesFor zv12_goesFor (zrcM hS) (As := [.int l1]) (rest := []) rfl rfl (Nat.le_of_ble_eq_true rfl) rfl (Nat.le_of_ble_eq_true rfl) (d' := 7) (by omega) (e12_goesFor hw hS (Nat.le_refl _) e4) (fun v μ1 q => ?_)
  obtain ⟨rfl, rfl⟩ := q
  obtain rfl := Option.some.inj h
  exact ev_end_v dX12_goesPlain_10 rfl ⟨rfl, rfl⟩
abbrev q12_howMany (n : Nat) (kd : zMK) (I : zMI) (R : zMR) (r : Int32) : Option Value → zM → Prop := fun v μ1 => v = some (.int r) ∧ μ1 = (n, kd, I, R)
set_option maxHeartbeats 4000000 in
set_option maxRecDepth 100000 in
theorem e12_howMany_L4 {w : zW} {d : Nat} {n : Nat} {kd : zMK} {I : zMI} {R : zMR} {r : Int32}  (hw : zst w = zSt0) (hS : zSh n kd) (hd : 1 ≤ d)   : ∀ (q : Nat) (l1 : Int32) (l2 : Int32) (l3 : Int32) , f12_howMany_L4 I q l1 l2 l3 = some r → EV w d 0 0 Y12_howMany 4 [some (.ref 81), some (.int l1), some (.int l2), some (.int l3)] [] (n, kd, I, R) (q12_howMany n kd I R r) := by
  intro q
  induction q with
  | zero =>
    intro l1 l2 l3 h
    cases h
  | succ q ih =>
    intro l1 l2 l3 h
    unfold f12_howMany_L4 at h
    refine ev_iload_n dX12_howMany_4 rfl rfl ?_
    refine ev_aload_n dX12_howMany_5 rfl rfl ?_
    refine em_getI dX12_howMany_6 zf_NineHeapsModel_213 rfl (hS.has 81 (by decide) (by decide) rfl) rfl ?_
    refine ev_icmp_ge dX12_howMany_9 (tgt := 36) (by decide) (fun c1 => ?_) (fun c1 => ?_)
    · replace h := zit c1 h
      refine ev_iload_n dX12_howMany_36 rfl rfl ?_
      obtain rfl := Option.some.inj h
      exact ev_end_i dX12_howMany_37 rfl rfl ⟨rfl, rfl⟩
    · replace h := zif c1 h
      refine ev_iload_n dX12_howMany_12 rfl rfl ?_
      refine ev_aload_n dX12_howMany_13 rfl rfl ?_
      refine em_getA dX12_howMany_14 zf_NineHeapsModel_98 rfl (hS.has 81 (by decide) (by decide) rfl) hw rfl ?_
      refine ev_iload_n dX12_howMany_17 rfl rfl ?_
      obtain ⟨g2, h⟩ := zgd h
      refine em_iald dX12_howMany_18 hS (by decide) (by decide) (N := 400) rfl g2 rfl ?_
      refine ev_iload_n dX12_howMany_19 rfl rfl ?_
      obtain ⟨x4, e5, h⟩ := zld h
      have k6 : EV w d 0 0 Y12_howMany 28 [some (.ref 81), some (.int l1), some (.int l2), some (.int l3)] [.int x4, .int l2] (n, kd, I, R) (q12_howMany n kd I R r) := by
        refine ev_iadd dX12_howMany_28 rfl ?_
        refine ev_istore_n dX12_howMany_29 rfl (by decide) rfl ?_
        refine ev_iinc dX12_howMany_30 (v := l3 + (1 : Int32)) rfl rfl (by decide) rfl ?_
        refine ev_goto dX12_howMany_33 (tgt := 4) (by decide) ?_
        exact EV.mask [true, true, true, true] rfl (ih l1 (l2 + x4) (l3 + (1 : Int32)) h)
      clear h
      have h := e5
      clear e5
      refine ev_icmp_ne dX12_howMany_20 (tgt := 27) (by decide) (fun c3 => ?_) (fun c3 => ?_)
      · replace h := zif c3 h
        refine ev_iconst dX12_howMany_27 (v := (0 : Int32)) zci_0 ?_
        obtain rfl := h
        exact k6
      · replace h := zit c3 h
        refine ev_iconst dX12_howMany_23 (v := (1 : Int32)) zci_1 ?_
        refine ev_goto dX12_howMany_24 (tgt := 28) (by decide) ?_
        obtain rfl := h
        exact k6
set_option maxHeartbeats 4000000 in
set_option maxRecDepth 100000 in
theorem e12_howMany {w : zW} {d : Nat} {n : Nat} {kd : zMK} {I : zMI} {R : zMR} {r : Int32} {l1 : Int32} (hw : zst w = zSt0) (hS : zSh n kd) (hd : 1 ≤ d)  (h : f12_howMany I l1 = some r) : EV w d 0 0 Y12_howMany 0 [some (.ref 81), some (.int l1), none, none] [] (n, kd, I, R) (q12_howMany n kd I R r) := by
  unfold f12_howMany at h
  refine ev_iconst dX12_howMany_0 (v := (0 : Int32)) zci_0 ?_
  refine ev_istore_n dX12_howMany_1 rfl (by decide) rfl ?_
  refine ev_iconst dX12_howMany_2 (v := (0 : Int32)) zci_0 ?_
  refine ev_istore_n dX12_howMany_3 rfl (by decide) rfl ?_
  exact EV.mask [true, true, true, true] rfl (e12_howMany_L4 hw hS hd zF l1 (0 : Int32) (0 : Int32) h)
abbrev q12_waitings (n : Nat) (kd : zMK) (R : zMR) (r : Int32 × zMI) : Option Value → zM → Prop := fun v μ1 => v = some (.int r.1) ∧ μ1 = (n, kd, r.2, R)
set_option maxHeartbeats 4000000 in
set_option maxRecDepth 100000 in
theorem e12_waitings_L4 {w : zW} {d : Nat} {n : Nat} {kd : zMK} {R : zMR} {r : Int32 × zMI}  (hw : zst w = zSt0) (hS : zSh n kd) (hd : 4 ≤ d)   : ∀ (q : Nat) (l1 : Int32) (l2 : Int32) (I : zMI), f12_waitings_L4  q l1 l2 I = some r → EV w d 0 0 Y12_waitings 4 [some (.ref 81), some (.int l1), some (.int l2)] [] (n, kd, I, R) (q12_waitings n kd R r) := by
  intro q
  induction q with
  | zero =>
    intro l1 l2 I h
    cases h
  | succ q ih =>
    intro l1 l2 I h
    unfold f12_waitings_L4 at h
    refine ev_iload_n dX12_waitings_4 rfl rfl ?_
    refine ev_aload_n dX12_waitings_5 rfl rfl ?_
    refine em_getI dX12_waitings_6 zf_NineHeapsModel_117 rfl (hS.has 81 (by decide) (by decide) rfl) rfl ?_
    refine ev_icmp_ge dX12_waitings_9 (tgt := 42) (by decide) (fun c1 => ?_) (fun c1 => ?_)
    · replace h := zit c1 h
      refine ev_iload_n dX12_waitings_42 rfl rfl ?_
      obtain rfl := Option.some.inj h
      exact ev_end_i dX12_waitings_43 rfl rfl ⟨rfl, rfl⟩
    · replace h := zif c1 h
      refine ev_iload_n dX12_waitings_12 rfl rfl ?_
      refine ev_aload_n dX12_waitings_13 rfl rfl ?_
      refine em_getA dX12_waitings_14 zf_NineHeapsModel_83 rfl (hS.has 81 (by decide) (by decide) rfl) hw rfl ?_
      refine ev_iload_n dX12_waitings_17 rfl rfl ?_
      obtain ⟨g2, h⟩ := zgd h
      refine em_iald dX12_waitings_18 hS (by decide) (by decide) (N := 5) rfl g2 rfl ?_
      refine ev_aload_n dX12_waitings_19 rfl rfl ?_
      refine ev_iconst dX12_waitings_20 (v := (2 : Int32)) zci_2 ?_
      refine ev_iconst dX12_waitings_21 (v := (0 : Int32)) zci_0 ?_
      refine ev_iconst dX12_waitings_22 (v := (0 : Int32)) zci_0 ?_
      refine ev_iload_n dX12_waitings_23 rfl rfl ?_
      refine ev_aload_n dX12_waitings_24 rfl rfl ?_
      refine em_getA dX12_waitings_25 zf_NineHeapsModel_80 rfl (hS.has 81 (by decide) (by decide) rfl) hw rfl ?_
      refine ev_iload_n dX12_waitings_28 rfl rfl ?_
      refine em_iald dX12_waitings_29 hS (by decide) (by decide) (N := 5) rfl g2 rfl ?_
      obtain ⟨p3, e4, h⟩ := zbd h
      refine ev_callV0 dX12_waitings_30 zm12_asksOf zl_NineHeapsModel_206 zi12_asksOf zv12_asksOf (zrcM hS) (As := [.int (2 : Int32), .int (0 : Int32), .int (0 : Int32), .int l2, .int (I 104 l2.toNatClampNeg)]) (rest := [.int (I 105 l2.toNatClampNeg), .int l1]) rfl rfl (Nat.le_of_ble_eq_true rfl) rfl (Nat.le_of_ble_eq_true rfl) (d' := 3) (by omega) (e12_asksOf hw hS (Nat.le_refl _) e4) (fun v μ1 q => ?_)
      obtain ⟨rfl, rfl⟩ := q
      refine ev_imul dX12_waitings_33 rfl ?_
      refine ev_iadd dX12_waitings_34 rfl ?_
      obtain ⟨x5, e6, h⟩ := zld h
      refine ev_nm e6 ?_
      refine ev_istore_n dX12_waitings_35 rfl (by decide) rfl ?_
      refine ev_iinc dX12_waitings_36 (v := l2 + (1 : Int32)) rfl rfl (by decide) rfl ?_
      refine ev_goto dX12_waitings_39 (tgt := 4) (by decide) ?_
      exact EV.mask [true, true, true] rfl (ih x5 (l2 + (1 : Int32)) p3.2 h)
set_option maxHeartbeats 4000000 in
set_option maxRecDepth 100000 in
theorem e12_waitings {w : zW} {d : Nat} {n : Nat} {kd : zMK} {I : zMI} {R : zMR} {r : Int32 × zMI}  (hw : zst w = zSt0) (hS : zSh n kd) (hd : 4 ≤ d)  (h : f12_waitings I = some r) : EV w d 0 0 Y12_waitings 0 [some (.ref 81), none, none] [] (n, kd, I, R) (q12_waitings n kd R r) := by
  unfold f12_waitings at h
  refine ev_iconst dX12_waitings_0 (v := (0 : Int32)) zci_0 ?_
  refine ev_istore_n dX12_waitings_1 rfl (by decide) rfl ?_
  refine ev_iconst dX12_waitings_2 (v := (0 : Int32)) zci_0 ?_
  refine ev_istore_n dX12_waitings_3 rfl (by decide) rfl ?_
  exact EV.mask [true, true, true] rfl (e12_waitings_L4 hw hS hd zF (0 : Int32) (0 : Int32) I h)
abbrev q12_run (n : Nat) (kd : zMK) (R : zMR) (r : Int32 × zMI) : Option Value → zM → Prop := fun v μ1 => v = some (.int r.1) ∧ μ1 = (n, kd, r.2, R)
set_option maxHeartbeats 4000000 in
set_option maxRecDepth 100000 in
theorem e12_run {w : zW} {d : Nat} {n : Nat} {kd : zMK} {I : zMI} {R : zMR} {r : Int32 × zMI} {l1 : Int32} {l2 : Int32} (hw : zst w = zSt0) (hS : zSh n kd) (hd : 9 ≤ d)  (h : f12_run l1 l2 I = some r) : EV w d 0 0 Y12_run 0 [some (.ref 81), some (.int l1), some (.int l2)] [] (n, kd, I, R) (q12_run n kd R r) := by
  unfold f12_run at h
  refine ev_iload_n dX12_run_0 rfl rfl ?_
  obtain ⟨p1, e2, h⟩ := zbd h
  refine ev_callS0 dX12_run_1 zm12_areSeconds zl_NineHeapsModel_257 zs12_areSeconds (As := [.int l1]) (rest := []) rfl rfl (Nat.le_of_ble_eq_true rfl) rfl (Nat.le_of_ble_eq_true rfl) (d' := 2) (by omega) (e12_areSeconds hw hS (Nat.le_refl _) e2) (fun v μ1 q => ?_)
  obtain ⟨rfl, rfl⟩ := q
  refine ev_if_eq dX12_run_4 (tgt := 16) (by decide) (fun c3 => ?_) (fun c3 => ?_)
  · replace h := zit c3 h
    refine ev_bipush dX12_run_16 (v := (-2 : Int32)) zcb_m2 ?_
    obtain rfl := Option.some.inj h
    exact ev_end_i dX12_run_18 rfl rfl ⟨rfl, rfl⟩
  · replace h := zif c3 h
    refine ev_iload_n dX12_run_7 rfl rfl ?_
    refine ev_iconst dX12_run_8 (v := (0 : Int32)) zci_0 ?_
    refine ev_iconst dX12_run_9 (v := (4 : Int32)) zci_4 ?_
    obtain ⟨p4, e5, h⟩ := zbd h
    refine ev_callS0 dX12_run_10 zm12_in zl_NineHeapsModel_120 zs12_in (As := [.int l2, .int (0 : Int32), .int (4 : Int32)]) (rest := []) rfl rfl (Nat.le_of_ble_eq_true rfl) rfl (Nat.le_of_ble_eq_true rfl) (d' := 1) (by omega) (e12_in hw hS (Nat.le_refl _) e5) (fun v μ1 q => ?_)
    obtain ⟨rfl, rfl⟩ := q
    refine ev_if_ne dX12_run_13 (tgt := 19) (by decide) (fun c6 => ?_) (fun c6 => ?_)
    · replace h := zif c6 h
      refine ev_aload_n dX12_run_19 rfl rfl ?_
      refine ev_iload_n dX12_run_20 rfl rfl ?_
      obtain ⟨p7, e8, h⟩ := zbd h
      refine ev_callV0 dX12_run_21 zm12_goesPlain zl_NineHeapsModel_260 zi12_goesPlain zv12_goesPlain (zrcM hS) (As := [.int l1]) (rest := []) rfl rfl (Nat.le_of_ble_eq_true rfl) rfl (Nat.le_of_ble_eq_true rfl) (d' := 8) (by omega) (e12_goesPlain hw hS (Nat.le_refl _) e8) (fun v μ1 q => ?_)
      obtain ⟨rfl, rfl⟩ := q
      refine ev_iload_n dX12_run_24 rfl rfl ?_
      refine ev_if_ne dX12_run_25 (tgt := 35) (by decide) (fun c9 => ?_) (fun c9 => ?_)
      · replace h := zif c9 h
        refine ev_iload_n dX12_run_35 rfl rfl ?_
        refine ev_iconst dX12_run_36 (v := (3 : Int32)) zci_3 ?_
        refine ev_icmp_ge dX12_run_37 (tgt := 48) (by decide) (fun c10 => ?_) (fun c10 => ?_)
        · replace h := zit c10 h
          refine ev_iload_n dX12_run_48 rfl rfl ?_
          refine ev_iconst dX12_run_49 (v := (3 : Int32)) zci_3 ?_
          refine ev_icmp_ne dX12_run_50 (tgt := 60) (by decide) (fun c11 => ?_) (fun c11 => ?_)
          · replace h := zif c11 h
            refine ev_aload_n dX12_run_60 rfl rfl ?_
            refine em_getI dX12_run_61 zf_NineHeapsModel_216 rfl (hS.has 81 (by decide) (by decide) rfl) rfl ?_
            obtain rfl := Option.some.inj h
            exact ev_end_i dX12_run_64 rfl rfl ⟨rfl, rfl⟩
          · replace h := zit c11 h
            refine ev_aload_n dX12_run_53 rfl rfl ?_
            obtain ⟨p12, e13, h⟩ := zbd h
            refine ev_callV0 dX12_run_54 zm12_waitings zl_NineHeapsModel_266 zi12_waitings zv12_waitings (zrcM hS) (As := []) (rest := []) rfl rfl (Nat.le_of_ble_eq_true rfl) rfl (Nat.le_of_ble_eq_true rfl) (d' := 4) (by omega) (e12_waitings hw hS (Nat.le_refl _) e13) (fun v μ1 q => ?_)
            obtain ⟨rfl, rfl⟩ := q
            refine ev_goto dX12_run_57 (tgt := 64) (by decide) ?_
            obtain rfl := Option.some.inj h
            exact ev_end_i dX12_run_64 rfl rfl ⟨rfl, rfl⟩
        · replace h := zif c10 h
          refine ev_aload_n dX12_run_40 rfl rfl ?_
          refine ev_iload_n dX12_run_41 rfl rfl ?_
          obtain ⟨p14, e15, h⟩ := zbd h
          refine ev_callV0 dX12_run_42 zm12_howMany zl_NineHeapsModel_263 zi12_howMany zv12_howMany (zrcM hS) (As := [.int l2]) (rest := []) rfl rfl (Nat.le_of_ble_eq_true rfl) rfl (Nat.le_of_ble_eq_true rfl) (d' := 1) (by omega) (e12_howMany hw hS (Nat.le_refl _) e15) (fun v μ1 q => ?_)
          obtain ⟨rfl, rfl⟩ := q
          refine ev_goto dX12_run_45 (tgt := 64) (by decide) ?_
          obtain rfl := Option.some.inj h
          exact ev_end_i dX12_run_64 rfl rfl ⟨rfl, rfl⟩
      · replace h := zit c9 h
        refine ev_aload_n dX12_run_28 rfl rfl ?_
        refine em_getI dX12_run_29 zf_NineHeapsModel_213 rfl (hS.has 81 (by decide) (by decide) rfl) rfl ?_
        refine ev_goto dX12_run_32 (tgt := 64) (by decide) ?_
        obtain rfl := Option.some.inj h
        exact ev_end_i dX12_run_64 rfl rfl ⟨rfl, rfl⟩
    · replace h := zit c6 h
      refine ev_bipush dX12_run_16 (v := (-2 : Int32)) zcb_m2 ?_
      obtain rfl := Option.some.inj h
      exact ev_end_i dX12_run_18 rfl rfl ⟨rfl, rfl⟩
abbrev q12_one (n : Nat) (kd : zMK) (R : zMR) (r : Int32 × zMI) : Option Value → zM → Prop := fun v μ1 => v = some (.int r.1) ∧ μ1 = (n, kd, r.2, R)
set_option maxHeartbeats 4000000 in
set_option maxRecDepth 100000 in
theorem e12_one {w : zW} {d : Nat} {n : Nat} {kd : zMK} {I : zMI} {R : zMR} {r : Int32 × zMI} {l1 : Int32} {l2 : Int32} {l3 : Int32} (hw : zst w = zSt0) (hS : zSh n kd) (hd : 9 ≤ d)  (h : f12_one l1 l2 l3 I = some r) : EV w d 0 0 Y12_one 0 [some (.ref 81), some (.int l1), some (.int l2), some (.int l3)] [] (n, kd, I, R) (q12_one n kd R r) := by
  unfold f12_one at h
  refine ev_aload_n dX12_one_0 rfl rfl ?_
  refine ev_iload_n dX12_one_1 rfl rfl ?_
  obtain ⟨p1, e2, h⟩ := zbd h
  refine ev_callV0 dX12_one_2 zm12_isWalker zl_NineHeapsModel_203 zi12_isWalker zv12_isWalker (zrcM hS) (As := [.int l1]) (rest := []) rfl rfl (Nat.le_of_ble_eq_true rfl) rfl (Nat.le_of_ble_eq_true rfl) (d' := 2) (by omega) (e12_isWalker hw hS (Nat.le_refl _) e2) (fun v μ1 q => ?_)
  obtain ⟨rfl, rfl⟩ := q
  refine ev_if_ne dX12_one_5 (tgt := 11) (by decide) (fun c3 => ?_) (fun c3 => ?_)
  · replace h := zif c3 h
    refine ev_iload_n dX12_one_11 rfl rfl ?_
    obtain ⟨p4, e5, h⟩ := zbd h
    refine ev_callS0 dX12_one_12 zm12_areSeconds zl_NineHeapsModel_257 zs12_areSeconds (As := [.int l2]) (rest := []) rfl rfl (Nat.le_of_ble_eq_true rfl) rfl (Nat.le_of_ble_eq_true rfl) (d' := 2) (by omega) (e12_areSeconds hw hS (Nat.le_refl _) e5) (fun v μ1 q => ?_)
    obtain ⟨rfl, rfl⟩ := q
    refine ev_if_eq dX12_one_15 (tgt := 27) (by decide) (fun c6 => ?_) (fun c6 => ?_)
    · replace h := zit c6 h
      refine ev_bipush dX12_one_27 (v := (-7 : Int32)) zcb_m7 ?_
      obtain rfl := Option.some.inj h
      exact ev_end_i dX12_one_29 rfl rfl ⟨rfl, rfl⟩
    · replace h := zif c6 h
      refine ev_iload_n dX12_one_18 rfl rfl ?_
      refine ev_iconst dX12_one_19 (v := (0 : Int32)) zci_0 ?_
      refine ev_iconst dX12_one_20 (v := (4 : Int32)) zci_4 ?_
      obtain ⟨p7, e8, h⟩ := zbd h
      refine ev_callS0 dX12_one_21 zm12_in zl_NineHeapsModel_120 zs12_in (As := [.int l3, .int (0 : Int32), .int (4 : Int32)]) (rest := []) rfl rfl (Nat.le_of_ble_eq_true rfl) rfl (Nat.le_of_ble_eq_true rfl) (d' := 1) (by omega) (e12_in hw hS (Nat.le_refl _) e8) (fun v μ1 q => ?_)
      obtain ⟨rfl, rfl⟩ := q
      refine ev_if_ne dX12_one_24 (tgt := 30) (by decide) (fun c9 => ?_) (fun c9 => ?_)
      · replace h := zif c9 h
        refine ev_aload_n dX12_one_30 rfl rfl ?_
        refine ev_iload_n dX12_one_31 rfl rfl ?_
        obtain ⟨p10, e11, h⟩ := zbd h
        refine ev_callV0 dX12_one_32 zm12_goesPlain zl_NineHeapsModel_260 zi12_goesPlain zv12_goesPlain (zrcM hS) (As := [.int l2]) (rest := []) rfl rfl (Nat.le_of_ble_eq_true rfl) rfl (Nat.le_of_ble_eq_true rfl) (d' := 8) (by omega) (e12_goesPlain hw hS (Nat.le_refl _) e11) (fun v μ1 q => ?_)
        obtain ⟨rfl, rfl⟩ := q
        refine ev_iload_n dX12_one_35 rfl rfl ?_
        obtain ⟨x21, e22, h⟩ := zbd h
        have k23 : EV w d 0 0 Y12_one 96 [some (.ref 81), some (.int l1), some (.int l2), some (.int l3)] [.int x21] (n, kd, p10, R) (q12_one n kd R r) := by
          obtain rfl := Option.some.inj h
          exact ev_end_i dX12_one_96 rfl rfl ⟨rfl, rfl⟩
        clear h
        have h := e22
        clear e22
        refine ev_if_ne dX12_one_36 (tgt := 48) (by decide) (fun c12 => ?_) (fun c12 => ?_)
        · replace h := zif c12 h
          refine ev_iload_n dX12_one_48 rfl rfl ?_
          refine ev_iconst dX12_one_49 (v := (1 : Int32)) zci_1 ?_
          refine ev_icmp_ne dX12_one_50 (tgt := 62) (by decide) (fun c13 => ?_) (fun c13 => ?_)
          · replace h := zif c13 h
            refine ev_iload_n dX12_one_62 rfl rfl ?_
            refine ev_iconst dX12_one_63 (v := (2 : Int32)) zci_2 ?_
            refine ev_icmp_ne dX12_one_64 (tgt := 76) (by decide) (fun c14 => ?_) (fun c14 => ?_)
            · replace h := zif c14 h
              refine ev_iload_n dX12_one_76 rfl rfl ?_
              refine ev_iconst dX12_one_77 (v := (3 : Int32)) zci_3 ?_
              refine ev_icmp_ne dX12_one_78 (tgt := 90) (by decide) (fun c15 => ?_) (fun c15 => ?_)
              · replace h := zif c15 h
                refine ev_aload_n dX12_one_90 rfl rfl ?_
                refine em_getA dX12_one_91 zf_NineHeapsModel_77 rfl (hS.has 81 (by decide) (by decide) rfl) hw rfl ?_
                refine ev_iload_n dX12_one_94 rfl rfl ?_
                obtain ⟨g16, h⟩ := zgd h
                refine em_iald dX12_one_95 hS (by decide) (by decide) (N := 5) rfl g16 rfl ?_
                obtain rfl := Option.some.inj h
                exact k23
              · replace h := zit c15 h
                refine ev_aload_n dX12_one_81 rfl rfl ?_
                refine em_getA dX12_one_82 zf_NineHeapsModel_83 rfl (hS.has 81 (by decide) (by decide) rfl) hw rfl ?_
                refine ev_iload_n dX12_one_85 rfl rfl ?_
                obtain ⟨g17, h⟩ := zgd h
                refine em_iald dX12_one_86 hS (by decide) (by decide) (N := 5) rfl g17 rfl ?_
                refine ev_goto dX12_one_87 (tgt := 96) (by decide) ?_
                obtain rfl := Option.some.inj h
                exact k23
            · replace h := zit c14 h
              refine ev_aload_n dX12_one_67 rfl rfl ?_
              refine em_getA dX12_one_68 zf_NineHeapsModel_80 rfl (hS.has 81 (by decide) (by decide) rfl) hw rfl ?_
              refine ev_iload_n dX12_one_71 rfl rfl ?_
              obtain ⟨g18, h⟩ := zgd h
              refine em_iald dX12_one_72 hS (by decide) (by decide) (N := 5) rfl g18 rfl ?_
              refine ev_goto dX12_one_73 (tgt := 96) (by decide) ?_
              obtain rfl := Option.some.inj h
              exact k23
          · replace h := zit c13 h
            refine ev_aload_n dX12_one_53 rfl rfl ?_
            refine em_getA dX12_one_54 zf_NineHeapsModel_71 rfl (hS.has 81 (by decide) (by decide) rfl) hw rfl ?_
            refine ev_iload_n dX12_one_57 rfl rfl ?_
            obtain ⟨g19, h⟩ := zgd h
            refine em_iald dX12_one_58 hS (by decide) (by decide) (N := 5) rfl g19 rfl ?_
            refine ev_goto dX12_one_59 (tgt := 96) (by decide) ?_
            obtain rfl := Option.some.inj h
            exact k23
        · replace h := zit c12 h
          refine ev_aload_n dX12_one_39 rfl rfl ?_
          refine em_getA dX12_one_40 zf_NineHeapsModel_68 rfl (hS.has 81 (by decide) (by decide) rfl) hw rfl ?_
          refine ev_iload_n dX12_one_43 rfl rfl ?_
          obtain ⟨g20, h⟩ := zgd h
          refine em_iald dX12_one_44 hS (by decide) (by decide) (N := 5) rfl g20 rfl ?_
          refine ev_goto dX12_one_45 (tgt := 96) (by decide) ?_
          obtain rfl := Option.some.inj h
          exact k23
      · replace h := zit c9 h
        refine ev_bipush dX12_one_27 (v := (-7 : Int32)) zcb_m7 ?_
        obtain rfl := Option.some.inj h
        exact ev_end_i dX12_one_29 rfl rfl ⟨rfl, rfl⟩
  · replace h := zit c3 h
    refine ev_bipush dX12_one_8 (v := (-5 : Int32)) zcb_m5 ?_
    obtain rfl := Option.some.inj h
    exact ev_end_i dX12_one_10 rfl rfl ⟨rfl, rfl⟩
abbrev q12_height (n : Nat) (kd : zMK) (R : zMR) (r : Int32 × zMI) : Option Value → zM → Prop := fun v μ1 => v = some (.int r.1) ∧ μ1 = (n, kd, r.2, R)
set_option maxHeartbeats 4000000 in
set_option maxRecDepth 100000 in
theorem e12_height {w : zW} {d : Nat} {n : Nat} {kd : zMK} {I : zMI} {R : zMR} {r : Int32 × zMI} {l1 : Int32} {l2 : Int32} {l3 : Int32} (hw : zst w = zSt0) (hS : zSh n kd) (hd : 9 ≤ d)  (h : f12_height l1 l2 l3 I = some r) : EV w d 0 0 Y12_height 0 [some (.ref 81), some (.int l1), some (.int l2), some (.int l3)] [] (n, kd, I, R) (q12_height n kd R r) := by
  unfold f12_height at h
  refine ev_iload_n dX12_height_0 rfl rfl ?_
  obtain ⟨p1, e2, h⟩ := zbd h
  refine ev_callS0 dX12_height_1 zm12_isHeap zl_NineHeapsModel_130 zs12_isHeap (As := [.int l1]) (rest := []) rfl rfl (Nat.le_of_ble_eq_true rfl) rfl (Nat.le_of_ble_eq_true rfl) (d' := 2) (by omega) (e12_isHeap hw hS (Nat.le_refl _) e2) (fun v μ1 q => ?_)
  obtain ⟨rfl, rfl⟩ := q
  refine ev_if_ne dX12_height_4 (tgt := 10) (by decide) (fun c3 => ?_) (fun c3 => ?_)
  · replace h := zif c3 h
    refine ev_iload_n dX12_height_10 rfl rfl ?_
    obtain ⟨p4, e5, h⟩ := zbd h
    refine ev_callS0 dX12_height_11 zm12_areSeconds zl_NineHeapsModel_257 zs12_areSeconds (As := [.int l2]) (rest := []) rfl rfl (Nat.le_of_ble_eq_true rfl) rfl (Nat.le_of_ble_eq_true rfl) (d' := 2) (by omega) (e12_areSeconds hw hS (Nat.le_refl _) e5) (fun v μ1 q => ?_)
    obtain ⟨rfl, rfl⟩ := q
    refine ev_if_eq dX12_height_14 (tgt := 26) (by decide) (fun c6 => ?_) (fun c6 => ?_)
    · replace h := zit c6 h
      refine ev_bipush dX12_height_26 (v := (-7 : Int32)) zcb_m7 ?_
      obtain rfl := Option.some.inj h
      exact ev_end_i dX12_height_28 rfl rfl ⟨rfl, rfl⟩
    · replace h := zif c6 h
      refine ev_iload_n dX12_height_17 rfl rfl ?_
      refine ev_iconst dX12_height_18 (v := (0 : Int32)) zci_0 ?_
      refine ev_iconst dX12_height_19 (v := (1 : Int32)) zci_1 ?_
      obtain ⟨p7, e8, h⟩ := zbd h
      refine ev_callS0 dX12_height_20 zm12_in zl_NineHeapsModel_120 zs12_in (As := [.int l3, .int (0 : Int32), .int (1 : Int32)]) (rest := []) rfl rfl (Nat.le_of_ble_eq_true rfl) rfl (Nat.le_of_ble_eq_true rfl) (d' := 1) (by omega) (e12_in hw hS (Nat.le_refl _) e8) (fun v μ1 q => ?_)
      obtain ⟨rfl, rfl⟩ := q
      refine ev_if_ne dX12_height_23 (tgt := 29) (by decide) (fun c9 => ?_) (fun c9 => ?_)
      · replace h := zif c9 h
        refine ev_aload_n dX12_height_29 rfl rfl ?_
        refine ev_iload_n dX12_height_30 rfl rfl ?_
        obtain ⟨p10, e11, h⟩ := zbd h
        refine ev_callV0 dX12_height_31 zm12_goesPlain zl_NineHeapsModel_260 zi12_goesPlain zv12_goesPlain (zrcM hS) (As := [.int l2]) (rest := []) rfl rfl (Nat.le_of_ble_eq_true rfl) rfl (Nat.le_of_ble_eq_true rfl) (d' := 8) (by omega) (e12_goesPlain hw hS (Nat.le_refl _) e11) (fun v μ1 q => ?_)
        obtain ⟨rfl, rfl⟩ := q
        refine ev_iload_n dX12_height_34 rfl rfl ?_
        obtain ⟨x15, e16, h⟩ := zbd h
        have k17 : EV w d 0 0 Y12_height 53 [some (.ref 81), some (.int l1), some (.int l2), some (.int l3)] [.int x15] (n, kd, p10, R) (q12_height n kd R r) := by
          obtain rfl := Option.some.inj h
          exact ev_end_i dX12_height_53 rfl rfl ⟨rfl, rfl⟩
        clear h
        have h := e16
        clear e16
        refine ev_if_ne dX12_height_35 (tgt := 47) (by decide) (fun c12 => ?_) (fun c12 => ?_)
        · replace h := zif c12 h
          refine ev_aload_n dX12_height_47 rfl rfl ?_
          refine em_getA dX12_height_48 zf_NineHeapsModel_95 rfl (hS.has 81 (by decide) (by decide) rfl) hw rfl ?_
          refine ev_iload_n dX12_height_51 rfl rfl ?_
          obtain ⟨g13, h⟩ := zgd h
          refine em_iald dX12_height_52 hS (by decide) (by decide) (N := 9) rfl g13 rfl ?_
          obtain rfl := Option.some.inj h
          exact k17
        · replace h := zit c12 h
          refine ev_aload_n dX12_height_38 rfl rfl ?_
          refine em_getA dX12_height_39 zf_NineHeapsModel_89 rfl (hS.has 81 (by decide) (by decide) rfl) hw rfl ?_
          refine ev_iload_n dX12_height_42 rfl rfl ?_
          obtain ⟨g14, h⟩ := zgd h
          refine em_iald dX12_height_43 hS (by decide) (by decide) (N := 9) rfl g14 rfl ?_
          refine ev_goto dX12_height_44 (tgt := 53) (by decide) ?_
          obtain rfl := Option.some.inj h
          exact k17
      · replace h := zit c9 h
        refine ev_bipush dX12_height_26 (v := (-7 : Int32)) zcb_m7 ?_
        obtain rfl := Option.some.inj h
        exact ev_end_i dX12_height_28 rfl rfl ⟨rfl, rfl⟩
  · replace h := zit c3 h
    refine ev_bipush dX12_height_7 (v := (-6 : Int32)) zcb_m6 ?_
    obtain rfl := Option.some.inj h
    exact ev_end_i dX12_height_9 rfl rfl ⟨rfl, rfl⟩
abbrev q12_go (n : Nat) (kd : zMK) (R : zMR) (r : Int32 × zMI) : Option Value → zM → Prop := fun v μ1 => v = some (.int r.1) ∧ μ1 = (n, kd, r.2, R)
set_option maxHeartbeats 4000000 in
set_option maxRecDepth 100000 in
theorem e12_go_L17 {w : zW} {d : Nat} {n : Nat} {kd : zMK} {R : zMR} {r : Int32 × zMI}  (hw : zst w = zSt0) (hS : zSh n kd) (hd : 9 ≤ d)   : ∀ (q : Nat) (l2 : Int32) (I : zMI), f12_go_L17  q l2 I = some r → EV w d 0 0 Y12_go 17 [some (.ref 81), none, some (.int l2)] [] (n, kd, I, R) (q12_go n kd R r) := by
  intro q
  induction q with
  | zero =>
    intro l2 I h
    cases h
  | succ q ih =>
    intro l2 I h
    unfold f12_go_L17 at h
    refine ev_iload_n dX12_go_17 rfl rfl ?_
    refine ev_bipush dX12_go_18 (v := (9 : Int32)) zcb_9 ?_
    refine ev_icmp_ge dX12_go_20 (tgt := 41) (by decide) (fun c1 => ?_) (fun c1 => ?_)
    · replace h := zit c1 h
      refine ev_aload_n dX12_go_41 rfl rfl ?_
      refine em_getI dX12_go_42 zf_NineHeapsModel_213 rfl (hS.has 81 (by decide) (by decide) rfl) rfl ?_
      obtain rfl := Option.some.inj h
      exact ev_end_i dX12_go_45 rfl rfl ⟨rfl, rfl⟩
    · replace h := zif c1 h
      refine ev_aload_n dX12_go_23 rfl rfl ?_
      refine em_getA dX12_go_24 zf_NineHeapsModel_7 rfl (hS.has 81 (by decide) (by decide) rfl) hw rfl ?_
      refine ev_iload_n dX12_go_27 rfl rfl ?_
      refine ev_aload_n dX12_go_28 rfl rfl ?_
      refine em_getA dX12_go_29 zf_NineHeapsModel_89 rfl (hS.has 81 (by decide) (by decide) rfl) hw rfl ?_
      refine ev_iload_n dX12_go_32 rfl rfl ?_
      obtain ⟨g2, h⟩ := zgd h
      refine em_iald dX12_go_33 hS (by decide) (by decide) (N := 9) rfl g2 rfl ?_
      obtain ⟨J3, e4, h⟩ := zld h
      refine em_iast dX12_go_34 hS (by decide) (by decide) (N := 9) rfl g2 e4 ?_
      refine ev_iinc dX12_go_35 (v := l2 + (1 : Int32)) rfl rfl (by decide) rfl ?_
      refine ev_goto dX12_go_38 (tgt := 17) (by decide) ?_
      exact EV.mask [true, false, true] rfl (ih (l2 + (1 : Int32)) J3 h)
set_option maxHeartbeats 4000000 in
set_option maxRecDepth 100000 in
theorem e12_go {w : zW} {d : Nat} {n : Nat} {kd : zMK} {I : zMI} {R : zMR} {r : Int32 × zMI} {l1 : Int32} (hw : zst w = zSt0) (hS : zSh n kd) (hd : 9 ≤ d)  (h : f12_go l1 I = some r) : EV w d 0 0 Y12_go 0 [some (.ref 81), some (.int l1), none] [] (n, kd, I, R) (q12_go n kd R r) := by
  unfold f12_go at h
  refine ev_iload_n dX12_go_0 rfl rfl ?_
  obtain ⟨p5, e6, h⟩ := zbd h
  refine ev_callS0 dX12_go_1 zm12_areSeconds zl_NineHeapsModel_257 zs12_areSeconds (As := [.int l1]) (rest := []) rfl rfl (Nat.le_of_ble_eq_true rfl) rfl (Nat.le_of_ble_eq_true rfl) (d' := 2) (by omega) (e12_areSeconds hw hS (Nat.le_refl _) e6) (fun v μ1 q => ?_)
  obtain ⟨rfl, rfl⟩ := q
  refine ev_if_ne dX12_go_4 (tgt := 10) (by decide) (fun c7 => ?_) (fun c7 => ?_)
  · replace h := zif c7 h
    refine ev_aload_n dX12_go_10 rfl rfl ?_
    refine ev_iload_n dX12_go_11 rfl rfl ?_
    obtain ⟨p8, e9, h⟩ := zbd h
    refine ev_callV0 dX12_go_12 zm12_goesPlain zl_NineHeapsModel_260 zi12_goesPlain zv12_goesPlain (zrcM hS) (As := [.int l1]) (rest := []) rfl rfl (Nat.le_of_ble_eq_true rfl) rfl (Nat.le_of_ble_eq_true rfl) (d' := 8) (by omega) (e12_goesPlain hw hS (Nat.le_refl _) e9) (fun v μ1 q => ?_)
    obtain ⟨rfl, rfl⟩ := q
    refine ev_iconst dX12_go_15 (v := (0 : Int32)) zci_0 ?_
    refine ev_istore_n dX12_go_16 rfl (by decide) rfl ?_
    exact EV.mask [true, false, true] rfl (e12_go_L17 hw hS hd zF (0 : Int32) p8 h)
  · replace h := zit c7 h
    refine ev_bipush dX12_go_7 (v := (-2 : Int32)) zcb_m2 ?_
    obtain rfl := Option.some.inj h
    exact ev_end_i dX12_go_9 rfl rfl ⟨rfl, rfl⟩
abbrev q12_offNumber (n : Nat) (kd : zMK) (I : zMI) (R : zMR) (r : Int32) : Option Value → zM → Prop := fun v μ1 => v = some (.int r) ∧ μ1 = (n, kd, I, R)
set_option maxHeartbeats 4000000 in
set_option maxRecDepth 100000 in
theorem e12_offNumber_B30 {w : zW} {d : Nat} {n : Nat} {kd : zMK} {I : zMI} {R : zMR} {r : Int32} {k4 : Int32 → Int32 → Option (Int32)} (hw : zst w = zSt0) (hS : zSh n kd) (hd : 1 ≤ d)  (hk4 : ∀ (l2 : Int32) (l3 : Int32) , k4 l2 l3 = some r → EV w d 0 0 Y12_offNumber 4 [some (.ref 81), none, some (.int l2), some (.int l3)] [] (n, kd, I, R) (q12_offNumber n kd I R r)) : ∀ (l2 : Int32) (l3 : Int32) , f12_offNumber_B30 I k4 l2 l3 = some r → EV w d 0 0 Y12_offNumber 30 [some (.ref 81), none, some (.int l2), some (.int l3)] [] (n, kd, I, R) (q12_offNumber n kd I R r) := by
  intro l2 l3 h
  unfold f12_offNumber_B30 at h
  refine ev_iinc dX12_offNumber_30 (v := l3 + (1 : Int32)) rfl rfl (by decide) rfl ?_
  refine ev_goto dX12_offNumber_33 (tgt := 4) (by decide) ?_
  exact EV.mask [true, false, true, true] rfl (hk4 l2 (l3 + (1 : Int32)) h)
set_option maxHeartbeats 4000000 in
set_option maxRecDepth 100000 in
theorem e12_offNumber_L4 {w : zW} {d : Nat} {n : Nat} {kd : zMK} {I : zMI} {R : zMR} {r : Int32}  (hw : zst w = zSt0) (hS : zSh n kd) (hd : 1 ≤ d)   : ∀ (q : Nat) (l2 : Int32) (l3 : Int32) , f12_offNumber_L4 I q l2 l3 = some r → EV w d 0 0 Y12_offNumber 4 [some (.ref 81), none, some (.int l2), some (.int l3)] [] (n, kd, I, R) (q12_offNumber n kd I R r) := by
  intro q
  induction q with
  | zero =>
    intro l2 l3 h
    cases h
  | succ q ih =>
    intro l2 l3 h
    unfold f12_offNumber_L4 at h
    refine ev_iload_n dX12_offNumber_4 rfl rfl ?_
    refine ev_aload_n dX12_offNumber_5 rfl rfl ?_
    refine em_getI dX12_offNumber_6 zf_NineHeapsModel_213 rfl (hS.has 81 (by decide) (by decide) rfl) rfl ?_
    refine ev_icmp_ge dX12_offNumber_9 (tgt := 36) (by decide) (fun c1 => ?_) (fun c1 => ?_)
    · replace h := zit c1 h
      refine ev_iconst dX12_offNumber_36 (v := (-1 : Int32)) zci_m1 ?_
      obtain rfl := Option.some.inj h
      exact ev_end_i dX12_offNumber_37 rfl rfl ⟨rfl, rfl⟩
    · replace h := zif c1 h
      refine ev_aload_n dX12_offNumber_12 rfl rfl ?_
      refine em_getA dX12_offNumber_13 zf_NineHeapsModel_98 rfl (hS.has 81 (by decide) (by decide) rfl) hw rfl ?_
      refine ev_iload_n dX12_offNumber_16 rfl rfl ?_
      obtain ⟨g2, h⟩ := zgd h
      refine em_iald dX12_offNumber_17 hS (by decide) (by decide) (N := 400) rfl g2 rfl ?_
      refine ev_if_eq dX12_offNumber_18 (tgt := 30) (by decide) (fun c3 => ?_) (fun c3 => ?_)
      · replace h := zit c3 h
        exact EV.mask [true, false, true, true] rfl (e12_offNumber_B30 hw hS hd (fun l2' l3' h' => ih l2' l3' h') l2 l3 h)
      · replace h := zif c3 h
        refine ev_iload_n dX12_offNumber_21 rfl rfl ?_
        refine ev_if_ne dX12_offNumber_22 (tgt := 27) (by decide) (fun c4 => ?_) (fun c4 => ?_)
        · replace h := zif c4 h
          refine ev_iinc dX12_offNumber_27 (v := l2 + (-1 : Int32)) rfl rfl (by decide) rfl ?_
          exact EV.mask [true, false, true, true] rfl (e12_offNumber_B30 hw hS hd (fun l2' l3' h' => ih l2' l3' h') (l2 + (-1 : Int32)) l3 h)
        · replace h := zit c4 h
          refine ev_iload_n dX12_offNumber_25 rfl rfl ?_
          obtain rfl := Option.some.inj h
          exact ev_end_i dX12_offNumber_26 rfl rfl ⟨rfl, rfl⟩
set_option maxHeartbeats 4000000 in
set_option maxRecDepth 100000 in
theorem e12_offNumber {w : zW} {d : Nat} {n : Nat} {kd : zMK} {I : zMI} {R : zMR} {r : Int32} {l1 : Int32} (hw : zst w = zSt0) (hS : zSh n kd) (hd : 1 ≤ d)  (h : f12_offNumber I l1 = some r) : EV w d 0 0 Y12_offNumber 0 [some (.ref 81), some (.int l1), none, none] [] (n, kd, I, R) (q12_offNumber n kd I R r) := by
  unfold f12_offNumber at h
  refine ev_iload_n dX12_offNumber_0 rfl rfl ?_
  refine ev_istore_n dX12_offNumber_1 rfl (by decide) rfl ?_
  refine ev_iconst dX12_offNumber_2 (v := (0 : Int32)) zci_0 ?_
  refine ev_istore_n dX12_offNumber_3 rfl (by decide) rfl ?_
  exact EV.mask [true, false, true, true] rfl (e12_offNumber_L4 hw hS hd zF l1 (0 : Int32) h)
abbrev q12_off (n : Nat) (kd : zMK) (R : zMR) (r : Int32 × zMI) : Option Value → zM → Prop := fun v μ1 => v = some (.int r.1) ∧ μ1 = (n, kd, r.2, R)
set_option maxHeartbeats 4000000 in
set_option maxRecDepth 100000 in
theorem e12_off {w : zW} {d : Nat} {n : Nat} {kd : zMK} {I : zMI} {R : zMR} {r : Int32 × zMI} {l1 : Int32} (hw : zst w = zSt0) (hS : zSh n kd) (hd : 9 ≤ d)  (h : f12_off l1 I = some r) : EV w d 0 0 Y12_off 0 [some (.ref 81), some (.int l1)] [] (n, kd, I, R) (q12_off n kd R r) := by
  unfold f12_off at h
  refine ev_iload_n dX12_off_0 rfl rfl ?_
  refine ev_iconst dX12_off_1 (v := (0 : Int32)) zci_0 ?_
  refine ev_bipush dX12_off_2 (v := (39 : Int32)) zcb_39 ?_
  obtain ⟨p1, e2, h⟩ := zbd h
  refine ev_callS0 dX12_off_4 zm12_in zl_NineHeapsModel_120 zs12_in (As := [.int l1, .int (0 : Int32), .int (39 : Int32)]) (rest := []) rfl rfl (Nat.le_of_ble_eq_true rfl) rfl (Nat.le_of_ble_eq_true rfl) (d' := 1) (by omega) (e12_in hw hS (Nat.le_refl _) e2) (fun v μ1 q => ?_)
  obtain ⟨rfl, rfl⟩ := q
  refine ev_if_ne dX12_off_7 (tgt := 13) (by decide) (fun c3 => ?_) (fun c3 => ?_)
  · replace h := zif c3 h
    refine ev_aload_n dX12_off_13 rfl rfl ?_
    refine ev_sipush dX12_off_14 (v := (600 : Int32)) zcs_600 ?_
    obtain ⟨p4, e5, h⟩ := zbd h
    refine ev_callV0 dX12_off_17 zm12_goesPlain zl_NineHeapsModel_260 zi12_goesPlain zv12_goesPlain (zrcM hS) (As := [.int (600 : Int32)]) (rest := []) rfl rfl (Nat.le_of_ble_eq_true rfl) rfl (Nat.le_of_ble_eq_true rfl) (d' := 8) (by omega) (e12_goesPlain hw hS (Nat.le_refl _) e5) (fun v μ1 q => ?_)
    obtain ⟨rfl, rfl⟩ := q
    refine ev_aload_n dX12_off_20 rfl rfl ?_
    refine ev_iload_n dX12_off_21 rfl rfl ?_
    obtain ⟨p6, e7, h⟩ := zbd h
    refine ev_callV0 dX12_off_22 zm12_offNumber zl_NineHeapsModel_269 zi12_offNumber zv12_offNumber (zrcM hS) (As := [.int l1]) (rest := []) rfl rfl (Nat.le_of_ble_eq_true rfl) rfl (Nat.le_of_ble_eq_true rfl) (d' := 1) (by omega) (e12_offNumber hw hS (Nat.le_refl _) e7) (fun v μ1 q => ?_)
    obtain ⟨rfl, rfl⟩ := q
    obtain rfl := Option.some.inj h
    exact ev_end_i dX12_off_25 rfl rfl ⟨rfl, rfl⟩
  · replace h := zit c3 h
    refine ev_bipush dX12_off_10 (v := (-2 : Int32)) zcb_m2 ?_
    obtain rfl := Option.some.inj h
    exact ev_end_i dX12_off_12 rfl rfl ⟨rfl, rfl⟩
abbrev q12_lastOff (n : Nat) (kd : zMK) (I : zMI) (R : zMR) (r : Int32) : Option Value → zM → Prop := fun v μ1 => v = some (.int r) ∧ μ1 = (n, kd, I, R)
set_option maxHeartbeats 4000000 in
set_option maxRecDepth 100000 in
theorem e12_lastOff_L4 {w : zW} {d : Nat} {n : Nat} {kd : zMK} {I : zMI} {R : zMR} {r : Int32}  (hw : zst w = zSt0) (hS : zSh n kd) (hd : 2 ≤ d)   : ∀ (q : Nat) (l1 : Int32) (l2 : Int32) , f12_lastOff_L4 I q l1 l2 = some r → EV w d 0 0 Y12_lastOff 4 [some (.ref 81), some (.int l1), some (.int l2), none] [] (n, kd, I, R) (q12_lastOff n kd I R r) := by
  intro q
  induction q with
  | zero =>
    intro l1 l2 h
    cases h
  | succ q ih =>
    intro l1 l2 h
    unfold f12_lastOff_L4 at h
    refine ev_iload_n dX12_lastOff_4 rfl rfl ?_
    refine ev_bipush dX12_lastOff_5 (v := (40 : Int32)) zcb_40 ?_
    refine ev_icmp_ge dX12_lastOff_7 (tgt := 33) (by decide) (fun c1 => ?_) (fun c1 => ?_)
    · replace h := zit c1 h
      refine ev_iload_n dX12_lastOff_33 rfl rfl ?_
      obtain rfl := Option.some.inj h
      exact ev_end_i dX12_lastOff_34 rfl rfl ⟨rfl, rfl⟩
    · replace h := zif c1 h
      refine ev_aload_n dX12_lastOff_10 rfl rfl ?_
      refine ev_iload_n dX12_lastOff_11 rfl rfl ?_
      obtain ⟨p2, e3, h⟩ := zbd h
      refine ev_callV0 dX12_lastOff_12 zm12_offNumber zl_NineHeapsModel_269 zi12_offNumber zv12_offNumber (zrcM hS) (As := [.int l2]) (rest := []) rfl rfl (Nat.le_of_ble_eq_true rfl) rfl (Nat.le_of_ble_eq_true rfl) (d' := 1) (by omega) (e12_offNumber hw hS (Nat.le_refl _) e3) (fun v μ1 q => ?_)
      obtain ⟨rfl, rfl⟩ := q
      refine ev_istore_n dX12_lastOff_15 rfl (by decide) rfl ?_
      refine ev_iload_n dX12_lastOff_16 rfl rfl ?_
      refine ev_iconst dX12_lastOff_17 (v := (-1 : Int32)) zci_m1 ?_
      obtain ⟨x5, e6, h⟩ := zld h
      have k7 : EV w d 0 0 Y12_lastOff 26 [some (.ref 81), some (.int l1), some (.int l2), some (.int p2)] [.int x5] (n, kd, I, R) (q12_lastOff n kd I R r) := by
        refine ev_istore_n dX12_lastOff_26 rfl (by decide) rfl ?_
        refine ev_iinc dX12_lastOff_27 (v := l2 + (1 : Int32)) rfl rfl (by decide) rfl ?_
        refine ev_goto dX12_lastOff_30 (tgt := 4) (by decide) ?_
        exact EV.mask [true, true, true, false] rfl (ih x5 (l2 + (1 : Int32)) h)
      clear h
      have h := e6
      clear e6
      refine ev_icmp_ne dX12_lastOff_18 (tgt := 25) (by decide) (fun c4 => ?_) (fun c4 => ?_)
      · replace h := zif c4 h
        refine ev_iload_n dX12_lastOff_25 rfl rfl ?_
        obtain rfl := h
        exact k7
      · replace h := zit c4 h
        refine ev_iload_n dX12_lastOff_21 rfl rfl ?_
        refine ev_goto dX12_lastOff_22 (tgt := 26) (by decide) ?_
        obtain rfl := h
        exact k7
set_option maxHeartbeats 4000000 in
set_option maxRecDepth 100000 in
theorem e12_lastOff {w : zW} {d : Nat} {n : Nat} {kd : zMK} {I : zMI} {R : zMR} {r : Int32}  (hw : zst w = zSt0) (hS : zSh n kd) (hd : 2 ≤ d)  (h : f12_lastOff I = some r) : EV w d 0 0 Y12_lastOff 0 [some (.ref 81), none, none, none] [] (n, kd, I, R) (q12_lastOff n kd I R r) := by
  unfold f12_lastOff at h
  refine ev_iconst dX12_lastOff_0 (v := (-1 : Int32)) zci_m1 ?_
  refine ev_istore_n dX12_lastOff_1 rfl (by decide) rfl ?_
  refine ev_iconst dX12_lastOff_2 (v := (0 : Int32)) zci_0 ?_
  refine ev_istore_n dX12_lastOff_3 rfl (by decide) rfl ?_
  exact EV.mask [true, true, true, false] rfl (e12_lastOff_L4 hw hS hd zF (-1 : Int32) (0 : Int32) h)
abbrev q12_find (n : Nat) (kd : zMK) (R : zMR) (r : Int32 × zMI) : Option Value → zM → Prop := fun v μ1 => v = some (.int r.1) ∧ μ1 = (n, kd, r.2, R)
set_option maxHeartbeats 4000000 in
set_option maxRecDepth 100000 in
theorem e12_find {w : zW} {d : Nat} {n : Nat} {kd : zMK} {I : zMI} {R : zMR} {r : Int32 × zMI} {l1 : Int32} {l2 : Int32} (hw : zst w = zSt0) (hS : zSh n kd) (hd : 9 ≤ d)  (h : f12_find l1 l2 I = some r) : EV w d 0 0 Y12_find 0 [some (.ref 81), some (.int l1), some (.int l2), none] [] (n, kd, I, R) (q12_find n kd R r) := by
  unfold f12_find at h
  refine ev_iload_n dX12_find_0 rfl rfl ?_
  obtain ⟨p1, e2, h⟩ := zbd h
  refine ev_callS0 dX12_find_1 zm12_areSeconds zl_NineHeapsModel_257 zs12_areSeconds (As := [.int l1]) (rest := []) rfl rfl (Nat.le_of_ble_eq_true rfl) rfl (Nat.le_of_ble_eq_true rfl) (d' := 2) (by omega) (e12_areSeconds hw hS (Nat.le_refl _) e2) (fun v μ1 q => ?_)
  obtain ⟨rfl, rfl⟩ := q
  refine ev_if_eq dX12_find_4 (tgt := 16) (by decide) (fun c3 => ?_) (fun c3 => ?_)
  · replace h := zit c3 h
    refine ev_bipush dX12_find_16 (v := (-2 : Int32)) zcb_m2 ?_
    obtain rfl := Option.some.inj h
    exact ev_end_i dX12_find_18 rfl rfl ⟨rfl, rfl⟩
  · replace h := zif c3 h
    refine ev_iload_n dX12_find_7 rfl rfl ?_
    refine ev_iconst dX12_find_8 (v := (0 : Int32)) zci_0 ?_
    refine ev_iconst dX12_find_9 (v := (1 : Int32)) zci_1 ?_
    obtain ⟨p4, e5, h⟩ := zbd h
    refine ev_callS0 dX12_find_10 zm12_in zl_NineHeapsModel_120 zs12_in (As := [.int l2, .int (0 : Int32), .int (1 : Int32)]) (rest := []) rfl rfl (Nat.le_of_ble_eq_true rfl) rfl (Nat.le_of_ble_eq_true rfl) (d' := 1) (by omega) (e12_in hw hS (Nat.le_refl _) e5) (fun v μ1 q => ?_)
    obtain ⟨rfl, rfl⟩ := q
    refine ev_if_ne dX12_find_13 (tgt := 19) (by decide) (fun c6 => ?_) (fun c6 => ?_)
    · replace h := zif c6 h
      refine ev_aload_n dX12_find_19 rfl rfl ?_
      refine ev_iload_n dX12_find_20 rfl rfl ?_
      obtain ⟨p7, e8, h⟩ := zbd h
      refine ev_callV0 dX12_find_21 zm12_goesPlain zl_NineHeapsModel_260 zi12_goesPlain zv12_goesPlain (zrcM hS) (As := [.int l1]) (rest := []) rfl rfl (Nat.le_of_ble_eq_true rfl) rfl (Nat.le_of_ble_eq_true rfl) (d' := 8) (by omega) (e12_goesPlain hw hS (Nat.le_refl _) e8) (fun v μ1 q => ?_)
      obtain ⟨rfl, rfl⟩ := q
      refine ev_aload_n dX12_find_24 rfl rfl ?_
      refine ev_iconst dX12_find_25 (v := (0 : Int32)) zci_0 ?_
      obtain ⟨p9, e10, h⟩ := zbd h
      refine ev_callV0 dX12_find_26 zm12_offNumber zl_NineHeapsModel_269 zi12_offNumber zv12_offNumber (zrcM hS) (As := [.int (0 : Int32)]) (rest := []) rfl rfl (Nat.le_of_ble_eq_true rfl) rfl (Nat.le_of_ble_eq_true rfl) (d' := 1) (by omega) (e12_offNumber hw hS (Nat.le_refl _) e10) (fun v μ1 q => ?_)
      obtain ⟨rfl, rfl⟩ := q
      refine ev_istore_n dX12_find_29 rfl (by decide) rfl ?_
      refine ev_iload_n dX12_find_30 rfl rfl ?_
      refine ev_iconst dX12_find_31 (v := (-1 : Int32)) zci_m1 ?_
      refine ev_icmp_ne dX12_find_32 (tgt := 39) (by decide) (fun c11 => ?_) (fun c11 => ?_)
      · replace h := zif c11 h
        refine ev_iload_n dX12_find_39 rfl rfl ?_
        refine ev_if_ne dX12_find_40 (tgt := 52) (by decide) (fun c12 => ?_) (fun c12 => ?_)
        · replace h := zif c12 h
          refine ev_aload_n dX12_find_52 rfl rfl ?_
          obtain ⟨p13, e14, h⟩ := zbd h
          refine ev_callV0 dX12_find_53 zm12_lastOff zl_NineHeapsModel_272 zi12_lastOff zv12_lastOff (zrcM hS) (As := []) (rest := []) rfl rfl (Nat.le_of_ble_eq_true rfl) rfl (Nat.le_of_ble_eq_true rfl) (d' := 2) (by omega) (e12_lastOff hw hS (Nat.le_refl _) e14) (fun v μ1 q => ?_)
          obtain ⟨rfl, rfl⟩ := q
          refine ev_iconst dX12_find_56 (v := (1 : Int32)) zci_1 ?_
          refine ev_iadd dX12_find_57 rfl ?_
          obtain rfl := Option.some.inj h
          exact ev_end_i dX12_find_58 rfl rfl ⟨rfl, rfl⟩
        · replace h := zit c12 h
          refine ev_aload_n dX12_find_43 rfl rfl ?_
          refine em_getI dX12_find_44 zf_NineHeapsModel_213 rfl (hS.has 81 (by decide) (by decide) rfl) rfl ?_
          refine ev_iload_n dX12_find_47 rfl rfl ?_
          refine ev_isub dX12_find_48 rfl ?_
          refine ev_goto dX12_find_49 (tgt := 58) (by decide) ?_
          obtain rfl := Option.some.inj h
          exact ev_end_i dX12_find_58 rfl rfl ⟨rfl, rfl⟩
      · replace h := zit c11 h
        refine ev_iconst dX12_find_35 (v := (0 : Int32)) zci_0 ?_
        refine ev_goto dX12_find_36 (tgt := 58) (by decide) ?_
        obtain rfl := Option.some.inj h
        exact ev_end_i dX12_find_58 rfl rfl ⟨rfl, rfl⟩
    · replace h := zit c6 h
      refine ev_bipush dX12_find_16 (v := (-2 : Int32)) zcb_m2 ?_
      obtain rfl := Option.some.inj h
      exact ev_end_i dX12_find_18 rfl rfl ⟨rfl, rfl⟩
abbrev q12_tells (n : Nat) (kd : zMK) (R : zMR) (r : Int32 × zMI) : Option Value → zM → Prop := fun v μ1 => v = some (.int r.1) ∧ μ1 = (n, kd, r.2, R)
set_option maxHeartbeats 4000000 in
set_option maxRecDepth 100000 in
theorem e12_tells_L20 {w : zW} {d : Nat} {n : Nat} {kd : zMK} {R : zMR} {r : Int32 × zMI} {k73 : Int32 → zMI → Option (Int32 × zMI)} (hw : zst w = zSt0) (hS : zSh n kd) (hd : 2 ≤ d)  (hk73 : ∀ (l3 : Int32) (I : zMI), k73 l3 I = some r → EV w d 0 0 Y12_tells 73 [some (.ref 81), none, none, some (.int l3), none] [] (n, kd, I, R) (q12_tells n kd R r)) : ∀ (q : Nat) (l2 : Int32) (l3 : Int32) (l4 : Int32) (I : zMI), f12_tells_L20 k73 q l2 l3 l4 I = some r → EV w d 0 0 Y12_tells 20 [some (.ref 81), none, some (.int l2), some (.int l3), some (.int l4)] [] (n, kd, I, R) (q12_tells n kd R r) := by
  intro q
  induction q with
  | zero =>
    intro l2 l3 l4 I h
    cases h
  | succ q ih =>
    intro l2 l3 l4 I h
    unfold f12_tells_L20 at h
    refine ev_iload dX12_tells_20 rfl ?_
    refine ev_if_lt dX12_tells_22 (tgt := 73) (by decide) (fun c1 => ?_) (fun c1 => ?_)
    · replace h := zit c1 h
      exact EV.mask [true, false, false, true, false] rfl (hk73 l3 I h)
    · replace h := zif c1 h
      refine ev_aload_n dX12_tells_25 rfl rfl ?_
      refine em_getA dX12_tells_26 zf_NineHeapsModel_65 rfl (hS.has 81 (by decide) (by decide) rfl) hw rfl ?_
      refine ev_iload dX12_tells_29 rfl ?_
      refine ev_iload_n dX12_tells_31 rfl rfl ?_
      refine ev_aload_n dX12_tells_32 rfl rfl ?_
      refine em_getI dX12_tells_33 zf_NineHeapsModel_117 rfl (hS.has 81 (by decide) (by decide) rfl) rfl ?_
      refine ev_iconst dX12_tells_36 (v := (1 : Int32)) zci_1 ?_
      refine ev_iconst dX12_tells_37 (v := (5 : Int32)) zci_5 ?_
      obtain ⟨p2, e3, h⟩ := zbd h
      refine ev_callS0 dX12_tells_38 zm12_within zl_NineHeapsModel_200 zs12_within (As := [.int (I 81 3), .int (1 : Int32), .int (5 : Int32)]) (rest := [.int l2, .int l4, .ref 99]) rfl rfl (Nat.le_of_ble_eq_true rfl) rfl (Nat.le_of_ble_eq_true rfl) (d' := 1) (by omega) (e12_within hw hS (Nat.le_refl _) e3) (fun v μ1 q => ?_)
      obtain ⟨rfl, rfl⟩ := q
      obtain ⟨g4, h⟩ := zgd h
      refine ev_irem dX12_tells_41 g4 rfl ?_
      obtain ⟨g5, h⟩ := zgd h
      obtain ⟨J6, e7, h⟩ := zld h
      refine em_iast dX12_tells_42 hS (by decide) (by decide) (N := 5) rfl g5 e7 ?_
      refine ev_iload_n dX12_tells_43 rfl rfl ?_
      refine ev_aload_n dX12_tells_44 rfl rfl ?_
      refine em_getI dX12_tells_45 zf_NineHeapsModel_117 rfl (hS.has 81 (by decide) (by decide) rfl) rfl ?_
      refine ev_iconst dX12_tells_48 (v := (1 : Int32)) zci_1 ?_
      refine ev_iconst dX12_tells_49 (v := (5 : Int32)) zci_5 ?_
      obtain ⟨p8, e9, h⟩ := zbd h
      refine ev_callS0 dX12_tells_50 zm12_within zl_NineHeapsModel_200 zs12_within (As := [.int (J6 81 3), .int (1 : Int32), .int (5 : Int32)]) (rest := [.int l2]) rfl rfl (Nat.le_of_ble_eq_true rfl) rfl (Nat.le_of_ble_eq_true rfl) (d' := 1) (by omega) (e12_within hw hS (Nat.le_refl _) e9) (fun v μ1 q => ?_)
      obtain ⟨rfl, rfl⟩ := q
      obtain ⟨g10, h⟩ := zgd h
      refine ev_idiv dX12_tells_53 g10 rfl ?_
      refine ev_istore_n dX12_tells_54 rfl (by decide) rfl ?_
      refine ev_iload_n dX12_tells_55 rfl rfl ?_
      refine ev_iconst dX12_tells_56 (v := (1 : Int32)) zci_1 ?_
      refine ev_aload_n dX12_tells_57 rfl rfl ?_
      refine em_getA dX12_tells_58 zf_NineHeapsModel_65 rfl (hS.has 81 (by decide) (by decide) rfl) hw rfl ?_
      refine ev_iload dX12_tells_61 rfl ?_
      refine em_iald dX12_tells_63 hS (by decide) (by decide) (N := 5) rfl g5 rfl ?_
      refine ev_ishl dX12_tells_64 rfl ?_
      refine ev_ior dX12_tells_65 rfl ?_
      obtain ⟨x11, e12, h⟩ := zld h
      refine ev_nm e12 ?_
      refine ev_istore_n dX12_tells_66 rfl (by decide) rfl ?_
      refine ev_iinc dX12_tells_67 (v := l4 + (-1 : Int32)) rfl rfl (by decide) rfl ?_
      refine ev_goto dX12_tells_70 (tgt := 20) (by decide) ?_
      exact EV.mask [true, false, true, true, true] rfl (ih (l2 / p8) x11 (l4 + (-1 : Int32)) J6 h)
set_option maxHeartbeats 4000000 in
set_option maxRecDepth 100000 in
theorem e12_tells_B73 {w : zW} {d : Nat} {n : Nat} {kd : zMK} {R : zMR} {r : Int32 × zMI}  (hw : zst w = zSt0) (hS : zSh n kd) (hd : 2 ≤ d)   : ∀ (l3 : Int32) (I : zMI), f12_tells_B73 l3 I = some r → EV w d 0 0 Y12_tells 73 [some (.ref 81), none, none, some (.int l3), none] [] (n, kd, I, R) (q12_tells n kd R r) := by
  intro l3 I h
  unfold f12_tells_B73 at h
  refine ev_iload_n dX12_tells_73 rfl rfl ?_
  refine ev_iconst dX12_tells_74 (v := (1 : Int32)) zci_1 ?_
  refine ev_aload_n dX12_tells_75 rfl rfl ?_
  refine em_getI dX12_tells_76 zf_NineHeapsModel_117 rfl (hS.has 81 (by decide) (by decide) rfl) rfl ?_
  refine ev_ishl dX12_tells_79 rfl ?_
  refine ev_iconst dX12_tells_80 (v := (1 : Int32)) zci_1 ?_
  refine ev_isub dX12_tells_81 rfl ?_
  obtain ⟨x14, e15, h⟩ := zld h
  have k17 : EV w d 0 0 Y12_tells 90 [some (.ref 81), none, none, some (.int l3), none] [.int x14] (n, kd, I, R) (q12_tells n kd R r) := by
    obtain ⟨g16, h⟩ := zgd h
    obtain rfl := Option.some.inj h
    exact ev_end_i dX12_tells_90 rfl (zbB_n g16) ⟨rfl, rfl⟩
  clear h
  have h := e15
  clear e15
  refine ev_icmp_ne dX12_tells_82 (tgt := 89) (by decide) (fun c13 => ?_) (fun c13 => ?_)
  · replace h := zif c13 h
    refine ev_iconst dX12_tells_89 (v := (0 : Int32)) zci_0 ?_
    obtain rfl := h
    exact k17
  · replace h := zit c13 h
    refine ev_iconst dX12_tells_85 (v := (1 : Int32)) zci_1 ?_
    refine ev_goto dX12_tells_86 (tgt := 90) (by decide) ?_
    obtain rfl := h
    exact k17
set_option maxHeartbeats 4000000 in
set_option maxRecDepth 100000 in
theorem e12_tells {w : zW} {d : Nat} {n : Nat} {kd : zMK} {I : zMI} {R : zMR} {r : Int32 × zMI} {l1 : Int32} (hw : zst w = zSt0) (hS : zSh n kd) (hd : 2 ≤ d)  (h : f12_tells l1 I = some r) : EV w d 0 0 Y12_tells 0 [some (.ref 81), some (.int l1), none, none, none] [] (n, kd, I, R) (q12_tells n kd R r) := by
  unfold f12_tells at h
  refine ev_iload_n dX12_tells_0 rfl rfl ?_
  refine ev_istore_n dX12_tells_1 rfl (by decide) rfl ?_
  refine ev_iconst dX12_tells_2 (v := (0 : Int32)) zci_0 ?_
  refine ev_istore_n dX12_tells_3 rfl (by decide) rfl ?_
  refine ev_aload_n dX12_tells_4 rfl rfl ?_
  refine ev_aload_n dX12_tells_5 rfl rfl ?_
  refine em_getI dX12_tells_6 zf_NineHeapsModel_117 rfl (hS.has 81 (by decide) (by decide) rfl) rfl ?_
  obtain ⟨J18, e19, h⟩ := zld h
  refine em_putI dX12_tells_9 zf_NineHeapsModel_219 (Or.inl rfl) rfl rfl rfl (hS.has 81 (by decide) (by decide) rfl) e19 ?_
  refine ev_aload_n dX12_tells_12 rfl rfl ?_
  refine em_getI dX12_tells_13 zf_NineHeapsModel_117 rfl (hS.has 81 (by decide) (by decide) rfl) rfl ?_
  refine ev_iconst dX12_tells_16 (v := (1 : Int32)) zci_1 ?_
  refine ev_isub dX12_tells_17 rfl ?_
  obtain ⟨x20, e21, h⟩ := zld h
  refine ev_nm e21 ?_
  refine ev_istore dX12_tells_18 (by decide) rfl ?_
  exact EV.mask [true, false, true, true, true] rfl (e12_tells_L20 hw hS hd (fun l3' I' h' => e12_tells_B73 hw hS hd l3' I' h') zF l1 (0 : Int32) x20 J18 h)
abbrev q12_powerOf (n : Nat) (kd : zMK) (I : zMI) (R : zMR) (r : Int32) : Option Value → zM → Prop := fun v μ1 => v = some (.int r) ∧ μ1 = (n, kd, I, R)
set_option maxHeartbeats 4000000 in
set_option maxRecDepth 100000 in
theorem e12_powerOf_L4 {w : zW} {d : Nat} {n : Nat} {kd : zMK} {I : zMI} {R : zMR} {r : Int32}  (hw : zst w = zSt0) (hS : zSh n kd) (hd : 1 ≤ d)   : ∀ (q : Nat) (l1 : Int32) (l2 : Int32) (l3 : Int32) , f12_powerOf_L4  q l1 l2 l3 = some r → EV w d 0 0 Y12_powerOf 4 [none, some (.int l1), some (.int l2), some (.int l3)] [] (n, kd, I, R) (q12_powerOf n kd I R r) := by
  intro q
  induction q with
  | zero =>
    intro l1 l2 l3 h
    cases h
  | succ q ih =>
    intro l1 l2 l3 h
    unfold f12_powerOf_L4 at h
    refine ev_iload_n dX12_powerOf_4 rfl rfl ?_
    refine ev_iload_n dX12_powerOf_5 rfl rfl ?_
    refine ev_icmp_ge dX12_powerOf_6 (tgt := 19) (by decide) (fun c1 => ?_) (fun c1 => ?_)
    · replace h := zit c1 h
      refine ev_iload_n dX12_powerOf_19 rfl rfl ?_
      obtain rfl := Option.some.inj h
      exact ev_end_i dX12_powerOf_20 rfl rfl ⟨rfl, rfl⟩
    · replace h := zif c1 h
      refine ev_iload_n dX12_powerOf_9 rfl rfl ?_
      refine ev_iload_n dX12_powerOf_10 rfl rfl ?_
      refine ev_imul dX12_powerOf_11 rfl ?_
      refine ev_istore_n dX12_powerOf_12 rfl (by decide) rfl ?_
      refine ev_iinc dX12_powerOf_13 (v := l3 + (1 : Int32)) rfl rfl (by decide) rfl ?_
      refine ev_goto dX12_powerOf_16 (tgt := 4) (by decide) ?_
      exact EV.mask [false, true, true, true] rfl (ih l1 (l2 * l1) (l3 + (1 : Int32)) h)
set_option maxHeartbeats 4000000 in
set_option maxRecDepth 100000 in
theorem e12_powerOf {w : zW} {d : Nat} {n : Nat} {kd : zMK} {I : zMI} {R : zMR} {r : Int32} {l1 : Int32} (hw : zst w = zSt0) (hS : zSh n kd) (hd : 1 ≤ d)  (h : f12_powerOf l1 = some r) : EV w d 0 0 Y12_powerOf 0 [some (.ref 81), some (.int l1), none, none] [] (n, kd, I, R) (q12_powerOf n kd I R r) := by
  unfold f12_powerOf at h
  refine ev_iconst dX12_powerOf_0 (v := (1 : Int32)) zci_1 ?_
  refine ev_istore_n dX12_powerOf_1 rfl (by decide) rfl ?_
  refine ev_iconst dX12_powerOf_2 (v := (0 : Int32)) zci_0 ?_
  refine ev_istore_n dX12_powerOf_3 rfl (by decide) rfl ?_
  exact EV.mask [false, true, true, true] rfl (e12_powerOf_L4 hw hS hd zF l1 (1 : Int32) (0 : Int32) h)
abbrev q12_digitsNow (n : Nat) (kd : zMK) (I : zMI) (R : zMR) (r : Int32) : Option Value → zM → Prop := fun v μ1 => v = some (.int r) ∧ μ1 = (n, kd, I, R)
set_option maxHeartbeats 4000000 in
set_option maxRecDepth 100000 in
theorem e12_digitsNow_L4 {w : zW} {d : Nat} {n : Nat} {kd : zMK} {I : zMI} {R : zMR} {r : Int32}  (hw : zst w = zSt0) (hS : zSh n kd) (hd : 1 ≤ d)   : ∀ (q : Nat) (l1 : Int32) (l2 : Int32) , f12_digitsNow_L4 I q l1 l2 = some r → EV w d 0 0 Y12_digitsNow 4 [some (.ref 81), some (.int l1), some (.int l2)] [] (n, kd, I, R) (q12_digitsNow n kd I R r) := by
  intro q
  induction q with
  | zero =>
    intro l1 l2 h
    cases h
  | succ q ih =>
    intro l1 l2 h
    unfold f12_digitsNow_L4 at h
    refine ev_iload_n dX12_digitsNow_4 rfl rfl ?_
    refine ev_aload_n dX12_digitsNow_5 rfl rfl ?_
    refine em_getI dX12_digitsNow_6 zf_NineHeapsModel_219 rfl (hS.has 81 (by decide) (by decide) rfl) rfl ?_
    refine ev_icmp_ge dX12_digitsNow_9 (tgt := 32) (by decide) (fun c1 => ?_) (fun c1 => ?_)
    · replace h := zit c1 h
      refine ev_iload_n dX12_digitsNow_32 rfl rfl ?_
      obtain rfl := Option.some.inj h
      exact ev_end_i dX12_digitsNow_33 rfl rfl ⟨rfl, rfl⟩
    · replace h := zif c1 h
      refine ev_bipush dX12_digitsNow_12 (v := (10 : Int32)) zcb_10 ?_
      refine ev_iload_n dX12_digitsNow_14 rfl rfl ?_
      refine ev_imul dX12_digitsNow_15 rfl ?_
      refine ev_aload_n dX12_digitsNow_16 rfl rfl ?_
      refine em_getA dX12_digitsNow_17 zf_NineHeapsModel_65 rfl (hS.has 81 (by decide) (by decide) rfl) hw rfl ?_
      refine ev_iload_n dX12_digitsNow_20 rfl rfl ?_
      obtain ⟨g2, h⟩ := zgd h
      refine em_iald dX12_digitsNow_21 hS (by decide) (by decide) (N := 5) rfl g2 rfl ?_
      refine ev_iadd dX12_digitsNow_22 rfl ?_
      refine ev_iconst dX12_digitsNow_23 (v := (1 : Int32)) zci_1 ?_
      refine ev_iadd dX12_digitsNow_24 rfl ?_
      obtain ⟨x3, e4, h⟩ := zld h
      refine ev_nm e4 ?_
      refine ev_istore_n dX12_digitsNow_25 rfl (by decide) rfl ?_
      refine ev_iinc dX12_digitsNow_26 (v := l2 + (1 : Int32)) rfl rfl (by decide) rfl ?_
      refine ev_goto dX12_digitsNow_29 (tgt := 4) (by decide) ?_
      exact EV.mask [true, true, true] rfl (ih x3 (l2 + (1 : Int32)) h)
set_option maxHeartbeats 4000000 in
set_option maxRecDepth 100000 in
theorem e12_digitsNow {w : zW} {d : Nat} {n : Nat} {kd : zMK} {I : zMI} {R : zMR} {r : Int32}  (hw : zst w = zSt0) (hS : zSh n kd) (hd : 1 ≤ d)  (h : f12_digitsNow I = some r) : EV w d 0 0 Y12_digitsNow 0 [some (.ref 81), none, none] [] (n, kd, I, R) (q12_digitsNow n kd I R r) := by
  unfold f12_digitsNow at h
  refine ev_iconst dX12_digitsNow_0 (v := (0 : Int32)) zci_0 ?_
  refine ev_istore_n dX12_digitsNow_1 rfl (by decide) rfl ?_
  refine ev_iconst dX12_digitsNow_2 (v := (0 : Int32)) zci_0 ?_
  refine ev_istore_n dX12_digitsNow_3 rfl (by decide) rfl ?_
  exact EV.mask [true, true, true] rfl (e12_digitsNow_L4 hw hS hd zF (0 : Int32) (0 : Int32) h)
abbrev q12_best (n : Nat) (kd : zMK) (R : zMR) (r : Int32 × zMI) : Option Value → zM → Prop := fun v μ1 => v = some (.int r.1) ∧ μ1 = (n, kd, r.2, R)
set_option maxHeartbeats 4000000 in
set_option maxRecDepth 100000 in
theorem e12_best_B152 {w : zW} {d : Nat} {n : Nat} {kd : zMK} {R : zMR} {r : Int32 × zMI} {k25 : Int32 → Int32 → Int32 → Int32 → Int32 → Int32 → zMI → Option (Int32 × zMI)} (hw : zst w = zSt0) (hS : zSh n kd) (hd : 8 ≤ d)  (hk25 : ∀ (l1 : Int32) (l2 : Int32) (l3 : Int32) (l4 : Int32) (l5 : Int32) (l6 : Int32) (I : zMI), k25 l1 l2 l3 l4 l5 l6 I = some r → EV w d 0 0 Y12_best 25 [some (.ref 81), some (.int l1), some (.int l2), some (.int l3), some (.int l4), some (.int l5), some (.int l6), none, none] [] (n, kd, I, R) (q12_best n kd R r)) : ∀ (l1 : Int32) (l2 : Int32) (l3 : Int32) (l4 : Int32) (l5 : Int32) (l6 : Int32) (I : zMI), f12_best_B152 k25 l1 l2 l3 l4 l5 l6 I = some r → EV w d 0 0 Y12_best 152 [some (.ref 81), some (.int l1), some (.int l2), some (.int l3), some (.int l4), some (.int l5), some (.int l6), none, none] [] (n, kd, I, R) (q12_best n kd R r) := by
  intro l1 l2 l3 l4 l5 l6 I h
  unfold f12_best_B152 at h
  refine ev_iinc dX12_best_152 (v := l6 + (1 : Int32)) rfl rfl (by decide) rfl ?_
  refine ev_goto dX12_best_155 (tgt := 25) (by decide) ?_
  exact EV.mask [true, true, true, true, true, true, true, false, false] rfl (hk25 l1 l2 l3 l4 l5 (l6 + (1 : Int32)) I h)
set_option maxHeartbeats 4000000 in
set_option maxRecDepth 100000 in
theorem e12_best_B148 {w : zW} {d : Nat} {n : Nat} {kd : zMK} {R : zMR} {r : Int32 × zMI} {k25 : Int32 → Int32 → Int32 → Int32 → Int32 → Int32 → zMI → Option (Int32 × zMI)} (hw : zst w = zSt0) (hS : zSh n kd) (hd : 8 ≤ d)  (hk25 : ∀ (l1 : Int32) (l2 : Int32) (l3 : Int32) (l4 : Int32) (l5 : Int32) (l6 : Int32) (I : zMI), k25 l1 l2 l3 l4 l5 l6 I = some r → EV w d 0 0 Y12_best 25 [some (.ref 81), some (.int l1), some (.int l2), some (.int l3), some (.int l4), some (.int l5), some (.int l6), none, none] [] (n, kd, I, R) (q12_best n kd R r)) : ∀ (l1 : Int32) (l3 : Int32) (l4 : Int32) (l6 : Int32) (s0 : Int32) (I : zMI), f12_best_B148 k25 l1 l3 l4 l6 s0 I = some r → EV w d 0 0 Y12_best 148 [some (.ref 81), some (.int l1), none, some (.int l3), some (.int l4), none, some (.int l6), none, none] [.int s0] (n, kd, I, R) (q12_best n kd R r) := by
  intro l1 l3 l4 l6 s0 I h
  unfold f12_best_B148 at h
  refine ev_istore dX12_best_148 (by decide) rfl ?_
  refine ev_iconst dX12_best_150 (v := (1 : Int32)) zci_1 ?_
  refine ev_istore_n dX12_best_151 rfl (by decide) rfl ?_
  exact EV.mask [true, true, true, true, true, true, true, false, false] rfl (e12_best_B152 hw hS hd hk25 l1 (1 : Int32) l3 l4 s0 l6 I h)
set_option maxHeartbeats 4000000 in
set_option maxRecDepth 100000 in
theorem e12_best_L25 {w : zW} {d : Nat} {n : Nat} {kd : zMK} {R : zMR} {r : Int32 × zMI} {k158 : Int32 → Int32 → Int32 → Int32 → zMI → Option (Int32 × zMI)} (hw : zst w = zSt0) (hS : zSh n kd) (hd : 8 ≤ d)  (hk158 : ∀ (l1 : Int32) (l3 : Int32) (l4 : Int32) (l5 : Int32) (I : zMI), k158 l1 l3 l4 l5 I = some r → EV w d 0 0 Y12_best 158 [none, some (.int l1), none, some (.int l3), some (.int l4), some (.int l5), none, none, none] [] (n, kd, I, R) (q12_best n kd R r)) : ∀ (q : Nat) (l1 : Int32) (l2 : Int32) (l3 : Int32) (l4 : Int32) (l5 : Int32) (l6 : Int32) (I : zMI), f12_best_L25 k158 q l1 l2 l3 l4 l5 l6 I = some r → EV w d 0 0 Y12_best 25 [some (.ref 81), some (.int l1), some (.int l2), some (.int l3), some (.int l4), some (.int l5), some (.int l6), none, none] [] (n, kd, I, R) (q12_best n kd R r) := by
  intro q
  induction q with
  | zero =>
    intro l1 l2 l3 l4 l5 l6 I h
    cases h
  | succ q ih =>
    intro l1 l2 l3 l4 l5 l6 I h
    unfold f12_best_L25 at h
    refine ev_iload dX12_best_25 rfl ?_
    refine ev_aload_n dX12_best_27 rfl rfl ?_
    refine ev_aload_n dX12_best_28 rfl rfl ?_
    refine em_getI dX12_best_29 zf_NineHeapsModel_117 rfl (hS.has 81 (by decide) (by decide) rfl) rfl ?_
    obtain ⟨p1, e2, h⟩ := zbd h
    refine ev_callV0 dX12_best_32 zm12_powerOf zl_NineHeapsModel_275 zi12_powerOf zv12_powerOf (zrcM hS) (As := [.int (I 81 3)]) (rest := [.int l6]) rfl rfl (Nat.le_of_ble_eq_true rfl) rfl (Nat.le_of_ble_eq_true rfl) (d' := 1) (by omega) (e12_powerOf hw hS (Nat.le_refl _) e2) (fun v μ1 q => ?_)
    obtain ⟨rfl, rfl⟩ := q
    refine ev_icmp_ge dX12_best_35 (tgt := 158) (by decide) (fun c3 => ?_) (fun c3 => ?_)
    · replace h := zit c3 h
      exact EV.mask [false, true, false, true, true, true, false, false, false] rfl (hk158 l1 l3 l4 l5 I h)
    · replace h := zif c3 h
      refine ev_aload_n dX12_best_38 rfl rfl ?_
      refine ev_iload dX12_best_39 rfl ?_
      obtain ⟨p4, e5, h⟩ := zbd h
      refine ev_callV0 dX12_best_41 zm12_tells zl_NineHeapsModel_278 zi12_tells zv12_tells (zrcM hS) (As := [.int l6]) (rest := []) rfl rfl (Nat.le_of_ble_eq_true rfl) rfl (Nat.le_of_ble_eq_true rfl) (d' := 2) (by omega) (e12_tells hw hS (Nat.le_refl _) e5) (fun v μ1 q => ?_)
      obtain ⟨rfl, rfl⟩ := q
      refine ev_if_eq dX12_best_44 (tgt := 152) (by decide) (fun c6 => ?_) (fun c6 => ?_)
      · replace h := zit c6 h
        exact EV.mask [true, true, true, true, true, true, true, false, false] rfl (e12_best_B152 hw hS hd (fun l1' l2' l3' l4' l5' l6' I' h' => ih l1' l2' l3' l4' l5' l6' I' h') l1 l2 l3 l4 l5 l6 p4.2 h)
      · replace h := zif c6 h
        refine ev_aload_n dX12_best_47 rfl rfl ?_
        refine ev_sipush dX12_best_48 (v := (600 : Int32)) zcs_600 ?_
        obtain ⟨p7, e8, h⟩ := zbd h
        refine ev_callV0 dX12_best_51 zm12_goesFor zl_NineHeapsModel_254 zi12_goesFor zv12_goesFor (zrcM hS) (As := [.int (600 : Int32)]) (rest := []) rfl rfl (Nat.le_of_ble_eq_true rfl) rfl (Nat.le_of_ble_eq_true rfl) (d' := 7) (by omega) (e12_goesFor hw hS (Nat.le_refl _) e8) (fun v μ1 q => ?_)
        obtain ⟨rfl, rfl⟩ := q
        refine ev_aload_n dX12_best_54 rfl rfl ?_
        refine em_getI dX12_best_55 zf_NineHeapsModel_216 rfl (hS.has 81 (by decide) (by decide) rfl) rfl ?_
        refine ev_iconst dX12_best_58 (v := (-1 : Int32)) zci_m1 ?_
        obtain ⟨x10, e11, h⟩ := zld h
        have k30 : EV w d 0 0 Y12_best 72 [some (.ref 81), some (.int l1), some (.int l2), some (.int l3), some (.int l4), some (.int l5), some (.int l6), none, none] [.int x10] (n, kd, p7, R) (q12_best n kd R r) := by
          refine ev_istore dX12_best_72 (by decide) rfl ?_
          refine ev_iload_n dX12_best_74 rfl rfl ?_
          obtain ⟨x16, e17, h⟩ := zld h
          have k29 : EV w d 0 0 Y12_best 104 [some (.ref 81), some (.int l1), some (.int l2), some (.int l3), some (.int l4), some (.int l5), some (.int l6), some (.int x10), none] [.int x16] (n, kd, p7, R) (q12_best n kd R r) := by
            refine ev_istore dX12_best_104 (by decide) rfl ?_
            refine ev_iload dX12_best_106 rfl ?_
            obtain ⟨x19, e20, h⟩ := zld h
            have k28 : EV w d 0 0 Y12_best 117 [some (.ref 81), some (.int l1), some (.int l2), some (.int l3), some (.int l4), some (.int l5), some (.int l6), some (.int x10), some (.int x16)] [.int x19] (n, kd, p7, R) (q12_best n kd R r) := by
              refine ev_istore_n dX12_best_117 rfl (by decide) rfl ?_
              refine ev_iload dX12_best_118 rfl ?_
              obtain ⟨x22, e23, h⟩ := zld h
              have k27 : EV w d 0 0 Y12_best 132 [some (.ref 81), some (.int l1), some (.int l2), some (.int x19), some (.int l4), some (.int l5), some (.int l6), some (.int x10), some (.int x16)] [.int x22] (n, kd, p7, R) (q12_best n kd R r) := by
                refine ev_istore dX12_best_132 (by decide) rfl ?_
                refine ev_iload dX12_best_134 rfl ?_
                refine ev_if_eq dX12_best_136 (tgt := 146) (by decide) (fun c24 => ?_) (fun c24 => ?_)
                · replace h := zit c24 h
                  refine ev_iload dX12_best_146 rfl ?_
                  exact EV.mask [true, true, false, true, true, false, true, false, false] rfl (e12_best_B148 hw hS hd (fun l1' l2' l3' l4' l5' l6' I' h' => ih l1' l2' l3' l4' l5' l6' I' h') l1 x19 x22 l6 l5 p7 h)
                · replace h := zif c24 h
                  refine ev_aload_n dX12_best_139 rfl rfl ?_
                  obtain ⟨p25, e26, h⟩ := zbd h
                  refine ev_callV0 dX12_best_140 zm12_digitsNow zl_NineHeapsModel_281 zi12_digitsNow zv12_digitsNow (zrcM hS) (As := []) (rest := []) rfl rfl (Nat.le_of_ble_eq_true rfl) rfl (Nat.le_of_ble_eq_true rfl) (d' := 1) (by omega) (e12_digitsNow hw hS (Nat.le_refl _) e26) (fun v μ1 q => ?_)
                  obtain ⟨rfl, rfl⟩ := q
                  refine ev_goto dX12_best_143 (tgt := 148) (by decide) ?_
                  exact EV.mask [true, true, false, true, true, false, true, false, false] rfl (e12_best_B148 hw hS hd (fun l1' l2' l3' l4' l5' l6' I' h' => ih l1' l2' l3' l4' l5' l6' I' h') l1 x19 x22 l6 p25 p7 h)
              clear h
              have h := e23
              clear e23
              refine ev_if_eq dX12_best_120 (tgt := 130) (by decide) (fun c21 => ?_) (fun c21 => ?_)
              · replace h := zit c21 h
                refine ev_iload dX12_best_130 rfl ?_
                obtain rfl := h
                exact k27
              · replace h := zif c21 h
                refine ev_aload_n dX12_best_123 rfl rfl ?_
                refine em_getI dX12_best_124 zf_NineHeapsModel_213 rfl (hS.has 81 (by decide) (by decide) rfl) rfl ?_
                refine ev_goto dX12_best_127 (tgt := 132) (by decide) ?_
                obtain rfl := h
                exact k27
            clear h
            have h := e20
            clear e20
            refine ev_if_eq dX12_best_108 (tgt := 116) (by decide) (fun c18 => ?_) (fun c18 => ?_)
            · replace h := zit c18 h
              refine ev_iload_n dX12_best_116 rfl rfl ?_
              obtain rfl := h
              exact k28
            · replace h := zif c18 h
              refine ev_iload dX12_best_111 rfl ?_
              refine ev_goto dX12_best_113 (tgt := 117) (by decide) ?_
              obtain rfl := h
              exact k28
          clear h
          have h := e17
          clear e17
          refine ev_if_eq dX12_best_75 (tgt := 99) (by decide) (fun c12 => ?_) (fun c12 => ?_)
          · replace h := zit c12 h
            refine ev_iconst dX12_best_99 (v := (1 : Int32)) zci_1 ?_
            refine ev_goto dX12_best_100 (tgt := 104) (by decide) ?_
            obtain rfl := h
            exact k29
          · replace h := zif c12 h
            refine ev_iload dX12_best_78 rfl ?_
            refine ev_iload_n dX12_best_80 rfl rfl ?_
            refine ev_icmp_lt dX12_best_81 (tgt := 99) (by decide) (fun c13 => ?_) (fun c13 => ?_)
            · replace h := zit c13 h
              refine ev_iconst dX12_best_99 (v := (1 : Int32)) zci_1 ?_
              refine ev_goto dX12_best_100 (tgt := 104) (by decide) ?_
              obtain rfl := h
              exact k29
            · replace h := zif c13 h
              refine ev_iload dX12_best_84 rfl ?_
              refine ev_iload_n dX12_best_86 rfl rfl ?_
              refine ev_icmp_ne dX12_best_87 (tgt := 103) (by decide) (fun c14 => ?_) (fun c14 => ?_)
              · replace h := zif c14 h
                refine ev_iconst dX12_best_103 (v := (0 : Int32)) zci_0 ?_
                obtain rfl := h
                exact k29
              · replace h := zit c14 h
                refine ev_aload_n dX12_best_90 rfl rfl ?_
                refine em_getI dX12_best_91 zf_NineHeapsModel_213 rfl (hS.has 81 (by decide) (by decide) rfl) rfl ?_
                refine ev_iload dX12_best_94 rfl ?_
                refine ev_icmp_le dX12_best_96 (tgt := 103) (by decide) (fun c15 => ?_) (fun c15 => ?_)
                · replace h := zit c15 h
                  refine ev_iconst dX12_best_103 (v := (0 : Int32)) zci_0 ?_
                  obtain rfl := h
                  exact k29
                · replace h := zif c15 h
                  refine ev_iconst dX12_best_99 (v := (1 : Int32)) zci_1 ?_
                  refine ev_goto dX12_best_100 (tgt := 104) (by decide) ?_
                  obtain rfl := h
                  exact k29
        clear h
        have h := e11
        clear e11
        refine ev_icmp_ne dX12_best_59 (tgt := 68) (by decide) (fun c9 => ?_) (fun c9 => ?_)
        · replace h := zif c9 h
          refine ev_aload_n dX12_best_68 rfl rfl ?_
          refine em_getI dX12_best_69 zf_NineHeapsModel_216 rfl (hS.has 81 (by decide) (by decide) rfl) rfl ?_
          obtain rfl := h
          exact k30
        · replace h := zit c9 h
          refine ev_sipush dX12_best_62 (v := (600 : Int32)) zcs_600 ?_
          refine ev_goto dX12_best_65 (tgt := 72) (by decide) ?_
          obtain rfl := h
          exact k30
set_option maxHeartbeats 4000000 in
set_option maxRecDepth 100000 in
theorem e12_best_B158 {w : zW} {d : Nat} {n : Nat} {kd : zMK} {R : zMR} {r : Int32 × zMI}  (hw : zst w = zSt0) (hS : zSh n kd) (hd : 8 ≤ d)   : ∀ (l1 : Int32) (l3 : Int32) (l4 : Int32) (l5 : Int32) (I : zMI), f12_best_B158 l1 l3 l4 l5 I = some r → EV w d 0 0 Y12_best 158 [none, some (.int l1), none, some (.int l3), some (.int l4), some (.int l5), none, none, none] [] (n, kd, I, R) (q12_best n kd R r) := by
  intro l1 l3 l4 l5 I h
  unfold f12_best_B158 at h
  refine ev_iload_n dX12_best_158 rfl rfl ?_
  obtain ⟨x34, e35, h⟩ := zld h
  have k36 : EV w d 0 0 Y12_best 189 [none, some (.int l1), none, some (.int l3), some (.int l4), some (.int l5), none, none, none] [.int x34] (n, kd, I, R) (q12_best n kd R r) := by
    obtain rfl := Option.some.inj h
    exact ev_end_i dX12_best_189 rfl rfl ⟨rfl, rfl⟩
  clear h
  have h := e35
  clear e35
  refine ev_if_ne dX12_best_159 (tgt := 177) (by decide) (fun c31 => ?_) (fun c31 => ?_)
  · replace h := zif c31 h
    refine ev_iload_n dX12_best_177 rfl rfl ?_
    refine ev_iconst dX12_best_178 (v := (1 : Int32)) zci_1 ?_
    refine ev_icmp_ne dX12_best_179 (tgt := 187) (by decide) (fun c32 => ?_) (fun c32 => ?_)
    · replace h := zif c32 h
      refine ev_iload dX12_best_187 rfl ?_
      obtain rfl := h
      exact k36
    · replace h := zit c32 h
      refine ev_iload dX12_best_182 rfl ?_
      refine ev_goto dX12_best_184 (tgt := 189) (by decide) ?_
      obtain rfl := h
      exact k36
  · replace h := zit c31 h
    refine ev_iload_n dX12_best_162 rfl rfl ?_
    refine ev_sipush dX12_best_163 (v := (600 : Int32)) zcs_600 ?_
    refine ev_icmp_ne dX12_best_166 (tgt := 173) (by decide) (fun c33 => ?_) (fun c33 => ?_)
    · replace h := zif c33 h
      refine ev_iload_n dX12_best_173 rfl rfl ?_
      refine ev_goto dX12_best_174 (tgt := 189) (by decide) ?_
      obtain rfl := h
      exact k36
    · replace h := zit c33 h
      refine ev_iconst dX12_best_169 (v := (-1 : Int32)) zci_m1 ?_
      refine ev_goto dX12_best_170 (tgt := 189) (by decide) ?_
      obtain rfl := h
      exact k36
set_option maxHeartbeats 4000000 in
set_option maxRecDepth 100000 in
theorem e12_best {w : zW} {d : Nat} {n : Nat} {kd : zMK} {I : zMI} {R : zMR} {r : Int32 × zMI} {l1 : Int32} (hw : zst w = zSt0) (hS : zSh n kd) (hd : 8 ≤ d)  (h : f12_best l1 I = some r) : EV w d 0 0 Y12_best 0 [some (.ref 81), some (.int l1), none, none, none, none, none, none, none] [] (n, kd, I, R) (q12_best n kd R r) := by
  unfold f12_best at h
  refine ev_iload_n dX12_best_0 rfl rfl ?_
  refine ev_iconst dX12_best_1 (v := (0 : Int32)) zci_0 ?_
  refine ev_iconst dX12_best_2 (v := (2 : Int32)) zci_2 ?_
  obtain ⟨p37, e38, h⟩ := zbd h
  refine ev_callS0 dX12_best_3 zm12_in zl_NineHeapsModel_120 zs12_in (As := [.int l1, .int (0 : Int32), .int (2 : Int32)]) (rest := []) rfl rfl (Nat.le_of_ble_eq_true rfl) rfl (Nat.le_of_ble_eq_true rfl) (d' := 1) (by omega) (e12_in hw hS (Nat.le_refl _) e38) (fun v μ1 q => ?_)
  obtain ⟨rfl, rfl⟩ := q
  refine ev_if_ne dX12_best_6 (tgt := 12) (by decide) (fun c39 => ?_) (fun c39 => ?_)
  · replace h := zif c39 h
    refine ev_iconst dX12_best_12 (v := (0 : Int32)) zci_0 ?_
    refine ev_istore_n dX12_best_13 rfl (by decide) rfl ?_
    refine ev_iconst dX12_best_14 (v := (0 : Int32)) zci_0 ?_
    refine ev_istore_n dX12_best_15 rfl (by decide) rfl ?_
    refine ev_iconst dX12_best_16 (v := (0 : Int32)) zci_0 ?_
    refine ev_istore dX12_best_17 (by decide) rfl ?_
    refine ev_iconst dX12_best_19 (v := (0 : Int32)) zci_0 ?_
    refine ev_istore dX12_best_20 (by decide) rfl ?_
    refine ev_iconst dX12_best_22 (v := (0 : Int32)) zci_0 ?_
    refine ev_istore dX12_best_23 (by decide) rfl ?_
    exact EV.mask [true, true, true, true, true, true, true, false, false] rfl (e12_best_L25 hw hS hd (fun l1' l3' l4' l5' I' h' => e12_best_B158 hw hS hd l1' l3' l4' l5' I' h') zF l1 (0 : Int32) (0 : Int32) (0 : Int32) (0 : Int32) (0 : Int32) I h)
  · replace h := zit c39 h
    refine ev_bipush dX12_best_9 (v := (-2 : Int32)) zcb_m2 ?_
    obtain rfl := Option.some.inj h
    exact ev_end_i dX12_best_11 rfl rfl ⟨rfl, rfl⟩
abbrev q12_start (n : Nat) (kd : zMK) (R : zMR) (r : Int32 × zMI) : Option Value → zM → Prop := fun v μ1 => v = some (.int r.1) ∧ μ1 = (n, kd, r.2, R)
set_option maxHeartbeats 4000000 in
set_option maxRecDepth 100000 in
theorem e12_start_L39 {w : zW} {d : Nat} {n : Nat} {kd : zMK} {R : zMR} {r : Int32 × zMI} {k105 : Int32 → Int32 → Int32 → Int32 → Int32 → zMI → Option (Int32 × zMI)} (hw : zst w = zSt0) (hS : zSh n kd) (hd : 9 ≤ d)  (hk105 : ∀ (l1 : Int32) (l2 : Int32) (l3 : Int32) (l4 : Int32) (l5 : Int32) (I : zMI), k105 l1 l2 l3 l4 l5 I = some r → EV w d 0 0 Y12_start 105 [some (.ref 81), some (.int l1), some (.int l2), some (.int l3), some (.int l4), some (.int l5), none] [] (n, kd, I, R) (q12_start n kd R r)) : ∀ (q : Nat) (l1 : Int32) (l2 : Int32) (l3 : Int32) (l4 : Int32) (l5 : Int32) (l6 : Int32) (I : zMI), f12_start_L39 k105 q l1 l2 l3 l4 l5 l6 I = some r → EV w d 0 0 Y12_start 39 [some (.ref 81), some (.int l1), some (.int l2), some (.int l3), some (.int l4), some (.int l5), some (.int l6)] [] (n, kd, I, R) (q12_start n kd R r) := by
  intro q
  induction q with
  | zero =>
    intro l1 l2 l3 l4 l5 l6 I h
    cases h
  | succ q ih =>
    intro l1 l2 l3 l4 l5 l6 I h
    unfold f12_start_L39 at h
    refine ev_iload dX12_start_39 rfl ?_
    refine ev_bipush dX12_start_41 (v := (9 : Int32)) zcb_9 ?_
    refine ev_icmp_ge dX12_start_43 (tgt := 105) (by decide) (fun c1 => ?_) (fun c1 => ?_)
    · replace h := zit c1 h
      exact EV.mask [true, true, true, true, true, true, false] rfl (hk105 l1 l2 l3 l4 l5 I h)
    · replace h := zif c1 h
      refine ev_aload_n dX12_start_46 rfl rfl ?_
      refine em_getA dX12_start_47 zf_NineHeapsModel_26 rfl (hS.has 81 (by decide) (by decide) rfl) hw rfl ?_
      refine ev_iload_n dX12_start_50 rfl rfl ?_
      refine ev_iload dX12_start_51 rfl ?_
      obtain ⟨g2, h⟩ := zgd h
      obtain ⟨J3, e4, h⟩ := zld h
      refine em_iast dX12_start_53 hS (by decide) (by decide) (N := 5) rfl g2 e4 ?_
      refine ev_aload_n dX12_start_54 rfl rfl ?_
      refine ev_sipush dX12_start_55 (v := (600 : Int32)) zcs_600 ?_
      obtain ⟨p5, e6, h⟩ := zbd h
      refine ev_callV0 dX12_start_58 zm12_goesPlain zl_NineHeapsModel_260 zi12_goesPlain zv12_goesPlain (zrcM hS) (As := [.int (600 : Int32)]) (rest := []) rfl rfl (Nat.le_of_ble_eq_true rfl) rfl (Nat.le_of_ble_eq_true rfl) (d' := 8) (by omega) (e12_goesPlain hw hS (Nat.le_refl _) e6) (fun v μ1 q => ?_)
      obtain ⟨rfl, rfl⟩ := q
      refine ev_aload_n dX12_start_61 rfl rfl ?_
      refine em_getI dX12_start_62 zf_NineHeapsModel_213 rfl (hS.has 81 (by decide) (by decide) rfl) rfl ?_
      refine ev_iload dX12_start_65 rfl ?_
      obtain ⟨x8, e9, h⟩ := zld h
      have k14 : EV w d 0 0 Y12_start 77 [some (.ref 81), some (.int l1), some (.int l2), some (.int l3), some (.int l4), some (.int l5), some (.int l6)] [.int x8] (n, kd, p5, R) (q12_start n kd R r) := by
        refine ev_istore dX12_start_77 (by decide) rfl ?_
        refine ev_aload_n dX12_start_79 rfl rfl ?_
        refine em_getI dX12_start_80 zf_NineHeapsModel_213 rfl (hS.has 81 (by decide) (by decide) rfl) rfl ?_
        refine ev_iload dX12_start_83 rfl ?_
        obtain ⟨x11, e12, h⟩ := zld h
        have k13 : EV w d 0 0 Y12_start 97 [some (.ref 81), some (.int l1), some (.int l2), some (.int l3), some (.int x8), some (.int l5), some (.int l6)] [.int x11] (n, kd, p5, R) (q12_start n kd R r) := by
          refine ev_istore dX12_start_97 (by decide) rfl ?_
          refine ev_iinc dX12_start_99 (v := l6 + (1 : Int32)) rfl rfl (by decide) rfl ?_
          refine ev_goto dX12_start_102 (tgt := 39) (by decide) ?_
          exact EV.mask [true, true, true, true, true, true, true] rfl (ih l1 l2 l3 x8 x11 (l6 + (1 : Int32)) p5 h)
        clear h
        have h := e12
        clear e12
        refine ev_icmp_le dX12_start_85 (tgt := 95) (by decide) (fun c10 => ?_) (fun c10 => ?_)
        · replace h := zit c10 h
          refine ev_iload dX12_start_95 rfl ?_
          obtain rfl := h
          exact k13
        · replace h := zif c10 h
          refine ev_aload_n dX12_start_88 rfl rfl ?_
          refine em_getI dX12_start_89 zf_NineHeapsModel_213 rfl (hS.has 81 (by decide) (by decide) rfl) rfl ?_
          refine ev_goto dX12_start_92 (tgt := 97) (by decide) ?_
          obtain rfl := h
          exact k13
      clear h
      have h := e9
      clear e9
      refine ev_icmp_le dX12_start_67 (tgt := 75) (by decide) (fun c7 => ?_) (fun c7 => ?_)
      · replace h := zit c7 h
        refine ev_iload dX12_start_75 rfl ?_
        obtain rfl := h
        exact k14
      · replace h := zif c7 h
        refine ev_iload dX12_start_70 rfl ?_
        refine ev_goto dX12_start_72 (tgt := 77) (by decide) ?_
        obtain rfl := h
        exact k14
set_option maxHeartbeats 4000000 in
set_option maxRecDepth 100000 in
theorem e12_start_B105 {w : zW} {d : Nat} {n : Nat} {kd : zMK} {R : zMR} {r : Int32 × zMI}  (hw : zst w = zSt0) (hS : zSh n kd) (hd : 9 ≤ d)   : ∀ (l1 : Int32) (l2 : Int32) (l3 : Int32) (l4 : Int32) (l5 : Int32) (I : zMI), f12_start_B105 l1 l2 l3 l4 l5 I = some r → EV w d 0 0 Y12_start 105 [some (.ref 81), some (.int l1), some (.int l2), some (.int l3), some (.int l4), some (.int l5), none] [] (n, kd, I, R) (q12_start n kd R r) := by
  intro l1 l2 l3 l4 l5 I h
  unfold f12_start_B105 at h
  refine ev_aload_n dX12_start_105 rfl rfl ?_
  refine em_getA dX12_start_106 zf_NineHeapsModel_26 rfl (hS.has 81 (by decide) (by decide) rfl) hw rfl ?_
  refine ev_iload_n dX12_start_109 rfl rfl ?_
  refine ev_iload_n dX12_start_110 rfl rfl ?_
  obtain ⟨g15, h⟩ := zgd h
  obtain ⟨J16, e17, h⟩ := zld h
  refine em_iast dX12_start_111 hS (by decide) (by decide) (N := 5) rfl g15 e17 ?_
  refine ev_iload_n dX12_start_112 rfl rfl ?_
  obtain ⟨x19, e20, h⟩ := zld h
  have k21 : EV w d 0 0 Y12_start 123 [some (.ref 81), some (.int l1), some (.int l2), some (.int l3), some (.int l4), some (.int l5), none] [.int x19] (n, kd, J16, R) (q12_start n kd R r) := by
    obtain rfl := Option.some.inj h
    exact ev_end_i dX12_start_123 rfl rfl ⟨rfl, rfl⟩
  clear h
  have h := e20
  clear e20
  refine ev_if_ne dX12_start_113 (tgt := 121) (by decide) (fun c18 => ?_) (fun c18 => ?_)
  · replace h := zif c18 h
    refine ev_iload dX12_start_121 rfl ?_
    obtain rfl := h
    exact k21
  · replace h := zit c18 h
    refine ev_iload dX12_start_116 rfl ?_
    refine ev_goto dX12_start_118 (tgt := 123) (by decide) ?_
    obtain rfl := h
    exact k21
set_option maxHeartbeats 4000000 in
set_option maxRecDepth 100000 in
theorem e12_start {w : zW} {d : Nat} {n : Nat} {kd : zMK} {I : zMI} {R : zMR} {r : Int32 × zMI} {l1 : Int32} {l2 : Int32} (hw : zst w = zSt0) (hS : zSh n kd) (hd : 9 ≤ d)  (h : f12_start l1 l2 I = some r) : EV w d 0 0 Y12_start 0 [some (.ref 81), some (.int l1), some (.int l2), none, none, none, none] [] (n, kd, I, R) (q12_start n kd R r) := by
  unfold f12_start at h
  refine ev_aload_n dX12_start_0 rfl rfl ?_
  refine ev_iload_n dX12_start_1 rfl rfl ?_
  obtain ⟨p22, e23, h⟩ := zbd h
  refine ev_callV0 dX12_start_2 zm12_isWalker zl_NineHeapsModel_203 zi12_isWalker zv12_isWalker (zrcM hS) (As := [.int l1]) (rest := []) rfl rfl (Nat.le_of_ble_eq_true rfl) rfl (Nat.le_of_ble_eq_true rfl) (d' := 2) (by omega) (e12_isWalker hw hS (Nat.le_refl _) e23) (fun v μ1 q => ?_)
  obtain ⟨rfl, rfl⟩ := q
  refine ev_if_ne dX12_start_5 (tgt := 11) (by decide) (fun c24 => ?_) (fun c24 => ?_)
  · replace h := zif c24 h
    refine ev_iload_n dX12_start_11 rfl rfl ?_
    refine ev_iconst dX12_start_12 (v := (0 : Int32)) zci_0 ?_
    refine ev_iconst dX12_start_13 (v := (1 : Int32)) zci_1 ?_
    obtain ⟨p25, e26, h⟩ := zbd h
    refine ev_callS0 dX12_start_14 zm12_in zl_NineHeapsModel_120 zs12_in (As := [.int l2, .int (0 : Int32), .int (1 : Int32)]) (rest := []) rfl rfl (Nat.le_of_ble_eq_true rfl) rfl (Nat.le_of_ble_eq_true rfl) (d' := 1) (by omega) (e12_in hw hS (Nat.le_refl _) e26) (fun v μ1 q => ?_)
    obtain ⟨rfl, rfl⟩ := q
    refine ev_if_ne dX12_start_17 (tgt := 23) (by decide) (fun c27 => ?_) (fun c27 => ?_)
    · replace h := zif c27 h
      refine ev_aload_n dX12_start_23 rfl rfl ?_
      refine em_getA dX12_start_24 zf_NineHeapsModel_26 rfl (hS.has 81 (by decide) (by decide) rfl) hw rfl ?_
      refine ev_iload_n dX12_start_27 rfl rfl ?_
      obtain ⟨g28, h⟩ := zgd h
      refine em_iald dX12_start_28 hS (by decide) (by decide) (N := 5) rfl g28 rfl ?_
      refine ev_istore_n dX12_start_29 rfl (by decide) rfl ?_
      refine ev_iconst dX12_start_30 (v := (-1 : Int32)) zci_m1 ?_
      refine ev_istore dX12_start_31 (by decide) rfl ?_
      refine ev_iconst dX12_start_33 (v := (-1 : Int32)) zci_m1 ?_
      refine ev_istore dX12_start_34 (by decide) rfl ?_
      refine ev_iconst dX12_start_36 (v := (0 : Int32)) zci_0 ?_
      refine ev_istore dX12_start_37 (by decide) rfl ?_
      exact EV.mask [true, true, true, true, true, true, true] rfl (e12_start_L39 hw hS hd (fun l1' l2' l3' l4' l5' I' h' => e12_start_B105 hw hS hd l1' l2' l3' l4' l5' I' h') zF l1 l2 (I 86 l1.toNatClampNeg) (-1 : Int32) (-1 : Int32) (0 : Int32) I h)
    · replace h := zit c27 h
      refine ev_bipush dX12_start_20 (v := (-7 : Int32)) zcb_m7 ?_
      obtain rfl := Option.some.inj h
      exact ev_end_i dX12_start_22 rfl rfl ⟨rfl, rfl⟩
  · replace h := zit c24 h
    refine ev_bipush dX12_start_8 (v := (-5 : Int32)) zcb_m5 ?_
    obtain rfl := Option.some.inj h
    exact ev_end_i dX12_start_10 rfl rfl ⟨rfl, rfl⟩
abbrev q12_without (n : Nat) (kd : zMK) (R : zMR) (r : Int32 × zMI) : Option Value → zM → Prop := fun v μ1 => v = some (.int r.1) ∧ μ1 = (n, kd, r.2, R)
set_option maxHeartbeats 4000000 in
set_option maxRecDepth 100000 in
theorem e12_without {w : zW} {d : Nat} {n : Nat} {kd : zMK} {I : zMI} {R : zMR} {r : Int32 × zMI} {l1 : Int32} (hw : zst w = zSt0) (hS : zSh n kd) (hd : 8 ≤ d)  (h : f12_without l1 I = some r) : EV w d 0 0 Y12_without 0 [some (.ref 81), some (.int l1)] [] (n, kd, I, R) (q12_without n kd R r) := by
  unfold f12_without at h
  refine ev_aload_n dX12_without_0 rfl rfl ?_
  refine ev_iload_n dX12_without_1 rfl rfl ?_
  obtain ⟨p1, e2, h⟩ := zbd h
  refine ev_callV0 dX12_without_2 zm12_orders zl_NineHeapsModel_251 zi12_orders zv12_orders (zrcM hS) (As := [.int l1]) (rest := []) rfl rfl (Nat.le_of_ble_eq_true rfl) rfl (Nat.le_of_ble_eq_true rfl) (d' := 1) (by omega) (e12_orders hw hS (Nat.le_refl _) e2) (fun v μ1 q => ?_)
  obtain ⟨rfl, rfl⟩ := q
  refine ev_aload_n dX12_without_5 rfl rfl ?_
  refine ev_sipush dX12_without_6 (v := (600 : Int32)) zcs_600 ?_
  obtain ⟨p3, e4, h⟩ := zbd h
  refine ev_callV0 dX12_without_9 zm12_goesFor zl_NineHeapsModel_254 zi12_goesFor zv12_goesFor (zrcM hS) (As := [.int (600 : Int32)]) (rest := []) rfl rfl (Nat.le_of_ble_eq_true rfl) rfl (Nat.le_of_ble_eq_true rfl) (d' := 7) (by omega) (e12_goesFor hw hS (Nat.le_refl _) e4) (fun v μ1 q => ?_)
  obtain ⟨rfl, rfl⟩ := q
  refine ev_aload_n dX12_without_12 rfl rfl ?_
  refine em_getI dX12_without_13 zf_NineHeapsModel_213 rfl (hS.has 81 (by decide) (by decide) rfl) rfl ?_
  obtain rfl := Option.some.inj h
  exact ev_end_i dX12_without_16 rfl rfl ⟨rfl, rfl⟩
abbrev q12_sit (n : Nat) (kd : zMK) (R : zMR) (r : Int32 × zMI) : Option Value → zM → Prop := fun v μ1 => v = some (.int r.1) ∧ μ1 = (n, kd, r.2, R)
set_option maxHeartbeats 4000000 in
set_option maxRecDepth 100000 in
theorem e12_sit_L19 {w : zW} {d : Nat} {n : Nat} {kd : zMK} {R : zMR} {r : Int32 × zMI} {k68 : Int32 → Int32 → Int32 → zMI → Option (Int32 × zMI)} (hw : zst w = zSt0) (hS : zSh n kd) (hd : 9 ≤ d)  (hk68 : ∀ (l1 : Int32) (l2 : Int32) (l3 : Int32) (I : zMI), k68 l1 l2 l3 I = some r → EV w d 0 0 Y12_sit 68 [none, some (.int l1), some (.int l2), some (.int l3), none, none] [] (n, kd, I, R) (q12_sit n kd R r)) : ∀ (q : Nat) (l1 : Int32) (l2 : Int32) (l3 : Int32) (l4 : Int32) (I : zMI), f12_sit_L19 k68 q l1 l2 l3 l4 I = some r → EV w d 0 0 Y12_sit 19 [some (.ref 81), some (.int l1), some (.int l2), some (.int l3), some (.int l4), none] [] (n, kd, I, R) (q12_sit n kd R r) := by
  intro q
  induction q with
  | zero =>
    intro l1 l2 l3 l4 I h
    cases h
  | succ q ih =>
    intro l1 l2 l3 l4 I h
    unfold f12_sit_L19 at h
    refine ev_iload dX12_sit_19 rfl ?_
    refine ev_aload_n dX12_sit_21 rfl rfl ?_
    refine em_getI dX12_sit_22 zf_NineHeapsModel_117 rfl (hS.has 81 (by decide) (by decide) rfl) rfl ?_
    refine ev_icmp_ge dX12_sit_25 (tgt := 68) (by decide) (fun c1 => ?_) (fun c1 => ?_)
    · replace h := zit c1 h
      exact EV.mask [false, true, true, true, false, false] rfl (hk68 l1 l2 l3 I h)
    · replace h := zif c1 h
      refine ev_aload_n dX12_sit_28 rfl rfl ?_
      refine ev_iload dX12_sit_29 rfl ?_
      obtain ⟨p2, e3, h⟩ := zbd h
      refine ev_callV0 dX12_sit_31 zm12_without zl_NineHeapsModel_284 zi12_without zv12_without (zrcM hS) (As := [.int l4]) (rest := []) rfl rfl (Nat.le_of_ble_eq_true rfl) rfl (Nat.le_of_ble_eq_true rfl) (d' := 8) (by omega) (e12_without hw hS (Nat.le_refl _) e3) (fun v μ1 q => ?_)
      obtain ⟨rfl, rfl⟩ := q
      refine ev_istore dX12_sit_34 (by decide) rfl ?_
      refine ev_iload dX12_sit_36 rfl ?_
      refine ev_iload_n dX12_sit_38 rfl rfl ?_
      obtain ⟨x5, e6, h⟩ := zld h
      have k11 : EV w d 0 0 Y12_sit 48 [some (.ref 81), some (.int l1), some (.int l2), some (.int l3), some (.int l4), some (.int p2.1)] [.int x5] (n, kd, p2.2, R) (q12_sit n kd R r) := by
        refine ev_istore_n dX12_sit_48 rfl (by decide) rfl ?_
        refine ev_iload dX12_sit_49 rfl ?_
        refine ev_iload_n dX12_sit_51 rfl rfl ?_
        obtain ⟨x8, e9, h⟩ := zld h
        have k10 : EV w d 0 0 Y12_sit 61 [some (.ref 81), some (.int l1), some (.int x5), some (.int l3), some (.int l4), some (.int p2.1)] [.int x8] (n, kd, p2.2, R) (q12_sit n kd R r) := by
          refine ev_istore_n dX12_sit_61 rfl (by decide) rfl ?_
          refine ev_iinc dX12_sit_62 (v := l4 + (1 : Int32)) rfl rfl (by decide) rfl ?_
          refine ev_goto dX12_sit_65 (tgt := 19) (by decide) ?_
          exact EV.mask [true, true, true, true, true, false] rfl (ih l1 x5 x8 (l4 + (1 : Int32)) p2.2 h)
        clear h
        have h := e9
        clear e9
        refine ev_icmp_le dX12_sit_52 (tgt := 60) (by decide) (fun c7 => ?_) (fun c7 => ?_)
        · replace h := zit c7 h
          refine ev_iload_n dX12_sit_60 rfl rfl ?_
          obtain rfl := h
          exact k10
        · replace h := zif c7 h
          refine ev_iload dX12_sit_55 rfl ?_
          refine ev_goto dX12_sit_57 (tgt := 61) (by decide) ?_
          obtain rfl := h
          exact k10
      clear h
      have h := e6
      clear e6
      refine ev_icmp_le dX12_sit_39 (tgt := 47) (by decide) (fun c4 => ?_) (fun c4 => ?_)
      · replace h := zit c4 h
        refine ev_iload_n dX12_sit_47 rfl rfl ?_
        obtain rfl := h
        exact k11
      · replace h := zif c4 h
        refine ev_iload dX12_sit_42 rfl ?_
        refine ev_goto dX12_sit_44 (tgt := 48) (by decide) ?_
        obtain rfl := h
        exact k11
set_option maxHeartbeats 4000000 in
set_option maxRecDepth 100000 in
theorem e12_sit_B68 {w : zW} {d : Nat} {n : Nat} {kd : zMK} {R : zMR} {r : Int32 × zMI}  (hw : zst w = zSt0) (hS : zSh n kd) (hd : 9 ≤ d)   : ∀ (l1 : Int32) (l2 : Int32) (l3 : Int32) (I : zMI), f12_sit_B68 l1 l2 l3 I = some r → EV w d 0 0 Y12_sit 68 [none, some (.int l1), some (.int l2), some (.int l3), none, none] [] (n, kd, I, R) (q12_sit n kd R r) := by
  intro l1 l2 l3 I h
  unfold f12_sit_B68 at h
  refine ev_iload_n dX12_sit_68 rfl rfl ?_
  obtain ⟨x13, e14, h⟩ := zld h
  have k15 : EV w d 0 0 Y12_sit 77 [none, some (.int l1), some (.int l2), some (.int l3), none, none] [.int x13] (n, kd, I, R) (q12_sit n kd R r) := by
    obtain rfl := Option.some.inj h
    exact ev_end_i dX12_sit_77 rfl rfl ⟨rfl, rfl⟩
  clear h
  have h := e14
  clear e14
  refine ev_if_ne dX12_sit_69 (tgt := 76) (by decide) (fun c12 => ?_) (fun c12 => ?_)
  · replace h := zif c12 h
    refine ev_iload_n dX12_sit_76 rfl rfl ?_
    obtain rfl := h
    exact k15
  · replace h := zit c12 h
    refine ev_iload_n dX12_sit_72 rfl rfl ?_
    refine ev_goto dX12_sit_73 (tgt := 77) (by decide) ?_
    obtain rfl := h
    exact k15
set_option maxHeartbeats 4000000 in
set_option maxRecDepth 100000 in
theorem e12_sit {w : zW} {d : Nat} {n : Nat} {kd : zMK} {I : zMI} {R : zMR} {r : Int32 × zMI} {l1 : Int32} (hw : zst w = zSt0) (hS : zSh n kd) (hd : 9 ≤ d)  (h : f12_sit l1 I = some r) : EV w d 0 0 Y12_sit 0 [some (.ref 81), some (.int l1), none, none, none, none] [] (n, kd, I, R) (q12_sit n kd R r) := by
  unfold f12_sit at h
  refine ev_iload_n dX12_sit_0 rfl rfl ?_
  refine ev_iconst dX12_sit_1 (v := (0 : Int32)) zci_0 ?_
  refine ev_iconst dX12_sit_2 (v := (1 : Int32)) zci_1 ?_
  obtain ⟨p16, e17, h⟩ := zbd h
  refine ev_callS0 dX12_sit_3 zm12_in zl_NineHeapsModel_120 zs12_in (As := [.int l1, .int (0 : Int32), .int (1 : Int32)]) (rest := []) rfl rfl (Nat.le_of_ble_eq_true rfl) rfl (Nat.le_of_ble_eq_true rfl) (d' := 1) (by omega) (e12_in hw hS (Nat.le_refl _) e17) (fun v μ1 q => ?_)
  obtain ⟨rfl, rfl⟩ := q
  refine ev_if_ne dX12_sit_6 (tgt := 12) (by decide) (fun c18 => ?_) (fun c18 => ?_)
  · replace h := zif c18 h
    refine ev_iconst dX12_sit_12 (v := (-1 : Int32)) zci_m1 ?_
    refine ev_istore_n dX12_sit_13 rfl (by decide) rfl ?_
    refine ev_iconst dX12_sit_14 (v := (-1 : Int32)) zci_m1 ?_
    refine ev_istore_n dX12_sit_15 rfl (by decide) rfl ?_
    refine ev_iconst dX12_sit_16 (v := (0 : Int32)) zci_0 ?_
    refine ev_istore dX12_sit_17 (by decide) rfl ?_
    exact EV.mask [true, true, true, true, true, false] rfl (e12_sit_L19 hw hS hd (fun l1' l2' l3' I' h' => e12_sit_B68 hw hS hd l1' l2' l3' I' h') zF l1 (-1 : Int32) (-1 : Int32) (0 : Int32) I h)
  · replace h := zit c18 h
    refine ev_bipush dX12_sit_9 (v := (-2 : Int32)) zcb_m2 ?_
    obtain rfl := Option.some.inj h
    exact ev_end_i dX12_sit_11 rfl rfl ⟨rfl, rfl⟩
abbrev q12_worth (n : Nat) (kd : zMK) (R : zMR) (r : Int32 × zMI) : Option Value → zM → Prop := fun v μ1 => v = some (.int r.1) ∧ μ1 = (n, kd, r.2, R)
set_option maxHeartbeats 4000000 in
set_option maxRecDepth 100000 in
theorem e12_worth {w : zW} {d : Nat} {n : Nat} {kd : zMK} {I : zMI} {R : zMR} {r : Int32 × zMI} {l1 : Int32} (hw : zst w = zSt0) (hS : zSh n kd) (hd : 9 ≤ d)  (h : f12_worth l1 I = some r) : EV w d 0 0 Y12_worth 0 [some (.ref 81), some (.int l1)] [] (n, kd, I, R) (q12_worth n kd R r) := by
  unfold f12_worth at h
  refine ev_aload_n dX12_worth_0 rfl rfl ?_
  refine ev_iload_n dX12_worth_1 rfl rfl ?_
  obtain ⟨p1, e2, h⟩ := zbd h
  refine ev_callV0 dX12_worth_2 zm12_isWalker zl_NineHeapsModel_203 zi12_isWalker zv12_isWalker (zrcM hS) (As := [.int l1]) (rest := []) rfl rfl (Nat.le_of_ble_eq_true rfl) rfl (Nat.le_of_ble_eq_true rfl) (d' := 2) (by omega) (e12_isWalker hw hS (Nat.le_refl _) e2) (fun v μ1 q => ?_)
  obtain ⟨rfl, rfl⟩ := q
  refine ev_if_ne dX12_worth_5 (tgt := 12) (by decide) (fun c3 => ?_) (fun c3 => ?_)
  · replace h := zif c3 h
    refine ev_aload_n dX12_worth_12 rfl rfl ?_
    refine ev_iconst dX12_worth_13 (v := (-1 : Int32)) zci_m1 ?_
    obtain ⟨p4, e5, h⟩ := zbd h
    refine ev_callV0 dX12_worth_14 zm12_without zl_NineHeapsModel_284 zi12_without zv12_without (zrcM hS) (As := [.int (-1 : Int32)]) (rest := []) rfl rfl (Nat.le_of_ble_eq_true rfl) rfl (Nat.le_of_ble_eq_true rfl) (d' := 8) (by omega) (e12_without hw hS (Nat.le_refl _) e5) (fun v μ1 q => ?_)
    obtain ⟨rfl, rfl⟩ := q
    refine ev_aload_n dX12_worth_17 rfl rfl ?_
    refine ev_iload_n dX12_worth_18 rfl rfl ?_
    obtain ⟨p6, e7, h⟩ := zbd h
    refine ev_callV0 dX12_worth_19 zm12_without zl_NineHeapsModel_284 zi12_without zv12_without (zrcM hS) (As := [.int l1]) (rest := [.int p4.1]) rfl rfl (Nat.le_of_ble_eq_true rfl) rfl (Nat.le_of_ble_eq_true rfl) (d' := 8) (by omega) (e12_without hw hS (Nat.le_refl _) e7) (fun v μ1 q => ?_)
    obtain ⟨rfl, rfl⟩ := q
    refine ev_isub dX12_worth_22 rfl ?_
    obtain rfl := Option.some.inj h
    exact ev_end_i dX12_worth_23 rfl rfl ⟨rfl, rfl⟩
  · replace h := zit c3 h
    refine ev_sipush dX12_worth_8 (v := (-1000 : Int32)) zcs_m1000 ?_
    obtain rfl := Option.some.inj h
    exact ev_end_i dX12_worth_11 rfl rfl ⟨rfl, rfl⟩
abbrev q12_more (n : Nat) (kd : zMK) (R : zMR) (r : Int32 × zMI) : Option Value → zM → Prop := fun v μ1 => v = some (.int r.1) ∧ μ1 = (n, kd, r.2, R)
set_option maxHeartbeats 4000000 in
set_option maxRecDepth 100000 in
theorem e12_more_L22 {w : zW} {d : Nat} {n : Nat} {kd : zMK} {R : zMR} {r : Int32 × zMI} {k78 : Int32 → Int32 → Int32 → zMI → Option (Int32 × zMI)} (hw : zst w = zSt0) (hS : zSh n kd) (hd : 9 ≤ d)  (hk78 : ∀ (l1 : Int32) (l2 : Int32) (l3 : Int32) (I : zMI), k78 l1 l2 l3 I = some r → EV w d 0 0 Y12_more 78 [some (.ref 81), some (.int l1), some (.int l2), some (.int l3), none] [] (n, kd, I, R) (q12_more n kd R r)) : ∀ (q : Nat) (l1 : Int32) (l2 : Int32) (l3 : Int32) (l4 : Int32) (I : zMI), f12_more_L22 k78 q l1 l2 l3 l4 I = some r → EV w d 0 0 Y12_more 22 [some (.ref 81), some (.int l1), some (.int l2), some (.int l3), some (.int l4)] [] (n, kd, I, R) (q12_more n kd R r) := by
  intro q
  induction q with
  | zero =>
    intro l1 l2 l3 l4 I h
    cases h
  | succ q ih =>
    intro l1 l2 l3 l4 I h
    unfold f12_more_L22 at h
    refine ev_iload dX12_more_22 rfl ?_
    refine ev_sipush dX12_more_24 (v := (200 : Int32)) zcs_200 ?_
    refine ev_iload_n dX12_more_27 rfl rfl ?_
    refine ev_isub dX12_more_28 rfl ?_
    refine ev_icmp_gt dX12_more_29 (tgt := 78) (by decide) (fun c1 => ?_) (fun c1 => ?_)
    · replace h := zit c1 h
      exact EV.mask [true, true, true, true, false] rfl (hk78 l1 l2 l3 I h)
    · replace h := zif c1 h
      refine ev_iload_n dX12_more_32 rfl rfl ?_
      refine ev_iconst dX12_more_33 (v := (-1 : Int32)) zci_m1 ?_
      refine ev_icmp_ne dX12_more_34 (tgt := 78) (by decide) (fun c2 => ?_) (fun c2 => ?_)
      · replace h := zif c2 h
        exact EV.mask [true, true, true, true, false] rfl (hk78 l1 l2 l3 I h)
      · replace h := zit c2 h
        refine ev_aload_n dX12_more_37 rfl rfl ?_
        refine em_getA dX12_more_38 zf_NineHeapsModel_7 rfl (hS.has 81 (by decide) (by decide) rfl) hw rfl ?_
        refine ev_iload_n dX12_more_41 rfl rfl ?_
        refine ev_iload_n dX12_more_42 rfl rfl ?_
        refine ev_iload dX12_more_43 rfl ?_
        refine ev_iadd dX12_more_45 rfl ?_
        obtain ⟨g3, h⟩ := zgd h
        obtain ⟨J4, e5, h⟩ := zld h
        refine em_iast dX12_more_46 hS (by decide) (by decide) (N := 9) rfl g3 e5 ?_
        refine ev_aload_n dX12_more_47 rfl rfl ?_
        refine ev_sipush dX12_more_48 (v := (600 : Int32)) zcs_600 ?_
        obtain ⟨p6, e7, h⟩ := zbd h
        refine ev_callV0 dX12_more_51 zm12_goesPlain zl_NineHeapsModel_260 zi12_goesPlain zv12_goesPlain (zrcM hS) (As := [.int (600 : Int32)]) (rest := []) rfl rfl (Nat.le_of_ble_eq_true rfl) rfl (Nat.le_of_ble_eq_true rfl) (d' := 8) (by omega) (e12_goesPlain hw hS (Nat.le_refl _) e7) (fun v μ1 q => ?_)
        obtain ⟨rfl, rfl⟩ := q
        refine ev_aload_n dX12_more_54 rfl rfl ?_
        refine em_getI dX12_more_55 zf_NineHeapsModel_210 rfl (hS.has 81 (by decide) (by decide) rfl) rfl ?_
        refine ev_iload_n dX12_more_58 rfl rfl ?_
        refine ev_ishr dX12_more_59 rfl ?_
        refine ev_iconst dX12_more_60 (v := (1 : Int32)) zci_1 ?_
        refine ev_iand dX12_more_61 rfl ?_
        obtain ⟨x9, e10, h⟩ := zld h
        have k11 : EV w d 0 0 Y12_more 71 [some (.ref 81), some (.int l1), some (.int l2), some (.int l3), some (.int l4)] [.int x9] (n, kd, p6, R) (q12_more n kd R r) := by
          refine ev_istore_n dX12_more_71 rfl (by decide) rfl ?_
          refine ev_iinc dX12_more_72 (v := l4 + (1 : Int32)) rfl rfl (by decide) rfl ?_
          refine ev_goto dX12_more_75 (tgt := 22) (by decide) ?_
          exact EV.mask [true, true, true, true, true] rfl (ih l1 l2 x9 (l4 + (1 : Int32)) p6 h)
        clear h
        have h := e10
        clear e10
        refine ev_if_ne dX12_more_62 (tgt := 70) (by decide) (fun c8 => ?_) (fun c8 => ?_)
        · replace h := zif c8 h
          refine ev_iconst dX12_more_70 (v := (-1 : Int32)) zci_m1 ?_
          obtain rfl := h
          exact k11
        · replace h := zit c8 h
          refine ev_iload dX12_more_65 rfl ?_
          refine ev_goto dX12_more_67 (tgt := 71) (by decide) ?_
          obtain rfl := h
          exact k11
set_option maxHeartbeats 4000000 in
set_option maxRecDepth 100000 in
theorem e12_more_B78 {w : zW} {d : Nat} {n : Nat} {kd : zMK} {R : zMR} {r : Int32 × zMI}  (hw : zst w = zSt0) (hS : zSh n kd) (hd : 9 ≤ d)   : ∀ (l1 : Int32) (l2 : Int32) (l3 : Int32) (I : zMI), f12_more_B78 l1 l2 l3 I = some r → EV w d 0 0 Y12_more 78 [some (.ref 81), some (.int l1), some (.int l2), some (.int l3), none] [] (n, kd, I, R) (q12_more n kd R r) := by
  intro l1 l2 l3 I h
  unfold f12_more_B78 at h
  refine ev_aload_n dX12_more_78 rfl rfl ?_
  refine em_getA dX12_more_79 zf_NineHeapsModel_7 rfl (hS.has 81 (by decide) (by decide) rfl) hw rfl ?_
  refine ev_iload_n dX12_more_82 rfl rfl ?_
  refine ev_iload_n dX12_more_83 rfl rfl ?_
  obtain ⟨g12, h⟩ := zgd h
  obtain ⟨J13, e14, h⟩ := zld h
  refine em_iast dX12_more_84 hS (by decide) (by decide) (N := 9) rfl g12 e14 ?_
  refine ev_iload_n dX12_more_85 rfl rfl ?_
  obtain rfl := Option.some.inj h
  exact ev_end_i dX12_more_86 rfl rfl ⟨rfl, rfl⟩
set_option maxHeartbeats 4000000 in
set_option maxRecDepth 100000 in
theorem e12_more {w : zW} {d : Nat} {n : Nat} {kd : zMK} {I : zMI} {R : zMR} {r : Int32 × zMI} {l1 : Int32} (hw : zst w = zSt0) (hS : zSh n kd) (hd : 9 ≤ d)  (h : f12_more l1 I = some r) : EV w d 0 0 Y12_more 0 [some (.ref 81), some (.int l1), none, none, none] [] (n, kd, I, R) (q12_more n kd R r) := by
  unfold f12_more at h
  refine ev_iload_n dX12_more_0 rfl rfl ?_
  obtain ⟨p15, e16, h⟩ := zbd h
  refine ev_callS0 dX12_more_1 zm12_isHeap zl_NineHeapsModel_130 zs12_isHeap (As := [.int l1]) (rest := []) rfl rfl (Nat.le_of_ble_eq_true rfl) rfl (Nat.le_of_ble_eq_true rfl) (d' := 2) (by omega) (e12_isHeap hw hS (Nat.le_refl _) e16) (fun v μ1 q => ?_)
  obtain ⟨rfl, rfl⟩ := q
  refine ev_if_ne dX12_more_4 (tgt := 10) (by decide) (fun c17 => ?_) (fun c17 => ?_)
  · replace h := zif c17 h
    refine ev_aload_n dX12_more_10 rfl rfl ?_
    refine em_getA dX12_more_11 zf_NineHeapsModel_7 rfl (hS.has 81 (by decide) (by decide) rfl) hw rfl ?_
    refine ev_iload_n dX12_more_14 rfl rfl ?_
    obtain ⟨g18, h⟩ := zgd h
    refine em_iald dX12_more_15 hS (by decide) (by decide) (N := 9) rfl g18 rfl ?_
    refine ev_istore_n dX12_more_16 rfl (by decide) rfl ?_
    refine ev_iconst dX12_more_17 (v := (-1 : Int32)) zci_m1 ?_
    refine ev_istore_n dX12_more_18 rfl (by decide) rfl ?_
    refine ev_iconst dX12_more_19 (v := (0 : Int32)) zci_0 ?_
    refine ev_istore dX12_more_20 (by decide) rfl ?_
    exact EV.mask [true, true, true, true, true] rfl (e12_more_L22 hw hS hd (fun l1' l2' l3' I' h' => e12_more_B78 hw hS hd l1' l2' l3' I' h') zF l1 (I 82 l1.toNatClampNeg) (-1 : Int32) (0 : Int32) I h)
  · replace h := zit c17 h
    refine ev_bipush dX12_more_7 (v := (-2 : Int32)) zcb_m2 ?_
    obtain rfl := Option.some.inj h
    exact ev_end_i dX12_more_9 rfl rfl ⟨rfl, rfl⟩
abbrev q12_secondsOf (n : Nat) (kd : zMK) (R : zMR) (r : Int32 × zMI) : Option Value → zM → Prop := fun v μ1 => v = some (.int r.1) ∧ μ1 = (n, kd, r.2, R)
set_option maxHeartbeats 4000000 in
set_option maxRecDepth 100000 in
theorem e12_secondsOf_L6 {w : zW} {d : Nat} {n : Nat} {kd : zMK} {R : zMR} {r : Int32 × zMI}  (hw : zst w = zSt0) (hS : zSh n kd) (hd : 5 ≤ d)   : ∀ (q : Nat) (l1 : Int32) (l2 : Int32) (l3 : Int32) (l4 : Int32) (l5 : Int32) (I : zMI), f12_secondsOf_L6  q l1 l2 l3 l4 l5 I = some r → EV w d 0 0 Y12_secondsOf 6 [some (.ref 81), some (.int l1), some (.int l2), some (.int l3), some (.int l4), some (.int l5)] [] (n, kd, I, R) (q12_secondsOf n kd R r) := by
  intro q
  induction q with
  | zero =>
    intro l1 l2 l3 l4 l5 I h
    cases h
  | succ q ih =>
    intro l1 l2 l3 l4 l5 I h
    unfold f12_secondsOf_L6 at h
    refine ev_iload dX12_secondsOf_6 rfl ?_
    refine ev_iload_n dX12_secondsOf_8 rfl rfl ?_
    refine ev_iload_n dX12_secondsOf_9 rfl rfl ?_
    refine ev_iadd dX12_secondsOf_10 rfl ?_
    refine ev_icmp_ge dX12_secondsOf_11 (tgt := 56) (by decide) (fun c1 => ?_) (fun c1 => ?_)
    · replace h := zit c1 h
      refine ev_iload dX12_secondsOf_56 rfl ?_
      obtain rfl := Option.some.inj h
      exact ev_end_i dX12_secondsOf_58 rfl rfl ⟨rfl, rfl⟩
    · replace h := zif c1 h
      refine ev_iload dX12_secondsOf_14 rfl ?_
      refine ev_aload_n dX12_secondsOf_16 rfl rfl ?_
      refine ev_iload_n dX12_secondsOf_17 rfl rfl ?_
      refine ev_iload dX12_secondsOf_18 rfl ?_
      refine ev_aload_n dX12_secondsOf_20 rfl rfl ?_
      refine em_getA dX12_secondsOf_21 zf_NineHeapsModel_7 rfl (hS.has 81 (by decide) (by decide) rfl) hw rfl ?_
      refine ev_iload dX12_secondsOf_24 rfl ?_
      obtain ⟨g2, h⟩ := zgd h
      refine em_iald dX12_secondsOf_26 hS (by decide) (by decide) (N := 9) rfl g2 rfl ?_
      refine ev_iconst dX12_secondsOf_27 (v := (0 : Int32)) zci_0 ?_
      obtain ⟨p3, e4, h⟩ := zbd h
      refine ev_callV0 dX12_secondsOf_28 zm12_takesOf zl_NineHeapsModel_236 zi12_takesOf zv12_takesOf (zrcM hS) (As := [.int l1, .int l5, .int (I 82 l5.toNatClampNeg), .int (0 : Int32)]) (rest := [.int l4]) rfl rfl (Nat.le_of_ble_eq_true rfl) rfl (Nat.le_of_ble_eq_true rfl) (d' := 4) (by omega) (e12_takesOf hw hS (Nat.le_refl _) e4) (fun v μ1 q => ?_)
      obtain ⟨rfl, rfl⟩ := q
      refine ev_aload_n dX12_secondsOf_31 rfl rfl ?_
      refine ev_iload_n dX12_secondsOf_32 rfl rfl ?_
      refine ev_iload dX12_secondsOf_33 rfl ?_
      refine ev_aload_n dX12_secondsOf_35 rfl rfl ?_
      refine em_getA dX12_secondsOf_36 zf_NineHeapsModel_7 rfl (hS.has 81 (by decide) (by decide) rfl) hw rfl ?_
      refine ev_iload dX12_secondsOf_39 rfl ?_
      refine em_iald dX12_secondsOf_41 hS (by decide) (by decide) (N := 9) rfl g2 rfl ?_
      refine ev_iconst dX12_secondsOf_42 (v := (0 : Int32)) zci_0 ?_
      obtain ⟨p5, e6, h⟩ := zbd h
      refine ev_callV0 dX12_secondsOf_43 zm12_stepsOf zl_NineHeapsModel_229 zi12_stepsOf zv12_stepsOf (zrcM hS) (As := [.int l1, .int l5, .int (p3.2 82 l5.toNatClampNeg), .int (0 : Int32)]) (rest := [.int p3.1, .int l4]) rfl rfl (Nat.le_of_ble_eq_true rfl) rfl (Nat.le_of_ble_eq_true rfl) (d' := 4) (by omega) (e12_stepsOf hw hS (Nat.le_refl _) e6) (fun v μ1 q => ?_)
      obtain ⟨rfl, rfl⟩ := q
      refine ev_iadd dX12_secondsOf_46 rfl ?_
      refine ev_iadd dX12_secondsOf_47 rfl ?_
      refine ev_istore dX12_secondsOf_48 (by decide) rfl ?_
      refine ev_iinc dX12_secondsOf_50 (v := l5 + (1 : Int32)) rfl rfl (by decide) rfl ?_
      refine ev_goto dX12_secondsOf_53 (tgt := 6) (by decide) ?_
      exact EV.mask [true, true, true, true, true, true] rfl (ih l1 l2 l3 (l4 + (p3.1 + p5.1)) (l5 + (1 : Int32)) p5.2 h)
set_option maxHeartbeats 4000000 in
set_option maxRecDepth 100000 in
theorem e12_secondsOf {w : zW} {d : Nat} {n : Nat} {kd : zMK} {I : zMI} {R : zMR} {r : Int32 × zMI} {l1 : Int32} {l2 : Int32} {l3 : Int32} (hw : zst w = zSt0) (hS : zSh n kd) (hd : 5 ≤ d)  (h : f12_secondsOf l1 l2 l3 I = some r) : EV w d 0 0 Y12_secondsOf 0 [some (.ref 81), some (.int l1), some (.int l2), some (.int l3), none, none] [] (n, kd, I, R) (q12_secondsOf n kd R r) := by
  unfold f12_secondsOf at h
  refine ev_iconst dX12_secondsOf_0 (v := (0 : Int32)) zci_0 ?_
  refine ev_istore dX12_secondsOf_1 (by decide) rfl ?_
  refine ev_iload_n dX12_secondsOf_3 rfl rfl ?_
  refine ev_istore dX12_secondsOf_4 (by decide) rfl ?_
  exact EV.mask [true, true, true, true, true, true] rfl (e12_secondsOf_L6 hw hS hd zF l1 l2 l3 (0 : Int32) l2 I h)
abbrev q12_mostSeconds (n : Nat) (kd : zMK) (R : zMR) (r : Int32 × zMI) : Option Value → zM → Prop := fun v μ1 => v = some (.int r.1) ∧ μ1 = (n, kd, r.2, R)
set_option maxHeartbeats 4000000 in
set_option maxRecDepth 100000 in
theorem e12_mostSeconds_L11 {w : zW} {d : Nat} {n : Nat} {kd : zMK} {R : zMR} {r : Int32 × zMI}  (hw : zst w = zSt0) (hS : zSh n kd) (hd : 6 ≤ d)   : ∀ (q : Nat) (l1 : Int32) (l2 : Int32) (l3 : Int32) (I : zMI), f12_mostSeconds_L11  q l1 l2 l3 I = some r → EV w d 0 0 Y12_mostSeconds 11 [some (.ref 81), some (.int l1), some (.int l2), some (.int l3), none] [] (n, kd, I, R) (q12_mostSeconds n kd R r) := by
  intro q
  induction q with
  | zero =>
    intro l1 l2 l3 I h
    cases h
  | succ q ih =>
    intro l1 l2 l3 I h
    unfold f12_mostSeconds_L11 at h
    refine ev_iload_n dX12_mostSeconds_11 rfl rfl ?_
    refine ev_aload_n dX12_mostSeconds_12 rfl rfl ?_
    refine em_getI dX12_mostSeconds_13 zf_NineHeapsModel_117 rfl (hS.has 81 (by decide) (by decide) rfl) rfl ?_
    refine ev_icmp_ge dX12_mostSeconds_16 (tgt := 72) (by decide) (fun c1 => ?_) (fun c1 => ?_)
    · replace h := zit c1 h
      refine ev_iload_n dX12_mostSeconds_72 rfl rfl ?_
      obtain rfl := Option.some.inj h
      exact ev_end_i dX12_mostSeconds_73 rfl rfl ⟨rfl, rfl⟩
    · replace h := zif c1 h
      refine ev_aload_n dX12_mostSeconds_19 rfl rfl ?_
      refine ev_iload_n dX12_mostSeconds_20 rfl rfl ?_
      refine ev_iload_n dX12_mostSeconds_21 rfl rfl ?_
      refine ev_aload_n dX12_mostSeconds_22 rfl rfl ?_
      refine em_getA dX12_mostSeconds_23 zf_NineHeapsModel_101 rfl (hS.has 81 (by decide) (by decide) rfl) hw rfl ?_
      refine ev_iload_n dX12_mostSeconds_26 rfl rfl ?_
      obtain ⟨g2, h⟩ := zgd h
      refine em_iald dX12_mostSeconds_27 hS (by decide) (by decide) (N := 5) rfl g2 rfl ?_
      obtain ⟨p3, e4, h⟩ := zbd h
      refine ev_callV0 dX12_mostSeconds_28 zm12_secondsOf zl_NineHeapsModel_290 zi12_secondsOf zv12_secondsOf (zrcM hS) (As := [.int l3, .int l1, .int (I 111 l3.toNatClampNeg)]) (rest := []) rfl rfl (Nat.le_of_ble_eq_true rfl) rfl (Nat.le_of_ble_eq_true rfl) (d' := 5) (by omega) (e12_secondsOf hw hS (Nat.le_refl _) e4) (fun v μ1 q => ?_)
      obtain ⟨rfl, rfl⟩ := q
      refine ev_istore dX12_mostSeconds_31 (by decide) rfl ?_
      refine ev_iload_n dX12_mostSeconds_33 rfl rfl ?_
      refine ev_aload_n dX12_mostSeconds_34 rfl rfl ?_
      refine em_getA dX12_mostSeconds_35 zf_NineHeapsModel_101 rfl (hS.has 81 (by decide) (by decide) rfl) hw rfl ?_
      refine ev_iload_n dX12_mostSeconds_38 rfl rfl ?_
      refine em_iald dX12_mostSeconds_39 hS (by decide) (by decide) (N := 5) rfl g2 rfl ?_
      refine ev_iadd dX12_mostSeconds_40 rfl ?_
      obtain ⟨x5, e6, h⟩ := zld h
      refine ev_nm e6 ?_
      refine ev_istore_n dX12_mostSeconds_41 rfl (by decide) rfl ?_
      refine ev_aload_n dX12_mostSeconds_42 rfl rfl ?_
      refine ev_dup dX12_mostSeconds_43 rfl ?_
      refine em_getI dX12_mostSeconds_44 zf_NineHeapsModel_287 rfl (hS.has 81 (by decide) (by decide) rfl) rfl ?_
      refine ev_iload dX12_mostSeconds_47 rfl ?_
      refine ev_iadd dX12_mostSeconds_49 rfl ?_
      obtain ⟨J7, e8, h⟩ := zld h
      refine em_putI dX12_mostSeconds_50 zf_NineHeapsModel_287 (Or.inl rfl) rfl rfl rfl (hS.has 81 (by decide) (by decide) rfl) e8 ?_
      refine ev_iload dX12_mostSeconds_53 rfl ?_
      refine ev_iload_n dX12_mostSeconds_55 rfl rfl ?_
      obtain ⟨x10, e11, h⟩ := zld h
      have k12 : EV w d 0 0 Y12_mostSeconds 65 [some (.ref 81), some (.int x5), some (.int l2), some (.int l3), some (.int p3.1)] [.int x10] (n, kd, J7, R) (q12_mostSeconds n kd R r) := by
        refine ev_istore_n dX12_mostSeconds_65 rfl (by decide) rfl ?_
        refine ev_iinc dX12_mostSeconds_66 (v := l3 + (1 : Int32)) rfl rfl (by decide) rfl ?_
        refine ev_goto dX12_mostSeconds_69 (tgt := 11) (by decide) ?_
        exact EV.mask [true, true, true, true, false] rfl (ih x5 x10 (l3 + (1 : Int32)) J7 h)
      clear h
      have h := e11
      clear e11
      refine ev_icmp_le dX12_mostSeconds_56 (tgt := 64) (by decide) (fun c9 => ?_) (fun c9 => ?_)
      · replace h := zit c9 h
        refine ev_iload_n dX12_mostSeconds_64 rfl rfl ?_
        obtain rfl := h
        exact k12
      · replace h := zif c9 h
        refine ev_iload dX12_mostSeconds_59 rfl ?_
        refine ev_goto dX12_mostSeconds_61 (tgt := 65) (by decide) ?_
        obtain rfl := h
        exact k12
set_option maxHeartbeats 4000000 in
set_option maxRecDepth 100000 in
theorem e12_mostSeconds {w : zW} {d : Nat} {n : Nat} {kd : zMK} {I : zMI} {R : zMR} {r : Int32 × zMI}  (hw : zst w = zSt0) (hS : zSh n kd) (hd : 6 ≤ d)  (h : f12_mostSeconds I = some r) : EV w d 0 0 Y12_mostSeconds 0 [some (.ref 81), none, none, none, none] [] (n, kd, I, R) (q12_mostSeconds n kd R r) := by
  unfold f12_mostSeconds at h
  refine ev_iconst dX12_mostSeconds_0 (v := (0 : Int32)) zci_0 ?_
  refine ev_istore_n dX12_mostSeconds_1 rfl (by decide) rfl ?_
  refine ev_iconst dX12_mostSeconds_2 (v := (0 : Int32)) zci_0 ?_
  refine ev_istore_n dX12_mostSeconds_3 rfl (by decide) rfl ?_
  refine ev_aload_n dX12_mostSeconds_4 rfl rfl ?_
  refine ev_iconst dX12_mostSeconds_5 (v := (0 : Int32)) zci_0 ?_
  obtain ⟨J13, e14, h⟩ := zld h
  refine em_putI dX12_mostSeconds_6 zf_NineHeapsModel_287 (Or.inl rfl) rfl rfl rfl (hS.has 81 (by decide) (by decide) rfl) e14 ?_
  refine ev_iconst dX12_mostSeconds_9 (v := (0 : Int32)) zci_0 ?_
  refine ev_istore_n dX12_mostSeconds_10 rfl (by decide) rfl ?_
  exact EV.mask [true, true, true, true, false] rfl (e12_mostSeconds_L11 hw hS hd zF (0 : Int32) (0 : Int32) (0 : Int32) J13 h)
abbrev q12_tellsStretches (n : Nat) (kd : zMK) (R : zMR) (r : Int32 × zMI) : Option Value → zM → Prop := fun v μ1 => v = some (.int r.1) ∧ μ1 = (n, kd, r.2, R)
set_option maxHeartbeats 4000000 in
set_option maxRecDepth 100000 in
theorem e12_tellsStretches_L12 {w : zW} {d : Nat} {n : Nat} {kd : zMK} {R : zMR} {r : Int32 × zMI} {k49 : Int32 → zMI → Option (Int32 × zMI)} (hw : zst w = zSt0) (hS : zSh n kd) (hd : 2 ≤ d)  (hk49 : ∀ (l3 : Int32) (I : zMI), k49 l3 I = some r → EV w d 0 0 Y12_tellsStretches 49 [some (.ref 81), none, none, some (.int l3), none] [] (n, kd, I, R) (q12_tellsStretches n kd R r)) : ∀ (q : Nat) (l2 : Int32) (l3 : Int32) (l4 : Int32) (I : zMI), f12_tellsStretches_L12 k49 q l2 l3 l4 I = some r → EV w d 0 0 Y12_tellsStretches 12 [some (.ref 81), none, some (.int l2), some (.int l3), some (.int l4)] [] (n, kd, I, R) (q12_tellsStretches n kd R r) := by
  intro q
  induction q with
  | zero =>
    intro l2 l3 l4 I h
    cases h
  | succ q ih =>
    intro l2 l3 l4 I h
    unfold f12_tellsStretches_L12 at h
    refine ev_iload dX12_tellsStretches_12 rfl ?_
    refine ev_if_lt dX12_tellsStretches_14 (tgt := 49) (by decide) (fun c1 => ?_) (fun c1 => ?_)
    · replace h := zit c1 h
      exact EV.mask [true, false, false, true, false] rfl (hk49 l3 I h)
    · replace h := zif c1 h
      refine ev_aload_n dX12_tellsStretches_17 rfl rfl ?_
      refine em_getA dX12_tellsStretches_18 zf_NineHeapsModel_101 rfl (hS.has 81 (by decide) (by decide) rfl) hw rfl ?_
      refine ev_iload dX12_tellsStretches_21 rfl ?_
      refine ev_iload_n dX12_tellsStretches_23 rfl rfl ?_
      refine ev_bipush dX12_tellsStretches_24 (v := (10 : Int32)) zcb_10 ?_
      refine ev_irem dX12_tellsStretches_26 (by decide) rfl ?_
      obtain ⟨g2, h⟩ := zgd h
      obtain ⟨J3, e4, h⟩ := zld h
      refine em_iast dX12_tellsStretches_27 hS (by decide) (by decide) (N := 5) rfl g2 e4 ?_
      refine ev_iload_n dX12_tellsStretches_28 rfl rfl ?_
      refine ev_bipush dX12_tellsStretches_29 (v := (10 : Int32)) zcb_10 ?_
      refine ev_idiv dX12_tellsStretches_31 (by decide) rfl ?_
      refine ev_istore_n dX12_tellsStretches_32 rfl (by decide) rfl ?_
      refine ev_iload_n dX12_tellsStretches_33 rfl rfl ?_
      refine ev_aload_n dX12_tellsStretches_34 rfl rfl ?_
      refine em_getA dX12_tellsStretches_35 zf_NineHeapsModel_101 rfl (hS.has 81 (by decide) (by decide) rfl) hw rfl ?_
      refine ev_iload dX12_tellsStretches_38 rfl ?_
      refine em_iald dX12_tellsStretches_40 hS (by decide) (by decide) (N := 5) rfl g2 rfl ?_
      refine ev_iadd dX12_tellsStretches_41 rfl ?_
      obtain ⟨x5, e6, h⟩ := zld h
      refine ev_nm e6 ?_
      refine ev_istore_n dX12_tellsStretches_42 rfl (by decide) rfl ?_
      refine ev_iinc dX12_tellsStretches_43 (v := l4 + (-1 : Int32)) rfl rfl (by decide) rfl ?_
      refine ev_goto dX12_tellsStretches_46 (tgt := 12) (by decide) ?_
      exact EV.mask [true, false, true, true, true] rfl (ih (l2 / (10 : Int32)) x5 (l4 + (-1 : Int32)) J3 h)
set_option maxHeartbeats 4000000 in
set_option maxRecDepth 100000 in
theorem e12_tellsStretches_B49 {w : zW} {d : Nat} {n : Nat} {kd : zMK} {R : zMR} {r : Int32 × zMI}  (hw : zst w = zSt0) (hS : zSh n kd) (hd : 2 ≤ d)   : ∀ (l3 : Int32) (I : zMI), f12_tellsStretches_B49 l3 I = some r → EV w d 0 0 Y12_tellsStretches 49 [some (.ref 81), none, none, some (.int l3), none] [] (n, kd, I, R) (q12_tellsStretches n kd R r) := by
  intro l3 I h
  unfold f12_tellsStretches_B49 at h
  refine ev_aload_n dX12_tellsStretches_49 rfl rfl ?_
  refine em_getA dX12_tellsStretches_50 zf_NineHeapsModel_101 rfl (hS.has 81 (by decide) (by decide) rfl) hw rfl ?_
  refine ev_aload_n dX12_tellsStretches_53 rfl rfl ?_
  refine em_getI dX12_tellsStretches_54 zf_NineHeapsModel_117 rfl (hS.has 81 (by decide) (by decide) rfl) rfl ?_
  refine ev_iconst dX12_tellsStretches_57 (v := (1 : Int32)) zci_1 ?_
  refine ev_isub dX12_tellsStretches_58 rfl ?_
  refine ev_iconst dX12_tellsStretches_59 (v := (0 : Int32)) zci_0 ?_
  refine ev_iconst dX12_tellsStretches_60 (v := (4 : Int32)) zci_4 ?_
  obtain ⟨p7, e8, h⟩ := zbd h
  refine ev_callS0 dX12_tellsStretches_61 zm12_within zl_NineHeapsModel_200 zs12_within (As := [.int ((I 81 3) - (1 : Int32)), .int (0 : Int32), .int (4 : Int32)]) (rest := [.ref 111]) rfl rfl (Nat.le_of_ble_eq_true rfl) rfl (Nat.le_of_ble_eq_true rfl) (d' := 1) (by omega) (e12_within hw hS (Nat.le_refl _) e8) (fun v μ1 q => ?_)
  obtain ⟨rfl, rfl⟩ := q
  refine ev_bipush dX12_tellsStretches_64 (v := (9 : Int32)) zcb_9 ?_
  refine ev_iload_n dX12_tellsStretches_66 rfl rfl ?_
  refine ev_isub dX12_tellsStretches_67 rfl ?_
  obtain ⟨g9, h⟩ := zgd h
  obtain ⟨J10, e11, h⟩ := zld h
  refine em_iast dX12_tellsStretches_68 hS (by decide) (by decide) (N := 5) rfl g9 e11 ?_
  refine ev_iload_n dX12_tellsStretches_69 rfl rfl ?_
  refine ev_bipush dX12_tellsStretches_70 (v := (9 : Int32)) zcb_9 ?_
  obtain ⟨x13, e14, h⟩ := zld h
  have k16 : EV w d 0 0 Y12_tellsStretches 80 [some (.ref 81), none, none, some (.int l3), none] [.int x13] (n, kd, J10, R) (q12_tellsStretches n kd R r) := by
    obtain ⟨g15, h⟩ := zgd h
    obtain rfl := Option.some.inj h
    exact ev_end_i dX12_tellsStretches_80 rfl (zbB_n g15) ⟨rfl, rfl⟩
  clear h
  have h := e14
  clear e14
  refine ev_icmp_gt dX12_tellsStretches_72 (tgt := 79) (by decide) (fun c12 => ?_) (fun c12 => ?_)
  · replace h := zit c12 h
    refine ev_iconst dX12_tellsStretches_79 (v := (0 : Int32)) zci_0 ?_
    obtain rfl := h
    exact k16
  · replace h := zif c12 h
    refine ev_iconst dX12_tellsStretches_75 (v := (1 : Int32)) zci_1 ?_
    refine ev_goto dX12_tellsStretches_76 (tgt := 80) (by decide) ?_
    obtain rfl := h
    exact k16
set_option maxHeartbeats 4000000 in
set_option maxRecDepth 100000 in
theorem e12_tellsStretches {w : zW} {d : Nat} {n : Nat} {kd : zMK} {I : zMI} {R : zMR} {r : Int32 × zMI} {l1 : Int32} (hw : zst w = zSt0) (hS : zSh n kd) (hd : 2 ≤ d)  (h : f12_tellsStretches l1 I = some r) : EV w d 0 0 Y12_tellsStretches 0 [some (.ref 81), some (.int l1), none, none, none] [] (n, kd, I, R) (q12_tellsStretches n kd R r) := by
  unfold f12_tellsStretches at h
  refine ev_iload_n dX12_tellsStretches_0 rfl rfl ?_
  refine ev_istore_n dX12_tellsStretches_1 rfl (by decide) rfl ?_
  refine ev_iconst dX12_tellsStretches_2 (v := (0 : Int32)) zci_0 ?_
  refine ev_istore_n dX12_tellsStretches_3 rfl (by decide) rfl ?_
  refine ev_aload_n dX12_tellsStretches_4 rfl rfl ?_
  refine em_getI dX12_tellsStretches_5 zf_NineHeapsModel_117 rfl (hS.has 81 (by decide) (by decide) rfl) rfl ?_
  refine ev_iconst dX12_tellsStretches_8 (v := (2 : Int32)) zci_2 ?_
  refine ev_isub dX12_tellsStretches_9 rfl ?_
  refine ev_istore dX12_tellsStretches_10 (by decide) rfl ?_
  exact EV.mask [true, false, true, true, true] rfl (e12_tellsStretches_L12 hw hS hd (fun l3' I' h' => e12_tellsStretches_B49 hw hS hd l3' I' h') zF l1 (0 : Int32) ((I 81 3) - (2 : Int32)) I h)
abbrev q12_tens (n : Nat) (kd : zMK) (I : zMI) (R : zMR) (r : Int32) : Option Value → zM → Prop := fun v μ1 => v = some (.int r) ∧ μ1 = (n, kd, I, R)
set_option maxHeartbeats 4000000 in
set_option maxRecDepth 100000 in
theorem e12_tens_L4 {w : zW} {d : Nat} {n : Nat} {kd : zMK} {I : zMI} {R : zMR} {r : Int32}  (hw : zst w = zSt0) (hS : zSh n kd) (hd : 1 ≤ d)   : ∀ (q : Nat) (l1 : Int32) (l2 : Int32) (l3 : Int32) , f12_tens_L4  q l1 l2 l3 = some r → EV w d 0 0 Y12_tens 4 [none, some (.int l1), some (.int l2), some (.int l3)] [] (n, kd, I, R) (q12_tens n kd I R r) := by
  intro q
  induction q with
  | zero =>
    intro l1 l2 l3 h
    cases h
  | succ q ih =>
    intro l1 l2 l3 h
    unfold f12_tens_L4 at h
    refine ev_iload_n dX12_tens_4 rfl rfl ?_
    refine ev_iload_n dX12_tens_5 rfl rfl ?_
    refine ev_icmp_ge dX12_tens_6 (tgt := 20) (by decide) (fun c1 => ?_) (fun c1 => ?_)
    · replace h := zit c1 h
      refine ev_iload_n dX12_tens_20 rfl rfl ?_
      obtain rfl := Option.some.inj h
      exact ev_end_i dX12_tens_21 rfl rfl ⟨rfl, rfl⟩
    · replace h := zif c1 h
      refine ev_iload_n dX12_tens_9 rfl rfl ?_
      refine ev_bipush dX12_tens_10 (v := (10 : Int32)) zcb_10 ?_
      refine ev_imul dX12_tens_12 rfl ?_
      refine ev_istore_n dX12_tens_13 rfl (by decide) rfl ?_
      refine ev_iinc dX12_tens_14 (v := l3 + (1 : Int32)) rfl rfl (by decide) rfl ?_
      refine ev_goto dX12_tens_17 (tgt := 4) (by decide) ?_
      exact EV.mask [false, true, true, true] rfl (ih l1 (l2 * (10 : Int32)) (l3 + (1 : Int32)) h)
set_option maxHeartbeats 4000000 in
set_option maxRecDepth 100000 in
theorem e12_tens {w : zW} {d : Nat} {n : Nat} {kd : zMK} {I : zMI} {R : zMR} {r : Int32} {l1 : Int32} (hw : zst w = zSt0) (hS : zSh n kd) (hd : 1 ≤ d)  (h : f12_tens l1 = some r) : EV w d 0 0 Y12_tens 0 [some (.ref 81), some (.int l1), none, none] [] (n, kd, I, R) (q12_tens n kd I R r) := by
  unfold f12_tens at h
  refine ev_iconst dX12_tens_0 (v := (1 : Int32)) zci_1 ?_
  refine ev_istore_n dX12_tens_1 rfl (by decide) rfl ?_
  refine ev_iconst dX12_tens_2 (v := (0 : Int32)) zci_0 ?_
  refine ev_istore_n dX12_tens_3 rfl (by decide) rfl ?_
  exact EV.mask [false, true, true, true] rfl (e12_tens_L4 hw hS hd zF l1 (1 : Int32) (0 : Int32) h)
abbrev q12_findsStretches (n : Nat) (kd : zMK) (R : zMR) (r : Int32 × zMI) : Option Value → zM → Prop := fun v μ1 => v = some (.int r.1) ∧ μ1 = (n, kd, r.2, R)
set_option maxHeartbeats 4000000 in
set_option maxRecDepth 100000 in
theorem e12_findsStretches_L53 {w : zW} {d : Nat} {n : Nat} {kd : zMK} {R : zMR} {r : Int32 × zMI} {k79 : Int32 → Int32 → zMI → Option (Int32 × zMI)} (hw : zst w = zSt0) (hS : zSh n kd) (hd : 7 ≤ d)  (hk79 : ∀ (l1 : Int32) (l2 : Int32) (I : zMI), k79 l1 l2 I = some r → EV w d 0 0 Y12_findsStretches 79 [some (.ref 81), some (.int l1), some (.int l2), none, none] [] (n, kd, I, R) (q12_findsStretches n kd R r)) : ∀ (q : Nat) (l1 : Int32) (l2 : Int32) (l4 : Int32) (I : zMI), f12_findsStretches_L53 k79 q l1 l2 l4 I = some r → EV w d 0 0 Y12_findsStretches 53 [some (.ref 81), some (.int l1), some (.int l2), none, some (.int l4)] [] (n, kd, I, R) (q12_findsStretches n kd R r) := by
  intro q
  induction q with
  | zero =>
    intro l1 l2 l4 I h
    cases h
  | succ q ih =>
    intro l1 l2 l4 I h
    unfold f12_findsStretches_L53 at h
    refine ev_iload dX12_findsStretches_53 rfl ?_
    refine ev_iconst dX12_findsStretches_55 (v := (5 : Int32)) zci_5 ?_
    refine ev_icmp_ge dX12_findsStretches_56 (tgt := 79) (by decide) (fun c1 => ?_) (fun c1 => ?_)
    · replace h := zit c1 h
      exact EV.mask [true, true, true, false, false] rfl (hk79 l1 l2 I h)
    · replace h := zif c1 h
      refine ev_aload_n dX12_findsStretches_59 rfl rfl ?_
      refine em_getA dX12_findsStretches_60 zf_NineHeapsModel_104 rfl (hS.has 81 (by decide) (by decide) rfl) hw rfl ?_
      refine ev_iload dX12_findsStretches_63 rfl ?_
      refine ev_aload_n dX12_findsStretches_65 rfl rfl ?_
      refine em_getA dX12_findsStretches_66 zf_NineHeapsModel_101 rfl (hS.has 81 (by decide) (by decide) rfl) hw rfl ?_
      refine ev_iload dX12_findsStretches_69 rfl ?_
      obtain ⟨g2, h⟩ := zgd h
      refine em_iald dX12_findsStretches_71 hS (by decide) (by decide) (N := 5) rfl g2 rfl ?_
      obtain ⟨J3, e4, h⟩ := zld h
      refine em_iast dX12_findsStretches_72 hS (by decide) (by decide) (N := 5) rfl g2 e4 ?_
      refine ev_iinc dX12_findsStretches_73 (v := l4 + (1 : Int32)) rfl rfl (by decide) rfl ?_
      refine ev_goto dX12_findsStretches_76 (tgt := 53) (by decide) ?_
      exact EV.mask [true, true, true, false, true] rfl (ih l1 l2 (l4 + (1 : Int32)) J3 h)
set_option maxHeartbeats 4000000 in
set_option maxRecDepth 100000 in
theorem e12_findsStretches_B79 {w : zW} {d : Nat} {n : Nat} {kd : zMK} {R : zMR} {r : Int32 × zMI} {k4 : Int32 → Int32 → zMI → Option (Int32 × zMI)} (hw : zst w = zSt0) (hS : zSh n kd) (hd : 7 ≤ d)  (hk4 : ∀ (l1 : Int32) (l2 : Int32) (I : zMI), k4 l1 l2 I = some r → EV w d 0 0 Y12_findsStretches 4 [some (.ref 81), some (.int l1), some (.int l2), none, none] [] (n, kd, I, R) (q12_findsStretches n kd R r)) : ∀ (l1 : Int32) (l2 : Int32) (I : zMI), f12_findsStretches_B79 k4 l1 l2 I = some r → EV w d 0 0 Y12_findsStretches 79 [some (.ref 81), some (.int l1), some (.int l2), none, none] [] (n, kd, I, R) (q12_findsStretches n kd R r) := by
  intro l1 l2 I h
  unfold f12_findsStretches_B79 at h
  refine ev_iinc dX12_findsStretches_79 (v := l2 + (1 : Int32)) rfl rfl (by decide) rfl ?_
  refine ev_goto dX12_findsStretches_82 (tgt := 4) (by decide) ?_
  exact EV.mask [true, true, true, false, false] rfl (hk4 l1 (l2 + (1 : Int32)) I h)
set_option maxHeartbeats 4000000 in
set_option maxRecDepth 100000 in
theorem e12_findsStretches_B48 {w : zW} {d : Nat} {n : Nat} {kd : zMK} {R : zMR} {r : Int32 × zMI} {k4 : Int32 → Int32 → zMI → Option (Int32 × zMI)} (hw : zst w = zSt0) (hS : zSh n kd) (hd : 7 ≤ d)  (hk4 : ∀ (l1 : Int32) (l2 : Int32) (I : zMI), k4 l1 l2 I = some r → EV w d 0 0 Y12_findsStretches 4 [some (.ref 81), some (.int l1), some (.int l2), none, none] [] (n, kd, I, R) (q12_findsStretches n kd R r)) : ∀ (l2 : Int32) (l3 : Int32) (I : zMI), f12_findsStretches_B48 k4 l2 l3 I = some r → EV w d 0 0 Y12_findsStretches 48 [some (.ref 81), none, some (.int l2), some (.int l3), none] [] (n, kd, I, R) (q12_findsStretches n kd R r) := by
  intro l2 l3 I h
  unfold f12_findsStretches_B48 at h
  refine ev_iload_n dX12_findsStretches_48 rfl rfl ?_
  refine ev_istore_n dX12_findsStretches_49 rfl (by decide) rfl ?_
  refine ev_iconst dX12_findsStretches_50 (v := (0 : Int32)) zci_0 ?_
  refine ev_istore dX12_findsStretches_51 (by decide) rfl ?_
  exact EV.mask [true, true, true, false, true] rfl (e12_findsStretches_L53 hw hS hd (fun l1' l2' I' h' => e12_findsStretches_B79 hw hS hd hk4 l1' l2' I' h') zF l3 l2 (0 : Int32) I h)
set_option maxHeartbeats 4000000 in
set_option maxRecDepth 100000 in
theorem e12_findsStretches_L4 {w : zW} {d : Nat} {n : Nat} {kd : zMK} {R : zMR} {r : Int32 × zMI} {k85 : Int32 → zMI → Option (Int32 × zMI)} (hw : zst w = zSt0) (hS : zSh n kd) (hd : 7 ≤ d)  (hk85 : ∀ (l1 : Int32) (I : zMI), k85 l1 I = some r → EV w d 0 0 Y12_findsStretches 85 [some (.ref 81), some (.int l1), none, none, none] [] (n, kd, I, R) (q12_findsStretches n kd R r)) : ∀ (q : Nat) (l1 : Int32) (l2 : Int32) (I : zMI), f12_findsStretches_L4 k85 q l1 l2 I = some r → EV w d 0 0 Y12_findsStretches 4 [some (.ref 81), some (.int l1), some (.int l2), none, none] [] (n, kd, I, R) (q12_findsStretches n kd R r) := by
  intro q
  induction q with
  | zero =>
    intro l1 l2 I h
    cases h
  | succ q ih =>
    intro l1 l2 I h
    unfold f12_findsStretches_L4 at h
    refine ev_iload_n dX12_findsStretches_4 rfl rfl ?_
    refine ev_aload_n dX12_findsStretches_5 rfl rfl ?_
    refine ev_aload_n dX12_findsStretches_6 rfl rfl ?_
    refine em_getI dX12_findsStretches_7 zf_NineHeapsModel_117 rfl (hS.has 81 (by decide) (by decide) rfl) rfl ?_
    refine ev_iconst dX12_findsStretches_10 (v := (1 : Int32)) zci_1 ?_
    refine ev_isub dX12_findsStretches_11 rfl ?_
    obtain ⟨p5, e6, h⟩ := zbd h
    refine ev_callV0 dX12_findsStretches_12 zm12_tens zl_NineHeapsModel_293 zi12_tens zv12_tens (zrcM hS) (As := [.int ((I 81 3) - (1 : Int32))]) (rest := [.int l2]) rfl rfl (Nat.le_of_ble_eq_true rfl) rfl (Nat.le_of_ble_eq_true rfl) (d' := 1) (by omega) (e12_tens hw hS (Nat.le_refl _) e6) (fun v μ1 q => ?_)
    obtain ⟨rfl, rfl⟩ := q
    refine ev_icmp_ge dX12_findsStretches_15 (tgt := 85) (by decide) (fun c7 => ?_) (fun c7 => ?_)
    · replace h := zit c7 h
      exact EV.mask [true, true, false, false, false] rfl (hk85 l1 I h)
    · replace h := zif c7 h
      refine ev_aload_n dX12_findsStretches_18 rfl rfl ?_
      refine em_getI dX12_findsStretches_19 zf_NineHeapsModel_117 rfl (hS.has 81 (by decide) (by decide) rfl) rfl ?_
      refine ev_if_le dX12_findsStretches_22 (tgt := 85) (by decide) (fun c8 => ?_) (fun c8 => ?_)
      · replace h := zit c8 h
        exact EV.mask [true, true, false, false, false] rfl (hk85 l1 I h)
      · replace h := zif c8 h
        refine ev_aload_n dX12_findsStretches_25 rfl rfl ?_
        refine ev_iload_n dX12_findsStretches_26 rfl rfl ?_
        obtain ⟨p9, e10, h⟩ := zbd h
        refine ev_callV0 dX12_findsStretches_27 zm12_tellsStretches zl_NineHeapsModel_296 zi12_tellsStretches zv12_tellsStretches (zrcM hS) (As := [.int l2]) (rest := []) rfl rfl (Nat.le_of_ble_eq_true rfl) rfl (Nat.le_of_ble_eq_true rfl) (d' := 2) (by omega) (e12_tellsStretches hw hS (Nat.le_refl _) e10) (fun v μ1 q => ?_)
        obtain ⟨rfl, rfl⟩ := q
        refine ev_if_eq dX12_findsStretches_30 (tgt := 79) (by decide) (fun c11 => ?_) (fun c11 => ?_)
        · replace h := zit c11 h
          exact EV.mask [true, true, true, false, false] rfl (e12_findsStretches_B79 hw hS hd (fun l1' l2' I' h' => ih l1' l2' I' h') l1 l2 p9.2 h)
        · replace h := zif c11 h
          refine ev_aload_n dX12_findsStretches_33 rfl rfl ?_
          obtain ⟨p12, e13, h⟩ := zbd h
          refine ev_callV0 dX12_findsStretches_34 zm12_mostSeconds zl_NineHeapsModel_299 zi12_mostSeconds zv12_mostSeconds (zrcM hS) (As := []) (rest := []) rfl rfl (Nat.le_of_ble_eq_true rfl) rfl (Nat.le_of_ble_eq_true rfl) (d' := 6) (by omega) (e12_mostSeconds hw hS (Nat.le_refl _) e13) (fun v μ1 q => ?_)
          obtain ⟨rfl, rfl⟩ := q
          refine ev_istore_n dX12_findsStretches_37 rfl (by decide) rfl ?_
          refine ev_iload_n dX12_findsStretches_38 rfl rfl ?_
          refine ev_iconst dX12_findsStretches_39 (v := (-1 : Int32)) zci_m1 ?_
          refine ev_icmp_eq dX12_findsStretches_40 (tgt := 48) (by decide) (fun c14 => ?_) (fun c14 => ?_)
          · replace h := zit c14 h
            exact EV.mask [true, false, true, true, false] rfl (e12_findsStretches_B48 hw hS hd (fun l1' l2' I' h' => ih l1' l2' I' h') l2 p12.1 p12.2 h)
          · replace h := zif c14 h
            refine ev_iload_n dX12_findsStretches_43 rfl rfl ?_
            refine ev_iload_n dX12_findsStretches_44 rfl rfl ?_
            refine ev_icmp_ge dX12_findsStretches_45 (tgt := 79) (by decide) (fun c15 => ?_) (fun c15 => ?_)
            · replace h := zit c15 h
              exact EV.mask [true, true, true, false, false] rfl (e12_findsStretches_B79 hw hS hd (fun l1' l2' I' h' => ih l1' l2' I' h') l1 l2 p12.2 h)
            · replace h := zif c15 h
              exact EV.mask [true, false, true, true, false] rfl (e12_findsStretches_B48 hw hS hd (fun l1' l2' I' h' => ih l1' l2' I' h') l2 p12.1 p12.2 h)
set_option maxHeartbeats 4000000 in
set_option maxRecDepth 100000 in
theorem e12_findsStretches_L87 {w : zW} {d : Nat} {n : Nat} {kd : zMK} {R : zMR} {r : Int32 × zMI}  (hw : zst w = zSt0) (hS : zSh n kd) (hd : 7 ≤ d)   : ∀ (q : Nat) (l1 : Int32) (l2 : Int32) (I : zMI), f12_findsStretches_L87  q l1 l2 I = some r → EV w d 0 0 Y12_findsStretches 87 [some (.ref 81), some (.int l1), some (.int l2), none, none] [] (n, kd, I, R) (q12_findsStretches n kd R r) := by
  intro q
  induction q with
  | zero =>
    intro l1 l2 I h
    cases h
  | succ q ih =>
    intro l1 l2 I h
    unfold f12_findsStretches_L87 at h
    refine ev_iload_n dX12_findsStretches_87 rfl rfl ?_
    refine ev_iconst dX12_findsStretches_88 (v := (5 : Int32)) zci_5 ?_
    refine ev_icmp_ge dX12_findsStretches_89 (tgt := 110) (by decide) (fun c16 => ?_) (fun c16 => ?_)
    · replace h := zit c16 h
      refine ev_iload_n dX12_findsStretches_110 rfl rfl ?_
      obtain rfl := Option.some.inj h
      exact ev_end_i dX12_findsStretches_111 rfl rfl ⟨rfl, rfl⟩
    · replace h := zif c16 h
      refine ev_aload_n dX12_findsStretches_92 rfl rfl ?_
      refine em_getA dX12_findsStretches_93 zf_NineHeapsModel_101 rfl (hS.has 81 (by decide) (by decide) rfl) hw rfl ?_
      refine ev_iload_n dX12_findsStretches_96 rfl rfl ?_
      refine ev_aload_n dX12_findsStretches_97 rfl rfl ?_
      refine em_getA dX12_findsStretches_98 zf_NineHeapsModel_104 rfl (hS.has 81 (by decide) (by decide) rfl) hw rfl ?_
      refine ev_iload_n dX12_findsStretches_101 rfl rfl ?_
      obtain ⟨g17, h⟩ := zgd h
      refine em_iald dX12_findsStretches_102 hS (by decide) (by decide) (N := 5) rfl g17 rfl ?_
      obtain ⟨J18, e19, h⟩ := zld h
      refine em_iast dX12_findsStretches_103 hS (by decide) (by decide) (N := 5) rfl g17 e19 ?_
      refine ev_iinc dX12_findsStretches_104 (v := l2 + (1 : Int32)) rfl rfl (by decide) rfl ?_
      refine ev_goto dX12_findsStretches_107 (tgt := 87) (by decide) ?_
      exact EV.mask [true, true, true, false, false] rfl (ih l1 (l2 + (1 : Int32)) J18 h)
set_option maxHeartbeats 4000000 in
set_option maxRecDepth 100000 in
theorem e12_findsStretches_B85 {w : zW} {d : Nat} {n : Nat} {kd : zMK} {R : zMR} {r : Int32 × zMI}  (hw : zst w = zSt0) (hS : zSh n kd) (hd : 7 ≤ d)   : ∀ (l1 : Int32) (I : zMI), f12_findsStretches_B85 l1 I = some r → EV w d 0 0 Y12_findsStretches 85 [some (.ref 81), some (.int l1), none, none, none] [] (n, kd, I, R) (q12_findsStretches n kd R r) := by
  intro l1 I h
  unfold f12_findsStretches_B85 at h
  refine ev_iconst dX12_findsStretches_85 (v := (0 : Int32)) zci_0 ?_
  refine ev_istore_n dX12_findsStretches_86 rfl (by decide) rfl ?_
  exact EV.mask [true, true, true, false, false] rfl (e12_findsStretches_L87 hw hS hd zF l1 (0 : Int32) I h)
set_option maxHeartbeats 4000000 in
set_option maxRecDepth 100000 in
theorem e12_findsStretches {w : zW} {d : Nat} {n : Nat} {kd : zMK} {I : zMI} {R : zMR} {r : Int32 × zMI}  (hw : zst w = zSt0) (hS : zSh n kd) (hd : 7 ≤ d)  (h : f12_findsStretches I = some r) : EV w d 0 0 Y12_findsStretches 0 [some (.ref 81), none, none, none, none] [] (n, kd, I, R) (q12_findsStretches n kd R r) := by
  unfold f12_findsStretches at h
  refine ev_iconst dX12_findsStretches_0 (v := (-1 : Int32)) zci_m1 ?_
  refine ev_istore_n dX12_findsStretches_1 rfl (by decide) rfl ?_
  refine ev_iconst dX12_findsStretches_2 (v := (0 : Int32)) zci_0 ?_
  refine ev_istore_n dX12_findsStretches_3 rfl (by decide) rfl ?_
  exact EV.mask [true, true, true, false, false] rfl (e12_findsStretches_L4 hw hS hd (fun l1' I' h' => e12_findsStretches_B85 hw hS hd l1' I' h') zF (-1 : Int32) (0 : Int32) I h)
abbrev q12_stretch (n : Nat) (kd : zMK) (R : zMR) (r : Int32 × zMI) : Option Value → zM → Prop := fun v μ1 => v = some (.int r.1) ∧ μ1 = (n, kd, r.2, R)
set_option maxHeartbeats 4000000 in
set_option maxRecDepth 100000 in
theorem e12_stretch_L34 {w : zW} {d : Nat} {n : Nat} {kd : zMK} {R : zMR} {r : Int32 × zMI} {k62 : Int32 → Int32 → Int32 → zMI → Option (Int32 × zMI)} (hw : zst w = zSt0) (hS : zSh n kd) (hd : 8 ≤ d)  (hk62 : ∀ (l1 : Int32) (l2 : Int32) (l3 : Int32) (I : zMI), k62 l1 l2 l3 I = some r → EV w d 0 0 Y12_stretch 62 [some (.ref 81), some (.int l1), some (.int l2), some (.int l3), none] [] (n, kd, I, R) (q12_stretch n kd R r)) : ∀ (q : Nat) (l1 : Int32) (l2 : Int32) (l3 : Int32) (l4 : Int32) (I : zMI), f12_stretch_L34 k62 q l1 l2 l3 l4 I = some r → EV w d 0 0 Y12_stretch 34 [some (.ref 81), some (.int l1), some (.int l2), some (.int l3), some (.int l4)] [] (n, kd, I, R) (q12_stretch n kd R r) := by
  intro q
  induction q with
  | zero =>
    intro l1 l2 l3 l4 I h
    cases h
  | succ q ih =>
    intro l1 l2 l3 l4 I h
    unfold f12_stretch_L34 at h
    refine ev_iload dX12_stretch_34 rfl ?_
    refine ev_aload_n dX12_stretch_36 rfl rfl ?_
    refine em_getI dX12_stretch_37 zf_NineHeapsModel_117 rfl (hS.has 81 (by decide) (by decide) rfl) rfl ?_
    refine ev_icmp_ge dX12_stretch_40 (tgt := 62) (by decide) (fun c1 => ?_) (fun c1 => ?_)
    · replace h := zit c1 h
      exact EV.mask [true, true, true, true, false] rfl (hk62 l1 l2 l3 I h)
    · replace h := zif c1 h
      refine ev_bipush dX12_stretch_43 (v := (10 : Int32)) zcb_10 ?_
      refine ev_iload_n dX12_stretch_45 rfl rfl ?_
      refine ev_imul dX12_stretch_46 rfl ?_
      refine ev_aload_n dX12_stretch_47 rfl rfl ?_
      refine em_getA dX12_stretch_48 zf_NineHeapsModel_101 rfl (hS.has 81 (by decide) (by decide) rfl) hw rfl ?_
      refine ev_iload dX12_stretch_51 rfl ?_
      obtain ⟨g2, h⟩ := zgd h
      refine em_iald dX12_stretch_53 hS (by decide) (by decide) (N := 5) rfl g2 rfl ?_
      refine ev_iadd dX12_stretch_54 rfl ?_
      obtain ⟨x3, e4, h⟩ := zld h
      refine ev_nm e4 ?_
      refine ev_istore_n dX12_stretch_55 rfl (by decide) rfl ?_
      refine ev_iinc dX12_stretch_56 (v := l4 + (1 : Int32)) rfl rfl (by decide) rfl ?_
      refine ev_goto dX12_stretch_59 (tgt := 34) (by decide) ?_
      exact EV.mask [true, true, true, true, true] rfl (ih l1 l2 x3 (l4 + (1 : Int32)) I h)
set_option maxHeartbeats 4000000 in
set_option maxRecDepth 100000 in
theorem e12_stretch_B62 {w : zW} {d : Nat} {n : Nat} {kd : zMK} {R : zMR} {r : Int32 × zMI}  (hw : zst w = zSt0) (hS : zSh n kd) (hd : 8 ≤ d)   : ∀ (l1 : Int32) (l2 : Int32) (l3 : Int32) (I : zMI), f12_stretch_B62 l1 l2 l3 I = some r → EV w d 0 0 Y12_stretch 62 [some (.ref 81), some (.int l1), some (.int l2), some (.int l3), none] [] (n, kd, I, R) (q12_stretch n kd R r) := by
  intro l1 l2 l3 I h
  unfold f12_stretch_B62 at h
  refine ev_iload_n dX12_stretch_62 rfl rfl ?_
  obtain ⟨x7, e8, h⟩ := zld h
  have k9 : EV w d 0 0 Y12_stretch 92 [some (.ref 81), some (.int l1), some (.int l2), some (.int l3), none] [.int x7] (n, kd, I, R) (q12_stretch n kd R r) := by
    obtain rfl := Option.some.inj h
    exact ev_end_i dX12_stretch_92 rfl rfl ⟨rfl, rfl⟩
  clear h
  have h := e8
  clear e8
  refine ev_if_ne dX12_stretch_63 (tgt := 70) (by decide) (fun c5 => ?_) (fun c5 => ?_)
  · replace h := zif c5 h
    refine ev_iload_n dX12_stretch_70 rfl rfl ?_
    refine ev_iconst dX12_stretch_71 (v := (1 : Int32)) zci_1 ?_
    refine ev_icmp_ne dX12_stretch_72 (tgt := 79) (by decide) (fun c6 => ?_) (fun c6 => ?_)
    · replace h := zif c6 h
      refine ev_aload_n dX12_stretch_79 rfl rfl ?_
      refine em_getI dX12_stretch_80 zf_NineHeapsModel_287 rfl (hS.has 81 (by decide) (by decide) rfl) rfl ?_
      refine ev_iload_n dX12_stretch_83 rfl rfl ?_
      refine ev_aload_n dX12_stretch_84 rfl rfl ?_
      refine em_getI dX12_stretch_85 zf_NineHeapsModel_16 rfl (hS.has 81 (by decide) (by decide) rfl) rfl ?_
      refine ev_iconst dX12_stretch_88 (v := (1 : Int32)) zci_1 ?_
      refine ev_isub dX12_stretch_89 rfl ?_
      refine ev_imul dX12_stretch_90 rfl ?_
      refine ev_iadd dX12_stretch_91 rfl ?_
      obtain rfl := h
      exact k9
    · replace h := zit c6 h
      refine ev_iload_n dX12_stretch_75 rfl rfl ?_
      refine ev_goto dX12_stretch_76 (tgt := 92) (by decide) ?_
      obtain rfl := h
      exact k9
  · replace h := zit c5 h
    refine ev_iload_n dX12_stretch_66 rfl rfl ?_
    refine ev_goto dX12_stretch_67 (tgt := 92) (by decide) ?_
    obtain rfl := h
    exact k9
set_option maxHeartbeats 4000000 in
set_option maxRecDepth 100000 in
theorem e12_stretch {w : zW} {d : Nat} {n : Nat} {kd : zMK} {I : zMI} {R : zMR} {r : Int32 × zMI} {l1 : Int32} (hw : zst w = zSt0) (hS : zSh n kd) (hd : 8 ≤ d)  (h : f12_stretch l1 I = some r) : EV w d 0 0 Y12_stretch 0 [some (.ref 81), some (.int l1), none, none, none] [] (n, kd, I, R) (q12_stretch n kd R r) := by
  unfold f12_stretch at h
  refine ev_iload_n dX12_stretch_0 rfl rfl ?_
  refine ev_iconst dX12_stretch_1 (v := (0 : Int32)) zci_0 ?_
  refine ev_iconst dX12_stretch_2 (v := (2 : Int32)) zci_2 ?_
  obtain ⟨p10, e11, h⟩ := zbd h
  refine ev_callS0 dX12_stretch_3 zm12_in zl_NineHeapsModel_120 zs12_in (As := [.int l1, .int (0 : Int32), .int (2 : Int32)]) (rest := []) rfl rfl (Nat.le_of_ble_eq_true rfl) rfl (Nat.le_of_ble_eq_true rfl) (d' := 1) (by omega) (e12_in hw hS (Nat.le_refl _) e11) (fun v μ1 q => ?_)
  obtain ⟨rfl, rfl⟩ := q
  refine ev_if_ne dX12_stretch_6 (tgt := 12) (by decide) (fun c12 => ?_) (fun c12 => ?_)
  · replace h := zif c12 h
    refine ev_aload_n dX12_stretch_12 rfl rfl ?_
    obtain ⟨p13, e14, h⟩ := zbd h
    refine ev_callV0 dX12_stretch_13 zm12_findsStretches zl_NineHeapsModel_302 zi12_findsStretches zv12_findsStretches (zrcM hS) (As := []) (rest := []) rfl rfl (Nat.le_of_ble_eq_true rfl) rfl (Nat.le_of_ble_eq_true rfl) (d' := 7) (by omega) (e12_findsStretches hw hS (Nat.le_refl _) e14) (fun v μ1 q => ?_)
    obtain ⟨rfl, rfl⟩ := q
    refine ev_istore_n dX12_stretch_16 rfl (by decide) rfl ?_
    refine ev_iload_n dX12_stretch_17 rfl rfl ?_
    refine ev_iconst dX12_stretch_18 (v := (-1 : Int32)) zci_m1 ?_
    refine ev_icmp_ne dX12_stretch_19 (tgt := 24) (by decide) (fun c15 => ?_) (fun c15 => ?_)
    · replace h := zif c15 h
      refine ev_aload_n dX12_stretch_24 rfl rfl ?_
      obtain ⟨p16, e17, h⟩ := zbd h
      refine ev_callV0 dX12_stretch_25 zm12_mostSeconds zl_NineHeapsModel_299 zi12_mostSeconds zv12_mostSeconds (zrcM hS) (As := []) (rest := []) rfl rfl (Nat.le_of_ble_eq_true rfl) rfl (Nat.le_of_ble_eq_true rfl) (d' := 6) (by omega) (e12_mostSeconds hw hS (Nat.le_refl _) e17) (fun v μ1 q => ?_)
      obtain ⟨rfl, rfl⟩ := q
      refine ev_pop dX12_stretch_28 rfl ?_
      refine ev_iconst dX12_stretch_29 (v := (0 : Int32)) zci_0 ?_
      refine ev_istore_n dX12_stretch_30 rfl (by decide) rfl ?_
      refine ev_iconst dX12_stretch_31 (v := (0 : Int32)) zci_0 ?_
      refine ev_istore dX12_stretch_32 (by decide) rfl ?_
      exact EV.mask [true, true, true, true, true] rfl (e12_stretch_L34 hw hS hd (fun l1' l2' l3' I' h' => e12_stretch_B62 hw hS hd l1' l2' l3' I' h') zF l1 p13.1 (0 : Int32) (0 : Int32) p16.2 h)
    · replace h := zit c15 h
      refine ev_iconst dX12_stretch_22 (v := (-1 : Int32)) zci_m1 ?_
      obtain rfl := Option.some.inj h
      exact ev_end_i dX12_stretch_23 rfl rfl ⟨rfl, rfl⟩
  · replace h := zit c12 h
    refine ev_bipush dX12_stretch_9 (v := (-2 : Int32)) zcb_m2 ?_
    obtain rfl := Option.some.inj h
    exact ev_end_i dX12_stretch_11 rfl rfl ⟨rfl, rfl⟩
abbrev q12_slowest (n : Nat) (kd : zMK) (R : zMR) (r : Int32 × zMI) : Option Value → zM → Prop := fun v μ1 => v = some (.int r.1) ∧ μ1 = (n, kd, r.2, R)
set_option maxHeartbeats 4000000 in
set_option maxRecDepth 100000 in
theorem e12_slowest_L9 {w : zW} {d : Nat} {n : Nat} {kd : zMK} {R : zMR} {r : Int32 × zMI}  (hw : zst w = zSt0) (hS : zSh n kd) (hd : 8 ≤ d)   : ∀ (q : Nat) (l1 : Int32) (l2 : Int32) (l3 : Int32) (I : zMI), f12_slowest_L9  q l1 l2 l3 I = some r → EV w d 0 0 Y12_slowest 9 [some (.ref 81), some (.int l1), some (.int l2), some (.int l3)] [] (n, kd, I, R) (q12_slowest n kd R r) := by
  intro q
  induction q with
  | zero =>
    intro l1 l2 l3 I h
    cases h
  | succ q ih =>
    intro l1 l2 l3 I h
    unfold f12_slowest_L9 at h
    refine ev_iload_n dX12_slowest_9 rfl rfl ?_
    refine ev_aload_n dX12_slowest_10 rfl rfl ?_
    refine em_getI dX12_slowest_11 zf_NineHeapsModel_117 rfl (hS.has 81 (by decide) (by decide) rfl) rfl ?_
    refine ev_icmp_ge dX12_slowest_14 (tgt := 50) (by decide) (fun c1 => ?_) (fun c1 => ?_)
    · replace h := zit c1 h
      refine ev_iconst dX12_slowest_50 (v := (-1 : Int32)) zci_m1 ?_
      obtain rfl := Option.some.inj h
      exact ev_end_i dX12_slowest_51 rfl rfl ⟨rfl, rfl⟩
    · replace h := zif c1 h
      refine ev_aload_n dX12_slowest_17 rfl rfl ?_
      refine ev_iload_n dX12_slowest_18 rfl rfl ?_
      refine ev_iload_n dX12_slowest_19 rfl rfl ?_
      refine ev_aload_n dX12_slowest_20 rfl rfl ?_
      refine em_getA dX12_slowest_21 zf_NineHeapsModel_101 rfl (hS.has 81 (by decide) (by decide) rfl) hw rfl ?_
      refine ev_iload_n dX12_slowest_24 rfl rfl ?_
      obtain ⟨g2, h⟩ := zgd h
      refine em_iald dX12_slowest_25 hS (by decide) (by decide) (N := 5) rfl g2 rfl ?_
      obtain ⟨p3, e4, h⟩ := zbd h
      refine ev_callV0 dX12_slowest_26 zm12_secondsOf zl_NineHeapsModel_290 zi12_secondsOf zv12_secondsOf (zrcM hS) (As := [.int l3, .int l2, .int (I 111 l3.toNatClampNeg)]) (rest := []) rfl rfl (Nat.le_of_ble_eq_true rfl) rfl (Nat.le_of_ble_eq_true rfl) (d' := 5) (by omega) (e12_secondsOf hw hS (Nat.le_refl _) e4) (fun v μ1 q => ?_)
      obtain ⟨rfl, rfl⟩ := q
      refine ev_iload_n dX12_slowest_29 rfl rfl ?_
      refine ev_icmp_ne dX12_slowest_30 (tgt := 35) (by decide) (fun c5 => ?_) (fun c5 => ?_)
      · replace h := zif c5 h
        refine ev_iload_n dX12_slowest_35 rfl rfl ?_
        refine ev_aload_n dX12_slowest_36 rfl rfl ?_
        refine em_getA dX12_slowest_37 zf_NineHeapsModel_101 rfl (hS.has 81 (by decide) (by decide) rfl) hw rfl ?_
        refine ev_iload_n dX12_slowest_40 rfl rfl ?_
        refine em_iald dX12_slowest_41 hS (by decide) (by decide) (N := 5) rfl g2 rfl ?_
        refine ev_iadd dX12_slowest_42 rfl ?_
        obtain ⟨x6, e7, h⟩ := zld h
        refine ev_nm e7 ?_
        refine ev_istore_n dX12_slowest_43 rfl (by decide) rfl ?_
        refine ev_iinc dX12_slowest_44 (v := l3 + (1 : Int32)) rfl rfl (by decide) rfl ?_
        refine ev_goto dX12_slowest_47 (tgt := 9) (by decide) ?_
        exact EV.mask [true, true, true, true] rfl (ih l1 x6 (l3 + (1 : Int32)) p3.2 h)
      · replace h := zit c5 h
        refine ev_iload_n dX12_slowest_33 rfl rfl ?_
        obtain rfl := Option.some.inj h
        exact ev_end_i dX12_slowest_34 rfl rfl ⟨rfl, rfl⟩
set_option maxHeartbeats 4000000 in
set_option maxRecDepth 100000 in
theorem e12_slowest {w : zW} {d : Nat} {n : Nat} {kd : zMK} {I : zMI} {R : zMR} {r : Int32 × zMI}  (hw : zst w = zSt0) (hS : zSh n kd) (hd : 8 ≤ d)  (h : f12_slowest I = some r) : EV w d 0 0 Y12_slowest 0 [some (.ref 81), none, none, none] [] (n, kd, I, R) (q12_slowest n kd R r) := by
  unfold f12_slowest at h
  refine ev_aload_n dX12_slowest_0 rfl rfl ?_
  obtain ⟨p8, e9, h⟩ := zbd h
  refine ev_callV0 dX12_slowest_1 zm12_findsStretches zl_NineHeapsModel_302 zi12_findsStretches zv12_findsStretches (zrcM hS) (As := []) (rest := []) rfl rfl (Nat.le_of_ble_eq_true rfl) rfl (Nat.le_of_ble_eq_true rfl) (d' := 7) (by omega) (e12_findsStretches hw hS (Nat.le_refl _) e9) (fun v μ1 q => ?_)
  obtain ⟨rfl, rfl⟩ := q
  refine ev_istore_n dX12_slowest_4 rfl (by decide) rfl ?_
  refine ev_iconst dX12_slowest_5 (v := (0 : Int32)) zci_0 ?_
  refine ev_istore_n dX12_slowest_6 rfl (by decide) rfl ?_
  refine ev_iconst dX12_slowest_7 (v := (0 : Int32)) zci_0 ?_
  refine ev_istore_n dX12_slowest_8 rfl (by decide) rfl ?_
  exact EV.mask [true, true, true, true] rfl (e12_slowest_L9 hw hS hd zF p8.1 (0 : Int32) (0 : Int32) p8.2 h)
abbrev q12_sheetWrong (n : Nat) (kd : zMK) (I : zMI) (R : zMR) (r : Int32) : Option Value → zM → Prop := fun v μ1 => v = some (.int r) ∧ μ1 = (n, kd, I, R)
set_option maxHeartbeats 4000000 in
set_option maxRecDepth 100000 in
theorem e12_sheetWrong {w : zW} {d : Nat} {n : Nat} {kd : zMK} {I : zMI} {R : zMR} {r : Int32} {l1 : Int32} (hw : zst w = zSt0) (hS : zSh n kd) (hd : 2 ≤ d)  (h : f12_sheetWrong I l1 = some r) : EV w d 0 0 Y12_sheetWrong 0 [some (.ref 81), some (.int l1)] [] (n, kd, I, R) (q12_sheetWrong n kd I R r) := by
  unfold f12_sheetWrong at h
  refine ev_iload_n dX12_sheetWrong_0 rfl rfl ?_
  refine ev_iconst dX12_sheetWrong_1 (v := (0 : Int32)) zci_0 ?_
  refine ev_iconst dX12_sheetWrong_2 (v := (3 : Int32)) zci_3 ?_
  obtain ⟨p1, e2, h⟩ := zbd h
  refine ev_callS0 dX12_sheetWrong_3 zm12_in zl_NineHeapsModel_120 zs12_in (As := [.int l1, .int (0 : Int32), .int (3 : Int32)]) (rest := []) rfl rfl (Nat.le_of_ble_eq_true rfl) rfl (Nat.le_of_ble_eq_true rfl) (d' := 1) (by omega) (e12_in hw hS (Nat.le_refl _) e2) (fun v μ1 q => ?_)
  obtain ⟨rfl, rfl⟩ := q
  refine ev_if_ne dX12_sheetWrong_6 (tgt := 12) (by decide) (fun c3 => ?_) (fun c3 => ?_)
  · replace h := zif c3 h
    refine ev_aload_n dX12_sheetWrong_12 rfl rfl ?_
    refine em_getA dX12_sheetWrong_13 zf_NineHeapsModel_41 rfl (hS.has 81 (by decide) (by decide) rfl) hw rfl ?_
    refine ev_iload_n dX12_sheetWrong_16 rfl rfl ?_
    obtain ⟨g4, h⟩ := zgd h
    refine em_iald dX12_sheetWrong_17 hS (by decide) (by decide) (N := 4) rfl g4 rfl ?_
    refine ev_iconst dX12_sheetWrong_18 (v := (-1 : Int32)) zci_m1 ?_
    refine ev_icmp_ne dX12_sheetWrong_19 (tgt := 25) (by decide) (fun c5 => ?_) (fun c5 => ?_)
    · replace h := zif c5 h
      refine ev_aload_n dX12_sheetWrong_25 rfl rfl ?_
      refine em_getA dX12_sheetWrong_26 zf_NineHeapsModel_44 rfl (hS.has 81 (by decide) (by decide) rfl) hw rfl ?_
      refine ev_iload_n dX12_sheetWrong_29 rfl rfl ?_
      refine em_iald dX12_sheetWrong_30 hS (by decide) (by decide) (N := 4) rfl g4 rfl ?_
      refine ev_bipush dX12_sheetWrong_31 (v := (9 : Int32)) zcb_9 ?_
      obtain ⟨x7, e8, h⟩ := zld h
      have k9 : EV w d 0 0 Y12_sheetWrong 42 [some (.ref 81), some (.int l1)] [.int x7] (n, kd, I, R) (q12_sheetWrong n kd I R r) := by
        obtain rfl := Option.some.inj h
        exact ev_end_i dX12_sheetWrong_42 rfl rfl ⟨rfl, rfl⟩
      clear h
      have h := e8
      clear e8
      refine ev_icmp_ne dX12_sheetWrong_33 (tgt := 40) (by decide) (fun c6 => ?_) (fun c6 => ?_)
      · replace h := zif c6 h
        refine ev_bipush dX12_sheetWrong_40 (v := (-2 : Int32)) zcb_m2 ?_
        obtain rfl := h
        exact k9
      · replace h := zit c6 h
        refine ev_iconst dX12_sheetWrong_36 (v := (0 : Int32)) zci_0 ?_
        refine ev_goto dX12_sheetWrong_37 (tgt := 42) (by decide) ?_
        obtain rfl := h
        exact k9
    · replace h := zit c5 h
      refine ev_bipush dX12_sheetWrong_22 (v := (-11 : Int32)) zcb_m11 ?_
      obtain rfl := Option.some.inj h
      exact ev_end_i dX12_sheetWrong_24 rfl rfl ⟨rfl, rfl⟩
  · replace h := zit c3 h
    refine ev_bipush dX12_sheetWrong_9 (v := (-2 : Int32)) zcb_m2 ?_
    obtain rfl := Option.some.inj h
    exact ev_end_i dX12_sheetWrong_11 rfl rfl ⟨rfl, rfl⟩
abbrev q12_timeWrong (n : Nat) (kd : zMK) (I : zMI) (R : zMR) (r : Int32) : Option Value → zM → Prop := fun v μ1 => v = some (.int r) ∧ μ1 = (n, kd, I, R)
set_option maxHeartbeats 4000000 in
set_option maxRecDepth 100000 in
theorem e12_timeWrong {w : zW} {d : Nat} {n : Nat} {kd : zMK} {I : zMI} {R : zMR} {r : Int32} {l1 : Int32} {l2 : Int32} (hw : zst w = zSt0) (hS : zSh n kd) (hd : 3 ≤ d)  (h : f12_timeWrong I l1 l2 = some r) : EV w d 0 0 Y12_timeWrong 0 [some (.ref 81), some (.int l1), some (.int l2), none] [] (n, kd, I, R) (q12_timeWrong n kd I R r) := by
  unfold f12_timeWrong at h
  refine ev_aload_n dX12_timeWrong_0 rfl rfl ?_
  refine ev_iload_n dX12_timeWrong_1 rfl rfl ?_
  obtain ⟨p1, e2, h⟩ := zbd h
  refine ev_callV0 dX12_timeWrong_2 zm12_sheetWrong zl_NineHeapsModel_305 zi12_sheetWrong zv12_sheetWrong (zrcM hS) (As := [.int l1]) (rest := []) rfl rfl (Nat.le_of_ble_eq_true rfl) rfl (Nat.le_of_ble_eq_true rfl) (d' := 2) (by omega) (e12_sheetWrong hw hS (Nat.le_refl _) e2) (fun v μ1 q => ?_)
  obtain ⟨rfl, rfl⟩ := q
  refine ev_istore_n dX12_timeWrong_5 rfl (by decide) rfl ?_
  refine ev_iload_n dX12_timeWrong_6 rfl rfl ?_
  refine ev_if_eq dX12_timeWrong_7 (tgt := 14) (by decide) (fun c3 => ?_) (fun c3 => ?_)
  · replace h := zit c3 h
    refine ev_iload_n dX12_timeWrong_14 rfl rfl ?_
    obtain ⟨p4, e5, h⟩ := zbd h
    refine ev_callS0 dX12_timeWrong_15 zm12_areSeconds zl_NineHeapsModel_257 zs12_areSeconds (As := [.int l2]) (rest := []) rfl rfl (Nat.le_of_ble_eq_true rfl) rfl (Nat.le_of_ble_eq_true rfl) (d' := 2) (by omega) (e12_areSeconds hw hS (Nat.le_refl _) e5) (fun v μ1 q => ?_)
    obtain ⟨rfl, rfl⟩ := q
    refine ev_if_eq dX12_timeWrong_18 (tgt := 25) (by decide) (fun c6 => ?_) (fun c6 => ?_)
    · replace h := zit c6 h
      refine ev_bipush dX12_timeWrong_25 (v := (-7 : Int32)) zcb_m7 ?_
      obtain rfl := Option.some.inj h
      exact ev_end_i dX12_timeWrong_27 rfl rfl ⟨rfl, rfl⟩
    · replace h := zif c6 h
      refine ev_iconst dX12_timeWrong_21 (v := (0 : Int32)) zci_0 ?_
      refine ev_goto dX12_timeWrong_22 (tgt := 27) (by decide) ?_
      obtain rfl := Option.some.inj h
      exact ev_end_i dX12_timeWrong_27 rfl rfl ⟨rfl, rfl⟩
  · replace h := zif c3 h
    refine ev_iload_n dX12_timeWrong_10 rfl rfl ?_
    refine ev_goto dX12_timeWrong_11 (tgt := 27) (by decide) ?_
    obtain rfl := Option.some.inj h
    exact ev_end_i dX12_timeWrong_27 rfl rfl ⟨rfl, rfl⟩
abbrev q12_unlikeNow (n : Nat) (kd : zMK) (I : zMI) (R : zMR) (r : Int32) : Option Value → zM → Prop := fun v μ1 => v = some (.int r) ∧ μ1 = (n, kd, I, R)
set_option maxHeartbeats 4000000 in
set_option maxRecDepth 100000 in
theorem e12_unlikeNow_L2 {w : zW} {d : Nat} {n : Nat} {kd : zMK} {I : zMI} {R : zMR} {r : Int32}  (hw : zst w = zSt0) (hS : zSh n kd) (hd : 1 ≤ d)   : ∀ (q : Nat) (l1 : Int32) (l2 : Int32) , f12_unlikeNow_L2 I q l1 l2 = some r → EV w d 0 0 Y12_unlikeNow 2 [some (.ref 81), some (.int l1), some (.int l2)] [] (n, kd, I, R) (q12_unlikeNow n kd I R r) := by
  intro q
  induction q with
  | zero =>
    intro l1 l2 h
    cases h
  | succ q ih =>
    intro l1 l2 h
    unfold f12_unlikeNow_L2 at h
    refine ev_iload_n dX12_unlikeNow_2 rfl rfl ?_
    refine ev_bipush dX12_unlikeNow_3 (v := (9 : Int32)) zcb_9 ?_
    refine ev_icmp_ge dX12_unlikeNow_5 (tgt := 36) (by decide) (fun c1 => ?_) (fun c1 => ?_)
    · replace h := zit c1 h
      refine ev_iconst dX12_unlikeNow_36 (v := (-1 : Int32)) zci_m1 ?_
      obtain rfl := Option.some.inj h
      exact ev_end_i dX12_unlikeNow_37 rfl rfl ⟨rfl, rfl⟩
    · replace h := zif c1 h
      refine ev_aload_n dX12_unlikeNow_8 rfl rfl ?_
      refine em_getA dX12_unlikeNow_9 zf_NineHeapsModel_47 rfl (hS.has 81 (by decide) (by decide) rfl) hw rfl ?_
      refine ev_bipush dX12_unlikeNow_12 (v := (40 : Int32)) zcb_40 ?_
      refine ev_iload_n dX12_unlikeNow_14 rfl rfl ?_
      refine ev_imul dX12_unlikeNow_15 rfl ?_
      refine ev_iload_n dX12_unlikeNow_16 rfl rfl ?_
      refine ev_iadd dX12_unlikeNow_17 rfl ?_
      obtain ⟨g2, h⟩ := zgd h
      refine em_iald dX12_unlikeNow_18 hS (by decide) (by decide) (N := 160) rfl g2 rfl ?_
      refine ev_aload_n dX12_unlikeNow_19 rfl rfl ?_
      refine em_getA dX12_unlikeNow_20 zf_NineHeapsModel_89 rfl (hS.has 81 (by decide) (by decide) rfl) hw rfl ?_
      refine ev_iload_n dX12_unlikeNow_23 rfl rfl ?_
      obtain ⟨g3, h⟩ := zgd h
      refine em_iald dX12_unlikeNow_24 hS (by decide) (by decide) (N := 9) rfl g3 rfl ?_
      refine ev_icmp_eq dX12_unlikeNow_25 (tgt := 30) (by decide) (fun c4 => ?_) (fun c4 => ?_)
      · replace h := zit c4 h
        refine ev_iinc dX12_unlikeNow_30 (v := l2 + (1 : Int32)) rfl rfl (by decide) rfl ?_
        refine ev_goto dX12_unlikeNow_33 (tgt := 2) (by decide) ?_
        exact EV.mask [true, true, true] rfl (ih l1 (l2 + (1 : Int32)) h)
      · replace h := zif c4 h
        refine ev_iload_n dX12_unlikeNow_28 rfl rfl ?_
        obtain rfl := Option.some.inj h
        exact ev_end_i dX12_unlikeNow_29 rfl rfl ⟨rfl, rfl⟩
set_option maxHeartbeats 4000000 in
set_option maxRecDepth 100000 in
theorem e12_unlikeNow {w : zW} {d : Nat} {n : Nat} {kd : zMK} {I : zMI} {R : zMR} {r : Int32} {l1 : Int32} (hw : zst w = zSt0) (hS : zSh n kd) (hd : 1 ≤ d)  (h : f12_unlikeNow I l1 = some r) : EV w d 0 0 Y12_unlikeNow 0 [some (.ref 81), some (.int l1), none] [] (n, kd, I, R) (q12_unlikeNow n kd I R r) := by
  unfold f12_unlikeNow at h
  refine ev_iconst dX12_unlikeNow_0 (v := (0 : Int32)) zci_0 ?_
  refine ev_istore_n dX12_unlikeNow_1 rfl (by decide) rfl ?_
  exact EV.mask [true, true, true] rfl (e12_unlikeNow_L2 hw hS hd zF l1 (0 : Int32) h)
abbrev q12_unlike (n : Nat) (kd : zMK) (R : zMR) (r : Int32 × zMI) : Option Value → zM → Prop := fun v μ1 => v = some (.int r.1) ∧ μ1 = (n, kd, r.2, R)
set_option maxHeartbeats 4000000 in
set_option maxRecDepth 100000 in
theorem e12_unlike {w : zW} {d : Nat} {n : Nat} {kd : zMK} {I : zMI} {R : zMR} {r : Int32 × zMI} {l1 : Int32} {l2 : Int32} (hw : zst w = zSt0) (hS : zSh n kd) (hd : 9 ≤ d)  (h : f12_unlike l1 l2 I = some r) : EV w d 0 0 Y12_unlike 0 [some (.ref 81), some (.int l1), some (.int l2)] [] (n, kd, I, R) (q12_unlike n kd R r) := by
  unfold f12_unlike at h
  refine ev_aload_n dX12_unlike_0 rfl rfl ?_
  refine ev_iload_n dX12_unlike_1 rfl rfl ?_
  obtain ⟨p1, e2, h⟩ := zbd h
  refine ev_callV0 dX12_unlike_2 zm12_goesPlain zl_NineHeapsModel_260 zi12_goesPlain zv12_goesPlain (zrcM hS) (As := [.int l2]) (rest := []) rfl rfl (Nat.le_of_ble_eq_true rfl) rfl (Nat.le_of_ble_eq_true rfl) (d' := 8) (by omega) (e12_goesPlain hw hS (Nat.le_refl _) e2) (fun v μ1 q => ?_)
  obtain ⟨rfl, rfl⟩ := q
  refine ev_aload_n dX12_unlike_5 rfl rfl ?_
  refine ev_iload_n dX12_unlike_6 rfl rfl ?_
  obtain ⟨p3, e4, h⟩ := zbd h
  refine ev_callV0 dX12_unlike_7 zm12_unlikeNow zl_NineHeapsModel_308 zi12_unlikeNow zv12_unlikeNow (zrcM hS) (As := [.int l1]) (rest := []) rfl rfl (Nat.le_of_ble_eq_true rfl) rfl (Nat.le_of_ble_eq_true rfl) (d' := 1) (by omega) (e12_unlikeNow hw hS (Nat.le_refl _) e4) (fun v μ1 q => ?_)
  obtain ⟨rfl, rfl⟩ := q
  obtain rfl := Option.some.inj h
  exact ev_end_i dX12_unlike_10 rfl rfl ⟨rfl, rfl⟩
abbrev q12_judge (n : Nat) (kd : zMK) (R : zMR) (r : Int32 × zMI) : Option Value → zM → Prop := fun v μ1 => v = some (.int r.1) ∧ μ1 = (n, kd, r.2, R)
set_option maxHeartbeats 4000000 in
set_option maxRecDepth 100000 in
theorem e12_judge {w : zW} {d : Nat} {n : Nat} {kd : zMK} {I : zMI} {R : zMR} {r : Int32 × zMI} {l1 : Int32} {l2 : Int32} (hw : zst w = zSt0) (hS : zSh n kd) (hd : 10 ≤ d)  (h : f12_judge l1 l2 I = some r) : EV w d 0 0 Y12_judge 0 [some (.ref 81), some (.int l1), some (.int l2), none] [] (n, kd, I, R) (q12_judge n kd R r) := by
  unfold f12_judge at h
  refine ev_aload_n dX12_judge_0 rfl rfl ?_
  refine ev_iload_n dX12_judge_1 rfl rfl ?_
  refine ev_iload_n dX12_judge_2 rfl rfl ?_
  obtain ⟨p1, e2, h⟩ := zbd h
  refine ev_callV0 dX12_judge_3 zm12_timeWrong zl_NineHeapsModel_311 zi12_timeWrong zv12_timeWrong (zrcM hS) (As := [.int l1, .int l2]) (rest := []) rfl rfl (Nat.le_of_ble_eq_true rfl) rfl (Nat.le_of_ble_eq_true rfl) (d' := 3) (by omega) (e12_timeWrong hw hS (Nat.le_refl _) e2) (fun v μ1 q => ?_)
  obtain ⟨rfl, rfl⟩ := q
  refine ev_istore_n dX12_judge_6 rfl (by decide) rfl ?_
  refine ev_iload_n dX12_judge_7 rfl rfl ?_
  refine ev_if_ne dX12_judge_8 (tgt := 20) (by decide) (fun c3 => ?_) (fun c3 => ?_)
  · replace h := zif c3 h
    refine ev_iload_n dX12_judge_20 rfl rfl ?_
    obtain rfl := Option.some.inj h
    exact ev_end_i dX12_judge_21 rfl rfl ⟨rfl, rfl⟩
  · replace h := zit c3 h
    refine ev_aload_n dX12_judge_11 rfl rfl ?_
    refine ev_iload_n dX12_judge_12 rfl rfl ?_
    refine ev_iload_n dX12_judge_13 rfl rfl ?_
    obtain ⟨p4, e5, h⟩ := zbd h
    refine ev_callV0 dX12_judge_14 zm12_unlike zl_NineHeapsModel_314 zi12_unlike zv12_unlike (zrcM hS) (As := [.int l1, .int l2]) (rest := []) rfl rfl (Nat.le_of_ble_eq_true rfl) rfl (Nat.le_of_ble_eq_true rfl) (d' := 9) (by omega) (e12_unlike hw hS (Nat.le_refl _) e5) (fun v μ1 q => ?_)
    obtain ⟨rfl, rfl⟩ := q
    refine ev_goto dX12_judge_17 (tgt := 21) (by decide) ?_
    obtain rfl := Option.some.inj h
    exact ev_end_i dX12_judge_21 rfl rfl ⟨rfl, rfl⟩
abbrev q12_when (n : Nat) (kd : zMK) (R : zMR) (r : Int32 × zMI) : Option Value → zM → Prop := fun v μ1 => v = some (.int r.1) ∧ μ1 = (n, kd, r.2, R)
set_option maxHeartbeats 4000000 in
set_option maxRecDepth 100000 in
theorem e12_when_L42 {w : zW} {d : Nat} {n : Nat} {kd : zMK} {R : zMR} {r : Int32 × zMI} {k113 : Int32 → Int32 → Int32 → zMI → Option (Int32 × zMI)} (hw : zst w = zSt0) (hS : zSh n kd) (hd : 7 ≤ d)  (hk113 : ∀ (l2 : Int32) (l4 : Int32) (l5 : Int32) (I : zMI), k113 l2 l4 l5 I = some r → EV w d 0 0 Y12_when 113 [none, none, some (.int l2), none, some (.int l4), some (.int l5), none, none] [] (n, kd, I, R) (q12_when n kd R r)) : ∀ (q : Nat) (l1 : Int32) (l2 : Int32) (l4 : Int32) (l5 : Int32) (l6 : Int32) (I : zMI), f12_when_L42 k113 q l1 l2 l4 l5 l6 I = some r → EV w d 0 0 Y12_when 42 [some (.ref 81), some (.int l1), some (.int l2), none, some (.int l4), some (.int l5), some (.int l6), none] [] (n, kd, I, R) (q12_when n kd R r) := by
  intro q
  induction q with
  | zero =>
    intro l1 l2 l4 l5 l6 I h
    cases h
  | succ q ih =>
    intro l1 l2 l4 l5 l6 I h
    unfold f12_when_L42 at h
    refine ev_iload dX12_when_42 rfl ?_
    refine ev_sipush dX12_when_44 (v := (600 : Int32)) zcs_600 ?_
    refine ev_icmp_gt dX12_when_47 (tgt := 113) (by decide) (fun c1 => ?_) (fun c1 => ?_)
    · replace h := zit c1 h
      exact EV.mask [false, false, true, false, true, true, false, false] rfl (hk113 l2 l4 l5 I h)
    · replace h := zif c1 h
      refine ev_aload_n dX12_when_50 rfl rfl ?_
      refine ev_iload_n dX12_when_51 rfl rfl ?_
      obtain ⟨p2, e3, h⟩ := zbd h
      refine ev_callV0 dX12_when_52 zm12_unlikeNow zl_NineHeapsModel_308 zi12_unlikeNow zv12_unlikeNow (zrcM hS) (As := [.int l1]) (rest := []) rfl rfl (Nat.le_of_ble_eq_true rfl) rfl (Nat.le_of_ble_eq_true rfl) (d' := 1) (by omega) (e12_unlikeNow hw hS (Nat.le_refl _) e3) (fun v μ1 q => ?_)
      obtain ⟨rfl, rfl⟩ := q
      refine ev_iconst dX12_when_55 (v := (-1 : Int32)) zci_m1 ?_
      obtain ⟨x5, e6, h⟩ := zld h
      have k18 : EV w d 0 0 Y12_when 64 [some (.ref 81), some (.int l1), some (.int l2), none, some (.int l4), some (.int l5), some (.int l6), none] [.int x5] (n, kd, I, R) (q12_when n kd R r) := by
        refine ev_istore dX12_when_64 (by decide) rfl ?_
        refine ev_iload dX12_when_66 rfl ?_
        obtain ⟨x9, e10, h⟩ := zld h
        have k17 : EV w d 0 0 Y12_when 84 [some (.ref 81), some (.int l1), some (.int l2), none, some (.int l4), some (.int l5), some (.int l6), some (.int x5)] [.int x9] (n, kd, I, R) (q12_when n kd R r) := by
          refine ev_istore dX12_when_84 (by decide) rfl ?_
          refine ev_iload dX12_when_86 rfl ?_
          refine ev_iload dX12_when_88 rfl ?_
          obtain ⟨x12, e13, h⟩ := zld h
          have k16 : EV w d 0 0 Y12_when 98 [some (.ref 81), some (.int l1), some (.int l2), none, some (.int x9), some (.int l5), some (.int l6), some (.int x5)] [.int x12, .int l5] (n, kd, I, R) (q12_when n kd R r) := by
            refine ev_iadd dX12_when_98 rfl ?_
            refine ev_istore dX12_when_99 (by decide) rfl ?_
            refine ev_aload_n dX12_when_101 rfl rfl ?_
            refine ev_iload dX12_when_102 rfl ?_
            obtain ⟨p14, e15, h⟩ := zbd h
            refine ev_callV0 dX12_when_104 zm12_second zl_NineHeapsModel_248 zi12_second zv12_second (zrcM hS) (As := [.int l6]) (rest := []) rfl rfl (Nat.le_of_ble_eq_true rfl) rfl (Nat.le_of_ble_eq_true rfl) (d' := 6) (by omega) (e12_second hw hS (Nat.le_refl _) e15) (fun v μ1 q => ?_)
            obtain ⟨rfl, rfl⟩ := q
            refine ev_iinc dX12_when_107 (v := l6 + (1 : Int32)) rfl rfl (by decide) rfl ?_
            refine ev_goto dX12_when_110 (tgt := 42) (by decide) ?_
            exact EV.mask [true, true, true, false, true, true, true, false] rfl (ih l1 l2 x9 (l5 + x12) (l6 + (1 : Int32)) p14 h)
          clear h
          have h := e13
          clear e13
          refine ev_if_eq dX12_when_90 (tgt := 97) (by decide) (fun c11 => ?_) (fun c11 => ?_)
          · replace h := zit c11 h
            refine ev_iconst dX12_when_97 (v := (0 : Int32)) zci_0 ?_
            obtain rfl := h
            exact k16
          · replace h := zif c11 h
            refine ev_iconst dX12_when_93 (v := (1 : Int32)) zci_1 ?_
            refine ev_goto dX12_when_94 (tgt := 98) (by decide) ?_
            obtain rfl := h
            exact k16
        clear h
        have h := e10
        clear e10
        refine ev_if_eq dX12_when_68 (tgt := 82) (by decide) (fun c7 => ?_) (fun c7 => ?_)
        · replace h := zit c7 h
          refine ev_iload dX12_when_82 rfl ?_
          obtain rfl := h
          exact k17
        · replace h := zif c7 h
          refine ev_iload dX12_when_71 rfl ?_
          refine ev_iconst dX12_when_73 (v := (-1 : Int32)) zci_m1 ?_
          refine ev_icmp_ne dX12_when_74 (tgt := 82) (by decide) (fun c8 => ?_) (fun c8 => ?_)
          · replace h := zif c8 h
            refine ev_iload dX12_when_82 rfl ?_
            obtain rfl := h
            exact k17
          · replace h := zit c8 h
            refine ev_iload dX12_when_77 rfl ?_
            refine ev_goto dX12_when_79 (tgt := 84) (by decide) ?_
            obtain rfl := h
            exact k17
      clear h
      have h := e6
      clear e6
      refine ev_icmp_ne dX12_when_56 (tgt := 63) (by decide) (fun c4 => ?_) (fun c4 => ?_)
      · replace h := zif c4 h
        refine ev_iconst dX12_when_63 (v := (0 : Int32)) zci_0 ?_
        obtain rfl := h
        exact k18
      · replace h := zit c4 h
        refine ev_iconst dX12_when_59 (v := (1 : Int32)) zci_1 ?_
        refine ev_goto dX12_when_60 (tgt := 64) (by decide) ?_
        obtain rfl := h
        exact k18
set_option maxHeartbeats 4000000 in
set_option maxRecDepth 100000 in
theorem e12_when_B113 {w : zW} {d : Nat} {n : Nat} {kd : zMK} {R : zMR} {r : Int32 × zMI}  (hw : zst w = zSt0) (hS : zSh n kd) (hd : 7 ≤ d)   : ∀ (l2 : Int32) (l4 : Int32) (l5 : Int32) (I : zMI), f12_when_B113 l2 l4 l5 I = some r → EV w d 0 0 Y12_when 113 [none, none, some (.int l2), none, some (.int l4), some (.int l5), none, none] [] (n, kd, I, R) (q12_when n kd R r) := by
  intro l2 l4 l5 I h
  unfold f12_when_B113 at h
  refine ev_iload_n dX12_when_113 rfl rfl ?_
  obtain ⟨x20, e21, h⟩ := zld h
  have k22 : EV w d 0 0 Y12_when 124 [none, none, some (.int l2), none, some (.int l4), some (.int l5), none, none] [.int x20] (n, kd, I, R) (q12_when n kd R r) := by
    obtain rfl := Option.some.inj h
    exact ev_end_i dX12_when_124 rfl rfl ⟨rfl, rfl⟩
  clear h
  have h := e21
  clear e21
  refine ev_if_ne dX12_when_114 (tgt := 122) (by decide) (fun c19 => ?_) (fun c19 => ?_)
  · replace h := zif c19 h
    refine ev_iload dX12_when_122 rfl ?_
    obtain rfl := h
    exact k22
  · replace h := zit c19 h
    refine ev_iload dX12_when_117 rfl ?_
    refine ev_goto dX12_when_119 (tgt := 124) (by decide) ?_
    obtain rfl := h
    exact k22
set_option maxHeartbeats 4000000 in
set_option maxRecDepth 100000 in
theorem e12_when {w : zW} {d : Nat} {n : Nat} {kd : zMK} {I : zMI} {R : zMR} {r : Int32 × zMI} {l1 : Int32} {l2 : Int32} (hw : zst w = zSt0) (hS : zSh n kd) (hd : 7 ≤ d)  (h : f12_when l1 l2 I = some r) : EV w d 0 0 Y12_when 0 [some (.ref 81), some (.int l1), some (.int l2), none, none, none, none, none] [] (n, kd, I, R) (q12_when n kd R r) := by
  unfold f12_when at h
  refine ev_aload_n dX12_when_0 rfl rfl ?_
  refine ev_iload_n dX12_when_1 rfl rfl ?_
  obtain ⟨p23, e24, h⟩ := zbd h
  refine ev_callV0 dX12_when_2 zm12_sheetWrong zl_NineHeapsModel_305 zi12_sheetWrong zv12_sheetWrong (zrcM hS) (As := [.int l1]) (rest := []) rfl rfl (Nat.le_of_ble_eq_true rfl) rfl (Nat.le_of_ble_eq_true rfl) (d' := 2) (by omega) (e12_sheetWrong hw hS (Nat.le_refl _) e24) (fun v μ1 q => ?_)
  obtain ⟨rfl, rfl⟩ := q
  refine ev_istore_n dX12_when_5 rfl (by decide) rfl ?_
  refine ev_iload_n dX12_when_6 rfl rfl ?_
  refine ev_if_eq dX12_when_7 (tgt := 12) (by decide) (fun c25 => ?_) (fun c25 => ?_)
  · replace h := zit c25 h
    refine ev_iload_n dX12_when_12 rfl rfl ?_
    refine ev_iconst dX12_when_13 (v := (0 : Int32)) zci_0 ?_
    refine ev_iconst dX12_when_14 (v := (1 : Int32)) zci_1 ?_
    obtain ⟨p26, e27, h⟩ := zbd h
    refine ev_callS0 dX12_when_15 zm12_in zl_NineHeapsModel_120 zs12_in (As := [.int l2, .int (0 : Int32), .int (1 : Int32)]) (rest := []) rfl rfl (Nat.le_of_ble_eq_true rfl) rfl (Nat.le_of_ble_eq_true rfl) (d' := 1) (by omega) (e12_in hw hS (Nat.le_refl _) e27) (fun v μ1 q => ?_)
    obtain ⟨rfl, rfl⟩ := q
    refine ev_if_ne dX12_when_18 (tgt := 24) (by decide) (fun c28 => ?_) (fun c28 => ?_)
    · replace h := zif c28 h
      refine ev_iconst dX12_when_24 (v := (-1 : Int32)) zci_m1 ?_
      refine ev_istore dX12_when_25 (by decide) rfl ?_
      refine ev_iconst dX12_when_27 (v := (0 : Int32)) zci_0 ?_
      refine ev_istore dX12_when_28 (by decide) rfl ?_
      refine ev_aload_n dX12_when_30 rfl rfl ?_
      refine ev_iconst dX12_when_31 (v := (-1 : Int32)) zci_m1 ?_
      obtain ⟨p29, e30, h⟩ := zbd h
      refine ev_callV0 dX12_when_32 zm12_orders zl_NineHeapsModel_251 zi12_orders zv12_orders (zrcM hS) (As := [.int (-1 : Int32)]) (rest := []) rfl rfl (Nat.le_of_ble_eq_true rfl) rfl (Nat.le_of_ble_eq_true rfl) (d' := 1) (by omega) (e12_orders hw hS (Nat.le_refl _) e30) (fun v μ1 q => ?_)
      obtain ⟨rfl, rfl⟩ := q
      refine ev_aload_n dX12_when_35 rfl rfl ?_
      obtain ⟨p31, e32, h⟩ := zbd h
      refine ev_callV0 dX12_when_36 zm12_begins zl_NineHeapsModel_245 zi12_begins zv12_begins (zrcM hS) (As := []) (rest := []) rfl rfl (Nat.le_of_ble_eq_true rfl) rfl (Nat.le_of_ble_eq_true rfl) (d' := 1) (by omega) (e12_begins hw hS (Nat.le_refl _) e32) (fun v μ1 q => ?_)
      obtain ⟨rfl, rfl⟩ := q
      refine ev_iconst dX12_when_39 (v := (0 : Int32)) zci_0 ?_
      refine ev_istore dX12_when_40 (by decide) rfl ?_
      exact EV.mask [true, true, true, false, true, true, true, false] rfl (e12_when_L42 hw hS hd (fun l2' l4' l5' I' h' => e12_when_B113 hw hS hd l2' l4' l5' I' h') zF l1 l2 (-1 : Int32) (0 : Int32) (0 : Int32) p31 h)
    · replace h := zit c28 h
      refine ev_bipush dX12_when_21 (v := (-7 : Int32)) zcb_m7 ?_
      obtain rfl := Option.some.inj h
      exact ev_end_i dX12_when_23 rfl rfl ⟨rfl, rfl⟩
  · replace h := zif c25 h
    refine ev_iload_n dX12_when_10 rfl rfl ?_
    obtain rfl := Option.some.inj h
    exact ev_end_i dX12_when_11 rfl rfl ⟨rfl, rfl⟩
abbrev q12_sticks (n : Nat) (kd : zMK) (R : zMR) (r : Int32 × zMI) : Option Value → zM → Prop := fun v μ1 => v = some (.int r.1) ∧ μ1 = (n, kd, r.2, R)
set_option maxHeartbeats 4000000 in
set_option maxRecDepth 100000 in
theorem e12_sticks_L40 {w : zW} {d : Nat} {n : Nat} {kd : zMK} {R : zMR} {r : Int32 × zMI} {k84 : Int32 → Int32 → Int32 → zMI → Option (Int32 × zMI)} (hw : zst w = zSt0) (hS : zSh n kd) (hd : 10 ≤ d)  (hk84 : ∀ (l3 : Int32) (l5 : Int32) (l6 : Int32) (I : zMI), k84 l3 l5 l6 I = some r → EV w d 0 0 Y12_sticks 84 [some (.ref 81), none, none, some (.int l3), none, some (.int l5), some (.int l6), none] [] (n, kd, I, R) (q12_sticks n kd R r)) : ∀ (q : Nat) (l1 : Int32) (l2 : Int32) (l3 : Int32) (l5 : Int32) (l6 : Int32) (l7 : Int32) (I : zMI), f12_sticks_L40 k84 q l1 l2 l3 l5 l6 l7 I = some r → EV w d 0 0 Y12_sticks 40 [some (.ref 81), some (.int l1), some (.int l2), some (.int l3), none, some (.int l5), some (.int l6), some (.int l7)] [] (n, kd, I, R) (q12_sticks n kd R r) := by
  intro q
  induction q with
  | zero =>
    intro l1 l2 l3 l5 l6 l7 I h
    cases h
  | succ q ih =>
    intro l1 l2 l3 l5 l6 l7 I h
    unfold f12_sticks_L40 at h
    refine ev_iload dX12_sticks_40 rfl ?_
    refine ev_bipush dX12_sticks_42 (v := (10 : Int32)) zcb_10 ?_
    refine ev_icmp_ge dX12_sticks_44 (tgt := 84) (by decide) (fun c1 => ?_) (fun c1 => ?_)
    · replace h := zit c1 h
      exact EV.mask [true, false, false, true, false, true, true, false] rfl (hk84 l3 l5 l6 I h)
    · replace h := zif c1 h
      refine ev_aload_n dX12_sticks_47 rfl rfl ?_
      refine em_getA dX12_sticks_48 zf_NineHeapsModel_13 rfl (hS.has 81 (by decide) (by decide) rfl) hw rfl ?_
      refine ev_iload_n dX12_sticks_51 rfl rfl ?_
      refine ev_iload dX12_sticks_52 rfl ?_
      obtain ⟨g2, h⟩ := zgd h
      obtain ⟨J3, e4, h⟩ := zld h
      refine em_iast dX12_sticks_54 hS (by decide) (by decide) (N := 9) rfl g2 e4 ?_
      refine ev_iload dX12_sticks_55 rfl ?_
      refine ev_aload_n dX12_sticks_57 rfl rfl ?_
      refine ev_iload_n dX12_sticks_58 rfl rfl ?_
      refine ev_iload_n dX12_sticks_59 rfl rfl ?_
      obtain ⟨p5, e6, h⟩ := zbd h
      refine ev_callV0 dX12_sticks_60 zm12_unlike zl_NineHeapsModel_314 zi12_unlike zv12_unlike (zrcM hS) (As := [.int l1, .int l2]) (rest := [.int l6]) rfl rfl (Nat.le_of_ble_eq_true rfl) rfl (Nat.le_of_ble_eq_true rfl) (d' := 9) (by omega) (e12_unlike hw hS (Nat.le_refl _) e6) (fun v μ1 q => ?_)
      obtain ⟨rfl, rfl⟩ := q
      refine ev_iconst dX12_sticks_63 (v := (-1 : Int32)) zci_m1 ?_
      obtain ⟨x8, e9, h⟩ := zld h
      have k10 : EV w d 0 0 Y12_sticks 75 [some (.ref 81), some (.int l1), some (.int l2), some (.int l3), none, some (.int l5), some (.int l6), some (.int l7)] [.int x8, .int l6] (n, kd, p5.2, R) (q12_sticks n kd R r) := by
        refine ev_ior dX12_sticks_75 rfl ?_
        refine ev_istore dX12_sticks_76 (by decide) rfl ?_
        refine ev_iinc dX12_sticks_78 (v := l7 + (1 : Int32)) rfl rfl (by decide) rfl ?_
        refine ev_goto dX12_sticks_81 (tgt := 40) (by decide) ?_
        exact EV.mask [true, true, true, true, false, true, true, true] rfl (ih l1 l2 l3 l5 (l6 ||| x8) (l7 + (1 : Int32)) p5.2 h)
      clear h
      have h := e9
      clear e9
      refine ev_icmp_ne dX12_sticks_64 (tgt := 74) (by decide) (fun c7 => ?_) (fun c7 => ?_)
      · replace h := zif c7 h
        refine ev_iconst dX12_sticks_74 (v := (0 : Int32)) zci_0 ?_
        obtain rfl := h
        exact k10
      · replace h := zit c7 h
        refine ev_iconst dX12_sticks_67 (v := (1 : Int32)) zci_1 ?_
        refine ev_iload dX12_sticks_68 rfl ?_
        refine ev_ishl dX12_sticks_70 rfl ?_
        refine ev_goto dX12_sticks_71 (tgt := 75) (by decide) ?_
        obtain rfl := h
        exact k10
set_option maxHeartbeats 4000000 in
set_option maxRecDepth 100000 in
theorem e12_sticks_B84 {w : zW} {d : Nat} {n : Nat} {kd : zMK} {R : zMR} {r : Int32 × zMI}  (hw : zst w = zSt0) (hS : zSh n kd) (hd : 10 ≤ d)   : ∀ (l3 : Int32) (l5 : Int32) (l6 : Int32) (I : zMI), f12_sticks_B84 l3 l5 l6 I = some r → EV w d 0 0 Y12_sticks 84 [some (.ref 81), none, none, some (.int l3), none, some (.int l5), some (.int l6), none] [] (n, kd, I, R) (q12_sticks n kd R r) := by
  intro l3 l5 l6 I h
  unfold f12_sticks_B84 at h
  refine ev_aload_n dX12_sticks_84 rfl rfl ?_
  refine em_getA dX12_sticks_85 zf_NineHeapsModel_13 rfl (hS.has 81 (by decide) (by decide) rfl) hw rfl ?_
  refine ev_iload_n dX12_sticks_88 rfl rfl ?_
  refine ev_iload dX12_sticks_89 rfl ?_
  obtain ⟨g11, h⟩ := zgd h
  obtain ⟨J12, e13, h⟩ := zld h
  refine em_iast dX12_sticks_91 hS (by decide) (by decide) (N := 9) rfl g11 e13 ?_
  refine ev_iload dX12_sticks_92 rfl ?_
  obtain rfl := Option.some.inj h
  exact ev_end_i dX12_sticks_94 rfl rfl ⟨rfl, rfl⟩
set_option maxHeartbeats 4000000 in
set_option maxRecDepth 100000 in
theorem e12_sticks {w : zW} {d : Nat} {n : Nat} {kd : zMK} {I : zMI} {R : zMR} {r : Int32 × zMI} {l1 : Int32} {l2 : Int32} {l3 : Int32} (hw : zst w = zSt0) (hS : zSh n kd) (hd : 10 ≤ d)  (h : f12_sticks l1 l2 l3 I = some r) : EV w d 0 0 Y12_sticks 0 [some (.ref 81), some (.int l1), some (.int l2), some (.int l3), none, none, none, none] [] (n, kd, I, R) (q12_sticks n kd R r) := by
  unfold f12_sticks at h
  refine ev_aload_n dX12_sticks_0 rfl rfl ?_
  refine ev_iload_n dX12_sticks_1 rfl rfl ?_
  refine ev_iload_n dX12_sticks_2 rfl rfl ?_
  obtain ⟨p14, e15, h⟩ := zbd h
  refine ev_callV0 dX12_sticks_3 zm12_timeWrong zl_NineHeapsModel_311 zi12_timeWrong zv12_timeWrong (zrcM hS) (As := [.int l1, .int l2]) (rest := []) rfl rfl (Nat.le_of_ble_eq_true rfl) rfl (Nat.le_of_ble_eq_true rfl) (d' := 3) (by omega) (e12_timeWrong hw hS (Nat.le_refl _) e15) (fun v μ1 q => ?_)
  obtain ⟨rfl, rfl⟩ := q
  refine ev_istore dX12_sticks_6 (by decide) rfl ?_
  refine ev_iload dX12_sticks_8 rfl ?_
  refine ev_if_eq dX12_sticks_10 (tgt := 16) (by decide) (fun c16 => ?_) (fun c16 => ?_)
  · replace h := zit c16 h
    refine ev_iload_n dX12_sticks_16 rfl rfl ?_
    obtain ⟨p17, e18, h⟩ := zbd h
    refine ev_callS0 dX12_sticks_17 zm12_isHeap zl_NineHeapsModel_130 zs12_isHeap (As := [.int l3]) (rest := []) rfl rfl (Nat.le_of_ble_eq_true rfl) rfl (Nat.le_of_ble_eq_true rfl) (d' := 2) (by omega) (e12_isHeap hw hS (Nat.le_refl _) e18) (fun v μ1 q => ?_)
    obtain ⟨rfl, rfl⟩ := q
    refine ev_if_ne dX12_sticks_20 (tgt := 26) (by decide) (fun c19 => ?_) (fun c19 => ?_)
    · replace h := zif c19 h
      refine ev_aload_n dX12_sticks_26 rfl rfl ?_
      refine em_getA dX12_sticks_27 zf_NineHeapsModel_13 rfl (hS.has 81 (by decide) (by decide) rfl) hw rfl ?_
      refine ev_iload_n dX12_sticks_30 rfl rfl ?_
      obtain ⟨g20, h⟩ := zgd h
      refine em_iald dX12_sticks_31 hS (by decide) (by decide) (N := 9) rfl g20 rfl ?_
      refine ev_istore dX12_sticks_32 (by decide) rfl ?_
      refine ev_iconst dX12_sticks_34 (v := (0 : Int32)) zci_0 ?_
      refine ev_istore dX12_sticks_35 (by decide) rfl ?_
      refine ev_iconst dX12_sticks_37 (v := (0 : Int32)) zci_0 ?_
      refine ev_istore dX12_sticks_38 (by decide) rfl ?_
      exact EV.mask [true, true, true, true, false, true, true, true] rfl (e12_sticks_L40 hw hS hd (fun l3' l5' l6' I' h' => e12_sticks_B84 hw hS hd l3' l5' l6' I' h') zF l1 l2 l3 (I 83 l3.toNatClampNeg) (0 : Int32) (0 : Int32) I h)
    · replace h := zit c19 h
      refine ev_bipush dX12_sticks_23 (v := (-6 : Int32)) zcb_m6 ?_
      obtain rfl := Option.some.inj h
      exact ev_end_i dX12_sticks_25 rfl rfl ⟨rfl, rfl⟩
  · replace h := zif c16 h
    refine ev_iload dX12_sticks_13 rfl ?_
    obtain rfl := Option.some.inj h
    exact ev_end_i dX12_sticks_15 rfl rfl ⟨rfl, rfl⟩
abbrev q12_kinds (n : Nat) (kd : zMK) (R : zMR) (r : Int32 × zMI) : Option Value → zM → Prop := fun v μ1 => v = some (.int r.1) ∧ μ1 = (n, kd, r.2, R)
set_option maxHeartbeats 4000000 in
set_option maxRecDepth 100000 in
theorem e12_kinds_L85 {w : zW} {d : Nat} {n : Nat} {kd : zMK} {R : zMR} {r : Int32 × zMI} {k170 : Int32 → Int32 → Int32 → Int32 → zMI → Option (Int32 × zMI)} (hw : zst w = zSt0) (hS : zSh n kd) (hd : 10 ≤ d)  (hk170 : ∀ (l5 : Int32) (l7 : Int32) (l8 : Int32) (l9 : Int32) (I : zMI), k170 l5 l7 l8 l9 I = some r → EV w d 0 0 Y12_kinds 170 [some (.ref 81), none, none, none, none, some (.int l5), none, some (.int l7), some (.int l8), some (.int l9), none] [] (n, kd, I, R) (q12_kinds n kd R r)) : ∀ (q : Nat) (l1 : Int32) (l2 : Int32) (l5 : Int32) (l6 : Int32) (l7 : Int32) (l8 : Int32) (l9 : Int32) (l10 : Int32) (I : zMI), f12_kinds_L85 k170 q l1 l2 l5 l6 l7 l8 l9 l10 I = some r → EV w d 0 0 Y12_kinds 85 [some (.ref 81), some (.int l1), some (.int l2), none, none, some (.int l5), some (.int l6), some (.int l7), some (.int l8), some (.int l9), some (.int l10)] [] (n, kd, I, R) (q12_kinds n kd R r) := by
  intro q
  induction q with
  | zero =>
    intro l1 l2 l5 l6 l7 l8 l9 l10 I h
    cases h
  | succ q ih =>
    intro l1 l2 l5 l6 l7 l8 l9 l10 I h
    unfold f12_kinds_L85 at h
    refine ev_iload dX12_kinds_85 rfl ?_
    refine ev_iload dX12_kinds_87 rfl ?_
    obtain ⟨x2, e3, h⟩ := zld h
    have k24 : EV w d 0 0 Y12_kinds 99 [some (.ref 81), some (.int l1), some (.int l2), none, none, some (.int l5), some (.int l6), some (.int l7), some (.int l8), some (.int l9), some (.int l10)] [.int x2, .int l10] (n, kd, I, R) (q12_kinds n kd R r) := by
      refine ev_icmp_ge dX12_kinds_99 (tgt := 170) (by decide) (fun c4 => ?_) (fun c4 => ?_)
      · replace h := zit c4 h
        exact EV.mask [true, false, false, false, false, true, false, true, true, true, false] rfl (hk170 l5 l7 l8 l9 I h)
      · replace h := zif c4 h
        refine ev_aload_n dX12_kinds_102 rfl rfl ?_
        refine em_getA dX12_kinds_103 zf_NineHeapsModel_20 rfl (hS.has 81 (by decide) (by decide) rfl) hw rfl ?_
        refine ev_iload dX12_kinds_106 rfl ?_
        refine ev_iload dX12_kinds_108 rfl ?_
        obtain ⟨x6, e7, h⟩ := zld h
        have k23 : EV w d 0 0 Y12_kinds 120 [some (.ref 81), some (.int l1), some (.int l2), none, none, some (.int l5), some (.int l6), some (.int l7), some (.int l8), some (.int l9), some (.int l10)] [.int x6, .int l5, .ref 84] (n, kd, I, R) (q12_kinds n kd R r) := by
          obtain ⟨g8, h⟩ := zgd h
          obtain ⟨J9, e10, h⟩ := zld h
          refine em_iast dX12_kinds_120 hS (by decide) (by decide) (N := 5) rfl g8 e10 ?_
          refine ev_aload_n dX12_kinds_121 rfl rfl ?_
          refine em_getA dX12_kinds_122 zf_NineHeapsModel_26 rfl (hS.has 81 (by decide) (by decide) rfl) hw rfl ?_
          refine ev_iload dX12_kinds_125 rfl ?_
          refine ev_iload dX12_kinds_127 rfl ?_
          refine ev_iconst dX12_kinds_129 (v := (1 : Int32)) zci_1 ?_
          obtain ⟨x12, e13, h⟩ := zld h
          have k22 : EV w d 0 0 Y12_kinds 140 [some (.ref 81), some (.int l1), some (.int l2), none, none, some (.int l5), some (.int l6), some (.int l7), some (.int l8), some (.int l9), some (.int l10)] [.int x12, .int l5, .ref 86] (n, kd, J9, R) (q12_kinds n kd R r) := by
            obtain ⟨J14, e15, h⟩ := zld h
            refine em_iast dX12_kinds_140 hS (by decide) (by decide) (N := 5) rfl g8 e15 ?_
            refine ev_iload dX12_kinds_141 rfl ?_
            refine ev_aload_n dX12_kinds_143 rfl rfl ?_
            refine ev_iload_n dX12_kinds_144 rfl rfl ?_
            refine ev_iload_n dX12_kinds_145 rfl rfl ?_
            obtain ⟨p16, e17, h⟩ := zbd h
            refine ev_callV0 dX12_kinds_146 zm12_unlike zl_NineHeapsModel_314 zi12_unlike zv12_unlike (zrcM hS) (As := [.int l1, .int l2]) (rest := [.int l9]) rfl rfl (Nat.le_of_ble_eq_true rfl) rfl (Nat.le_of_ble_eq_true rfl) (d' := 9) (by omega) (e12_unlike hw hS (Nat.le_refl _) e17) (fun v μ1 q => ?_)
            obtain ⟨rfl, rfl⟩ := q
            refine ev_iconst dX12_kinds_149 (v := (-1 : Int32)) zci_m1 ?_
            obtain ⟨x19, e20, h⟩ := zld h
            have k21 : EV w d 0 0 Y12_kinds 161 [some (.ref 81), some (.int l1), some (.int l2), none, none, some (.int l5), some (.int l6), some (.int l7), some (.int l8), some (.int l9), some (.int l10)] [.int x19, .int l9] (n, kd, p16.2, R) (q12_kinds n kd R r) := by
              refine ev_ior dX12_kinds_161 rfl ?_
              refine ev_istore dX12_kinds_162 (by decide) rfl ?_
              refine ev_iinc dX12_kinds_164 (v := l10 + (1 : Int32)) rfl rfl (by decide) rfl ?_
              refine ev_goto dX12_kinds_167 (tgt := 85) (by decide) ?_
              exact EV.mask [true, true, true, false, false, true, true, true, true, true, true] rfl (ih l1 l2 l5 l6 l7 l8 (l9 ||| x19) (l10 + (1 : Int32)) p16.2 h)
            clear h
            have h := e20
            clear e20
            refine ev_icmp_ne dX12_kinds_150 (tgt := 160) (by decide) (fun c18 => ?_) (fun c18 => ?_)
            · replace h := zif c18 h
              refine ev_iconst dX12_kinds_160 (v := (0 : Int32)) zci_0 ?_
              obtain rfl := h
              exact k21
            · replace h := zit c18 h
              refine ev_iconst dX12_kinds_153 (v := (1 : Int32)) zci_1 ?_
              refine ev_iload dX12_kinds_154 rfl ?_
              refine ev_ishl dX12_kinds_156 rfl ?_
              refine ev_goto dX12_kinds_157 (tgt := 161) (by decide) ?_
              obtain rfl := h
              exact k21
          clear h
          have h := e13
          clear e13
          refine ev_icmp_ne dX12_kinds_130 (tgt := 138) (by decide) (fun c11 => ?_) (fun c11 => ?_)
          · replace h := zif c11 h
            refine ev_iload dX12_kinds_138 rfl ?_
            obtain rfl := h
            exact k22
          · replace h := zit c11 h
            refine ev_iload dX12_kinds_133 rfl ?_
            refine ev_goto dX12_kinds_135 (tgt := 140) (by decide) ?_
            obtain rfl := h
            exact k22
        clear h
        have h := e7
        clear e7
        refine ev_if_ne dX12_kinds_110 (tgt := 118) (by decide) (fun c5 => ?_) (fun c5 => ?_)
        · replace h := zif c5 h
          refine ev_iload dX12_kinds_118 rfl ?_
          obtain rfl := h
          exact k23
        · replace h := zit c5 h
          refine ev_iload dX12_kinds_113 rfl ?_
          refine ev_goto dX12_kinds_115 (tgt := 120) (by decide) ?_
          obtain rfl := h
          exact k23
    clear h
    have h := e3
    clear e3
    refine ev_if_ne dX12_kinds_89 (tgt := 97) (by decide) (fun c1 => ?_) (fun c1 => ?_)
    · replace h := zif c1 h
      refine ev_bipush dX12_kinds_97 (v := (9 : Int32)) zcb_9 ?_
      obtain rfl := h
      exact k24
    · replace h := zit c1 h
      refine ev_bipush dX12_kinds_92 (v := (6 : Int32)) zcb_6 ?_
      refine ev_goto dX12_kinds_94 (tgt := 99) (by decide) ?_
      obtain rfl := h
      exact k24
set_option maxHeartbeats 4000000 in
set_option maxRecDepth 100000 in
theorem e12_kinds_B170 {w : zW} {d : Nat} {n : Nat} {kd : zMK} {R : zMR} {r : Int32 × zMI}  (hw : zst w = zSt0) (hS : zSh n kd) (hd : 10 ≤ d)   : ∀ (l5 : Int32) (l7 : Int32) (l8 : Int32) (l9 : Int32) (I : zMI), f12_kinds_B170 l5 l7 l8 l9 I = some r → EV w d 0 0 Y12_kinds 170 [some (.ref 81), none, none, none, none, some (.int l5), none, some (.int l7), some (.int l8), some (.int l9), none] [] (n, kd, I, R) (q12_kinds n kd R r) := by
  intro l5 l7 l8 l9 I h
  unfold f12_kinds_B170 at h
  refine ev_aload_n dX12_kinds_170 rfl rfl ?_
  refine em_getA dX12_kinds_171 zf_NineHeapsModel_20 rfl (hS.has 81 (by decide) (by decide) rfl) hw rfl ?_
  refine ev_iload dX12_kinds_174 rfl ?_
  refine ev_iload dX12_kinds_176 rfl ?_
  obtain ⟨g25, h⟩ := zgd h
  obtain ⟨J26, e27, h⟩ := zld h
  refine em_iast dX12_kinds_178 hS (by decide) (by decide) (N := 5) rfl g25 e27 ?_
  refine ev_aload_n dX12_kinds_179 rfl rfl ?_
  refine em_getA dX12_kinds_180 zf_NineHeapsModel_26 rfl (hS.has 81 (by decide) (by decide) rfl) hw rfl ?_
  refine ev_iload dX12_kinds_183 rfl ?_
  refine ev_iload dX12_kinds_185 rfl ?_
  obtain ⟨J28, e29, h⟩ := zld h
  refine em_iast dX12_kinds_187 hS (by decide) (by decide) (N := 5) rfl g25 e29 ?_
  refine ev_iload dX12_kinds_188 rfl ?_
  obtain rfl := Option.some.inj h
  exact ev_end_i dX12_kinds_190 rfl rfl ⟨rfl, rfl⟩
set_option maxHeartbeats 4000000 in
set_option maxRecDepth 100000 in
theorem e12_kinds {w : zW} {d : Nat} {n : Nat} {kd : zMK} {I : zMI} {R : zMR} {r : Int32 × zMI} {l1 : Int32} {l2 : Int32} {l3 : Int32} (hw : zst w = zSt0) (hS : zSh n kd) (hd : 10 ≤ d)  (h : f12_kinds l1 l2 l3 I = some r) : EV w d 0 0 Y12_kinds 0 [some (.ref 81), some (.int l1), some (.int l2), some (.int l3), none, none, none, none, none, none, none] [] (n, kd, I, R) (q12_kinds n kd R r) := by
  unfold f12_kinds at h
  refine ev_aload_n dX12_kinds_0 rfl rfl ?_
  refine ev_iload_n dX12_kinds_1 rfl rfl ?_
  refine ev_iload_n dX12_kinds_2 rfl rfl ?_
  obtain ⟨p30, e31, h⟩ := zbd h
  refine ev_callV0 dX12_kinds_3 zm12_timeWrong zl_NineHeapsModel_311 zi12_timeWrong zv12_timeWrong (zrcM hS) (As := [.int l1, .int l2]) (rest := []) rfl rfl (Nat.le_of_ble_eq_true rfl) rfl (Nat.le_of_ble_eq_true rfl) (d' := 3) (by omega) (e12_timeWrong hw hS (Nat.le_refl _) e31) (fun v μ1 q => ?_)
  obtain ⟨rfl, rfl⟩ := q
  refine ev_istore dX12_kinds_6 (by decide) rfl ?_
  refine ev_iload dX12_kinds_8 rfl ?_
  refine ev_if_eq dX12_kinds_10 (tgt := 16) (by decide) (fun c32 => ?_) (fun c32 => ?_)
  · replace h := zit c32 h
    refine ev_iload_n dX12_kinds_16 rfl rfl ?_
    obtain ⟨x34, e35, h⟩ := zld h
    have k45 : EV w d 0 0 Y12_kinds 28 [some (.ref 81), some (.int l1), some (.int l2), some (.int l3), some (.int p30), none, none, none, none, none, none] [.int x34] (n, kd, I, R) (q12_kinds n kd R r) := by
      refine ev_istore dX12_kinds_28 (by decide) rfl ?_
      refine ev_aload_n dX12_kinds_30 rfl rfl ?_
      refine ev_iload dX12_kinds_31 rfl ?_
      obtain ⟨p36, e37, h⟩ := zbd h
      refine ev_callV0 dX12_kinds_33 zm12_isWalker zl_NineHeapsModel_203 zi12_isWalker zv12_isWalker (zrcM hS) (As := [.int x34]) (rest := []) rfl rfl (Nat.le_of_ble_eq_true rfl) rfl (Nat.le_of_ble_eq_true rfl) (d' := 2) (by omega) (e12_isWalker hw hS (Nat.le_refl _) e37) (fun v μ1 q => ?_)
      obtain ⟨rfl, rfl⟩ := q
      refine ev_if_ne dX12_kinds_36 (tgt := 42) (by decide) (fun c38 => ?_) (fun c38 => ?_)
      · replace h := zif c38 h
        refine ev_iload_n dX12_kinds_42 rfl rfl ?_
        refine ev_bipush dX12_kinds_43 (v := (100 : Int32)) zcb_100 ?_
        refine ev_irem dX12_kinds_45 (by decide) rfl ?_
        obtain ⟨x39, e40, h⟩ := zld h
        refine ev_nm e40 ?_
        refine ev_istore dX12_kinds_46 (by decide) rfl ?_
        refine ev_iload dX12_kinds_48 rfl ?_
        refine ev_iconst dX12_kinds_50 (v := (0 : Int32)) zci_0 ?_
        refine ev_iconst dX12_kinds_51 (v := (1 : Int32)) zci_1 ?_
        obtain ⟨p41, e42, h⟩ := zbd h
        refine ev_callS0 dX12_kinds_52 zm12_in zl_NineHeapsModel_120 zs12_in (As := [.int x39, .int (0 : Int32), .int (1 : Int32)]) (rest := []) rfl rfl (Nat.le_of_ble_eq_true rfl) rfl (Nat.le_of_ble_eq_true rfl) (d' := 1) (by omega) (e12_in hw hS (Nat.le_refl _) e42) (fun v μ1 q => ?_)
        obtain ⟨rfl, rfl⟩ := q
        refine ev_if_ne dX12_kinds_55 (tgt := 61) (by decide) (fun c43 => ?_) (fun c43 => ?_)
        · replace h := zif c43 h
          refine ev_aload_n dX12_kinds_61 rfl rfl ?_
          refine em_getA dX12_kinds_62 zf_NineHeapsModel_20 rfl (hS.has 81 (by decide) (by decide) rfl) hw rfl ?_
          refine ev_iload dX12_kinds_65 rfl ?_
          obtain ⟨g44, h⟩ := zgd h
          refine em_iald dX12_kinds_67 hS (by decide) (by decide) (N := 5) rfl g44 rfl ?_
          refine ev_istore dX12_kinds_68 (by decide) rfl ?_
          refine ev_aload_n dX12_kinds_70 rfl rfl ?_
          refine em_getA dX12_kinds_71 zf_NineHeapsModel_26 rfl (hS.has 81 (by decide) (by decide) rfl) hw rfl ?_
          refine ev_iload dX12_kinds_74 rfl ?_
          refine em_iald dX12_kinds_76 hS (by decide) (by decide) (N := 5) rfl g44 rfl ?_
          refine ev_istore dX12_kinds_77 (by decide) rfl ?_
          refine ev_iconst dX12_kinds_79 (v := (0 : Int32)) zci_0 ?_
          refine ev_istore dX12_kinds_80 (by decide) rfl ?_
          refine ev_iconst dX12_kinds_82 (v := (0 : Int32)) zci_0 ?_
          refine ev_istore dX12_kinds_83 (by decide) rfl ?_
          exact EV.mask [true, true, true, false, false, true, true, true, true, true, true] rfl (e12_kinds_L85 hw hS hd (fun l5' l7' l8' l9' I' h' => e12_kinds_B170 hw hS hd l5' l7' l8' l9' I' h') zF l1 l2 x34 x39 (I 84 x34.toNatClampNeg) (I 86 x34.toNatClampNeg) (0 : Int32) (0 : Int32) I h)
        · replace h := zit c43 h
          refine ev_bipush dX12_kinds_58 (v := (-7 : Int32)) zcb_m7 ?_
          obtain rfl := Option.some.inj h
          exact ev_end_i dX12_kinds_60 rfl rfl ⟨rfl, rfl⟩
      · replace h := zit c38 h
        refine ev_bipush dX12_kinds_39 (v := (-5 : Int32)) zcb_m5 ?_
        obtain rfl := Option.some.inj h
        exact ev_end_i dX12_kinds_41 rfl rfl ⟨rfl, rfl⟩
    clear h
    have h := e35
    clear e35
    refine ev_if_ge dX12_kinds_17 (tgt := 24) (by decide) (fun c33 => ?_) (fun c33 => ?_)
    · replace h := zit c33 h
      refine ev_iload_n dX12_kinds_24 rfl rfl ?_
      refine ev_bipush dX12_kinds_25 (v := (100 : Int32)) zcb_100 ?_
      refine ev_idiv dX12_kinds_27 (by decide) rfl ?_
      obtain rfl := h
      exact k45
    · replace h := zif c33 h
      refine ev_iconst dX12_kinds_20 (v := (-1 : Int32)) zci_m1 ?_
      refine ev_goto dX12_kinds_21 (tgt := 28) (by decide) ?_
      obtain rfl := h
      exact k45
  · replace h := zif c32 h
    refine ev_iload dX12_kinds_13 rfl ?_
    obtain rfl := Option.some.inj h
    exact ev_end_i dX12_kinds_15 rfl rfl ⟨rfl, rfl⟩
abbrev q12_laws (n : Nat) (kd : zMK) (R : zMR) (r : Int32 × zMI) : Option Value → zM → Prop := fun v μ1 => v = some (.int r.1) ∧ μ1 = (n, kd, r.2, R)
set_option maxHeartbeats 4000000 in
set_option maxRecDepth 100000 in
theorem e12_laws_L25 {w : zW} {d : Nat} {n : Nat} {kd : zMK} {R : zMR} {r : Int32 × zMI}  (hw : zst w = zSt0) (hS : zSh n kd) (hd : 10 ≤ d)   : ∀ (q : Nat) (l1 : Int32) (l2 : Int32) (l4 : Int32) (l5 : Int32) (l6 : Int32) (I : zMI), f12_laws_L25  q l1 l2 l4 l5 l6 I = some r → EV w d 0 0 Y12_laws 25 [some (.ref 81), some (.int l1), some (.int l2), none, some (.int l4), some (.int l5), some (.int l6)] [] (n, kd, I, R) (q12_laws n kd R r) := by
  intro q
  induction q with
  | zero =>
    intro l1 l2 l4 l5 l6 I h
    cases h
  | succ q ih =>
    intro l1 l2 l4 l5 l6 I h
    unfold f12_laws_L25 at h
    refine ev_iload dX12_laws_25 rfl ?_
    refine ev_aload_n dX12_laws_27 rfl rfl ?_
    refine em_getI dX12_laws_28 zf_NineHeapsModel_124 rfl (hS.has 81 (by decide) (by decide) rfl) rfl ?_
    refine ev_icmp_ge dX12_laws_31 (tgt := 69) (by decide) (fun c1 => ?_) (fun c1 => ?_)
    · replace h := zit c1 h
      refine ev_aload_n dX12_laws_69 rfl rfl ?_
      refine ev_iload dX12_laws_70 rfl ?_
      obtain ⟨J2, e3, h⟩ := zld h
      refine em_putI dX12_laws_72 zf_NineHeapsModel_127 (Or.inl rfl) rfl rfl rfl (hS.has 81 (by decide) (by decide) rfl) e3 ?_
      refine ev_iload dX12_laws_75 rfl ?_
      obtain rfl := Option.some.inj h
      exact ev_end_i dX12_laws_77 rfl rfl ⟨rfl, rfl⟩
    · replace h := zif c1 h
      refine ev_aload_n dX12_laws_34 rfl rfl ?_
      refine ev_iload dX12_laws_35 rfl ?_
      obtain ⟨J4, e5, h⟩ := zld h
      refine em_putI dX12_laws_37 zf_NineHeapsModel_127 (Or.inl rfl) rfl rfl rfl (hS.has 81 (by decide) (by decide) rfl) e5 ?_
      refine ev_iload dX12_laws_40 rfl ?_
      refine ev_aload_n dX12_laws_42 rfl rfl ?_
      refine ev_iload_n dX12_laws_43 rfl rfl ?_
      refine ev_iload_n dX12_laws_44 rfl rfl ?_
      obtain ⟨p6, e7, h⟩ := zbd h
      refine ev_callV0 dX12_laws_45 zm12_unlike zl_NineHeapsModel_314 zi12_unlike zv12_unlike (zrcM hS) (As := [.int l1, .int l2]) (rest := [.int l5]) rfl rfl (Nat.le_of_ble_eq_true rfl) rfl (Nat.le_of_ble_eq_true rfl) (d' := 9) (by omega) (e12_unlike hw hS (Nat.le_refl _) e7) (fun v μ1 q => ?_)
      obtain ⟨rfl, rfl⟩ := q
      refine ev_iconst dX12_laws_48 (v := (-1 : Int32)) zci_m1 ?_
      obtain ⟨x9, e10, h⟩ := zld h
      have k11 : EV w d 0 0 Y12_laws 60 [some (.ref 81), some (.int l1), some (.int l2), none, some (.int l4), some (.int l5), some (.int l6)] [.int x9, .int l5] (n, kd, p6.2, R) (q12_laws n kd R r) := by
        refine ev_ior dX12_laws_60 rfl ?_
        refine ev_istore dX12_laws_61 (by decide) rfl ?_
        refine ev_iinc dX12_laws_63 (v := l6 + (1 : Int32)) rfl rfl (by decide) rfl ?_
        refine ev_goto dX12_laws_66 (tgt := 25) (by decide) ?_
        exact EV.mask [true, true, true, false, true, true, true] rfl (ih l1 l2 l4 (l5 ||| x9) (l6 + (1 : Int32)) p6.2 h)
      clear h
      have h := e10
      clear e10
      refine ev_icmp_ne dX12_laws_49 (tgt := 59) (by decide) (fun c8 => ?_) (fun c8 => ?_)
      · replace h := zif c8 h
        refine ev_iconst dX12_laws_59 (v := (0 : Int32)) zci_0 ?_
        obtain rfl := h
        exact k11
      · replace h := zit c8 h
        refine ev_iconst dX12_laws_52 (v := (1 : Int32)) zci_1 ?_
        refine ev_iload dX12_laws_53 rfl ?_
        refine ev_ishl dX12_laws_55 rfl ?_
        refine ev_goto dX12_laws_56 (tgt := 60) (by decide) ?_
        obtain rfl := h
        exact k11
set_option maxHeartbeats 4000000 in
set_option maxRecDepth 100000 in
theorem e12_laws {w : zW} {d : Nat} {n : Nat} {kd : zMK} {I : zMI} {R : zMR} {r : Int32 × zMI} {l1 : Int32} {l2 : Int32} (hw : zst w = zSt0) (hS : zSh n kd) (hd : 10 ≤ d)  (h : f12_laws l1 l2 I = some r) : EV w d 0 0 Y12_laws 0 [some (.ref 81), some (.int l1), some (.int l2), none, none, none, none] [] (n, kd, I, R) (q12_laws n kd R r) := by
  unfold f12_laws at h
  refine ev_aload_n dX12_laws_0 rfl rfl ?_
  refine ev_iload_n dX12_laws_1 rfl rfl ?_
  refine ev_iload_n dX12_laws_2 rfl rfl ?_
  obtain ⟨p12, e13, h⟩ := zbd h
  refine ev_callV0 dX12_laws_3 zm12_timeWrong zl_NineHeapsModel_311 zi12_timeWrong zv12_timeWrong (zrcM hS) (As := [.int l1, .int l2]) (rest := []) rfl rfl (Nat.le_of_ble_eq_true rfl) rfl (Nat.le_of_ble_eq_true rfl) (d' := 3) (by omega) (e12_timeWrong hw hS (Nat.le_refl _) e13) (fun v μ1 q => ?_)
  obtain ⟨rfl, rfl⟩ := q
  refine ev_istore_n dX12_laws_6 rfl (by decide) rfl ?_
  refine ev_iload_n dX12_laws_7 rfl rfl ?_
  refine ev_if_eq dX12_laws_8 (tgt := 13) (by decide) (fun c14 => ?_) (fun c14 => ?_)
  · replace h := zit c14 h
    refine ev_aload_n dX12_laws_13 rfl rfl ?_
    refine em_getI dX12_laws_14 zf_NineHeapsModel_127 rfl (hS.has 81 (by decide) (by decide) rfl) rfl ?_
    refine ev_istore dX12_laws_17 (by decide) rfl ?_
    refine ev_iconst dX12_laws_19 (v := (0 : Int32)) zci_0 ?_
    refine ev_istore dX12_laws_20 (by decide) rfl ?_
    refine ev_iconst dX12_laws_22 (v := (0 : Int32)) zci_0 ?_
    refine ev_istore dX12_laws_23 (by decide) rfl ?_
    exact EV.mask [true, true, true, false, true, true, true] rfl (e12_laws_L25 hw hS hd zF l1 l2 (I 81 12) (0 : Int32) (0 : Int32) I h)
  · replace h := zif c14 h
    refine ev_iload_n dX12_laws_11 rfl rfl ?_
    obtain rfl := Option.some.inj h
    exact ev_end_i dX12_laws_12 rfl rfl ⟨rfl, rfl⟩
abbrev q12_film (n : Nat) (kd : zMK) (R : zMR) (r : Int32 × zMI) : Option Value → zM → Prop := fun v μ1 => v = some (.int r.1) ∧ μ1 = (n, kd, r.2, R)
set_option maxHeartbeats 4000000 in
set_option maxRecDepth 100000 in
theorem e12_film_B79 {w : zW} {d : Nat} {n : Nat} {kd : zMK} {R : zMR} {r : Int32 × zMI} {k41 : Int32 → Int32 → zMI → Option (Int32 × zMI)} (hw : zst w = zSt0) (hS : zSh n kd) (hd : 9 ≤ d)  (hk41 : ∀ (l1 : Int32) (l3 : Int32) (I : zMI), k41 l1 l3 I = some r → EV w d 0 0 Y12_film 41 [some (.ref 81), some (.int l1), none, some (.int l3)] [] (n, kd, I, R) (q12_film n kd R r)) : ∀ (l1 : Int32) (l3 : Int32) (s1 : Int32) (s2 : Int32) (I : zMI), f12_film_B79 k41 l1 l3 s1 s2 I = some r → EV w d 0 0 Y12_film 79 [some (.ref 81), some (.int l1), none, some (.int l3)] [.int s2, .int s1, .ref 93] (n, kd, I, R) (q12_film n kd R r) := by
  intro l1 l3 s1 s2 I h
  unfold f12_film_B79 at h
  obtain ⟨g1, h⟩ := zgd h
  obtain ⟨J2, e3, h⟩ := zld h
  refine em_iast dX12_film_79 hS (by decide) (by decide) (N := 160) rfl g1 e3 ?_
  refine ev_iinc dX12_film_80 (v := l3 + (1 : Int32)) rfl rfl (by decide) rfl ?_
  refine ev_goto dX12_film_83 (tgt := 41) (by decide) ?_
  exact EV.mask [true, true, false, true] rfl (hk41 l1 (l3 + (1 : Int32)) J2 h)
set_option maxHeartbeats 4000000 in
set_option maxRecDepth 100000 in
theorem e12_film_L41 {w : zW} {d : Nat} {n : Nat} {kd : zMK} {R : zMR} {r : Int32 × zMI}  (hw : zst w = zSt0) (hS : zSh n kd) (hd : 9 ≤ d)   : ∀ (q : Nat) (l1 : Int32) (l3 : Int32) (I : zMI), f12_film_L41  q l1 l3 I = some r → EV w d 0 0 Y12_film 41 [some (.ref 81), some (.int l1), none, some (.int l3)] [] (n, kd, I, R) (q12_film n kd R r) := by
  intro q
  induction q with
  | zero =>
    intro l1 l3 I h
    cases h
  | succ q ih =>
    intro l1 l3 I h
    unfold f12_film_L41 at h
    refine ev_iload_n dX12_film_41 rfl rfl ?_
    refine ev_bipush dX12_film_42 (v := (40 : Int32)) zcb_40 ?_
    refine ev_icmp_ge dX12_film_44 (tgt := 86) (by decide) (fun c4 => ?_) (fun c4 => ?_)
    · replace h := zit c4 h
      refine ev_bipush dX12_film_86 (v := (9 : Int32)) zcb_9 ?_
      obtain rfl := Option.some.inj h
      exact ev_end_i dX12_film_88 rfl rfl ⟨rfl, rfl⟩
    · replace h := zif c4 h
      refine ev_aload_n dX12_film_47 rfl rfl ?_
      refine em_getA dX12_film_48 zf_NineHeapsModel_47 rfl (hS.has 81 (by decide) (by decide) rfl) hw rfl ?_
      refine ev_bipush dX12_film_51 (v := (40 : Int32)) zcb_40 ?_
      refine ev_iload_n dX12_film_53 rfl rfl ?_
      refine ev_imul dX12_film_54 rfl ?_
      refine ev_iload_n dX12_film_55 rfl rfl ?_
      refine ev_iadd dX12_film_56 rfl ?_
      refine ev_iload_n dX12_film_57 rfl rfl ?_
      refine ev_bipush dX12_film_58 (v := (9 : Int32)) zcb_9 ?_
      refine ev_icmp_ge dX12_film_60 (tgt := 78) (by decide) (fun c5 => ?_) (fun c5 => ?_)
      · replace h := zit c5 h
        refine ev_iconst dX12_film_78 (v := (0 : Int32)) zci_0 ?_
        exact EV.mask [true, true, false, true] rfl (e12_film_B79 hw hS hd (fun l1' l3' I' h' => ih l1' l3' I' h') l1 l3 (((40 : Int32) * l1) + l3) (0 : Int32) I h)
      · replace h := zif c5 h
        refine ev_aload_n dX12_film_63 rfl rfl ?_
        refine em_getA dX12_film_64 zf_NineHeapsModel_89 rfl (hS.has 81 (by decide) (by decide) rfl) hw rfl ?_
        refine ev_iload_n dX12_film_67 rfl rfl ?_
        refine ev_iconst dX12_film_68 (v := (0 : Int32)) zci_0 ?_
        refine ev_bipush dX12_film_69 (v := (8 : Int32)) zcb_8 ?_
        obtain ⟨p6, e7, h⟩ := zbd h
        refine ev_callS0 dX12_film_71 zm12_within zl_NineHeapsModel_200 zs12_within (As := [.int l3, .int (0 : Int32), .int (8 : Int32)]) (rest := [.ref 107, .int (((40 : Int32) * l1) + l3), .ref 93]) rfl rfl (Nat.le_of_ble_eq_true rfl) rfl (Nat.le_of_ble_eq_true rfl) (d' := 1) (by omega) (e12_within hw hS (Nat.le_refl _) e7) (fun v μ1 q => ?_)
        obtain ⟨rfl, rfl⟩ := q
        obtain ⟨g8, h⟩ := zgd h
        refine em_iald dX12_film_74 hS (by decide) (by decide) (N := 9) rfl g8 rfl ?_
        refine ev_goto dX12_film_75 (tgt := 79) (by decide) ?_
        exact EV.mask [true, true, false, true] rfl (e12_film_B79 hw hS hd (fun l1' l3' I' h' => ih l1' l3' I' h') l1 l3 (((40 : Int32) * l1) + l3) (I 107 p6.toNatClampNeg) I h)
set_option maxHeartbeats 4000000 in
set_option maxRecDepth 100000 in
theorem e12_film {w : zW} {d : Nat} {n : Nat} {kd : zMK} {I : zMI} {R : zMR} {r : Int32 × zMI} {l1 : Int32} {l2 : Int32} (hw : zst w = zSt0) (hS : zSh n kd) (hd : 9 ≤ d)  (h : f12_film l1 l2 I = some r) : EV w d 0 0 Y12_film 0 [some (.ref 81), some (.int l1), some (.int l2), none] [] (n, kd, I, R) (q12_film n kd R r) := by
  unfold f12_film at h
  refine ev_iload_n dX12_film_0 rfl rfl ?_
  refine ev_iconst dX12_film_1 (v := (0 : Int32)) zci_0 ?_
  refine ev_iconst dX12_film_2 (v := (3 : Int32)) zci_3 ?_
  obtain ⟨p9, e10, h⟩ := zbd h
  refine ev_callS0 dX12_film_3 zm12_in zl_NineHeapsModel_120 zs12_in (As := [.int l1, .int (0 : Int32), .int (3 : Int32)]) (rest := []) rfl rfl (Nat.le_of_ble_eq_true rfl) rfl (Nat.le_of_ble_eq_true rfl) (d' := 1) (by omega) (e12_in hw hS (Nat.le_refl _) e10) (fun v μ1 q => ?_)
  obtain ⟨rfl, rfl⟩ := q
  refine ev_if_eq dX12_film_6 (tgt := 16) (by decide) (fun c11 => ?_) (fun c11 => ?_)
  · replace h := zit c11 h
    refine ev_bipush dX12_film_16 (v := (-2 : Int32)) zcb_m2 ?_
    obtain rfl := Option.some.inj h
    exact ev_end_i dX12_film_18 rfl rfl ⟨rfl, rfl⟩
  · replace h := zif c11 h
    refine ev_iload_n dX12_film_9 rfl rfl ?_
    obtain ⟨p12, e13, h⟩ := zbd h
    refine ev_callS0 dX12_film_10 zm12_areSeconds zl_NineHeapsModel_257 zs12_areSeconds (As := [.int l2]) (rest := []) rfl rfl (Nat.le_of_ble_eq_true rfl) rfl (Nat.le_of_ble_eq_true rfl) (d' := 2) (by omega) (e12_areSeconds hw hS (Nat.le_refl _) e13) (fun v μ1 q => ?_)
    obtain ⟨rfl, rfl⟩ := q
    refine ev_if_ne dX12_film_13 (tgt := 19) (by decide) (fun c14 => ?_) (fun c14 => ?_)
    · replace h := zif c14 h
      refine ev_aload_n dX12_film_19 rfl rfl ?_
      refine ev_iload_n dX12_film_20 rfl rfl ?_
      obtain ⟨p15, e16, h⟩ := zbd h
      refine ev_callV0 dX12_film_21 zm12_goesPlain zl_NineHeapsModel_260 zi12_goesPlain zv12_goesPlain (zrcM hS) (As := [.int l2]) (rest := []) rfl rfl (Nat.le_of_ble_eq_true rfl) rfl (Nat.le_of_ble_eq_true rfl) (d' := 8) (by omega) (e12_goesPlain hw hS (Nat.le_refl _) e16) (fun v μ1 q => ?_)
      obtain ⟨rfl, rfl⟩ := q
      refine ev_aload_n dX12_film_24 rfl rfl ?_
      refine em_getA dX12_film_25 zf_NineHeapsModel_41 rfl (hS.has 81 (by decide) (by decide) rfl) hw rfl ?_
      refine ev_iload_n dX12_film_28 rfl rfl ?_
      refine ev_iconst dX12_film_29 (v := (1 : Int32)) zci_1 ?_
      obtain ⟨g17, h⟩ := zgd h
      obtain ⟨J18, e19, h⟩ := zld h
      refine em_iast dX12_film_30 hS (by decide) (by decide) (N := 4) rfl g17 e19 ?_
      refine ev_aload_n dX12_film_31 rfl rfl ?_
      refine em_getA dX12_film_32 zf_NineHeapsModel_44 rfl (hS.has 81 (by decide) (by decide) rfl) hw rfl ?_
      refine ev_iload_n dX12_film_35 rfl rfl ?_
      refine ev_bipush dX12_film_36 (v := (9 : Int32)) zcb_9 ?_
      obtain ⟨J20, e21, h⟩ := zld h
      refine em_iast dX12_film_38 hS (by decide) (by decide) (N := 4) rfl g17 e21 ?_
      refine ev_iconst dX12_film_39 (v := (0 : Int32)) zci_0 ?_
      refine ev_istore_n dX12_film_40 rfl (by decide) rfl ?_
      exact EV.mask [true, true, false, true] rfl (e12_film_L41 hw hS hd zF l1 (0 : Int32) J20 h)
    · replace h := zit c14 h
      refine ev_bipush dX12_film_16 (v := (-2 : Int32)) zcb_m2 ?_
      obtain rfl := Option.some.inj h
      exact ev_end_i dX12_film_18 rfl rfl ⟨rfl, rfl⟩
abbrev q12_goesBy (n : Nat) (kd : zMK) (R : zMR) (r : zMI) : Option Value → zM → Prop := fun v μ1 => v = none ∧ μ1 = (n, kd, r, R)
set_option maxHeartbeats 4000000 in
set_option maxRecDepth 100000 in
theorem e12_goesBy_L8 {w : zW} {d : Nat} {n : Nat} {kd : zMK} {R : zMR} {r : zMI} {k58 : Int32 → zMI → Option (zMI)} (hw : zst w = zSt0) (hS : zSh n kd) (hd : 9 ≤ d)  (hk58 : ∀ (l2 : Int32) (I : zMI), k58 l2 I = some r → EV w d 0 0 Y12_goesBy 58 [some (.ref 81), none, some (.int l2), none, none, none] [] (n, kd, I, R) (q12_goesBy n kd R r)) : ∀ (q : Nat) (l2 : Int32) (l3 : Int64) (l5 : Int32) (I : zMI), f12_goesBy_L8 k58 q l2 l3 l5 I = some r → EV w d 0 0 Y12_goesBy 8 [some (.ref 81), none, some (.int l2), some (.long l3), none, some (.int l5)] [] (n, kd, I, R) (q12_goesBy n kd R r) := by
  intro q
  induction q with
  | zero =>
    intro l2 l3 l5 I h
    cases h
  | succ q ih =>
    intro l2 l3 l5 I h
    unfold f12_goesBy_L8 at h
    refine ev_iload dX12_goesBy_8 rfl ?_
    refine ev_bipush dX12_goesBy_10 (v := (9 : Int32)) zcb_9 ?_
    refine ev_icmp_ge dX12_goesBy_12 (tgt := 58) (by decide) (fun c1 => ?_) (fun c1 => ?_)
    · replace h := zit c1 h
      exact EV.mask [true, false, true, false, false, false] rfl (hk58 l2 I h)
    · replace h := zif c1 h
      refine ev_aload_n dX12_goesBy_15 rfl rfl ?_
      refine em_getA dX12_goesBy_16 zf_NineHeapsModel_107 rfl (hS.has 81 (by decide) (by decide) rfl) hw rfl ?_
      refine ev_iload dX12_goesBy_19 rfl ?_
      refine ev_aload_n dX12_goesBy_21 rfl rfl ?_
      refine em_getA dX12_goesBy_22 zf_NineHeapsModel_13 rfl (hS.has 81 (by decide) (by decide) rfl) hw rfl ?_
      refine ev_iload dX12_goesBy_25 rfl ?_
      obtain ⟨g2, h⟩ := zgd h
      refine em_iald dX12_goesBy_27 hS (by decide) (by decide) (N := 9) rfl g2 rfl ?_
      obtain ⟨J3, e4, h⟩ := zld h
      refine em_iast dX12_goesBy_28 hS (by decide) (by decide) (N := 9) rfl g2 e4 ?_
      refine ev_lload_n dX12_goesBy_29 rfl rfl ?_
      refine ev_ldc2 dX12_goesBy_30 zk_NineHeapsModel_317 ?_
      refine ev_lmul dX12_goesBy_33 rfl ?_
      refine ev_ldc2 dX12_goesBy_34 zk_NineHeapsModel_319 ?_
      refine ev_lrem dX12_goesBy_37 (by decide) rfl ?_
      refine ev_lstore_n dX12_goesBy_38 rfl (by decide) rfl ?_
      refine ev_aload_n dX12_goesBy_39 rfl rfl ?_
      refine em_getA dX12_goesBy_40 zf_NineHeapsModel_13 rfl (hS.has 81 (by decide) (by decide) rfl) hw rfl ?_
      refine ev_iload dX12_goesBy_43 rfl ?_
      refine ev_lload_n dX12_goesBy_45 rfl rfl ?_
      refine ev_ldc2 dX12_goesBy_46 zk_NineHeapsModel_321 ?_
      refine ev_lrem dX12_goesBy_49 (by decide) rfl ?_
      refine ev_l2i dX12_goesBy_50 rfl ?_
      obtain ⟨J5, e6, h⟩ := zld h
      refine em_iast dX12_goesBy_51 hS (by decide) (by decide) (N := 9) rfl g2 e6 ?_
      refine ev_iinc dX12_goesBy_52 (v := l5 + (1 : Int32)) rfl rfl (by decide) rfl ?_
      refine ev_goto dX12_goesBy_55 (tgt := 8) (by decide) ?_
      exact EV.mask [true, false, true, true, false, true] rfl (ih l2 ((l3 * (48271 : Int64)) - (l3 * (48271 : Int64)) / (2147483647 : Int64) * (2147483647 : Int64)) (l5 + (1 : Int32)) J5 h)
set_option maxHeartbeats 4000000 in
set_option maxRecDepth 100000 in
theorem e12_goesBy_L66 {w : zW} {d : Nat} {n : Nat} {kd : zMK} {R : zMR} {r : zMI}  (hw : zst w = zSt0) (hS : zSh n kd) (hd : 9 ≤ d)   : ∀ (q : Nat) (l5 : Int32) (I : zMI), f12_goesBy_L66  q l5 I = some r → EV w d 0 0 Y12_goesBy 66 [some (.ref 81), none, none, none, none, some (.int l5)] [] (n, kd, I, R) (q12_goesBy n kd R r) := by
  intro q
  induction q with
  | zero =>
    intro l5 I h
    cases h
  | succ q ih =>
    intro l5 I h
    unfold f12_goesBy_L66 at h
    refine ev_iload dX12_goesBy_66 rfl ?_
    refine ev_bipush dX12_goesBy_68 (v := (9 : Int32)) zcb_9 ?_
    refine ev_icmp_ge dX12_goesBy_70 (tgt := 93) (by decide) (fun c7 => ?_) (fun c7 => ?_)
    · replace h := zit c7 h
      obtain rfl := Option.some.inj h
      exact ev_end_v dX12_goesBy_93 rfl ⟨rfl, rfl⟩
    · replace h := zif c7 h
      refine ev_aload_n dX12_goesBy_73 rfl rfl ?_
      refine em_getA dX12_goesBy_74 zf_NineHeapsModel_13 rfl (hS.has 81 (by decide) (by decide) rfl) hw rfl ?_
      refine ev_iload dX12_goesBy_77 rfl ?_
      refine ev_aload_n dX12_goesBy_79 rfl rfl ?_
      refine em_getA dX12_goesBy_80 zf_NineHeapsModel_107 rfl (hS.has 81 (by decide) (by decide) rfl) hw rfl ?_
      refine ev_iload dX12_goesBy_83 rfl ?_
      obtain ⟨g8, h⟩ := zgd h
      refine em_iald dX12_goesBy_85 hS (by decide) (by decide) (N := 9) rfl g8 rfl ?_
      obtain ⟨J9, e10, h⟩ := zld h
      refine em_iast dX12_goesBy_86 hS (by decide) (by decide) (N := 9) rfl g8 e10 ?_
      refine ev_iinc dX12_goesBy_87 (v := l5 + (1 : Int32)) rfl rfl (by decide) rfl ?_
      refine ev_goto dX12_goesBy_90 (tgt := 66) (by decide) ?_
      exact EV.mask [true, false, false, false, false, true] rfl (ih (l5 + (1 : Int32)) J9 h)
set_option maxHeartbeats 4000000 in
set_option maxRecDepth 100000 in
theorem e12_goesBy_B58 {w : zW} {d : Nat} {n : Nat} {kd : zMK} {R : zMR} {r : zMI}  (hw : zst w = zSt0) (hS : zSh n kd) (hd : 9 ≤ d)   : ∀ (l2 : Int32) (I : zMI), f12_goesBy_B58 l2 I = some r → EV w d 0 0 Y12_goesBy 58 [some (.ref 81), none, some (.int l2), none, none, none] [] (n, kd, I, R) (q12_goesBy n kd R r) := by
  intro l2 I h
  unfold f12_goesBy_B58 at h
  refine ev_aload_n dX12_goesBy_58 rfl rfl ?_
  refine ev_iload_n dX12_goesBy_59 rfl rfl ?_
  obtain ⟨p11, e12, h⟩ := zbd h
  refine ev_callV0 dX12_goesBy_60 zm12_goesPlain zl_NineHeapsModel_260 zi12_goesPlain zv12_goesPlain (zrcM hS) (As := [.int l2]) (rest := []) rfl rfl (Nat.le_of_ble_eq_true rfl) rfl (Nat.le_of_ble_eq_true rfl) (d' := 8) (by omega) (e12_goesPlain hw hS (Nat.le_refl _) e12) (fun v μ1 q => ?_)
  obtain ⟨rfl, rfl⟩ := q
  refine ev_iconst dX12_goesBy_63 (v := (0 : Int32)) zci_0 ?_
  refine ev_istore dX12_goesBy_64 (by decide) rfl ?_
  exact EV.mask [true, false, false, false, false, true] rfl (e12_goesBy_L66 hw hS hd zF (0 : Int32) p11 h)
set_option maxHeartbeats 4000000 in
set_option maxRecDepth 100000 in
theorem e12_goesBy {w : zW} {d : Nat} {n : Nat} {kd : zMK} {I : zMI} {R : zMR} {r : zMI} {l1 : Int32} {l2 : Int32} (hw : zst w = zSt0) (hS : zSh n kd) (hd : 9 ≤ d)  (h : f12_goesBy l1 l2 I = some r) : EV w d 0 0 Y12_goesBy 0 [some (.ref 81), some (.int l1), some (.int l2), none, none, none] [] (n, kd, I, R) (q12_goesBy n kd R r) := by
  unfold f12_goesBy at h
  refine ev_iload_n dX12_goesBy_0 rfl rfl ?_
  refine ev_i2l dX12_goesBy_1 rfl ?_
  refine ev_lconst dX12_goesBy_2 (v := (1 : Int64)) rfl ?_
  refine ev_ladd dX12_goesBy_3 rfl ?_
  refine ev_lstore_n dX12_goesBy_4 rfl (by decide) rfl ?_
  refine ev_iconst dX12_goesBy_5 (v := (0 : Int32)) zci_0 ?_
  refine ev_istore dX12_goesBy_6 (by decide) rfl ?_
  exact EV.mask [true, false, true, true, false, true] rfl (e12_goesBy_L8 hw hS hd (fun l2' I' h' => e12_goesBy_B58 hw hS hd l2' I' h') zF l2 (l1.toInt64 + (1 : Int64)) (0 : Int32) I h)
abbrev q12_drawn (n : Nat) (kd : zMK) (R : zMR) (r : Int32 × zMI) : Option Value → zM → Prop := fun v μ1 => v = some (.int r.1) ∧ μ1 = (n, kd, r.2, R)
set_option maxHeartbeats 4000000 in
set_option maxRecDepth 100000 in
theorem e12_drawn {w : zW} {d : Nat} {n : Nat} {kd : zMK} {I : zMI} {R : zMR} {r : Int32 × zMI} {l1 : Int32} {l2 : Int32} (hw : zst w = zSt0) (hS : zSh n kd) (hd : 10 ≤ d)  (h : f12_drawn l1 l2 I = some r) : EV w d 0 0 Y12_drawn 0 [some (.ref 81), some (.int l1), some (.int l2)] [] (n, kd, I, R) (q12_drawn n kd R r) := by
  unfold f12_drawn at h
  refine ev_iload_n dX12_drawn_0 rfl rfl ?_
  refine ev_iconst dX12_drawn_1 (v := (0 : Int32)) zci_0 ?_
  refine ev_ldcw dX12_drawn_2 zk_NineHeapsModel_323 ?_
  obtain ⟨p1, e2, h⟩ := zbd h
  refine ev_callS0 dX12_drawn_5 zm12_in zl_NineHeapsModel_120 zs12_in (As := [.int l1, .int (0 : Int32), .int (99999 : Int32)]) (rest := []) rfl rfl (Nat.le_of_ble_eq_true rfl) rfl (Nat.le_of_ble_eq_true rfl) (d' := 1) (by omega) (e12_in hw hS (Nat.le_refl _) e2) (fun v μ1 q => ?_)
  obtain ⟨rfl, rfl⟩ := q
  refine ev_if_eq dX12_drawn_8 (tgt := 20) (by decide) (fun c3 => ?_) (fun c3 => ?_)
  · replace h := zit c3 h
    refine ev_bipush dX12_drawn_20 (v := (-2 : Int32)) zcb_m2 ?_
    obtain rfl := Option.some.inj h
    exact ev_end_i dX12_drawn_22 rfl rfl ⟨rfl, rfl⟩
  · replace h := zif c3 h
    refine ev_iload_n dX12_drawn_11 rfl rfl ?_
    refine ev_iconst dX12_drawn_12 (v := (0 : Int32)) zci_0 ?_
    refine ev_iconst dX12_drawn_13 (v := (2 : Int32)) zci_2 ?_
    obtain ⟨p4, e5, h⟩ := zbd h
    refine ev_callS0 dX12_drawn_14 zm12_in zl_NineHeapsModel_120 zs12_in (As := [.int l2, .int (0 : Int32), .int (2 : Int32)]) (rest := []) rfl rfl (Nat.le_of_ble_eq_true rfl) rfl (Nat.le_of_ble_eq_true rfl) (d' := 1) (by omega) (e12_in hw hS (Nat.le_refl _) e5) (fun v μ1 q => ?_)
    obtain ⟨rfl, rfl⟩ := q
    refine ev_if_ne dX12_drawn_17 (tgt := 23) (by decide) (fun c6 => ?_) (fun c6 => ?_)
    · replace h := zif c6 h
      refine ev_aload_n dX12_drawn_23 rfl rfl ?_
      refine ev_iload_n dX12_drawn_24 rfl rfl ?_
      refine ev_sipush dX12_drawn_25 (v := (600 : Int32)) zcs_600 ?_
      obtain ⟨p7, e8, h⟩ := zbd h
      refine ev_callV0 dX12_drawn_28 zm12_goesBy zl_NineHeapsModel_324 zi12_goesBy zv12_goesBy (zrcM hS) (As := [.int l1, .int (600 : Int32)]) (rest := []) rfl rfl (Nat.le_of_ble_eq_true rfl) rfl (Nat.le_of_ble_eq_true rfl) (d' := 9) (by omega) (e12_goesBy hw hS (Nat.le_refl _) e8) (fun v μ1 q => ?_)
      obtain ⟨rfl, rfl⟩ := q
      refine ev_iload_n dX12_drawn_31 rfl rfl ?_
      refine ev_if_ne dX12_drawn_32 (tgt := 42) (by decide) (fun c9 => ?_) (fun c9 => ?_)
      · replace h := zif c9 h
        refine ev_aload_n dX12_drawn_42 rfl rfl ?_
        refine ev_iload_n dX12_drawn_43 rfl rfl ?_
        obtain ⟨p10, e11, h⟩ := zbd h
        refine ev_callV0 dX12_drawn_44 zm12_howMany zl_NineHeapsModel_263 zi12_howMany zv12_howMany (zrcM hS) (As := [.int l2]) (rest := []) rfl rfl (Nat.le_of_ble_eq_true rfl) rfl (Nat.le_of_ble_eq_true rfl) (d' := 1) (by omega) (e12_howMany hw hS (Nat.le_refl _) e11) (fun v μ1 q => ?_)
        obtain ⟨rfl, rfl⟩ := q
        obtain rfl := Option.some.inj h
        exact ev_end_i dX12_drawn_47 rfl rfl ⟨rfl, rfl⟩
      · replace h := zit c9 h
        refine ev_aload_n dX12_drawn_35 rfl rfl ?_
        refine em_getI dX12_drawn_36 zf_NineHeapsModel_213 rfl (hS.has 81 (by decide) (by decide) rfl) rfl ?_
        refine ev_goto dX12_drawn_39 (tgt := 47) (by decide) ?_
        obtain rfl := Option.some.inj h
        exact ev_end_i dX12_drawn_47 rfl rfl ⟨rfl, rfl⟩
    · replace h := zit c6 h
      refine ev_bipush dX12_drawn_20 (v := (-2 : Int32)) zcb_m2 ?_
      obtain rfl := Option.some.inj h
      exact ev_end_i dX12_drawn_22 rfl rfl ⟨rfl, rfl⟩
abbrev q12_lowest (n : Nat) (kd : zMK) (I : zMI) (R : zMR) (r : Int64) : Option Value → zM → Prop := fun v μ1 => v = some (.long r) ∧ μ1 = (n, kd, I, R)
set_option maxHeartbeats 4000000 in
set_option maxRecDepth 100000 in
theorem e12_lowest_L16 {w : zW} {d : Nat} {n : Nat} {kd : zMK} {I : zMI} {R : zMR} {r : Int64} {k41 : Int64 → Int64 → Int32 → Int64 → Option (Int64)} (hw : zst w = zSt0) (hS : zSh n kd) (hd : 1 ≤ d)  (hk41 : ∀ (l0 : Int64) (l2 : Int64) (l4 : Int32) (l5 : Int64) , k41 l0 l2 l4 l5 = some r → EV w d 0 0 Y12_lowest 41 [some (.long l0), none, some (.long l2), none, some (.int l4), some (.long l5), none, none, none, none, none] [] (n, kd, I, R) (q12_lowest n kd I R r)) : ∀ (q : Nat) (l0 : Int64) (l2 : Int64) (l4 : Int32) (l5 : Int64) (l7 : Int64) , f12_lowest_L16 k41 q l0 l2 l4 l5 l7 = some r → EV w d 0 0 Y12_lowest 16 [some (.long l0), none, some (.long l2), none, some (.int l4), some (.long l5), none, some (.long l7), none, none, none] [] (n, kd, I, R) (q12_lowest n kd I R r) := by
  intro q
  induction q with
  | zero =>
    intro l0 l2 l4 l5 l7 h
    cases h
  | succ q ih =>
    intro l0 l2 l4 l5 l7 h
    unfold f12_lowest_L16 at h
    refine ev_lload dX12_lowest_16 rfl ?_
    refine ev_lconst dX12_lowest_18 (v := (0 : Int64)) rfl ?_
    refine ev_lcmp dX12_lowest_19 rfl ?_
    refine ev_if_eq dX12_lowest_20 (tgt := 41) (by decide) (fun c1 => ?_) (fun c1 => ?_)
    · replace h := zit c1 h
      exact EV.mask [true, false, true, false, true, true, false, false, false, false, false] rfl (hk41 l0 l2 l4 l5 h)
    · replace h := zif c1 h
      refine ev_lload dX12_lowest_23 rfl ?_
      refine ev_lload dX12_lowest_25 rfl ?_
      obtain ⟨g2, h⟩ := zgd h
      refine ev_lrem dX12_lowest_27 g2 rfl ?_
      refine ev_lstore dX12_lowest_28 (by decide) rfl ?_
      refine ev_lload dX12_lowest_30 rfl ?_
      refine ev_lstore dX12_lowest_32 (by decide) rfl ?_
      refine ev_lload dX12_lowest_34 rfl ?_
      refine ev_lstore dX12_lowest_36 (by decide) rfl ?_
      refine ev_goto dX12_lowest_38 (tgt := 16) (by decide) ?_
      exact EV.mask [true, false, true, false, true, true, false, true, false, false, false] rfl (ih l0 l2 l4 l7 (l5 - l5 / l7 * l7) h)
set_option maxHeartbeats 4000000 in
set_option maxRecDepth 100000 in
theorem e12_lowest_B41 {w : zW} {d : Nat} {n : Nat} {kd : zMK} {I : zMI} {R : zMR} {r : Int64}  (hw : zst w = zSt0) (hS : zSh n kd) (hd : 1 ≤ d)   : ∀ (l0 : Int64) (l2 : Int64) (l4 : Int32) (l5 : Int64) , f12_lowest_B41 l0 l2 l4 l5 = some r → EV w d 0 0 Y12_lowest 41 [some (.long l0), none, some (.long l2), none, some (.int l4), some (.long l5), none, none, none, none, none] [] (n, kd, I, R) (q12_lowest n kd I R r) := by
  intro l0 l2 l4 l5 h
  unfold f12_lowest_B41 at h
  refine ev_iload dX12_lowest_41 rfl ?_
  refine ev_if_ne dX12_lowest_43 (tgt := 50) (by decide) (fun c3 => ?_) (fun c3 => ?_)
  · replace h := zif c3 h
    refine ev_lload_n dX12_lowest_50 rfl rfl ?_
    refine ev_lload dX12_lowest_51 rfl ?_
    obtain ⟨g4, h⟩ := zgd h
    refine ev_ldiv dX12_lowest_53 g4 rfl ?_
    obtain rfl := Option.some.inj h
    exact ev_end_l dX12_lowest_54 rfl ⟨rfl, rfl⟩
  · replace h := zit c3 h
    refine ev_lload_n dX12_lowest_46 rfl rfl ?_
    refine ev_goto dX12_lowest_47 (tgt := 51) (by decide) ?_
    refine ev_lload dX12_lowest_51 rfl ?_
    obtain ⟨g5, h⟩ := zgd h
    refine ev_ldiv dX12_lowest_53 g5 rfl ?_
    obtain rfl := Option.some.inj h
    exact ev_end_l dX12_lowest_54 rfl ⟨rfl, rfl⟩
set_option maxHeartbeats 4000000 in
set_option maxRecDepth 100000 in
theorem e12_lowest {w : zW} {d : Nat} {n : Nat} {kd : zMK} {I : zMI} {R : zMR} {r : Int64} {l0 : Int64} {l2 : Int64} {l4 : Int32} (hw : zst w = zSt0) (hS : zSh n kd) (hd : 1 ≤ d)  (h : f12_lowest l0 l2 l4 = some r) : EV w d 0 0 Y12_lowest 0 [some (.long l0), none, some (.long l2), none, some (.int l4), none, none, none, none, none, none] [] (n, kd, I, R) (q12_lowest n kd I R r) := by
  unfold f12_lowest at h
  refine ev_lload_n dX12_lowest_0 rfl rfl ?_
  refine ev_lconst dX12_lowest_1 (v := (0 : Int64)) rfl ?_
  refine ev_lcmp dX12_lowest_2 rfl ?_
  refine ev_if_ne dX12_lowest_3 (tgt := 10) (by decide) (fun c6 => ?_) (fun c6 => ?_)
  · replace h := zif c6 h
    refine ev_lload_n dX12_lowest_10 rfl rfl ?_
    refine ev_lstore dX12_lowest_11 (by decide) rfl ?_
    refine ev_lload_n dX12_lowest_13 rfl rfl ?_
    refine ev_lstore dX12_lowest_14 (by decide) rfl ?_
    exact EV.mask [true, false, true, false, true, true, false, true, false, false, false] rfl (e12_lowest_L16 hw hS hd (fun l0' l2' l4' l5' h' => e12_lowest_B41 hw hS hd l0' l2' l4' l5' h') zF l0 l2 l4 l0 l2 h)
  · replace h := zit c6 h
    refine ev_iload dX12_lowest_6 rfl ?_
    refine ev_i2l dX12_lowest_8 rfl ?_
    obtain rfl := Option.some.inj h
    exact ev_end_l dX12_lowest_9 rfl ⟨rfl, rfl⟩
abbrev q12_odds (n : Nat) (kd : zMK) (R : zMR) (r : Int64 × zMI) : Option Value → zM → Prop := fun v μ1 => v = some (.long r.1) ∧ μ1 = (n, kd, r.2, R)
set_option maxHeartbeats 4000000 in
set_option maxRecDepth 100000 in
theorem e12_odds_L51 {w : zW} {d : Nat} {n : Nat} {kd : zMK} {R : zMR} {r : Int64 × zMI} {k92 : Int32 → Int64 → Int32 → zMI → Option (Int64 × zMI)} (hw : zst w = zSt0) (hS : zSh n kd) (hd : 10 ≤ d)  (hk92 : ∀ (l4 : Int32) (l5 : Int64) (l7 : Int32) (I : zMI), k92 l4 l5 l7 I = some r → EV w d 0 0 Y12_odds 92 [none, none, none, none, some (.int l4), some (.long l5), none, some (.int l7), none] [] (n, kd, I, R) (q12_odds n kd R r)) : ∀ (q : Nat) (l1 : Int32) (l2 : Int32) (l3 : Int32) (l4 : Int32) (l5 : Int64) (l7 : Int32) (l8 : Int32) (I : zMI), f12_odds_L51 k92 q l1 l2 l3 l4 l5 l7 l8 I = some r → EV w d 0 0 Y12_odds 51 [some (.ref 81), some (.int l1), some (.int l2), some (.int l3), some (.int l4), some (.long l5), none, some (.int l7), some (.int l8)] [] (n, kd, I, R) (q12_odds n kd R r) := by
  intro q
  induction q with
  | zero =>
    intro l1 l2 l3 l4 l5 l7 l8 I h
    cases h
  | succ q ih =>
    intro l1 l2 l3 l4 l5 l7 l8 I h
    unfold f12_odds_L51 at h
    refine ev_iload dX12_odds_51 rfl ?_
    refine ev_iload_n dX12_odds_53 rfl rfl ?_
    refine ev_icmp_ge dX12_odds_54 (tgt := 92) (by decide) (fun c1 => ?_) (fun c1 => ?_)
    · replace h := zit c1 h
      exact EV.mask [false, false, false, false, true, true, false, true, false] rfl (hk92 l4 l5 l7 I h)
    · replace h := zif c1 h
      refine ev_aload_n dX12_odds_57 rfl rfl ?_
      refine ev_iload_n dX12_odds_58 rfl rfl ?_
      refine ev_iload dX12_odds_59 rfl ?_
      refine ev_iadd dX12_odds_61 rfl ?_
      refine ev_iload_n dX12_odds_62 rfl rfl ?_
      obtain ⟨p2, e3, h⟩ := zbd h
      refine ev_callV0 dX12_odds_63 zm12_goesBy zl_NineHeapsModel_324 zi12_goesBy zv12_goesBy (zrcM hS) (As := [.int (l1 + l8), .int l3]) (rest := []) rfl rfl (Nat.le_of_ble_eq_true rfl) rfl (Nat.le_of_ble_eq_true rfl) (d' := 9) (by omega) (e12_goesBy hw hS (Nat.le_refl _) e3) (fun v μ1 q => ?_)
      obtain ⟨rfl, rfl⟩ := q
      refine ev_lload dX12_odds_66 rfl ?_
      refine ev_aload_n dX12_odds_68 rfl rfl ?_
      refine ev_iconst dX12_odds_69 (v := (0 : Int32)) zci_0 ?_
      obtain ⟨p4, e5, h⟩ := zbd h
      refine ev_callV0 dX12_odds_70 zm12_howMany zl_NineHeapsModel_263 zi12_howMany zv12_howMany (zrcM hS) (As := [.int (0 : Int32)]) (rest := [.long l5]) rfl rfl (Nat.le_of_ble_eq_true rfl) rfl (Nat.le_of_ble_eq_true rfl) (d' := 1) (by omega) (e12_howMany hw hS (Nat.le_refl _) e5) (fun v μ1 q => ?_)
      obtain ⟨rfl, rfl⟩ := q
      refine ev_i2l dX12_odds_73 rfl ?_
      refine ev_ladd dX12_odds_74 rfl ?_
      refine ev_lstore dX12_odds_75 (by decide) rfl ?_
      refine ev_iload dX12_odds_77 rfl ?_
      refine ev_aload_n dX12_odds_79 rfl rfl ?_
      refine em_getI dX12_odds_80 zf_NineHeapsModel_213 rfl (hS.has 81 (by decide) (by decide) rfl) rfl ?_
      refine ev_iadd dX12_odds_83 rfl ?_
      refine ev_istore dX12_odds_84 (by decide) rfl ?_
      refine ev_iinc dX12_odds_86 (v := l8 + (1 : Int32)) rfl rfl (by decide) rfl ?_
      refine ev_goto dX12_odds_89 (tgt := 51) (by decide) ?_
      exact EV.mask [true, true, true, true, true, true, false, true, true] rfl (ih l1 l2 l3 l4 (l5 + p4.toInt64) (l7 + (p2 81 47)) (l8 + (1 : Int32)) p2 h)
set_option maxHeartbeats 4000000 in
set_option maxRecDepth 100000 in
theorem e12_odds_B92 {w : zW} {d : Nat} {n : Nat} {kd : zMK} {R : zMR} {r : Int64 × zMI}  (hw : zst w = zSt0) (hS : zSh n kd) (hd : 10 ≤ d)   : ∀ (l4 : Int32) (l5 : Int64) (l7 : Int32) (I : zMI), f12_odds_B92 l4 l5 l7 I = some r → EV w d 0 0 Y12_odds 92 [none, none, none, none, some (.int l4), some (.long l5), none, some (.int l7), none] [] (n, kd, I, R) (q12_odds n kd R r) := by
  intro l4 l5 l7 I h
  unfold f12_odds_B92 at h
  refine ev_iload dX12_odds_92 rfl ?_
  refine ev_if_ne dX12_odds_94 (tgt := 103) (by decide) (fun c6 => ?_) (fun c6 => ?_)
  · replace h := zif c6 h
    refine ev_lload dX12_odds_103 rfl ?_
    refine ev_iload dX12_odds_105 rfl ?_
    refine ev_i2l dX12_odds_107 rfl ?_
    refine ev_iload dX12_odds_108 rfl ?_
    obtain ⟨p7, e8, h⟩ := zbd h
    refine ev_callS0 dX12_odds_110 zm12_lowest zl_NineHeapsModel_329 zs12_lowest (As := [.long l5, .long l7.toInt64, .int l4]) (rest := []) rfl rfl (Nat.le_of_ble_eq_true rfl) rfl (Nat.le_of_ble_eq_true rfl) (d' := 1) (by omega) (e12_lowest hw hS (Nat.le_refl _) e8) (fun v μ1 q => ?_)
    obtain ⟨rfl, rfl⟩ := q
    obtain rfl := Option.some.inj h
    exact ev_end_l dX12_odds_113 rfl ⟨rfl, rfl⟩
  · replace h := zit c6 h
    refine ev_ldc2 dX12_odds_97 zk_NineHeapsModel_327 ?_
    refine ev_goto dX12_odds_100 (tgt := 113) (by decide) ?_
    obtain rfl := Option.some.inj h
    exact ev_end_l dX12_odds_113 rfl ⟨rfl, rfl⟩
set_option maxHeartbeats 4000000 in
set_option maxRecDepth 100000 in
theorem e12_odds {w : zW} {d : Nat} {n : Nat} {kd : zMK} {I : zMI} {R : zMR} {r : Int64 × zMI} {l1 : Int32} {l2 : Int32} {l3 : Int32} {l4 : Int32} (hw : zst w = zSt0) (hS : zSh n kd) (hd : 10 ≤ d)  (h : f12_odds l1 l2 l3 l4 I = some r) : EV w d 0 0 Y12_odds 0 [some (.ref 81), some (.int l1), some (.int l2), some (.int l3), some (.int l4), none, none, none, none] [] (n, kd, I, R) (q12_odds n kd R r) := by
  unfold f12_odds at h
  refine ev_iload_n dX12_odds_0 rfl rfl ?_
  refine ev_iconst dX12_odds_1 (v := (0 : Int32)) zci_0 ?_
  refine ev_ldcw dX12_odds_2 zk_NineHeapsModel_323 ?_
  obtain ⟨p9, e10, h⟩ := zbd h
  refine ev_callS0 dX12_odds_5 zm12_in zl_NineHeapsModel_120 zs12_in (As := [.int l1, .int (0 : Int32), .int (99999 : Int32)]) (rest := []) rfl rfl (Nat.le_of_ble_eq_true rfl) rfl (Nat.le_of_ble_eq_true rfl) (d' := 1) (by omega) (e12_in hw hS (Nat.le_refl _) e10) (fun v μ1 q => ?_)
  obtain ⟨rfl, rfl⟩ := q
  refine ev_if_eq dX12_odds_8 (tgt := 38) (by decide) (fun c11 => ?_) (fun c11 => ?_)
  · replace h := zit c11 h
    refine ev_ldc2 dX12_odds_38 zk_NineHeapsModel_327 ?_
    obtain rfl := Option.some.inj h
    exact ev_end_l dX12_odds_41 rfl ⟨rfl, rfl⟩
  · replace h := zif c11 h
    refine ev_iload_n dX12_odds_11 rfl rfl ?_
    refine ev_iconst dX12_odds_12 (v := (1 : Int32)) zci_1 ?_
    refine ev_bipush dX12_odds_13 (v := (10 : Int32)) zcb_10 ?_
    obtain ⟨p12, e13, h⟩ := zbd h
    refine ev_callS0 dX12_odds_15 zm12_in zl_NineHeapsModel_120 zs12_in (As := [.int l2, .int (1 : Int32), .int (10 : Int32)]) (rest := []) rfl rfl (Nat.le_of_ble_eq_true rfl) rfl (Nat.le_of_ble_eq_true rfl) (d' := 1) (by omega) (e12_in hw hS (Nat.le_refl _) e13) (fun v μ1 q => ?_)
    obtain ⟨rfl, rfl⟩ := q
    refine ev_if_eq dX12_odds_18 (tgt := 38) (by decide) (fun c14 => ?_) (fun c14 => ?_)
    · replace h := zit c14 h
      refine ev_ldc2 dX12_odds_38 zk_NineHeapsModel_327 ?_
      obtain rfl := Option.some.inj h
      exact ev_end_l dX12_odds_41 rfl ⟨rfl, rfl⟩
    · replace h := zif c14 h
      refine ev_iload_n dX12_odds_21 rfl rfl ?_
      obtain ⟨p15, e16, h⟩ := zbd h
      refine ev_callS0 dX12_odds_22 zm12_areSeconds zl_NineHeapsModel_257 zs12_areSeconds (As := [.int l3]) (rest := []) rfl rfl (Nat.le_of_ble_eq_true rfl) rfl (Nat.le_of_ble_eq_true rfl) (d' := 2) (by omega) (e12_areSeconds hw hS (Nat.le_refl _) e16) (fun v μ1 q => ?_)
      obtain ⟨rfl, rfl⟩ := q
      refine ev_if_eq dX12_odds_25 (tgt := 38) (by decide) (fun c17 => ?_) (fun c17 => ?_)
      · replace h := zit c17 h
        refine ev_ldc2 dX12_odds_38 zk_NineHeapsModel_327 ?_
        obtain rfl := Option.some.inj h
        exact ev_end_l dX12_odds_41 rfl ⟨rfl, rfl⟩
      · replace h := zif c17 h
        refine ev_iload dX12_odds_28 rfl ?_
        refine ev_iconst dX12_odds_30 (v := (0 : Int32)) zci_0 ?_
        refine ev_iconst dX12_odds_31 (v := (1 : Int32)) zci_1 ?_
        obtain ⟨p18, e19, h⟩ := zbd h
        refine ev_callS0 dX12_odds_32 zm12_in zl_NineHeapsModel_120 zs12_in (As := [.int l4, .int (0 : Int32), .int (1 : Int32)]) (rest := []) rfl rfl (Nat.le_of_ble_eq_true rfl) rfl (Nat.le_of_ble_eq_true rfl) (d' := 1) (by omega) (e12_in hw hS (Nat.le_refl _) e19) (fun v μ1 q => ?_)
        obtain ⟨rfl, rfl⟩ := q
        refine ev_if_ne dX12_odds_35 (tgt := 42) (by decide) (fun c20 => ?_) (fun c20 => ?_)
        · replace h := zif c20 h
          refine ev_lconst dX12_odds_42 (v := (0 : Int64)) rfl ?_
          refine ev_lstore dX12_odds_43 (by decide) rfl ?_
          refine ev_iconst dX12_odds_45 (v := (0 : Int32)) zci_0 ?_
          refine ev_istore dX12_odds_46 (by decide) rfl ?_
          refine ev_iconst dX12_odds_48 (v := (0 : Int32)) zci_0 ?_
          refine ev_istore dX12_odds_49 (by decide) rfl ?_
          exact EV.mask [true, true, true, true, true, true, false, true, true] rfl (e12_odds_L51 hw hS hd (fun l4' l5' l7' I' h' => e12_odds_B92 hw hS hd l4' l5' l7' I' h') zF l1 l2 l3 l4 (0 : Int64) (0 : Int32) (0 : Int32) I h)
        · replace h := zit c20 h
          refine ev_ldc2 dX12_odds_38 zk_NineHeapsModel_327 ?_
          obtain rfl := Option.some.inj h
          exact ev_end_l dX12_odds_41 rfl ⟨rfl, rfl⟩
abbrev q12_image (n : Nat) (kd : zMK) (R : zMR) (r : Int32 × zMI) : Option Value → zM → Prop := fun v μ1 => v = some (.int r.1) ∧ μ1 = (n, kd, r.2, R)
set_option maxHeartbeats 4000000 in
set_option maxRecDepth 100000 in
theorem e12_image_L31 {w : zW} {d : Nat} {n : Nat} {kd : zMK} {R : zMR} {r : Int32 × zMI} {k70 : zMI → Option (Int32 × zMI)} (hw : zst w = zSt0) (hS : zSh n kd) (hd : 1 ≤ d)  (hk70 : ∀  (I : zMI), k70 I = some r → EV w d 0 0 Y12_image 70 [some (.ref 81), none] [] (n, kd, I, R) (q12_image n kd R r)) : ∀ (q : Nat) (l1 : Int32) (I : zMI), f12_image_L31 k70 q l1 I = some r → EV w d 0 0 Y12_image 31 [some (.ref 81), some (.int l1)] [] (n, kd, I, R) (q12_image n kd R r) := by
  intro q
  induction q with
  | zero =>
    intro l1 I h
    cases h
  | succ q ih =>
    intro l1 I h
    unfold f12_image_L31 at h
    refine ev_iload_n dX12_image_31 rfl rfl ?_
    refine ev_bipush dX12_image_32 (v := (9 : Int32)) zcb_9 ?_
    refine ev_icmp_ge dX12_image_34 (tgt := 70) (by decide) (fun c1 => ?_) (fun c1 => ?_)
    · replace h := zit c1 h
      exact EV.mask [true, false] rfl (hk70 I h)
    · replace h := zif c1 h
      refine ev_aload_n dX12_image_37 rfl rfl ?_
      refine em_getA dX12_image_38 zf_NineHeapsModel_38 rfl (hS.has 81 (by decide) (by decide) rfl) hw rfl ?_
      refine ev_iload_n dX12_image_41 rfl rfl ?_
      refine ev_aload_n dX12_image_42 rfl rfl ?_
      refine em_getA dX12_image_43 zf_NineHeapsModel_7 rfl (hS.has 81 (by decide) (by decide) rfl) hw rfl ?_
      refine ev_iload_n dX12_image_46 rfl rfl ?_
      obtain ⟨g2, h⟩ := zgd h
      refine em_iald dX12_image_47 hS (by decide) (by decide) (N := 9) rfl g2 rfl ?_
      obtain ⟨g3, h⟩ := zgd h
      obtain ⟨J4, e5, h⟩ := zld h
      refine em_iast dX12_image_48 hS (by decide) (by decide) (N := 23) rfl g3 e5 ?_
      refine ev_aload_n dX12_image_49 rfl rfl ?_
      refine em_getA dX12_image_50 zf_NineHeapsModel_38 rfl (hS.has 81 (by decide) (by decide) rfl) hw rfl ?_
      refine ev_bipush dX12_image_53 (v := (9 : Int32)) zcb_9 ?_
      refine ev_iload_n dX12_image_55 rfl rfl ?_
      refine ev_iadd dX12_image_56 rfl ?_
      refine ev_aload_n dX12_image_57 rfl rfl ?_
      refine em_getA dX12_image_58 zf_NineHeapsModel_13 rfl (hS.has 81 (by decide) (by decide) rfl) hw rfl ?_
      refine ev_iload_n dX12_image_61 rfl rfl ?_
      refine em_iald dX12_image_62 hS (by decide) (by decide) (N := 9) rfl g2 rfl ?_
      obtain ⟨g6, h⟩ := zgd h
      obtain ⟨J7, e8, h⟩ := zld h
      refine em_iast dX12_image_63 hS (by decide) (by decide) (N := 23) rfl g6 e8 ?_
      refine ev_iinc dX12_image_64 (v := l1 + (1 : Int32)) rfl rfl (by decide) rfl ?_
      refine ev_goto dX12_image_67 (tgt := 31) (by decide) ?_
      exact EV.mask [true, true] rfl (ih (l1 + (1 : Int32)) J7 h)
set_option maxHeartbeats 4000000 in
set_option maxRecDepth 100000 in
theorem e12_image_L72 {w : zW} {d : Nat} {n : Nat} {kd : zMK} {R : zMR} {r : Int32 × zMI}  (hw : zst w = zSt0) (hS : zSh n kd) (hd : 1 ≤ d)   : ∀ (q : Nat) (l1 : Int32) (I : zMI), f12_image_L72  q l1 I = some r → EV w d 0 0 Y12_image 72 [some (.ref 81), some (.int l1)] [] (n, kd, I, R) (q12_image n kd R r) := by
  intro q
  induction q with
  | zero =>
    intro l1 I h
    cases h
  | succ q ih =>
    intro l1 I h
    unfold f12_image_L72 at h
    refine ev_iload_n dX12_image_72 rfl rfl ?_
    refine ev_iconst dX12_image_73 (v := (5 : Int32)) zci_5 ?_
    refine ev_icmp_ge dX12_image_74 (tgt := 98) (by decide) (fun c9 => ?_) (fun c9 => ?_)
    · replace h := zit c9 h
      refine ev_aload_n dX12_image_98 rfl rfl ?_
      refine em_getI dX12_image_99 zf_NineHeapsModel_117 rfl (hS.has 81 (by decide) (by decide) rfl) rfl ?_
      obtain rfl := Option.some.inj h
      exact ev_end_i dX12_image_102 rfl rfl ⟨rfl, rfl⟩
    · replace h := zif c9 h
      refine ev_aload_n dX12_image_77 rfl rfl ?_
      refine em_getA dX12_image_78 zf_NineHeapsModel_38 rfl (hS.has 81 (by decide) (by decide) rfl) hw rfl ?_
      refine ev_bipush dX12_image_81 (v := (18 : Int32)) zcb_18 ?_
      refine ev_iload_n dX12_image_83 rfl rfl ?_
      refine ev_iadd dX12_image_84 rfl ?_
      refine ev_aload_n dX12_image_85 rfl rfl ?_
      refine em_getA dX12_image_86 zf_NineHeapsModel_26 rfl (hS.has 81 (by decide) (by decide) rfl) hw rfl ?_
      refine ev_iload_n dX12_image_89 rfl rfl ?_
      obtain ⟨g10, h⟩ := zgd h
      refine em_iald dX12_image_90 hS (by decide) (by decide) (N := 5) rfl g10 rfl ?_
      obtain ⟨g11, h⟩ := zgd h
      obtain ⟨J12, e13, h⟩ := zld h
      refine em_iast dX12_image_91 hS (by decide) (by decide) (N := 23) rfl g11 e13 ?_
      refine ev_iinc dX12_image_92 (v := l1 + (1 : Int32)) rfl rfl (by decide) rfl ?_
      refine ev_goto dX12_image_95 (tgt := 72) (by decide) ?_
      exact EV.mask [true, true] rfl (ih (l1 + (1 : Int32)) J12 h)
set_option maxHeartbeats 4000000 in
set_option maxRecDepth 100000 in
theorem e12_image_B70 {w : zW} {d : Nat} {n : Nat} {kd : zMK} {R : zMR} {r : Int32 × zMI}  (hw : zst w = zSt0) (hS : zSh n kd) (hd : 1 ≤ d)   : ∀  (I : zMI), f12_image_B70 I = some r → EV w d 0 0 Y12_image 70 [some (.ref 81), none] [] (n, kd, I, R) (q12_image n kd R r) := by
  intro I h
  unfold f12_image_B70 at h
  refine ev_iconst dX12_image_70 (v := (0 : Int32)) zci_0 ?_
  refine ev_istore_n dX12_image_71 rfl (by decide) rfl ?_
  exact EV.mask [true, true] rfl (e12_image_L72 hw hS hd zF (0 : Int32) I h)
set_option maxHeartbeats 4000000 in
set_option maxRecDepth 100000 in
theorem e12_image {w : zW} {d : Nat} {n : Nat} {kd : zMK} {I : zMI} {R : zMR} {r : Int32 × zMI}  (hw : zst w = zSt0) (hS : zSh n kd) (hd : 1 ≤ d)  (h : f12_image I = some r) : EV w d 0 0 Y12_image 0 [some (.ref 81), none] [] (n, kd, I, R) (q12_image n kd R r) := by
  unfold f12_image at h
  refine ev_aload_n dX12_image_0 rfl rfl ?_
  refine ev_iconst dX12_image_1 (v := (1 : Int32)) zci_1 ?_
  obtain ⟨J14, e15, h⟩ := zld h
  refine em_putI dX12_image_2 zf_NineHeapsModel_333 (Or.inl rfl) rfl rfl rfl (hS.has 81 (by decide) (by decide) rfl) e15 ?_
  refine ev_aload_n dX12_image_5 rfl rfl ?_
  refine ev_aload_n dX12_image_6 rfl rfl ?_
  refine em_getI dX12_image_7 zf_NineHeapsModel_117 rfl (hS.has 81 (by decide) (by decide) rfl) rfl ?_
  obtain ⟨J16, e17, h⟩ := zld h
  refine em_putI dX12_image_10 zf_NineHeapsModel_337 (Or.inl rfl) rfl rfl rfl (hS.has 81 (by decide) (by decide) rfl) e17 ?_
  refine ev_aload_n dX12_image_13 rfl rfl ?_
  refine ev_aload_n dX12_image_14 rfl rfl ?_
  refine em_getI dX12_image_15 zf_NineHeapsModel_16 rfl (hS.has 81 (by decide) (by decide) rfl) rfl ?_
  obtain ⟨J18, e19, h⟩ := zld h
  refine em_putI dX12_image_18 zf_NineHeapsModel_340 (Or.inl rfl) rfl rfl rfl (hS.has 81 (by decide) (by decide) rfl) e19 ?_
  refine ev_aload_n dX12_image_21 rfl rfl ?_
  refine ev_aload_n dX12_image_22 rfl rfl ?_
  refine em_getI dX12_image_23 zf_NineHeapsModel_127 rfl (hS.has 81 (by decide) (by decide) rfl) rfl ?_
  obtain ⟨J20, e21, h⟩ := zld h
  refine em_putI dX12_image_26 zf_NineHeapsModel_343 (Or.inl rfl) rfl rfl rfl (hS.has 81 (by decide) (by decide) rfl) e21 ?_
  refine ev_iconst dX12_image_29 (v := (0 : Int32)) zci_0 ?_
  refine ev_istore_n dX12_image_30 rfl (by decide) rfl ?_
  exact EV.mask [true, true] rfl (e12_image_L31 hw hS hd (fun I' h' => e12_image_B70 hw hS hd I' h') zF (0 : Int32) J20 h)
abbrev q12_back (n : Nat) (kd : zMK) (R : zMR) (r : Int32 × zMI) : Option Value → zM → Prop := fun v μ1 => v = some (.int r.1) ∧ μ1 = (n, kd, r.2, R)
set_option maxHeartbeats 4000000 in
set_option maxRecDepth 100000 in
theorem e12_back_L36 {w : zW} {d : Nat} {n : Nat} {kd : zMK} {R : zMR} {r : Int32 × zMI} {k75 : zMI → Option (Int32 × zMI)} (hw : zst w = zSt0) (hS : zSh n kd) (hd : 1 ≤ d)  (hk75 : ∀  (I : zMI), k75 I = some r → EV w d 0 0 Y12_back 75 [some (.ref 81), none] [] (n, kd, I, R) (q12_back n kd R r)) : ∀ (q : Nat) (l1 : Int32) (I : zMI), f12_back_L36 k75 q l1 I = some r → EV w d 0 0 Y12_back 36 [some (.ref 81), some (.int l1)] [] (n, kd, I, R) (q12_back n kd R r) := by
  intro q
  induction q with
  | zero =>
    intro l1 I h
    cases h
  | succ q ih =>
    intro l1 I h
    unfold f12_back_L36 at h
    refine ev_iload_n dX12_back_36 rfl rfl ?_
    refine ev_bipush dX12_back_37 (v := (9 : Int32)) zcb_9 ?_
    refine ev_icmp_ge dX12_back_39 (tgt := 75) (by decide) (fun c1 => ?_) (fun c1 => ?_)
    · replace h := zit c1 h
      exact EV.mask [true, false] rfl (hk75 I h)
    · replace h := zif c1 h
      refine ev_aload_n dX12_back_42 rfl rfl ?_
      refine em_getA dX12_back_43 zf_NineHeapsModel_7 rfl (hS.has 81 (by decide) (by decide) rfl) hw rfl ?_
      refine ev_iload_n dX12_back_46 rfl rfl ?_
      refine ev_aload_n dX12_back_47 rfl rfl ?_
      refine em_getA dX12_back_48 zf_NineHeapsModel_38 rfl (hS.has 81 (by decide) (by decide) rfl) hw rfl ?_
      refine ev_iload_n dX12_back_51 rfl rfl ?_
      obtain ⟨g2, h⟩ := zgd h
      refine em_iald dX12_back_52 hS (by decide) (by decide) (N := 23) rfl g2 rfl ?_
      obtain ⟨g3, h⟩ := zgd h
      obtain ⟨J4, e5, h⟩ := zld h
      refine em_iast dX12_back_53 hS (by decide) (by decide) (N := 9) rfl g3 e5 ?_
      refine ev_aload_n dX12_back_54 rfl rfl ?_
      refine em_getA dX12_back_55 zf_NineHeapsModel_13 rfl (hS.has 81 (by decide) (by decide) rfl) hw rfl ?_
      refine ev_iload_n dX12_back_58 rfl rfl ?_
      refine ev_aload_n dX12_back_59 rfl rfl ?_
      refine em_getA dX12_back_60 zf_NineHeapsModel_38 rfl (hS.has 81 (by decide) (by decide) rfl) hw rfl ?_
      refine ev_bipush dX12_back_63 (v := (9 : Int32)) zcb_9 ?_
      refine ev_iload_n dX12_back_65 rfl rfl ?_
      refine ev_iadd dX12_back_66 rfl ?_
      obtain ⟨g6, h⟩ := zgd h
      refine em_iald dX12_back_67 hS (by decide) (by decide) (N := 23) rfl g6 rfl ?_
      obtain ⟨J7, e8, h⟩ := zld h
      refine em_iast dX12_back_68 hS (by decide) (by decide) (N := 9) rfl g3 e8 ?_
      refine ev_iinc dX12_back_69 (v := l1 + (1 : Int32)) rfl rfl (by decide) rfl ?_
      refine ev_goto dX12_back_72 (tgt := 36) (by decide) ?_
      exact EV.mask [true, true] rfl (ih (l1 + (1 : Int32)) J7 h)
set_option maxHeartbeats 4000000 in
set_option maxRecDepth 100000 in
theorem e12_back_L77 {w : zW} {d : Nat} {n : Nat} {kd : zMK} {R : zMR} {r : Int32 × zMI}  (hw : zst w = zSt0) (hS : zSh n kd) (hd : 1 ≤ d)   : ∀ (q : Nat) (l1 : Int32) (I : zMI), f12_back_L77  q l1 I = some r → EV w d 0 0 Y12_back 77 [some (.ref 81), some (.int l1)] [] (n, kd, I, R) (q12_back n kd R r) := by
  intro q
  induction q with
  | zero =>
    intro l1 I h
    cases h
  | succ q ih =>
    intro l1 I h
    unfold f12_back_L77 at h
    refine ev_iload_n dX12_back_77 rfl rfl ?_
    refine ev_iconst dX12_back_78 (v := (5 : Int32)) zci_5 ?_
    refine ev_icmp_ge dX12_back_79 (tgt := 103) (by decide) (fun c9 => ?_) (fun c9 => ?_)
    · replace h := zit c9 h
      refine ev_aload_n dX12_back_103 rfl rfl ?_
      refine em_getI dX12_back_104 zf_NineHeapsModel_117 rfl (hS.has 81 (by decide) (by decide) rfl) rfl ?_
      obtain rfl := Option.some.inj h
      exact ev_end_i dX12_back_107 rfl rfl ⟨rfl, rfl⟩
    · replace h := zif c9 h
      refine ev_aload_n dX12_back_82 rfl rfl ?_
      refine em_getA dX12_back_83 zf_NineHeapsModel_26 rfl (hS.has 81 (by decide) (by decide) rfl) hw rfl ?_
      refine ev_iload_n dX12_back_86 rfl rfl ?_
      refine ev_aload_n dX12_back_87 rfl rfl ?_
      refine em_getA dX12_back_88 zf_NineHeapsModel_38 rfl (hS.has 81 (by decide) (by decide) rfl) hw rfl ?_
      refine ev_bipush dX12_back_91 (v := (18 : Int32)) zcb_18 ?_
      refine ev_iload_n dX12_back_93 rfl rfl ?_
      refine ev_iadd dX12_back_94 rfl ?_
      obtain ⟨g10, h⟩ := zgd h
      refine em_iald dX12_back_95 hS (by decide) (by decide) (N := 23) rfl g10 rfl ?_
      obtain ⟨g11, h⟩ := zgd h
      obtain ⟨J12, e13, h⟩ := zld h
      refine em_iast dX12_back_96 hS (by decide) (by decide) (N := 5) rfl g11 e13 ?_
      refine ev_iinc dX12_back_97 (v := l1 + (1 : Int32)) rfl rfl (by decide) rfl ?_
      refine ev_goto dX12_back_100 (tgt := 77) (by decide) ?_
      exact EV.mask [true, true] rfl (ih (l1 + (1 : Int32)) J12 h)
set_option maxHeartbeats 4000000 in
set_option maxRecDepth 100000 in
theorem e12_back_B75 {w : zW} {d : Nat} {n : Nat} {kd : zMK} {R : zMR} {r : Int32 × zMI}  (hw : zst w = zSt0) (hS : zSh n kd) (hd : 1 ≤ d)   : ∀  (I : zMI), f12_back_B75 I = some r → EV w d 0 0 Y12_back 75 [some (.ref 81), none] [] (n, kd, I, R) (q12_back n kd R r) := by
  intro I h
  unfold f12_back_B75 at h
  refine ev_iconst dX12_back_75 (v := (0 : Int32)) zci_0 ?_
  refine ev_istore_n dX12_back_76 rfl (by decide) rfl ?_
  exact EV.mask [true, true] rfl (e12_back_L77 hw hS hd zF (0 : Int32) I h)
set_option maxHeartbeats 4000000 in
set_option maxRecDepth 100000 in
theorem e12_back {w : zW} {d : Nat} {n : Nat} {kd : zMK} {I : zMI} {R : zMR} {r : Int32 × zMI}  (hw : zst w = zSt0) (hS : zSh n kd) (hd : 1 ≤ d)  (h : f12_back I = some r) : EV w d 0 0 Y12_back 0 [some (.ref 81), none] [] (n, kd, I, R) (q12_back n kd R r) := by
  unfold f12_back at h
  refine ev_aload_n dX12_back_0 rfl rfl ?_
  refine em_getI dX12_back_1 zf_NineHeapsModel_333 rfl (hS.has 81 (by decide) (by decide) rfl) rfl ?_
  refine ev_if_ne dX12_back_4 (tgt := 10) (by decide) (fun c14 => ?_) (fun c14 => ?_)
  · replace h := zif c14 h
    refine ev_aload_n dX12_back_10 rfl rfl ?_
    refine ev_aload_n dX12_back_11 rfl rfl ?_
    refine em_getI dX12_back_12 zf_NineHeapsModel_337 rfl (hS.has 81 (by decide) (by decide) rfl) rfl ?_
    obtain ⟨J15, e16, h⟩ := zld h
    refine em_putI dX12_back_15 zf_NineHeapsModel_117 (Or.inl rfl) rfl rfl rfl (hS.has 81 (by decide) (by decide) rfl) e16 ?_
    refine ev_aload_n dX12_back_18 rfl rfl ?_
    refine ev_aload_n dX12_back_19 rfl rfl ?_
    refine em_getI dX12_back_20 zf_NineHeapsModel_340 rfl (hS.has 81 (by decide) (by decide) rfl) rfl ?_
    obtain ⟨J17, e18, h⟩ := zld h
    refine em_putI dX12_back_23 zf_NineHeapsModel_16 (Or.inl rfl) rfl rfl rfl (hS.has 81 (by decide) (by decide) rfl) e18 ?_
    refine ev_aload_n dX12_back_26 rfl rfl ?_
    refine ev_aload_n dX12_back_27 rfl rfl ?_
    refine em_getI dX12_back_28 zf_NineHeapsModel_343 rfl (hS.has 81 (by decide) (by decide) rfl) rfl ?_
    obtain ⟨J19, e20, h⟩ := zld h
    refine em_putI dX12_back_31 zf_NineHeapsModel_127 (Or.inl rfl) rfl rfl rfl (hS.has 81 (by decide) (by decide) rfl) e20 ?_
    refine ev_iconst dX12_back_34 (v := (0 : Int32)) zci_0 ?_
    refine ev_istore_n dX12_back_35 rfl (by decide) rfl ?_
    exact EV.mask [true, true] rfl (e12_back_L36 hw hS hd (fun I' h' => e12_back_B75 hw hS hd I' h') zF (0 : Int32) J19 h)
  · replace h := zit c14 h
    refine ev_bipush dX12_back_7 (v := (-3 : Int32)) zcb_m3 ?_
    obtain rfl := Option.some.inj h
    exact ev_end_i dX12_back_9 rfl rfl ⟨rfl, rfl⟩
abbrev q12_sheet (n : Nat) (kd : zMK) (R : zMR) (r : Int32 × zMI) : Option Value → zM → Prop := fun v μ1 => v = some (.int r.1) ∧ μ1 = (n, kd, r.2, R)
set_option maxHeartbeats 4000000 in
set_option maxRecDepth 100000 in
theorem e12_sheet_L70 {w : zW} {d : Nat} {n : Nat} {kd : zMK} {R : zMR} {r : Int32 × zMI}  (hw : zst w = zSt0) (hS : zSh n kd) (hd : 2 ≤ d)   : ∀ (q : Nat) (l1 : Int32) (l4 : Int32) (I : zMI), f12_sheet_L70  q l1 l4 I = some r → EV w d 0 0 Y12_sheet 70 [some (.ref 81), some (.int l1), none, none, some (.int l4)] [] (n, kd, I, R) (q12_sheet n kd R r) := by
  intro q
  induction q with
  | zero =>
    intro l1 l4 I h
    cases h
  | succ q ih =>
    intro l1 l4 I h
    unfold f12_sheet_L70 at h
    refine ev_iload dX12_sheet_70 rfl ?_
    refine ev_bipush dX12_sheet_72 (v := (40 : Int32)) zcb_40 ?_
    refine ev_icmp_ge dX12_sheet_74 (tgt := 96) (by decide) (fun c1 => ?_) (fun c1 => ?_)
    · replace h := zit c1 h
      refine ev_iconst dX12_sheet_96 (v := (1 : Int32)) zci_1 ?_
      obtain rfl := Option.some.inj h
      exact ev_end_i dX12_sheet_97 rfl rfl ⟨rfl, rfl⟩
    · replace h := zif c1 h
      refine ev_aload_n dX12_sheet_77 rfl rfl ?_
      refine em_getA dX12_sheet_78 zf_NineHeapsModel_47 rfl (hS.has 81 (by decide) (by decide) rfl) hw rfl ?_
      refine ev_bipush dX12_sheet_81 (v := (40 : Int32)) zcb_40 ?_
      refine ev_iload_n dX12_sheet_83 rfl rfl ?_
      refine ev_imul dX12_sheet_84 rfl ?_
      refine ev_iload dX12_sheet_85 rfl ?_
      refine ev_iadd dX12_sheet_87 rfl ?_
      refine ev_iconst dX12_sheet_88 (v := (0 : Int32)) zci_0 ?_
      obtain ⟨g2, h⟩ := zgd h
      obtain ⟨J3, e4, h⟩ := zld h
      refine em_iast dX12_sheet_89 hS (by decide) (by decide) (N := 160) rfl g2 e4 ?_
      refine ev_iinc dX12_sheet_90 (v := l4 + (1 : Int32)) rfl rfl (by decide) rfl ?_
      refine ev_goto dX12_sheet_93 (tgt := 70) (by decide) ?_
      exact EV.mask [true, true, false, false, true] rfl (ih l1 (l4 + (1 : Int32)) J3 h)
set_option maxHeartbeats 4000000 in
set_option maxRecDepth 100000 in
theorem e12_sheet_B44 {w : zW} {d : Nat} {n : Nat} {kd : zMK} {R : zMR} {r : Int32 × zMI}  (hw : zst w = zSt0) (hS : zSh n kd) (hd : 2 ≤ d)   : ∀ (l1 : Int32) (l2 : Int32) (l3 : Int32) (I : zMI), f12_sheet_B44 l1 l2 l3 I = some r → EV w d 0 0 Y12_sheet 44 [some (.ref 81), some (.int l1), some (.int l2), some (.int l3), none] [] (n, kd, I, R) (q12_sheet n kd R r) := by
  intro l1 l2 l3 I h
  unfold f12_sheet_B44 at h
  refine ev_aload_n dX12_sheet_44 rfl rfl ?_
  refine em_getA dX12_sheet_45 zf_NineHeapsModel_41 rfl (hS.has 81 (by decide) (by decide) rfl) hw rfl ?_
  refine ev_iload_n dX12_sheet_48 rfl rfl ?_
  refine ev_iload_n dX12_sheet_49 rfl rfl ?_
  obtain ⟨g5, h⟩ := zgd h
  obtain ⟨J6, e7, h⟩ := zld h
  refine em_iast dX12_sheet_50 hS (by decide) (by decide) (N := 4) rfl g5 e7 ?_
  refine ev_aload_n dX12_sheet_51 rfl rfl ?_
  refine em_getA dX12_sheet_52 zf_NineHeapsModel_44 rfl (hS.has 81 (by decide) (by decide) rfl) hw rfl ?_
  refine ev_iload_n dX12_sheet_55 rfl rfl ?_
  refine ev_iload_n dX12_sheet_56 rfl rfl ?_
  refine ev_iconst dX12_sheet_57 (v := (-1 : Int32)) zci_m1 ?_
  obtain ⟨x9, e10, h⟩ := zld h
  have k13 : EV w d 0 0 Y12_sheet 66 [some (.ref 81), some (.int l1), some (.int l2), some (.int l3), none] [.int x9, .int l1, .ref 92] (n, kd, J6, R) (q12_sheet n kd R r) := by
    obtain ⟨J11, e12, h⟩ := zld h
    refine em_iast dX12_sheet_66 hS (by decide) (by decide) (N := 4) rfl g5 e12 ?_
    refine ev_iconst dX12_sheet_67 (v := (0 : Int32)) zci_0 ?_
    refine ev_istore dX12_sheet_68 (by decide) rfl ?_
    exact EV.mask [true, true, false, false, true] rfl (e12_sheet_L70 hw hS hd zF l1 (0 : Int32) J11 h)
  clear h
  have h := e10
  clear e10
  refine ev_icmp_ne dX12_sheet_58 (tgt := 65) (by decide) (fun c8 => ?_) (fun c8 => ?_)
  · replace h := zif c8 h
    refine ev_iload_n dX12_sheet_65 rfl rfl ?_
    obtain rfl := h
    exact k13
  · replace h := zit c8 h
    refine ev_iconst dX12_sheet_61 (v := (0 : Int32)) zci_0 ?_
    refine ev_goto dX12_sheet_62 (tgt := 66) (by decide) ?_
    obtain rfl := h
    exact k13
set_option maxHeartbeats 4000000 in
set_option maxRecDepth 100000 in
theorem e12_sheet_B32 {w : zW} {d : Nat} {n : Nat} {kd : zMK} {R : zMR} {r : Int32 × zMI}  (hw : zst w = zSt0) (hS : zSh n kd) (hd : 2 ≤ d)   : ∀ (l1 : Int32) (l2 : Int32) (l3 : Int32) (I : zMI), f12_sheet_B32 l1 l2 l3 I = some r → EV w d 0 0 Y12_sheet 32 [some (.ref 81), some (.int l1), some (.int l2), some (.int l3), none] [] (n, kd, I, R) (q12_sheet n kd R r) := by
  intro l1 l2 l3 I h
  unfold f12_sheet_B32 at h
  refine ev_iload_n dX12_sheet_32 rfl rfl ?_
  refine ev_iconst dX12_sheet_33 (v := (-1 : Int32)) zci_m1 ?_
  refine ev_icmp_eq dX12_sheet_34 (tgt := 44) (by decide) (fun c14 => ?_) (fun c14 => ?_)
  · replace h := zit c14 h
    exact EV.mask [true, true, true, true, false] rfl (e12_sheet_B44 hw hS hd l1 l2 l3 I h)
  · replace h := zif c14 h
    refine ev_iload_n dX12_sheet_37 rfl rfl ?_
    refine ev_if_ge dX12_sheet_38 (tgt := 44) (by decide) (fun c15 => ?_) (fun c15 => ?_)
    · replace h := zit c15 h
      exact EV.mask [true, true, true, true, false] rfl (e12_sheet_B44 hw hS hd l1 l2 l3 I h)
    · replace h := zif c15 h
      refine ev_bipush dX12_sheet_41 (v := (-14 : Int32)) zcb_m14 ?_
      obtain rfl := Option.some.inj h
      exact ev_end_i dX12_sheet_43 rfl rfl ⟨rfl, rfl⟩
set_option maxHeartbeats 4000000 in
set_option maxRecDepth 100000 in
theorem e12_sheet {w : zW} {d : Nat} {n : Nat} {kd : zMK} {I : zMI} {R : zMR} {r : Int32 × zMI} {l1 : Int32} {l2 : Int32} {l3 : Int32} (hw : zst w = zSt0) (hS : zSh n kd) (hd : 2 ≤ d)  (h : f12_sheet l1 l2 l3 I = some r) : EV w d 0 0 Y12_sheet 0 [some (.ref 81), some (.int l1), some (.int l2), some (.int l3), none] [] (n, kd, I, R) (q12_sheet n kd R r) := by
  unfold f12_sheet at h
  refine ev_iload_n dX12_sheet_0 rfl rfl ?_
  refine ev_iconst dX12_sheet_1 (v := (0 : Int32)) zci_0 ?_
  refine ev_iconst dX12_sheet_2 (v := (3 : Int32)) zci_3 ?_
  obtain ⟨p16, e17, h⟩ := zbd h
  refine ev_callS0 dX12_sheet_3 zm12_in zl_NineHeapsModel_120 zs12_in (As := [.int l1, .int (0 : Int32), .int (3 : Int32)]) (rest := []) rfl rfl (Nat.le_of_ble_eq_true rfl) rfl (Nat.le_of_ble_eq_true rfl) (d' := 1) (by omega) (e12_in hw hS (Nat.le_refl _) e17) (fun v μ1 q => ?_)
  obtain ⟨rfl, rfl⟩ := q
  refine ev_if_eq dX12_sheet_6 (tgt := 29) (by decide) (fun c18 => ?_) (fun c18 => ?_)
  · replace h := zit c18 h
    refine ev_bipush dX12_sheet_29 (v := (-2 : Int32)) zcb_m2 ?_
    obtain rfl := Option.some.inj h
    exact ev_end_i dX12_sheet_31 rfl rfl ⟨rfl, rfl⟩
  · replace h := zif c18 h
    refine ev_iload_n dX12_sheet_9 rfl rfl ?_
    refine ev_iconst dX12_sheet_10 (v := (-1 : Int32)) zci_m1 ?_
    refine ev_iconst dX12_sheet_11 (v := (2 : Int32)) zci_2 ?_
    obtain ⟨p19, e20, h⟩ := zbd h
    refine ev_callS0 dX12_sheet_12 zm12_in zl_NineHeapsModel_120 zs12_in (As := [.int l2, .int (-1 : Int32), .int (2 : Int32)]) (rest := []) rfl rfl (Nat.le_of_ble_eq_true rfl) rfl (Nat.le_of_ble_eq_true rfl) (d' := 1) (by omega) (e12_in hw hS (Nat.le_refl _) e20) (fun v μ1 q => ?_)
    obtain ⟨rfl, rfl⟩ := q
    refine ev_if_eq dX12_sheet_15 (tgt := 29) (by decide) (fun c21 => ?_) (fun c21 => ?_)
    · replace h := zit c21 h
      refine ev_bipush dX12_sheet_29 (v := (-2 : Int32)) zcb_m2 ?_
      obtain rfl := Option.some.inj h
      exact ev_end_i dX12_sheet_31 rfl rfl ⟨rfl, rfl⟩
    · replace h := zif c21 h
      refine ev_iload_n dX12_sheet_18 rfl rfl ?_
      refine ev_iconst dX12_sheet_19 (v := (-1 : Int32)) zci_m1 ?_
      refine ev_icmp_eq dX12_sheet_20 (tgt := 32) (by decide) (fun c22 => ?_) (fun c22 => ?_)
      · replace h := zit c22 h
        exact EV.mask [true, true, true, true, false] rfl (e12_sheet_B32 hw hS hd l1 l2 l3 I h)
      · replace h := zif c22 h
        refine ev_iload_n dX12_sheet_23 rfl rfl ?_
        refine ev_bipush dX12_sheet_24 (v := (40 : Int32)) zcb_40 ?_
        refine ev_icmp_le dX12_sheet_26 (tgt := 32) (by decide) (fun c23 => ?_) (fun c23 => ?_)
        · replace h := zit c23 h
          exact EV.mask [true, true, true, true, false] rfl (e12_sheet_B32 hw hS hd l1 l2 l3 I h)
        · replace h := zif c23 h
          refine ev_bipush dX12_sheet_29 (v := (-2 : Int32)) zcb_m2 ?_
          obtain rfl := Option.some.inj h
          exact ev_end_i dX12_sheet_31 rfl rfl ⟨rfl, rfl⟩
abbrev q12_cell (n : Nat) (kd : zMK) (R : zMR) (r : Int32 × zMI) : Option Value → zM → Prop := fun v μ1 => v = some (.int r.1) ∧ μ1 = (n, kd, r.2, R)
set_option maxHeartbeats 4000000 in
set_option maxRecDepth 100000 in
theorem e12_cell {w : zW} {d : Nat} {n : Nat} {kd : zMK} {I : zMI} {R : zMR} {r : Int32 × zMI} {l1 : Int32} {l2 : Int32} {l3 : Int32} (hw : zst w = zSt0) (hS : zSh n kd) (hd : 2 ≤ d)  (h : f12_cell l1 l2 l3 I = some r) : EV w d 0 0 Y12_cell 0 [some (.ref 81), some (.int l1), some (.int l2), some (.int l3)] [] (n, kd, I, R) (q12_cell n kd R r) := by
  unfold f12_cell at h
  refine ev_iload_n dX12_cell_0 rfl rfl ?_
  refine ev_iconst dX12_cell_1 (v := (0 : Int32)) zci_0 ?_
  refine ev_iconst dX12_cell_2 (v := (3 : Int32)) zci_3 ?_
  obtain ⟨p1, e2, h⟩ := zbd h
  refine ev_callS0 dX12_cell_3 zm12_in zl_NineHeapsModel_120 zs12_in (As := [.int l1, .int (0 : Int32), .int (3 : Int32)]) (rest := []) rfl rfl (Nat.le_of_ble_eq_true rfl) rfl (Nat.le_of_ble_eq_true rfl) (d' := 1) (by omega) (e12_in hw hS (Nat.le_refl _) e2) (fun v μ1 q => ?_)
  obtain ⟨rfl, rfl⟩ := q
  refine ev_if_ne dX12_cell_6 (tgt := 12) (by decide) (fun c3 => ?_) (fun c3 => ?_)
  · replace h := zif c3 h
    refine ev_aload_n dX12_cell_12 rfl rfl ?_
    refine em_getA dX12_cell_13 zf_NineHeapsModel_41 rfl (hS.has 81 (by decide) (by decide) rfl) hw rfl ?_
    refine ev_iload_n dX12_cell_16 rfl rfl ?_
    obtain ⟨g4, h⟩ := zgd h
    refine em_iald dX12_cell_17 hS (by decide) (by decide) (N := 4) rfl g4 rfl ?_
    refine ev_iconst dX12_cell_18 (v := (-1 : Int32)) zci_m1 ?_
    refine ev_icmp_ne dX12_cell_19 (tgt := 25) (by decide) (fun c5 => ?_) (fun c5 => ?_)
    · replace h := zif c5 h
      refine ev_iload_n dX12_cell_25 rfl rfl ?_
      refine ev_iconst dX12_cell_26 (v := (0 : Int32)) zci_0 ?_
      refine ev_aload_n dX12_cell_27 rfl rfl ?_
      refine em_getA dX12_cell_28 zf_NineHeapsModel_44 rfl (hS.has 81 (by decide) (by decide) rfl) hw rfl ?_
      refine ev_iload_n dX12_cell_31 rfl rfl ?_
      refine em_iald dX12_cell_32 hS (by decide) (by decide) (N := 4) rfl g4 rfl ?_
      refine ev_iconst dX12_cell_33 (v := (1 : Int32)) zci_1 ?_
      refine ev_isub dX12_cell_34 rfl ?_
      obtain ⟨p6, e7, h⟩ := zbd h
      refine ev_callS0 dX12_cell_35 zm12_in zl_NineHeapsModel_120 zs12_in (As := [.int l2, .int (0 : Int32), .int ((I 92 l1.toNatClampNeg) - (1 : Int32))]) (rest := []) rfl rfl (Nat.le_of_ble_eq_true rfl) rfl (Nat.le_of_ble_eq_true rfl) (d' := 1) (by omega) (e12_in hw hS (Nat.le_refl _) e7) (fun v μ1 q => ?_)
      obtain ⟨rfl, rfl⟩ := q
      refine ev_if_ne dX12_cell_38 (tgt := 44) (by decide) (fun c8 => ?_) (fun c8 => ?_)
      · replace h := zif c8 h
        refine ev_aload_n dX12_cell_44 rfl rfl ?_
        refine em_getA dX12_cell_45 zf_NineHeapsModel_47 rfl (hS.has 81 (by decide) (by decide) rfl) hw rfl ?_
        refine ev_bipush dX12_cell_48 (v := (40 : Int32)) zcb_40 ?_
        refine ev_iload_n dX12_cell_50 rfl rfl ?_
        refine ev_imul dX12_cell_51 rfl ?_
        refine ev_iload_n dX12_cell_52 rfl rfl ?_
        refine ev_iadd dX12_cell_53 rfl ?_
        refine ev_aload_n dX12_cell_54 rfl rfl ?_
        refine em_getA dX12_cell_55 zf_NineHeapsModel_41 rfl (hS.has 81 (by decide) (by decide) rfl) hw rfl ?_
        refine ev_iload_n dX12_cell_58 rfl rfl ?_
        refine em_iald dX12_cell_59 hS (by decide) (by decide) (N := 4) rfl g4 rfl ?_
        obtain ⟨x11, e12, h⟩ := zld h
        have k16 : EV w d 0 0 Y12_cell 84 [some (.ref 81), some (.int l1), some (.int l2), some (.int l3)] [.int x11, .int (((40 : Int32) * l1) + l2), .ref 93] (n, kd, I, R) (q12_cell n kd R r) := by
          obtain ⟨g13, h⟩ := zgd h
          obtain ⟨J14, e15, h⟩ := zld h
          refine em_iast dX12_cell_84 hS (by decide) (by decide) (N := 160) rfl g13 e15 ?_
          refine ev_iconst dX12_cell_85 (v := (1 : Int32)) zci_1 ?_
          obtain rfl := Option.some.inj h
          exact ev_end_i dX12_cell_86 rfl rfl ⟨rfl, rfl⟩
        clear h
        have h := e12
        clear e12
        refine ev_if_ne dX12_cell_60 (tgt := 68) (by decide) (fun c9 => ?_) (fun c9 => ?_)
        · replace h := zif c9 h
          refine ev_aload_n dX12_cell_68 rfl rfl ?_
          refine em_getA dX12_cell_69 zf_NineHeapsModel_41 rfl (hS.has 81 (by decide) (by decide) rfl) hw rfl ?_
          refine ev_iload_n dX12_cell_72 rfl rfl ?_
          refine em_iald dX12_cell_73 hS (by decide) (by decide) (N := 4) rfl g4 rfl ?_
          refine ev_iconst dX12_cell_74 (v := (1 : Int32)) zci_1 ?_
          refine ev_icmp_ne dX12_cell_75 (tgt := 83) (by decide) (fun c10 => ?_) (fun c10 => ?_)
          · replace h := zif c10 h
            refine ev_iload_n dX12_cell_83 rfl rfl ?_
            obtain rfl := h
            exact k16
          · replace h := zit c10 h
            refine ev_iload_n dX12_cell_78 rfl rfl ?_
            refine ev_i2s dX12_cell_79 rfl ?_
            refine ev_goto dX12_cell_80 (tgt := 84) (by decide) ?_
            obtain rfl := h
            exact k16
        · replace h := zit c9 h
          refine ev_iload_n dX12_cell_63 rfl rfl ?_
          refine ev_i2b dX12_cell_64 rfl ?_
          refine ev_goto dX12_cell_65 (tgt := 84) (by decide) ?_
          obtain rfl := h
          exact k16
      · replace h := zit c8 h
        refine ev_bipush dX12_cell_41 (v := (-12 : Int32)) zcb_m12 ?_
        obtain rfl := Option.some.inj h
        exact ev_end_i dX12_cell_43 rfl rfl ⟨rfl, rfl⟩
    · replace h := zit c5 h
      refine ev_bipush dX12_cell_22 (v := (-11 : Int32)) zcb_m11 ?_
      obtain rfl := Option.some.inj h
      exact ev_end_i dX12_cell_24 rfl rfl ⟨rfl, rfl⟩
  · replace h := zit c3 h
    refine ev_bipush dX12_cell_9 (v := (-2 : Int32)) zcb_m2 ?_
    obtain rfl := Option.some.inj h
    exact ev_end_i dX12_cell_11 rfl rfl ⟨rfl, rfl⟩
abbrev q12_copy (n : Nat) (kd : zMK) (R : zMR) (r : Int32 × zMI) : Option Value → zM → Prop := fun v μ1 => v = some (.int r.1) ∧ μ1 = (n, kd, r.2, R)
set_option maxHeartbeats 4000000 in
set_option maxRecDepth 100000 in
theorem e12_copy_L147 {w : zW} {d : Nat} {n : Nat} {kd : zMK} {R : zMR} {r : Int32 × zMI}  (hw : zst w = zSt0) (hS : zSh n kd) (hd : 2 ≤ d)   : ∀ (q : Nat) (l5 : Int32) (l6 : Int32) (l7 : Int32) (l8 : Int32) (I : zMI), f12_copy_L147  q l5 l6 l7 l8 I = some r → EV w d 0 0 Y12_copy 147 [some (.ref 81), none, none, none, none, some (.int l5), some (.int l6), some (.int l7), some (.int l8), none] [] (n, kd, I, R) (q12_copy n kd R r) := by
  intro q
  induction q with
  | zero =>
    intro l5 l6 l7 l8 I h
    cases h
  | succ q ih =>
    intro l5 l6 l7 l8 I h
    unfold f12_copy_L147 at h
    refine ev_iload dX12_copy_147 rfl ?_
    refine ev_iload dX12_copy_149 rfl ?_
    refine ev_icmp_ge dX12_copy_151 (tgt := 201) (by decide) (fun c1 => ?_) (fun c1 => ?_)
    · replace h := zit c1 h
      refine ev_iload dX12_copy_201 rfl ?_
      obtain rfl := Option.some.inj h
      exact ev_end_i dX12_copy_203 rfl rfl ⟨rfl, rfl⟩
    · replace h := zif c1 h
      refine ev_iload dX12_copy_154 rfl ?_
      refine ev_iload dX12_copy_156 rfl ?_
      obtain ⟨x3, e4, h⟩ := zld h
      have k9 : EV w d 0 0 Y12_copy 173 [some (.ref 81), none, none, none, none, some (.int l5), some (.int l6), some (.int l7), some (.int l8), none] [.int x3] (n, kd, I, R) (q12_copy n kd R r) := by
        refine ev_istore dX12_copy_173 (by decide) rfl ?_
        refine ev_aload_n dX12_copy_175 rfl rfl ?_
        refine em_getA dX12_copy_176 zf_NineHeapsModel_47 rfl (hS.has 81 (by decide) (by decide) rfl) hw rfl ?_
        refine ev_iload dX12_copy_179 rfl ?_
        refine ev_iload dX12_copy_181 rfl ?_
        refine ev_iadd dX12_copy_183 rfl ?_
        refine ev_aload_n dX12_copy_184 rfl rfl ?_
        refine em_getA dX12_copy_185 zf_NineHeapsModel_47 rfl (hS.has 81 (by decide) (by decide) rfl) hw rfl ?_
        refine ev_iload dX12_copy_188 rfl ?_
        refine ev_iload dX12_copy_190 rfl ?_
        refine ev_iadd dX12_copy_192 rfl ?_
        obtain ⟨g5, h⟩ := zgd h
        refine em_iald dX12_copy_193 hS (by decide) (by decide) (N := 160) rfl g5 rfl ?_
        obtain ⟨g6, h⟩ := zgd h
        obtain ⟨J7, e8, h⟩ := zld h
        refine em_iast dX12_copy_194 hS (by decide) (by decide) (N := 160) rfl g6 e8 ?_
        refine ev_iinc dX12_copy_195 (v := l8 + (1 : Int32)) rfl rfl (by decide) rfl ?_
        refine ev_goto dX12_copy_198 (tgt := 147) (by decide) ?_
        exact EV.mask [true, false, false, false, false, true, true, true, true, false] rfl (ih l5 l6 l7 (l8 + (1 : Int32)) J7 h)
      clear h
      have h := e4
      clear e4
      refine ev_icmp_ge dX12_copy_158 (tgt := 171) (by decide) (fun c2 => ?_) (fun c2 => ?_)
      · replace h := zit c2 h
        refine ev_iload dX12_copy_171 rfl ?_
        obtain rfl := h
        exact k9
      · replace h := zif c2 h
        refine ev_iload dX12_copy_161 rfl ?_
        refine ev_iconst dX12_copy_163 (v := (1 : Int32)) zci_1 ?_
        refine ev_isub dX12_copy_164 rfl ?_
        refine ev_iload dX12_copy_165 rfl ?_
        refine ev_isub dX12_copy_167 rfl ?_
        refine ev_goto dX12_copy_168 (tgt := 173) (by decide) ?_
        obtain rfl := h
        exact k9
set_option maxHeartbeats 4000000 in
set_option maxRecDepth 100000 in
theorem e12_copy {w : zW} {d : Nat} {n : Nat} {kd : zMK} {I : zMI} {R : zMR} {r : Int32 × zMI} {l1 : Int32} {l2 : Int32} {l3 : Int32} {l4 : Int32} {l5 : Int32} (hw : zst w = zSt0) (hS : zSh n kd) (hd : 2 ≤ d)  (h : f12_copy l1 l2 l3 l4 l5 I = some r) : EV w d 0 0 Y12_copy 0 [some (.ref 81), some (.int l1), some (.int l2), some (.int l3), some (.int l4), some (.int l5), none, none, none, none] [] (n, kd, I, R) (q12_copy n kd R r) := by
  unfold f12_copy at h
  refine ev_iload_n dX12_copy_0 rfl rfl ?_
  refine ev_iconst dX12_copy_1 (v := (0 : Int32)) zci_0 ?_
  refine ev_iconst dX12_copy_2 (v := (3 : Int32)) zci_3 ?_
  obtain ⟨p10, e11, h⟩ := zbd h
  refine ev_callS0 dX12_copy_3 zm12_in zl_NineHeapsModel_120 zs12_in (As := [.int l1, .int (0 : Int32), .int (3 : Int32)]) (rest := []) rfl rfl (Nat.le_of_ble_eq_true rfl) rfl (Nat.le_of_ble_eq_true rfl) (d' := 1) (by omega) (e12_in hw hS (Nat.le_refl _) e11) (fun v μ1 q => ?_)
  obtain ⟨rfl, rfl⟩ := q
  refine ev_if_eq dX12_copy_6 (tgt := 18) (by decide) (fun c12 => ?_) (fun c12 => ?_)
  · replace h := zit c12 h
    refine ev_bipush dX12_copy_18 (v := (-2 : Int32)) zcb_m2 ?_
    obtain rfl := Option.some.inj h
    exact ev_end_i dX12_copy_20 rfl rfl ⟨rfl, rfl⟩
  · replace h := zif c12 h
    refine ev_iload_n dX12_copy_9 rfl rfl ?_
    refine ev_iconst dX12_copy_10 (v := (0 : Int32)) zci_0 ?_
    refine ev_iconst dX12_copy_11 (v := (3 : Int32)) zci_3 ?_
    obtain ⟨p13, e14, h⟩ := zbd h
    refine ev_callS0 dX12_copy_12 zm12_in zl_NineHeapsModel_120 zs12_in (As := [.int l3, .int (0 : Int32), .int (3 : Int32)]) (rest := []) rfl rfl (Nat.le_of_ble_eq_true rfl) rfl (Nat.le_of_ble_eq_true rfl) (d' := 1) (by omega) (e12_in hw hS (Nat.le_refl _) e14) (fun v μ1 q => ?_)
    obtain ⟨rfl, rfl⟩ := q
    refine ev_if_ne dX12_copy_15 (tgt := 21) (by decide) (fun c15 => ?_) (fun c15 => ?_)
    · replace h := zif c15 h
      refine ev_aload_n dX12_copy_21 rfl rfl ?_
      refine em_getA dX12_copy_22 zf_NineHeapsModel_41 rfl (hS.has 81 (by decide) (by decide) rfl) hw rfl ?_
      refine ev_iload_n dX12_copy_25 rfl rfl ?_
      obtain ⟨g16, h⟩ := zgd h
      refine em_iald dX12_copy_26 hS (by decide) (by decide) (N := 4) rfl g16 rfl ?_
      refine ev_iconst dX12_copy_27 (v := (-1 : Int32)) zci_m1 ?_
      refine ev_icmp_eq dX12_copy_28 (tgt := 41) (by decide) (fun c17 => ?_) (fun c17 => ?_)
      · replace h := zit c17 h
        refine ev_bipush dX12_copy_41 (v := (-11 : Int32)) zcb_m11 ?_
        obtain rfl := Option.some.inj h
        exact ev_end_i dX12_copy_43 rfl rfl ⟨rfl, rfl⟩
      · replace h := zif c17 h
        refine ev_aload_n dX12_copy_31 rfl rfl ?_
        refine em_getA dX12_copy_32 zf_NineHeapsModel_41 rfl (hS.has 81 (by decide) (by decide) rfl) hw rfl ?_
        refine ev_iload_n dX12_copy_35 rfl rfl ?_
        obtain ⟨g18, h⟩ := zgd h
        refine em_iald dX12_copy_36 hS (by decide) (by decide) (N := 4) rfl g18 rfl ?_
        refine ev_iconst dX12_copy_37 (v := (-1 : Int32)) zci_m1 ?_
        refine ev_icmp_ne dX12_copy_38 (tgt := 44) (by decide) (fun c19 => ?_) (fun c19 => ?_)
        · replace h := zif c19 h
          refine ev_aload_n dX12_copy_44 rfl rfl ?_
          refine em_getA dX12_copy_45 zf_NineHeapsModel_41 rfl (hS.has 81 (by decide) (by decide) rfl) hw rfl ?_
          refine ev_iload_n dX12_copy_48 rfl rfl ?_
          refine em_iald dX12_copy_49 hS (by decide) (by decide) (N := 4) rfl g16 rfl ?_
          refine ev_aload_n dX12_copy_50 rfl rfl ?_
          refine em_getA dX12_copy_51 zf_NineHeapsModel_41 rfl (hS.has 81 (by decide) (by decide) rfl) hw rfl ?_
          refine ev_iload_n dX12_copy_54 rfl rfl ?_
          refine em_iald dX12_copy_55 hS (by decide) (by decide) (N := 4) rfl g18 rfl ?_
          refine ev_icmp_eq dX12_copy_56 (tgt := 62) (by decide) (fun c20 => ?_) (fun c20 => ?_)
          · replace h := zit c20 h
            refine ev_iload dX12_copy_62 rfl ?_
            refine ev_if_lt dX12_copy_64 (tgt := 124) (by decide) (fun c21 => ?_) (fun c21 => ?_)
            · replace h := zit c21 h
              refine ev_bipush dX12_copy_124 (v := (-12 : Int32)) zcb_m12 ?_
              obtain rfl := Option.some.inj h
              exact ev_end_i dX12_copy_126 rfl rfl ⟨rfl, rfl⟩
            · replace h := zif c21 h
              refine ev_iload_n dX12_copy_67 rfl rfl ?_
              refine ev_if_lt dX12_copy_68 (tgt := 124) (by decide) (fun c22 => ?_) (fun c22 => ?_)
              · replace h := zit c22 h
                refine ev_bipush dX12_copy_124 (v := (-12 : Int32)) zcb_m12 ?_
                obtain rfl := Option.some.inj h
                exact ev_end_i dX12_copy_126 rfl rfl ⟨rfl, rfl⟩
              · replace h := zif c22 h
                refine ev_iload dX12_copy_71 rfl ?_
                refine ev_if_lt dX12_copy_73 (tgt := 124) (by decide) (fun c23 => ?_) (fun c23 => ?_)
                · replace h := zit c23 h
                  refine ev_bipush dX12_copy_124 (v := (-12 : Int32)) zcb_m12 ?_
                  obtain rfl := Option.some.inj h
                  exact ev_end_i dX12_copy_126 rfl rfl ⟨rfl, rfl⟩
                · replace h := zif c23 h
                  refine ev_iload_n dX12_copy_76 rfl rfl ?_
                  refine ev_aload_n dX12_copy_77 rfl rfl ?_
                  refine em_getA dX12_copy_78 zf_NineHeapsModel_44 rfl (hS.has 81 (by decide) (by decide) rfl) hw rfl ?_
                  refine ev_iload_n dX12_copy_81 rfl rfl ?_
                  refine em_iald dX12_copy_82 hS (by decide) (by decide) (N := 4) rfl g16 rfl ?_
                  refine ev_icmp_gt dX12_copy_83 (tgt := 124) (by decide) (fun c24 => ?_) (fun c24 => ?_)
                  · replace h := zit c24 h
                    refine ev_bipush dX12_copy_124 (v := (-12 : Int32)) zcb_m12 ?_
                    obtain rfl := Option.some.inj h
                    exact ev_end_i dX12_copy_126 rfl rfl ⟨rfl, rfl⟩
                  · replace h := zif c24 h
                    refine ev_iload dX12_copy_86 rfl ?_
                    refine ev_aload_n dX12_copy_88 rfl rfl ?_
                    refine em_getA dX12_copy_89 zf_NineHeapsModel_44 rfl (hS.has 81 (by decide) (by decide) rfl) hw rfl ?_
                    refine ev_iload_n dX12_copy_92 rfl rfl ?_
                    refine em_iald dX12_copy_93 hS (by decide) (by decide) (N := 4) rfl g18 rfl ?_
                    refine ev_icmp_gt dX12_copy_94 (tgt := 124) (by decide) (fun c25 => ?_) (fun c25 => ?_)
                    · replace h := zit c25 h
                      refine ev_bipush dX12_copy_124 (v := (-12 : Int32)) zcb_m12 ?_
                      obtain rfl := Option.some.inj h
                      exact ev_end_i dX12_copy_126 rfl rfl ⟨rfl, rfl⟩
                    · replace h := zif c25 h
                      refine ev_iload dX12_copy_97 rfl ?_
                      refine ev_aload_n dX12_copy_99 rfl rfl ?_
                      refine em_getA dX12_copy_100 zf_NineHeapsModel_44 rfl (hS.has 81 (by decide) (by decide) rfl) hw rfl ?_
                      refine ev_iload_n dX12_copy_103 rfl rfl ?_
                      refine em_iald dX12_copy_104 hS (by decide) (by decide) (N := 4) rfl g16 rfl ?_
                      refine ev_iload_n dX12_copy_105 rfl rfl ?_
                      refine ev_isub dX12_copy_106 rfl ?_
                      refine ev_icmp_gt dX12_copy_107 (tgt := 124) (by decide) (fun c26 => ?_) (fun c26 => ?_)
                      · replace h := zit c26 h
                        refine ev_bipush dX12_copy_124 (v := (-12 : Int32)) zcb_m12 ?_
                        obtain rfl := Option.some.inj h
                        exact ev_end_i dX12_copy_126 rfl rfl ⟨rfl, rfl⟩
                      · replace h := zif c26 h
                        refine ev_iload dX12_copy_110 rfl ?_
                        refine ev_aload_n dX12_copy_112 rfl rfl ?_
                        refine em_getA dX12_copy_113 zf_NineHeapsModel_44 rfl (hS.has 81 (by decide) (by decide) rfl) hw rfl ?_
                        refine ev_iload_n dX12_copy_116 rfl rfl ?_
                        refine em_iald dX12_copy_117 hS (by decide) (by decide) (N := 4) rfl g18 rfl ?_
                        refine ev_iload dX12_copy_118 rfl ?_
                        refine ev_isub dX12_copy_120 rfl ?_
                        refine ev_icmp_le dX12_copy_121 (tgt := 127) (by decide) (fun c27 => ?_) (fun c27 => ?_)
                        · replace h := zit c27 h
                          refine ev_bipush dX12_copy_127 (v := (40 : Int32)) zcb_40 ?_
                          refine ev_iload_n dX12_copy_129 rfl rfl ?_
                          refine ev_imul dX12_copy_130 rfl ?_
                          refine ev_iload_n dX12_copy_131 rfl rfl ?_
                          refine ev_iadd dX12_copy_132 rfl ?_
                          obtain ⟨x28, e29, h⟩ := zld h
                          refine ev_nm e29 ?_
                          refine ev_istore dX12_copy_133 (by decide) rfl ?_
                          refine ev_bipush dX12_copy_135 (v := (40 : Int32)) zcb_40 ?_
                          refine ev_iload_n dX12_copy_137 rfl rfl ?_
                          refine ev_imul dX12_copy_138 rfl ?_
                          refine ev_iload dX12_copy_139 rfl ?_
                          refine ev_iadd dX12_copy_141 rfl ?_
                          obtain ⟨x30, e31, h⟩ := zld h
                          refine ev_nm e31 ?_
                          refine ev_istore dX12_copy_142 (by decide) rfl ?_
                          refine ev_iconst dX12_copy_144 (v := (0 : Int32)) zci_0 ?_
                          refine ev_istore dX12_copy_145 (by decide) rfl ?_
                          exact EV.mask [true, false, false, false, false, true, true, true, true, false] rfl (e12_copy_L147 hw hS hd zF l5 x28 x30 (0 : Int32) I h)
                        · replace h := zif c27 h
                          refine ev_bipush dX12_copy_124 (v := (-12 : Int32)) zcb_m12 ?_
                          obtain rfl := Option.some.inj h
                          exact ev_end_i dX12_copy_126 rfl rfl ⟨rfl, rfl⟩
          · replace h := zif c20 h
            refine ev_bipush dX12_copy_59 (v := (-13 : Int32)) zcb_m13 ?_
            obtain rfl := Option.some.inj h
            exact ev_end_i dX12_copy_61 rfl rfl ⟨rfl, rfl⟩
        · replace h := zit c19 h
          refine ev_bipush dX12_copy_41 (v := (-11 : Int32)) zcb_m11 ?_
          obtain rfl := Option.some.inj h
          exact ev_end_i dX12_copy_43 rfl rfl ⟨rfl, rfl⟩
    · replace h := zit c15 h
      refine ev_bipush dX12_copy_18 (v := (-2 : Int32)) zcb_m2 ?_
      obtain rfl := Option.some.inj h
      exact ev_end_i dX12_copy_20 rfl rfl ⟨rfl, rfl⟩
