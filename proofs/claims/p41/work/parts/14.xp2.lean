/-! the machine does as the functions say: laid by program -/
abbrev q7_readNot (n : Nat) (kd : zMK) (R : zMR) (r : zMI) : Option Value → zM → Prop := fun v μ1 => v = none ∧ μ1 = (n, kd, r, R)
set_option maxHeartbeats 4000000 in
set_option maxRecDepth 100000 in
theorem e7_readNot_B58 {w : zW} {d : Nat} {n : Nat} {kd : zMK} {R : zMR} {r : zMI}   {rc : Nat → Int32 → zMI → Option zMI} {e : Nat} (hw : zst w = zSt0) (hS : zSh n kd) (hd : e + 4 ≤ d) (he : 8 ≤ e) (hrc : zPR w e n kd R rc)  : ∀ (l1 : Int32) (I : zMI), f7_readNot_B58 rc l1 I = some r → EV w d 0 0 Y7_readNot 58 [some (.ref 37), some (.int l1), none] [] (n, kd, I, R) (q7_readNot n kd R r) := by
  intro l1 I h
  unfold f7_readNot_B58 at h
  refine ev_aload_n dX7_readNot_58 rfl rfl ?_
  refine em_getI dX7_readNot_59 zf_NineHeaps_Tape_43 rfl (hS.has 37 (by decide) (by decide) rfl) rfl ?_
  refine ev_bipush dX7_readNot_62 (v := (60 : Int32)) zcb_60 ?_
  obtain ⟨x2, e3, h⟩ := zld h
  have k10 : EV w d 0 0 Y7_readNot 74 [some (.ref 37), some (.int l1), none] [.int x2] (n, kd, I, R) (q7_readNot n kd R r) := by
    refine ev_istore_n dX7_readNot_74 rfl (by decide) rfl ?_
    refine ev_aload_n dX7_readNot_75 rfl rfl ?_
    obtain ⟨p4, e5, h⟩ := zbd h
    refine ev_callV0 dX7_readNot_76 zm7_nextToken zl_NineHeaps_Tape_36 zi7_nextToken zv7_nextToken (zrcT hS) (As := []) (rest := []) rfl rfl (Nat.le_of_ble_eq_true rfl) rfl (Nat.le_of_ble_eq_true rfl) (d' := 7) (by omega) (e7_nextToken hw hS (Nat.le_refl _) e5) (fun v μ1 q => ?_)
    obtain ⟨rfl, rfl⟩ := q
    refine ev_aload_n dX7_readNot_79 rfl rfl ?_
    refine ev_iload_n dX7_readNot_80 rfl rfl ?_
    obtain ⟨p6, e7, h⟩ := zbd h
    refine ev_callV0 dX7_readNot_81 zm7_readSum zl_NineHeaps_Tape_87 zi7_readSum zv7_readSum (zrcT hS) (As := [.int l1]) (rest := []) rfl rfl (Nat.le_of_ble_eq_true rfl) rfl (Nat.le_of_ble_eq_true rfl) (d' := e + 3) (by omega) (e7_readSum hw hS (Nat.le_refl _) he hrc e7) (fun v μ1 q => ?_)
    obtain ⟨rfl, rfl⟩ := q
    refine ev_aload_n dX7_readNot_84 rfl rfl ?_
    refine ev_iload_n dX7_readNot_85 rfl rfl ?_
    obtain ⟨p8, e9, h⟩ := zbd h
    refine ev_callV0 dX7_readNot_86 zm7_put zl_NineHeaps_Tape_77 zi7_put zv7_put (zrcT hS) (As := [.int x2]) (rest := []) rfl rfl (Nat.le_of_ble_eq_true rfl) rfl (Nat.le_of_ble_eq_true rfl) (d' := 1) (by omega) (e7_put hw hS (Nat.le_refl _) e9) (fun v μ1 q => ?_)
    obtain ⟨rfl, rfl⟩ := q
    obtain rfl := Option.some.inj h
    exact ev_end_v dX7_readNot_89 rfl ⟨rfl, rfl⟩
  clear h
  have h := e3
  clear e3
  refine ev_icmp_ne dX7_readNot_64 (tgt := 72) (by decide) (fun c1 => ?_) (fun c1 => ?_)
  · replace h := zif c1 h
    refine ev_bipush dX7_readNot_72 (v := (-14 : Int32)) zcb_m14 ?_
    obtain rfl := h
    exact k10
  · replace h := zit c1 h
    refine ev_bipush dX7_readNot_67 (v := (-13 : Int32)) zcb_m13 ?_
    refine ev_goto dX7_readNot_69 (tgt := 74) (by decide) ?_
    obtain rfl := h
    exact k10
set_option maxHeartbeats 4000000 in
set_option maxRecDepth 100000 in
theorem e7_readNot {w : zW} {d : Nat} {n : Nat} {kd : zMK} {I : zMI} {R : zMR} {r : zMI} {l1 : Int32} {rc : Nat → Int32 → zMI → Option zMI} {e : Nat}  (hw : zst w = zSt0) (hS : zSh n kd) (hd : e + 4 ≤ d) (he : 8 ≤ e) (hrc : zPR w e n kd R rc) (h : f7_readNot rc l1 I = some r) : EV w d 0 0 Y7_readNot 0 [some (.ref 37), some (.int l1), none] [] (n, kd, I, R) (q7_readNot n kd R r) := by
  unfold f7_readNot at h
  refine ev_aload_n dX7_readNot_0 rfl rfl ?_
  refine em_getI dX7_readNot_1 zf_NineHeaps_Tape_43 rfl (hS.has 37 (by decide) (by decide) rfl) rfl ?_
  refine ev_bipush dX7_readNot_4 (v := (9 : Int32)) zcb_9 ?_
  refine ev_icmp_ne dX7_readNot_6 (tgt := 35) (by decide) (fun c11 => ?_) (fun c11 => ?_)
  · replace h := zif c11 h
    refine ev_aload_n dX7_readNot_35 rfl rfl ?_
    refine ev_iload_n dX7_readNot_36 rfl rfl ?_
    obtain ⟨p12, e13, h⟩ := zbd h
    refine ev_callV0 dX7_readNot_37 zm7_readSum zl_NineHeaps_Tape_87 zi7_readSum zv7_readSum (zrcT hS) (As := [.int l1]) (rest := []) rfl rfl (Nat.le_of_ble_eq_true rfl) rfl (Nat.le_of_ble_eq_true rfl) (d' := e + 3) (by omega) (e7_readSum hw hS (Nat.le_refl _) he hrc e13) (fun v μ1 q => ?_)
    obtain ⟨rfl, rfl⟩ := q
    refine ev_aload_n dX7_readNot_40 rfl rfl ?_
    refine em_getI dX7_readNot_41 zf_NineHeaps_Tape_43 rfl (hS.has 37 (by decide) (by decide) rfl) rfl ?_
    refine ev_bipush dX7_readNot_44 (v := (60 : Int32)) zcb_60 ?_
    refine ev_icmp_eq dX7_readNot_46 (tgt := 58) (by decide) (fun c14 => ?_) (fun c14 => ?_)
    · replace h := zit c14 h
      exact EV.mask [true, true, false] rfl (e7_readNot_B58 hw hS hd he hrc l1 p12 h)
    · replace h := zif c14 h
      refine ev_aload_n dX7_readNot_49 rfl rfl ?_
      refine em_getI dX7_readNot_50 zf_NineHeaps_Tape_43 rfl (hS.has 37 (by decide) (by decide) rfl) rfl ?_
      refine ev_bipush dX7_readNot_53 (v := (61 : Int32)) zcb_61 ?_
      refine ev_icmp_ne dX7_readNot_55 (tgt := 89) (by decide) (fun c15 => ?_) (fun c15 => ?_)
      · replace h := zif c15 h
        obtain rfl := Option.some.inj h
        exact ev_end_v dX7_readNot_89 rfl ⟨rfl, rfl⟩
      · replace h := zit c15 h
        exact EV.mask [true, true, false] rfl (e7_readNot_B58 hw hS hd he hrc l1 p12 h)
  · replace h := zit c11 h
    refine ev_aload_n dX7_readNot_9 rfl rfl ?_
    refine ev_iload_n dX7_readNot_10 rfl rfl ?_
    obtain ⟨p16, e17, h⟩ := zbd h
    refine ev_callV0 dX7_readNot_11 zm7_mayOpen zl_NineHeaps_Tape_83 zi7_mayOpen zv7_mayOpen (zrcT hS) (As := [.int l1]) (rest := []) rfl rfl (Nat.le_of_ble_eq_true rfl) rfl (Nat.le_of_ble_eq_true rfl) (d' := 2) (by omega) (e7_mayOpen hw hS (Nat.le_refl _) e17) (fun v μ1 q => ?_)
    obtain ⟨rfl, rfl⟩ := q
    refine ev_if_eq dX7_readNot_14 (tgt := 34) (by decide) (fun c18 => ?_) (fun c18 => ?_)
    · replace h := zit c18 h
      obtain rfl := Option.some.inj h
      exact ev_end_v dX7_readNot_34 rfl ⟨rfl, rfl⟩
    · replace h := zif c18 h
      refine ev_aload_n dX7_readNot_17 rfl rfl ?_
      obtain ⟨p19, e20, h⟩ := zbd h
      refine ev_callV0 dX7_readNot_18 zm7_nextToken zl_NineHeaps_Tape_36 zi7_nextToken zv7_nextToken (zrcT hS) (As := []) (rest := []) rfl rfl (Nat.le_of_ble_eq_true rfl) rfl (Nat.le_of_ble_eq_true rfl) (d' := 7) (by omega) (e7_nextToken hw hS (Nat.le_refl _) e20) (fun v μ1 q => ?_)
      obtain ⟨rfl, rfl⟩ := q
      refine ev_aload_n dX7_readNot_21 rfl rfl ?_
      refine ev_iload_n dX7_readNot_22 rfl rfl ?_
      refine ev_iconst dX7_readNot_23 (v := (1 : Int32)) zci_1 ?_
      refine ev_iadd dX7_readNot_24 rfl ?_
      obtain ⟨p21, e22, h⟩ := zbd h
      refine ev_callV0 dX7_readNot_25 zm7_readNot zl_NineHeaps_Tape_80 zi7_readNot zv7_readNot (zrcT hS) (As := [.int (l1 + (1 : Int32))]) (rest := []) rfl rfl (Nat.le_of_ble_eq_true rfl) rfl (Nat.le_of_ble_eq_true rfl) (d' := e) (by omega) (hrc.2.1 _ _ _ e22) (fun v μ1 q => ?_)
      obtain ⟨rfl, rfl⟩ := q
      refine ev_aload_n dX7_readNot_28 rfl rfl ?_
      refine ev_bipush dX7_readNot_29 (v := (-21 : Int32)) zcb_m21 ?_
      obtain ⟨p23, e24, h⟩ := zbd h
      refine ev_callV0 dX7_readNot_31 zm7_put zl_NineHeaps_Tape_77 zi7_put zv7_put (zrcT hS) (As := [.int (-21 : Int32)]) (rest := []) rfl rfl (Nat.le_of_ble_eq_true rfl) rfl (Nat.le_of_ble_eq_true rfl) (d' := 1) (by omega) (e7_put hw hS (Nat.le_refl _) e24) (fun v μ1 q => ?_)
      obtain ⟨rfl, rfl⟩ := q
      obtain rfl := Option.some.inj h
      exact ev_end_v dX7_readNot_34 rfl ⟨rfl, rfl⟩
abbrev q7_readAnd (n : Nat) (kd : zMK) (R : zMR) (r : zMI) : Option Value → zM → Prop := fun v μ1 => v = none ∧ μ1 = (n, kd, r, R)
set_option maxHeartbeats 4000000 in
set_option maxRecDepth 100000 in
theorem e7_readAnd_L7 {w : zW} {d : Nat} {n : Nat} {kd : zMK} {R : zMR} {r : zMI}   {rc : Nat → Int32 → zMI → Option zMI} {e : Nat} (hw : zst w = zSt0) (hS : zSh n kd) (hd : e + 5 ≤ d) (he : 8 ≤ e) (hrc : zPR w e n kd R rc)  : ∀ (q : Nat) (l1 : Int32) (l2 : Int32) (I : zMI), f7_readAnd_L7 rc q l1 l2 I = some r → EV w d 0 0 Y7_readAnd 7 [some (.ref 37), some (.int l1), some (.int l2)] [] (n, kd, I, R) (q7_readAnd n kd R r) := by
  intro q
  induction q with
  | zero =>
    intro l1 l2 I h
    cases h
  | succ q ih =>
    intro l1 l2 I h
    unfold f7_readAnd_L7 at h
    refine ev_iload_n dX7_readAnd_7 rfl rfl ?_
    refine ev_sipush dX7_readAnd_8 (v := (160 : Int32)) zcs_160 ?_
    refine ev_icmp_ge dX7_readAnd_11 (tgt := 52) (by decide) (fun c1 => ?_) (fun c1 => ?_)
    · replace h := zit c1 h
      obtain rfl := Option.some.inj h
      exact ev_end_v dX7_readAnd_52 rfl ⟨rfl, rfl⟩
    · replace h := zif c1 h
      refine ev_aload_n dX7_readAnd_14 rfl rfl ?_
      refine em_getI dX7_readAnd_15 zf_NineHeaps_Tape_43 rfl (hS.has 37 (by decide) (by decide) rfl) rfl ?_
      refine ev_bipush dX7_readAnd_18 (v := (8 : Int32)) zcb_8 ?_
      refine ev_icmp_ne dX7_readAnd_20 (tgt := 52) (by decide) (fun c2 => ?_) (fun c2 => ?_)
      · replace h := zif c2 h
        obtain rfl := Option.some.inj h
        exact ev_end_v dX7_readAnd_52 rfl ⟨rfl, rfl⟩
      · replace h := zit c2 h
        refine ev_aload_n dX7_readAnd_23 rfl rfl ?_
        refine em_getI dX7_readAnd_24 zf_NineHeaps_Tape_30 rfl (hS.has 37 (by decide) (by decide) rfl) rfl ?_
        refine ev_iconst dX7_readAnd_27 (v := (-1 : Int32)) zci_m1 ?_
        refine ev_icmp_ne dX7_readAnd_28 (tgt := 52) (by decide) (fun c3 => ?_) (fun c3 => ?_)
        · replace h := zif c3 h
          obtain rfl := Option.some.inj h
          exact ev_end_v dX7_readAnd_52 rfl ⟨rfl, rfl⟩
        · replace h := zit c3 h
          refine ev_aload_n dX7_readAnd_31 rfl rfl ?_
          obtain ⟨p4, e5, h⟩ := zbd h
          refine ev_callV0 dX7_readAnd_32 zm7_nextToken zl_NineHeaps_Tape_36 zi7_nextToken zv7_nextToken (zrcT hS) (As := []) (rest := []) rfl rfl (Nat.le_of_ble_eq_true rfl) rfl (Nat.le_of_ble_eq_true rfl) (d' := 7) (by omega) (e7_nextToken hw hS (Nat.le_refl _) e5) (fun v μ1 q => ?_)
          obtain ⟨rfl, rfl⟩ := q
          refine ev_aload_n dX7_readAnd_35 rfl rfl ?_
          refine ev_iload_n dX7_readAnd_36 rfl rfl ?_
          obtain ⟨p6, e7, h⟩ := zbd h
          refine ev_callV0 dX7_readAnd_37 zm7_readNot zl_NineHeaps_Tape_80 zi7_readNot zv7_readNot (zrcT hS) (As := [.int l1]) (rest := []) rfl rfl (Nat.le_of_ble_eq_true rfl) rfl (Nat.le_of_ble_eq_true rfl) (d' := e) (by omega) (hrc.2.1 _ _ _ e7) (fun v μ1 q => ?_)
          obtain ⟨rfl, rfl⟩ := q
          refine ev_aload_n dX7_readAnd_40 rfl rfl ?_
          refine ev_bipush dX7_readAnd_41 (v := (-12 : Int32)) zcb_m12 ?_
          obtain ⟨p8, e9, h⟩ := zbd h
          refine ev_callV0 dX7_readAnd_43 zm7_put zl_NineHeaps_Tape_77 zi7_put zv7_put (zrcT hS) (As := [.int (-12 : Int32)]) (rest := []) rfl rfl (Nat.le_of_ble_eq_true rfl) rfl (Nat.le_of_ble_eq_true rfl) (d' := 1) (by omega) (e7_put hw hS (Nat.le_refl _) e9) (fun v μ1 q => ?_)
          obtain ⟨rfl, rfl⟩ := q
          refine ev_iinc dX7_readAnd_46 (v := l2 + (1 : Int32)) rfl rfl (by decide) rfl ?_
          refine ev_goto dX7_readAnd_49 (tgt := 7) (by decide) ?_
          exact EV.mask [true, true, true] rfl (ih l1 (l2 + (1 : Int32)) p8 h)
set_option maxHeartbeats 4000000 in
set_option maxRecDepth 100000 in
theorem e7_readAnd {w : zW} {d : Nat} {n : Nat} {kd : zMK} {I : zMI} {R : zMR} {r : zMI} {l1 : Int32} {rc : Nat → Int32 → zMI → Option zMI} {e : Nat}  (hw : zst w = zSt0) (hS : zSh n kd) (hd : e + 5 ≤ d) (he : 8 ≤ e) (hrc : zPR w e n kd R rc) (h : f7_readAnd rc l1 I = some r) : EV w d 0 0 Y7_readAnd 0 [some (.ref 37), some (.int l1), none] [] (n, kd, I, R) (q7_readAnd n kd R r) := by
  unfold f7_readAnd at h
  refine ev_aload_n dX7_readAnd_0 rfl rfl ?_
  refine ev_iload_n dX7_readAnd_1 rfl rfl ?_
  obtain ⟨p10, e11, h⟩ := zbd h
  refine ev_callV0 dX7_readAnd_2 zm7_readNot zl_NineHeaps_Tape_80 zi7_readNot zv7_readNot (zrcT hS) (As := [.int l1]) (rest := []) rfl rfl (Nat.le_of_ble_eq_true rfl) rfl (Nat.le_of_ble_eq_true rfl) (d' := e) (by omega) (hrc.2.1 _ _ _ e11) (fun v μ1 q => ?_)
  obtain ⟨rfl, rfl⟩ := q
  refine ev_iconst dX7_readAnd_5 (v := (0 : Int32)) zci_0 ?_
  refine ev_istore_n dX7_readAnd_6 rfl (by decide) rfl ?_
  exact EV.mask [true, true, true] rfl (e7_readAnd_L7 hw hS hd he hrc zF l1 (0 : Int32) p10 h)
abbrev q7_readOr (n : Nat) (kd : zMK) (R : zMR) (r : zMI) : Option Value → zM → Prop := fun v μ1 => v = none ∧ μ1 = (n, kd, r, R)
set_option maxHeartbeats 4000000 in
set_option maxRecDepth 100000 in
theorem e7_readOr_L7 {w : zW} {d : Nat} {n : Nat} {kd : zMK} {R : zMR} {r : zMI}   {rc : Nat → Int32 → zMI → Option zMI} {e : Nat} (hw : zst w = zSt0) (hS : zSh n kd) (hd : e + 6 ≤ d) (he : 8 ≤ e) (hrc : zPR w e n kd R rc)  : ∀ (q : Nat) (l1 : Int32) (l2 : Int32) (I : zMI), f7_readOr_L7 rc q l1 l2 I = some r → EV w d 0 0 Y7_readOr 7 [some (.ref 37), some (.int l1), some (.int l2)] [] (n, kd, I, R) (q7_readOr n kd R r) := by
  intro q
  induction q with
  | zero =>
    intro l1 l2 I h
    cases h
  | succ q ih =>
    intro l1 l2 I h
    unfold f7_readOr_L7 at h
    refine ev_iload_n dX7_readOr_7 rfl rfl ?_
    refine ev_sipush dX7_readOr_8 (v := (160 : Int32)) zcs_160 ?_
    refine ev_icmp_ge dX7_readOr_11 (tgt := 52) (by decide) (fun c1 => ?_) (fun c1 => ?_)
    · replace h := zit c1 h
      obtain rfl := Option.some.inj h
      exact ev_end_v dX7_readOr_52 rfl ⟨rfl, rfl⟩
    · replace h := zif c1 h
      refine ev_aload_n dX7_readOr_14 rfl rfl ?_
      refine em_getI dX7_readOr_15 zf_NineHeaps_Tape_43 rfl (hS.has 37 (by decide) (by decide) rfl) rfl ?_
      refine ev_bipush dX7_readOr_18 (v := (7 : Int32)) zcb_7 ?_
      refine ev_icmp_ne dX7_readOr_20 (tgt := 52) (by decide) (fun c2 => ?_) (fun c2 => ?_)
      · replace h := zif c2 h
        obtain rfl := Option.some.inj h
        exact ev_end_v dX7_readOr_52 rfl ⟨rfl, rfl⟩
      · replace h := zit c2 h
        refine ev_aload_n dX7_readOr_23 rfl rfl ?_
        refine em_getI dX7_readOr_24 zf_NineHeaps_Tape_30 rfl (hS.has 37 (by decide) (by decide) rfl) rfl ?_
        refine ev_iconst dX7_readOr_27 (v := (-1 : Int32)) zci_m1 ?_
        refine ev_icmp_ne dX7_readOr_28 (tgt := 52) (by decide) (fun c3 => ?_) (fun c3 => ?_)
        · replace h := zif c3 h
          obtain rfl := Option.some.inj h
          exact ev_end_v dX7_readOr_52 rfl ⟨rfl, rfl⟩
        · replace h := zit c3 h
          refine ev_aload_n dX7_readOr_31 rfl rfl ?_
          obtain ⟨p4, e5, h⟩ := zbd h
          refine ev_callV0 dX7_readOr_32 zm7_nextToken zl_NineHeaps_Tape_36 zi7_nextToken zv7_nextToken (zrcT hS) (As := []) (rest := []) rfl rfl (Nat.le_of_ble_eq_true rfl) rfl (Nat.le_of_ble_eq_true rfl) (d' := 7) (by omega) (e7_nextToken hw hS (Nat.le_refl _) e5) (fun v μ1 q => ?_)
          obtain ⟨rfl, rfl⟩ := q
          refine ev_aload_n dX7_readOr_35 rfl rfl ?_
          refine ev_iload_n dX7_readOr_36 rfl rfl ?_
          obtain ⟨p6, e7, h⟩ := zbd h
          refine ev_callV0 dX7_readOr_37 zm7_readAnd zl_NineHeaps_Tape_74 zi7_readAnd zv7_readAnd (zrcT hS) (As := [.int l1]) (rest := []) rfl rfl (Nat.le_of_ble_eq_true rfl) rfl (Nat.le_of_ble_eq_true rfl) (d' := e + 5) (by omega) (e7_readAnd hw hS (Nat.le_refl _) he hrc e7) (fun v μ1 q => ?_)
          obtain ⟨rfl, rfl⟩ := q
          refine ev_aload_n dX7_readOr_40 rfl rfl ?_
          refine ev_bipush dX7_readOr_41 (v := (-11 : Int32)) zcb_m11 ?_
          obtain ⟨p8, e9, h⟩ := zbd h
          refine ev_callV0 dX7_readOr_43 zm7_put zl_NineHeaps_Tape_77 zi7_put zv7_put (zrcT hS) (As := [.int (-11 : Int32)]) (rest := []) rfl rfl (Nat.le_of_ble_eq_true rfl) rfl (Nat.le_of_ble_eq_true rfl) (d' := 1) (by omega) (e7_put hw hS (Nat.le_refl _) e9) (fun v μ1 q => ?_)
          obtain ⟨rfl, rfl⟩ := q
          refine ev_iinc dX7_readOr_46 (v := l2 + (1 : Int32)) rfl rfl (by decide) rfl ?_
          refine ev_goto dX7_readOr_49 (tgt := 7) (by decide) ?_
          exact EV.mask [true, true, true] rfl (ih l1 (l2 + (1 : Int32)) p8 h)
set_option maxHeartbeats 4000000 in
set_option maxRecDepth 100000 in
theorem e7_readOr {w : zW} {d : Nat} {n : Nat} {kd : zMK} {I : zMI} {R : zMR} {r : zMI} {l1 : Int32} {rc : Nat → Int32 → zMI → Option zMI} {e : Nat}  (hw : zst w = zSt0) (hS : zSh n kd) (hd : e + 6 ≤ d) (he : 8 ≤ e) (hrc : zPR w e n kd R rc) (h : f7_readOr rc l1 I = some r) : EV w d 0 0 Y7_readOr 0 [some (.ref 37), some (.int l1), none] [] (n, kd, I, R) (q7_readOr n kd R r) := by
  unfold f7_readOr at h
  refine ev_aload_n dX7_readOr_0 rfl rfl ?_
  refine ev_iload_n dX7_readOr_1 rfl rfl ?_
  obtain ⟨p10, e11, h⟩ := zbd h
  refine ev_callV0 dX7_readOr_2 zm7_readAnd zl_NineHeaps_Tape_74 zi7_readAnd zv7_readAnd (zrcT hS) (As := [.int l1]) (rest := []) rfl rfl (Nat.le_of_ble_eq_true rfl) rfl (Nat.le_of_ble_eq_true rfl) (d' := e + 5) (by omega) (e7_readAnd hw hS (Nat.le_refl _) he hrc e11) (fun v μ1 q => ?_)
  obtain ⟨rfl, rfl⟩ := q
  refine ev_iconst dX7_readOr_5 (v := (0 : Int32)) zci_0 ?_
  refine ev_istore_n dX7_readOr_6 rfl (by decide) rfl ?_
  exact EV.mask [true, true, true] rfl (e7_readOr_L7 hw hS hd he hrc zF l1 (0 : Int32) p10 h)
theorem zPP {w : zW} {n : Nat} {kd : zMK} {R : zMR} (hw : zst w = zSt0) (hS : zSh n kd) : ∀ q : Nat, zPR w (8 + 6 * q) n kd R (fP q)
  | 0 => ⟨fun _ _ _ h => (by cases h), fun _ _ _ h => (by cases h), fun _ _ _ h => (by cases h)⟩
  | q + 1 => ⟨fun _ _ _ h => e7_readOr hw hS (by omega) (by omega) (zPP hw hS q) h, fun _ _ _ h => e7_readNot hw hS (by omega) (by omega) (zPP hw hS q) h, fun _ _ _ h => e7_readOne hw hS (by omega) (by omega) (zPP hw hS q) h⟩
abbrev q7_readPart (n : Nat) (kd : zMK) (R : zMR) (r : zMI) : Option Value → zM → Prop := fun v μ1 => v = none ∧ μ1 = (n, kd, r, R)
set_option maxHeartbeats 4000000 in
set_option maxRecDepth 100000 in
theorem e7_readPart_B19 {w : zW} {d : Nat} {n : Nat} {kd : zMK} {R : zMR} {r : zMI}  (hw : zst w = zSt0) (hS : zSh n kd) (hd : 135 ≤ d)   : ∀ (l2 : Int32) (I : zMI), f7_readPart_B19 l2 I = some r → EV w d 0 0 Y7_readPart 19 [some (.ref 37), none, some (.int l2)] [] (n, kd, I, R) (q7_readPart n kd R r) := by
  intro l2 I h
  unfold f7_readPart_B19 at h
  refine ev_aload_n dX7_readPart_19 rfl rfl ?_
  refine ev_iload_n dX7_readPart_20 rfl rfl ?_
  obtain ⟨p1, e2, h⟩ := zbd h
  refine ev_callV0 dX7_readPart_21 zm7_expect zl_NineHeaps_Tape_67 zi7_expect zv7_expect (zrcT hS) (As := [.int l2]) (rest := []) rfl rfl (Nat.le_of_ble_eq_true rfl) rfl (Nat.le_of_ble_eq_true rfl) (d' := 8) (by omega) (e7_expect hw hS (Nat.le_refl _) e2) (fun v μ1 q => ?_)
  obtain ⟨rfl, rfl⟩ := q
  refine ev_aload_n dX7_readPart_24 rfl rfl ?_
  refine ev_iconst dX7_readPart_25 (v := (0 : Int32)) zci_0 ?_
  obtain ⟨p3, e4, h⟩ := zbd h
  refine ev_callV0 dX7_readPart_26 zm7_readOr zl_NineHeaps_Tape_71 zi7_readOr zv7_readOr (zrcT hS) (As := [.int (0 : Int32)]) (rest := []) rfl rfl (Nat.le_of_ble_eq_true rfl) rfl (Nat.le_of_ble_eq_true rfl) (d' := 134) (by omega) (e7_readOr hw hS (Nat.le_refl _) (Nat.le_of_ble_eq_true rfl) (zPP hw hS 20) e4) (fun v μ1 q => ?_)
  obtain ⟨rfl, rfl⟩ := q
  refine ev_aload_n dX7_readPart_29 rfl rfl ?_
  refine ev_bipush dX7_readPart_30 (v := (59 : Int32)) zcb_59 ?_
  obtain ⟨p5, e6, h⟩ := zbd h
  refine ev_callV0 dX7_readPart_32 zm7_expect zl_NineHeaps_Tape_67 zi7_expect zv7_expect (zrcT hS) (As := [.int (59 : Int32)]) (rest := []) rfl rfl (Nat.le_of_ble_eq_true rfl) rfl (Nat.le_of_ble_eq_true rfl) (d' := 8) (by omega) (e7_expect hw hS (Nat.le_refl _) e6) (fun v μ1 q => ?_)
  obtain ⟨rfl, rfl⟩ := q
  obtain rfl := Option.some.inj h
  exact ev_end_v dX7_readPart_35 rfl ⟨rfl, rfl⟩
set_option maxHeartbeats 4000000 in
set_option maxRecDepth 100000 in
theorem e7_readPart {w : zW} {d : Nat} {n : Nat} {kd : zMK} {I : zMI} {R : zMR} {r : zMI} {l1 : Int32} {l2 : Int32} (hw : zst w = zSt0) (hS : zSh n kd) (hd : 135 ≤ d)  (h : f7_readPart l1 l2 I = some r) : EV w d 0 0 Y7_readPart 0 [some (.ref 37), some (.int l1), some (.int l2)] [] (n, kd, I, R) (q7_readPart n kd R r) := by
  unfold f7_readPart at h
  refine ev_iload_n dX7_readPart_0 rfl rfl ?_
  refine ev_if_lt dX7_readPart_1 (tgt := 19) (by decide) (fun c7 => ?_) (fun c7 => ?_)
  · replace h := zit c7 h
    exact EV.mask [true, false, true] rfl (e7_readPart_B19 hw hS hd l2 I h)
  · replace h := zif c7 h
    refine ev_iload_n dX7_readPart_4 rfl rfl ?_
    refine ev_iconst dX7_readPart_5 (v := (3 : Int32)) zci_3 ?_
    refine ev_icmp_ge dX7_readPart_6 (tgt := 19) (by decide) (fun c8 => ?_) (fun c8 => ?_)
    · replace h := zit c8 h
      exact EV.mask [true, false, true] rfl (e7_readPart_B19 hw hS hd l2 I h)
    · replace h := zif c8 h
      refine ev_aload_n dX7_readPart_9 rfl rfl ?_
      refine em_getA dX7_readPart_10 zf_NineHeaps_Tape_20 rfl (hS.has 37 (by decide) (by decide) rfl) hw rfl ?_
      refine ev_iload_n dX7_readPart_13 rfl rfl ?_
      refine ev_aload_n dX7_readPart_14 rfl rfl ?_
      refine em_getI dX7_readPart_15 zf_NineHeaps_Tape_33 rfl (hS.has 37 (by decide) (by decide) rfl) rfl ?_
      obtain ⟨g9, h⟩ := zgd h
      obtain ⟨J10, e11, h⟩ := zld h
      refine em_iast dX7_readPart_18 hS (by decide) (by decide) (N := 4) rfl g9 e11 ?_
      exact EV.mask [true, false, true] rfl (e7_readPart_B19 hw hS hd l2 J10 h)
abbrev q7_read (n : Nat) (kd : zMK) (R : zMR) (r : Int32 × zMI) : Option Value → zM → Prop := fun v μ1 => v = some (.int r.1) ∧ μ1 = (n, kd, r.2, R)
set_option maxHeartbeats 4000000 in
set_option maxRecDepth 100000 in
theorem e7_read {w : zW} {d : Nat} {n : Nat} {kd : zMK} {I : zMI} {R : zMR} {r : Int32 × zMI}  (hw : zst w = zSt0) (hS : zSh n kd) (hd : 136 ≤ d)  (h : f7_read I = some r) : EV w d 0 0 Y7_read 0 [some (.ref 37)] [] (n, kd, I, R) (q7_read n kd R r) := by
  unfold f7_read at h
  refine ev_aload_n dX7_read_0 rfl rfl ?_
  refine ev_iconst dX7_read_1 (v := (0 : Int32)) zci_0 ?_
  obtain ⟨J1, e2, h⟩ := zld h
  refine em_putI dX7_read_2 zf_NineHeaps_Tape_27 (Or.inl rfl) rfl rfl rfl (hS.has 37 (by decide) (by decide) rfl) e2 ?_
  refine ev_aload_n dX7_read_5 rfl rfl ?_
  refine ev_iconst dX7_read_6 (v := (-1 : Int32)) zci_m1 ?_
  obtain ⟨J3, e4, h⟩ := zld h
  refine em_putI dX7_read_7 zf_NineHeaps_Tape_30 (Or.inl rfl) rfl rfl rfl (hS.has 37 (by decide) (by decide) rfl) e4 ?_
  refine ev_aload_n dX7_read_10 rfl rfl ?_
  refine ev_iconst dX7_read_11 (v := (0 : Int32)) zci_0 ?_
  obtain ⟨J5, e6, h⟩ := zld h
  refine em_putI dX7_read_12 zf_NineHeaps_Tape_33 (Or.inl rfl) rfl rfl rfl (hS.has 37 (by decide) (by decide) rfl) e6 ?_
  refine ev_aload_n dX7_read_15 rfl rfl ?_
  obtain ⟨p7, e8, h⟩ := zbd h
  refine ev_callV0 dX7_read_16 zm7_nextToken zl_NineHeaps_Tape_36 zi7_nextToken zv7_nextToken (zrcT hS) (As := []) (rest := []) rfl rfl (Nat.le_of_ble_eq_true rfl) rfl (Nat.le_of_ble_eq_true rfl) (d' := 7) (by omega) (e7_nextToken hw hS (Nat.le_refl _) e8) (fun v μ1 q => ?_)
  obtain ⟨rfl, rfl⟩ := q
  refine ev_aload_n dX7_read_19 rfl rfl ?_
  refine ev_iconst dX7_read_20 (v := (0 : Int32)) zci_0 ?_
  refine ev_iconst dX7_read_21 (v := (4 : Int32)) zci_4 ?_
  obtain ⟨p9, e10, h⟩ := zbd h
  refine ev_callV0 dX7_read_22 zm7_readPart zl_NineHeaps_Tape_39 zi7_readPart zv7_readPart (zrcT hS) (As := [.int (0 : Int32), .int (4 : Int32)]) (rest := []) rfl rfl (Nat.le_of_ble_eq_true rfl) rfl (Nat.le_of_ble_eq_true rfl) (d' := 135) (by omega) (e7_readPart hw hS (Nat.le_refl _) e10) (fun v μ1 q => ?_)
  obtain ⟨rfl, rfl⟩ := q
  refine ev_aload_n dX7_read_25 rfl rfl ?_
  refine ev_iconst dX7_read_26 (v := (1 : Int32)) zci_1 ?_
  refine ev_iconst dX7_read_27 (v := (5 : Int32)) zci_5 ?_
  obtain ⟨p11, e12, h⟩ := zbd h
  refine ev_callV0 dX7_read_28 zm7_readPart zl_NineHeaps_Tape_39 zi7_readPart zv7_readPart (zrcT hS) (As := [.int (1 : Int32), .int (5 : Int32)]) (rest := []) rfl rfl (Nat.le_of_ble_eq_true rfl) rfl (Nat.le_of_ble_eq_true rfl) (d' := 135) (by omega) (e7_readPart hw hS (Nat.le_refl _) e12) (fun v μ1 q => ?_)
  obtain ⟨rfl, rfl⟩ := q
  refine ev_aload_n dX7_read_31 rfl rfl ?_
  refine ev_iconst dX7_read_32 (v := (2 : Int32)) zci_2 ?_
  refine ev_bipush dX7_read_33 (v := (6 : Int32)) zcb_6 ?_
  obtain ⟨p13, e14, h⟩ := zbd h
  refine ev_callV0 dX7_read_35 zm7_readPart zl_NineHeaps_Tape_39 zi7_readPart zv7_readPart (zrcT hS) (As := [.int (2 : Int32), .int (6 : Int32)]) (rest := []) rfl rfl (Nat.le_of_ble_eq_true rfl) rfl (Nat.le_of_ble_eq_true rfl) (d' := 135) (by omega) (e7_readPart hw hS (Nat.le_refl _) e14) (fun v μ1 q => ?_)
  obtain ⟨rfl, rfl⟩ := q
  refine ev_aload_n dX7_read_38 rfl rfl ?_
  refine em_getA dX7_read_39 zf_NineHeaps_Tape_20 rfl (hS.has 37 (by decide) (by decide) rfl) hw rfl ?_
  refine ev_iconst dX7_read_42 (v := (3 : Int32)) zci_3 ?_
  refine ev_aload_n dX7_read_43 rfl rfl ?_
  refine em_getI dX7_read_44 zf_NineHeaps_Tape_33 rfl (hS.has 37 (by decide) (by decide) rfl) rfl ?_
  obtain ⟨g15, h⟩ := zgd h
  obtain ⟨J16, e17, h⟩ := zld h
  refine em_iast dX7_read_47 hS (by decide) (by decide) (N := 4) rfl g15 e17 ?_
  refine ev_aload_n dX7_read_48 rfl rfl ?_
  refine em_getI dX7_read_49 zf_NineHeaps_Tape_43 rfl (hS.has 37 (by decide) (by decide) rfl) rfl ?_
  refine ev_if_eq dX7_read_52 (tgt := 59) (by decide) (fun c18 => ?_) (fun c18 => ?_)
  · replace h := zit c18 h
    refine ev_aload_n dX7_read_59 rfl rfl ?_
    refine em_getI dX7_read_60 zf_NineHeaps_Tape_30 rfl (hS.has 37 (by decide) (by decide) rfl) rfl ?_
    obtain rfl := Option.some.inj h
    exact ev_end_i dX7_read_63 rfl rfl ⟨rfl, rfl⟩
  · replace h := zif c18 h
    refine ev_aload_n dX7_read_55 rfl rfl ?_
    obtain ⟨p19, e20, h⟩ := zbd h
    refine ev_callV0 dX7_read_56 zm7_fail zl_NineHeaps_Tape_46 zi7_fail zv7_fail (zrcT hS) (As := []) (rest := []) rfl rfl (Nat.le_of_ble_eq_true rfl) rfl (Nat.le_of_ble_eq_true rfl) (d' := 1) (by omega) (e7_fail hw hS (Nat.le_refl _) e20) (fun v μ1 q => ?_)
    obtain ⟨rfl, rfl⟩ := q
    refine ev_aload_n dX7_read_59 rfl rfl ?_
    refine em_getI dX7_read_60 zf_NineHeaps_Tape_30 rfl (hS.has 37 (by decide) (by decide) rfl) rfl ?_
    obtain rfl := Option.some.inj h
    exact ev_end_i dX7_read_63 rfl rfl ⟨rfl, rfl⟩
abbrev q11_changeWant (n : Nat) (kd : zMK) (R : zMR) (r : Int32 × zMI) : Option Value → zM → Prop := fun v μ1 => v = some (.int r.1) ∧ μ1 = (n, kd, r.2, R)
set_option maxHeartbeats 4000000 in
set_option maxRecDepth 100000 in
theorem e11_changeWant {w : zW} {d : Nat} {n : Nat} {kd : zMK} {I : zMI} {R : zMR} {r : Int32 × zMI} {l1 : Int32} (hw : zst w = zSt0) (hS : zSh n kd) (hd : 1 ≤ d)  (h : f11_changeWant l1 I = some r) : EV w d 0 0 Y11_changeWant 0 [some (.ref 32), some (.int l1), none] [] (n, kd, I, R) (q11_changeWant n kd R r) := by
  unfold f11_changeWant at h
  refine ev_iload_n dX11_changeWant_0 rfl rfl ?_
  refine ev_iconst dX11_changeWant_1 (v := (1 : Int32)) zci_1 ?_
  refine ev_icmp_lt dX11_changeWant_2 (tgt := 12) (by decide) (fun c1 => ?_) (fun c1 => ?_)
  · replace h := zit c1 h
    refine ev_bipush dX11_changeWant_12 (v := (-7 : Int32)) zcb_m7 ?_
    obtain rfl := Option.some.inj h
    exact ev_end_i dX11_changeWant_14 rfl rfl ⟨rfl, rfl⟩
  · replace h := zif c1 h
    refine ev_iload_n dX11_changeWant_5 rfl rfl ?_
    refine ev_sipush dX11_changeWant_6 (v := (200 : Int32)) zcs_200 ?_
    refine ev_icmp_le dX11_changeWant_9 (tgt := 15) (by decide) (fun c2 => ?_) (fun c2 => ?_)
    · replace h := zit c2 h
      refine ev_aload_n dX11_changeWant_15 rfl rfl ?_
      refine em_getI dX11_changeWant_16 zf_NineHeaps_16 rfl (hS.has 32 (by decide) (by decide) rfl) rfl ?_
      refine ev_istore_n dX11_changeWant_19 rfl (by decide) rfl ?_
      refine ev_aload_n dX11_changeWant_20 rfl rfl ?_
      refine ev_iload_n dX11_changeWant_21 rfl rfl ?_
      obtain ⟨J3, e4, h⟩ := zld h
      refine em_putI dX11_changeWant_22 zf_NineHeaps_16 (Or.inl rfl) rfl rfl rfl (hS.has 32 (by decide) (by decide) rfl) e4 ?_
      refine ev_iload_n dX11_changeWant_25 rfl rfl ?_
      obtain rfl := Option.some.inj h
      exact ev_end_i dX11_changeWant_26 rfl rfl ⟨rfl, rfl⟩
    · replace h := zif c2 h
      refine ev_bipush dX11_changeWant_12 (v := (-7 : Int32)) zcb_m7 ?_
      obtain rfl := Option.some.inj h
      exact ev_end_i dX11_changeWant_14 rfl rfl ⟨rfl, rfl⟩
abbrev q11_noHeap (n : Nat) (kd : zMK) (I : zMI) (R : zMR) (r : Int32) : Option Value → zM → Prop := fun v μ1 => v = some (.int r) ∧ μ1 = (n, kd, I, R)
set_option maxHeartbeats 4000000 in
set_option maxRecDepth 100000 in
theorem e11_noHeap {w : zW} {d : Nat} {n : Nat} {kd : zMK} {I : zMI} {R : zMR} {r : Int32} {l0 : Int32} (hw : zst w = zSt0) (hS : zSh n kd) (hd : 1 ≤ d)  (h : f11_noHeap l0 = some r) : EV w d 0 0 Y11_noHeap 0 [some (.int l0)] [] (n, kd, I, R) (q11_noHeap n kd I R r) := by
  unfold f11_noHeap at h
  refine ev_iload_n dX11_noHeap_0 rfl rfl ?_
  obtain ⟨x3, e4, h⟩ := zld h
  have k6 : EV w d 0 0 Y11_noHeap 15 [some (.int l0)] [.int x3] (n, kd, I, R) (q11_noHeap n kd I R r) := by
    obtain ⟨g5, h⟩ := zgd h
    obtain rfl := Option.some.inj h
    exact ev_end_i dX11_noHeap_15 rfl (zbB_n g5) ⟨rfl, rfl⟩
  clear h
  have h := e4
  clear e4
  refine ev_if_lt dX11_noHeap_1 (tgt := 10) (by decide) (fun c1 => ?_) (fun c1 => ?_)
  · replace h := zit c1 h
    refine ev_iconst dX11_noHeap_10 (v := (1 : Int32)) zci_1 ?_
    refine ev_goto dX11_noHeap_11 (tgt := 15) (by decide) ?_
    obtain rfl := h
    exact k6
  · replace h := zif c1 h
    refine ev_iload_n dX11_noHeap_4 rfl rfl ?_
    refine ev_bipush dX11_noHeap_5 (v := (9 : Int32)) zcb_9 ?_
    refine ev_icmp_lt dX11_noHeap_7 (tgt := 14) (by decide) (fun c2 => ?_) (fun c2 => ?_)
    · replace h := zit c2 h
      refine ev_iconst dX11_noHeap_14 (v := (0 : Int32)) zci_0 ?_
      obtain rfl := h
      exact k6
    · replace h := zif c2 h
      refine ev_iconst dX11_noHeap_10 (v := (1 : Int32)) zci_1 ?_
      refine ev_goto dX11_noHeap_11 (tgt := 15) (by decide) ?_
      obtain rfl := h
      exact k6
abbrev q11_set (n : Nat) (kd : zMK) (R : zMR) (r : Int32 × zMI) : Option Value → zM → Prop := fun v μ1 => v = some (.int r.1) ∧ μ1 = (n, kd, r.2, R)
set_option maxHeartbeats 4000000 in
set_option maxRecDepth 100000 in
theorem e11_set_B71 {w : zW} {d : Nat} {n : Nat} {kd : zMK} {R : zMR} {r : Int32 × zMI}  (hw : zst w = zSt0) (hS : zSh n kd) (hd : 2 ≤ d)   : ∀ (l2 : Int32) (l3 : Int32) (s0 : Nat) (I : zMI), f11_set_B71 n kd l2 l3 s0 I = some r → EV w d 0 0 Y11_set 71 [none, none, some (.int l2), some (.int l3), none, none] [.ref s0] (n, kd, I, R) (q11_set n kd R r) := by
  intro l2 l3 s0 I h
  unfold f11_set_B71 at h
  refine ev_astore dX11_set_71 (by decide) rfl ?_
  refine ev_aload dX11_set_73 rfl ?_
  refine ev_iload_n dX11_set_75 rfl rfl ?_
  obtain ⟨g1, h⟩ := zgd h
  obtain ⟨g2, h⟩ := zgd h
  refine em_ialdG dX11_set_76 (zKdB_hasR hS (by decide) g1) (N := (kd s0).2) rfl g2 rfl ?_
  refine ev_istore dX11_set_77 (by decide) rfl ?_
  refine ev_aload dX11_set_79 rfl ?_
  refine ev_iload_n dX11_set_81 rfl rfl ?_
  refine ev_iload_n dX11_set_82 rfl rfl ?_
  obtain ⟨J3, e4, h⟩ := zld h
  refine em_iastG dX11_set_83 (zKdB_hasR hS (by decide) g1) (N := (kd s0).2) rfl g2 e4 ?_
  refine ev_iload dX11_set_84 rfl ?_
  obtain rfl := Option.some.inj h
  exact ev_end_i dX11_set_86 rfl rfl ⟨rfl, rfl⟩
set_option maxHeartbeats 4000000 in
set_option maxRecDepth 100000 in
theorem e11_set {w : zW} {d : Nat} {n : Nat} {kd : zMK} {I : zMI} {R : zMR} {r : Int32 × zMI} {l1 : Int32} {l2 : Int32} {l3 : Int32} (hw : zst w = zSt0) (hS : zSh n kd) (hd : 2 ≤ d)  (h : f11_set n kd l1 l2 l3 I = some r) : EV w d 0 0 Y11_set 0 [some (.ref 32), some (.int l1), some (.int l2), some (.int l3), none, none] [] (n, kd, I, R) (q11_set n kd R r) := by
  unfold f11_set at h
  refine ev_iload_n dX11_set_0 rfl rfl ?_
  refine ev_if_lt dX11_set_1 (tgt := 9) (by decide) (fun c5 => ?_) (fun c5 => ?_)
  · replace h := zit c5 h
    refine ev_bipush dX11_set_9 (v := (-5 : Int32)) zcb_m5 ?_
    obtain rfl := Option.some.inj h
    exact ev_end_i dX11_set_11 rfl rfl ⟨rfl, rfl⟩
  · replace h := zif c5 h
    refine ev_iload_n dX11_set_4 rfl rfl ?_
    refine ev_iconst dX11_set_5 (v := (2 : Int32)) zci_2 ?_
    refine ev_icmp_le dX11_set_6 (tgt := 12) (by decide) (fun c6 => ?_) (fun c6 => ?_)
    · replace h := zit c6 h
      refine ev_iload_n dX11_set_12 rfl rfl ?_
      refine ev_iconst dX11_set_13 (v := (2 : Int32)) zci_2 ?_
      refine ev_icmp_ne dX11_set_14 (tgt := 23) (by decide) (fun c7 => ?_) (fun c7 => ?_)
      · replace h := zif c7 h
        refine ev_iload_n dX11_set_23 rfl rfl ?_
        obtain ⟨p8, e9, h⟩ := zbd h
        refine ev_callS0 dX11_set_24 zm11_noHeap zl_NineHeaps_107 zs11_noHeap (As := [.int l2]) (rest := []) rfl rfl (Nat.le_of_ble_eq_true rfl) rfl (Nat.le_of_ble_eq_true rfl) (d' := 1) (by omega) (e11_noHeap hw hS (Nat.le_refl _) e9) (fun v μ1 q => ?_)
        obtain ⟨rfl, rfl⟩ := q
        refine ev_if_eq dX11_set_27 (tgt := 33) (by decide) (fun c10 => ?_) (fun c10 => ?_)
        · replace h := zit c10 h
          refine ev_iload_n dX11_set_33 rfl rfl ?_
          refine ev_if_lt dX11_set_34 (tgt := 53) (by decide) (fun c11 => ?_) (fun c11 => ?_)
          · replace h := zit c11 h
            refine ev_bipush dX11_set_53 (v := (-7 : Int32)) zcb_m7 ?_
            obtain rfl := Option.some.inj h
            exact ev_end_i dX11_set_55 rfl rfl ⟨rfl, rfl⟩
          · replace h := zif c11 h
            refine ev_iload_n dX11_set_37 rfl rfl ?_
            refine ev_iload_n dX11_set_38 rfl rfl ?_
            obtain ⟨x13, e14, h⟩ := zld h
            have k17 : EV w d 0 0 Y11_set 50 [some (.ref 32), some (.int l1), some (.int l2), some (.int l3), none, none] [.int x13, .int l3] (n, kd, I, R) (q11_set n kd R r) := by
              refine ev_icmp_le dX11_set_50 (tgt := 56) (by decide) (fun c15 => ?_) (fun c15 => ?_)
              · replace h := zit c15 h
                refine ev_iload_n dX11_set_56 rfl rfl ?_
                refine ev_if_ne dX11_set_57 (tgt := 67) (by decide) (fun c16 => ?_) (fun c16 => ?_)
                · replace h := zif c16 h
                  refine ev_aload_n dX11_set_67 rfl rfl ?_
                  refine em_getA dX11_set_68 zf_NineHeaps_13 rfl (hS.has 32 (by decide) (by decide) rfl) hw rfl ?_
                  exact EV.mask [false, false, true, true, false, false] rfl (e11_set_B71 hw hS hd l2 l3 34 I h)
                · replace h := zit c16 h
                  refine ev_aload_n dX11_set_60 rfl rfl ?_
                  refine em_getA dX11_set_61 zf_NineHeaps_9 rfl (hS.has 32 (by decide) (by decide) rfl) hw rfl ?_
                  refine ev_goto dX11_set_64 (tgt := 71) (by decide) ?_
                  exact EV.mask [false, false, true, true, false, false] rfl (e11_set_B71 hw hS hd l2 l3 33 I h)
              · replace h := zif c15 h
                refine ev_bipush dX11_set_53 (v := (-7 : Int32)) zcb_m7 ?_
                obtain rfl := Option.some.inj h
                exact ev_end_i dX11_set_55 rfl rfl ⟨rfl, rfl⟩
            clear h
            have h := e14
            clear e14
            refine ev_if_ne dX11_set_39 (tgt := 48) (by decide) (fun c12 => ?_) (fun c12 => ?_)
            · replace h := zif c12 h
              refine ev_bipush dX11_set_48 (v := (9 : Int32)) zcb_9 ?_
              obtain rfl := h
              exact k17
            · replace h := zit c12 h
              refine ev_sipush dX11_set_42 (v := (200 : Int32)) zcs_200 ?_
              refine ev_goto dX11_set_45 (tgt := 50) (by decide) ?_
              obtain rfl := h
              exact k17
        · replace h := zif c10 h
          refine ev_bipush dX11_set_30 (v := (-6 : Int32)) zcb_m6 ?_
          obtain rfl := Option.some.inj h
          exact ev_end_i dX11_set_32 rfl rfl ⟨rfl, rfl⟩
      · replace h := zit c7 h
        refine ev_aload_n dX11_set_17 rfl rfl ?_
        refine ev_iload_n dX11_set_18 rfl rfl ?_
        obtain ⟨p18, e19, h⟩ := zbd h
        refine ev_callV0 dX11_set_19 zm11_changeWant zl_NineHeaps_103 zi11_changeWant zv11_changeWant (zrcX hS) (As := [.int l3]) (rest := []) rfl rfl (Nat.le_of_ble_eq_true rfl) rfl (Nat.le_of_ble_eq_true rfl) (d' := 1) (by omega) (e11_changeWant hw hS (Nat.le_refl _) e19) (fun v μ1 q => ?_)
        obtain ⟨rfl, rfl⟩ := q
        obtain rfl := Option.some.inj h
        exact ev_end_i dX11_set_22 rfl rfl ⟨rfl, rfl⟩
    · replace h := zif c6 h
      refine ev_bipush dX11_set_9 (v := (-5 : Int32)) zcb_m5 ?_
      obtain rfl := Option.some.inj h
      exact ev_end_i dX11_set_11 rfl rfl ⟨rfl, rfl⟩
abbrev q11_heap (n : Nat) (kd : zMK) (I : zMI) (R : zMR) (r : Int32) : Option Value → zM → Prop := fun v μ1 => v = some (.int r) ∧ μ1 = (n, kd, I, R)
set_option maxHeartbeats 4000000 in
set_option maxRecDepth 100000 in
theorem e11_heap {w : zW} {d : Nat} {n : Nat} {kd : zMK} {I : zMI} {R : zMR} {r : Int32} {l1 : Int32} {l2 : Int32} (hw : zst w = zSt0) (hS : zSh n kd) (hd : 2 ≤ d)  (h : f11_heap I l1 l2 = some r) : EV w d 0 0 Y11_heap 0 [some (.ref 32), some (.int l1), some (.int l2)] [] (n, kd, I, R) (q11_heap n kd I R r) := by
  unfold f11_heap at h
  refine ev_iload_n dX11_heap_0 rfl rfl ?_
  obtain ⟨p1, e2, h⟩ := zbd h
  refine ev_callS0 dX11_heap_1 zm11_noHeap zl_NineHeaps_107 zs11_noHeap (As := [.int l1]) (rest := []) rfl rfl (Nat.le_of_ble_eq_true rfl) rfl (Nat.le_of_ble_eq_true rfl) (d' := 1) (by omega) (e11_noHeap hw hS (Nat.le_refl _) e2) (fun v μ1 q => ?_)
  obtain ⟨rfl, rfl⟩ := q
  refine ev_if_eq dX11_heap_4 (tgt := 10) (by decide) (fun c3 => ?_) (fun c3 => ?_)
  · replace h := zit c3 h
    refine ev_iload_n dX11_heap_10 rfl rfl ?_
    refine ev_if_lt dX11_heap_11 (tgt := 19) (by decide) (fun c4 => ?_) (fun c4 => ?_)
    · replace h := zit c4 h
      refine ev_bipush dX11_heap_19 (v := (-7 : Int32)) zcb_m7 ?_
      obtain rfl := Option.some.inj h
      exact ev_end_i dX11_heap_21 rfl rfl ⟨rfl, rfl⟩
    · replace h := zif c4 h
      refine ev_iload_n dX11_heap_14 rfl rfl ?_
      refine ev_iconst dX11_heap_15 (v := (1 : Int32)) zci_1 ?_
      refine ev_icmp_le dX11_heap_16 (tgt := 22) (by decide) (fun c5 => ?_) (fun c5 => ?_)
      · replace h := zit c5 h
        refine ev_iload_n dX11_heap_22 rfl rfl ?_
        obtain ⟨x9, e10, h⟩ := zbd h
        have k11 : EV w d 0 0 Y11_heap 41 [some (.ref 32), some (.int l1), some (.int l2)] [.int x9] (n, kd, I, R) (q11_heap n kd I R r) := by
          obtain rfl := Option.some.inj h
          exact ev_end_i dX11_heap_41 rfl rfl ⟨rfl, rfl⟩
        clear h
        have h := e10
        clear e10
        refine ev_if_ne dX11_heap_23 (tgt := 35) (by decide) (fun c6 => ?_) (fun c6 => ?_)
        · replace h := zif c6 h
          refine ev_aload_n dX11_heap_35 rfl rfl ?_
          refine em_getA dX11_heap_36 zf_NineHeaps_13 rfl (hS.has 32 (by decide) (by decide) rfl) hw rfl ?_
          refine ev_iload_n dX11_heap_39 rfl rfl ?_
          obtain ⟨g7, h⟩ := zgd h
          refine em_iald dX11_heap_40 hS (by decide) (by decide) (N := 9) rfl g7 rfl ?_
          obtain rfl := Option.some.inj h
          exact k11
        · replace h := zit c6 h
          refine ev_aload_n dX11_heap_26 rfl rfl ?_
          refine em_getA dX11_heap_27 zf_NineHeaps_9 rfl (hS.has 32 (by decide) (by decide) rfl) hw rfl ?_
          refine ev_iload_n dX11_heap_30 rfl rfl ?_
          obtain ⟨g8, h⟩ := zgd h
          refine em_iald dX11_heap_31 hS (by decide) (by decide) (N := 9) rfl g8 rfl ?_
          refine ev_goto dX11_heap_32 (tgt := 41) (by decide) ?_
          obtain rfl := Option.some.inj h
          exact k11
      · replace h := zif c5 h
        refine ev_bipush dX11_heap_19 (v := (-7 : Int32)) zcb_m7 ?_
        obtain rfl := Option.some.inj h
        exact ev_end_i dX11_heap_21 rfl rfl ⟨rfl, rfl⟩
  · replace h := zif c3 h
    refine ev_bipush dX11_heap_7 (v := (-6 : Int32)) zcb_m6 ?_
    obtain rfl := Option.some.inj h
    exact ev_end_i dX11_heap_9 rfl rfl ⟨rfl, rfl⟩
abbrev q11_noByte (n : Nat) (kd : zMK) (I : zMI) (R : zMR) (r : Int32) : Option Value → zM → Prop := fun v μ1 => v = some (.int r) ∧ μ1 = (n, kd, I, R)
set_option maxHeartbeats 4000000 in
set_option maxRecDepth 100000 in
theorem e11_noByte {w : zW} {d : Nat} {n : Nat} {kd : zMK} {I : zMI} {R : zMR} {r : Int32} {l0 : Int32} (hw : zst w = zSt0) (hS : zSh n kd) (hd : 1 ≤ d)  (h : f11_noByte l0 = some r) : EV w d 0 0 Y11_noByte 0 [some (.int l0)] [] (n, kd, I, R) (q11_noByte n kd I R r) := by
  unfold f11_noByte at h
  refine ev_iload_n dX11_noByte_0 rfl rfl ?_
  obtain ⟨x3, e4, h⟩ := zld h
  have k6 : EV w d 0 0 Y11_noByte 16 [some (.int l0)] [.int x3] (n, kd, I, R) (q11_noByte n kd I R r) := by
    obtain ⟨g5, h⟩ := zgd h
    obtain rfl := Option.some.inj h
    exact ev_end_i dX11_noByte_16 rfl (zbB_n g5) ⟨rfl, rfl⟩
  clear h
  have h := e4
  clear e4
  refine ev_if_lt dX11_noByte_1 (tgt := 11) (by decide) (fun c1 => ?_) (fun c1 => ?_)
  · replace h := zit c1 h
    refine ev_iconst dX11_noByte_11 (v := (1 : Int32)) zci_1 ?_
    refine ev_goto dX11_noByte_12 (tgt := 16) (by decide) ?_
    obtain rfl := h
    exact k6
  · replace h := zif c1 h
    refine ev_iload_n dX11_noByte_4 rfl rfl ?_
    refine ev_sipush dX11_noByte_5 (v := (255 : Int32)) zcs_255 ?_
    refine ev_icmp_le dX11_noByte_8 (tgt := 15) (by decide) (fun c2 => ?_) (fun c2 => ?_)
    · replace h := zit c2 h
      refine ev_iconst dX11_noByte_15 (v := (0 : Int32)) zci_0 ?_
      obtain rfl := h
      exact k6
    · replace h := zif c2 h
      refine ev_iconst dX11_noByte_11 (v := (1 : Int32)) zci_1 ?_
      refine ev_goto dX11_noByte_12 (tgt := 16) (by decide) ?_
      obtain rfl := h
      exact k6
abbrev q11_feed (n : Nat) (kd : zMK) (R : zMR) (r : Int32 × zMI) : Option Value → zM → Prop := fun v μ1 => v = some (.int r.1) ∧ μ1 = (n, kd, r.2, R)
set_option maxHeartbeats 4000000 in
set_option maxRecDepth 100000 in
theorem e11_feed_B118 {w : zW} {d : Nat} {n : Nat} {kd : zMK} {R : zMR} {r : Int32 × zMI}  (hw : zst w = zSt0) (hS : zSh n kd) (hd : 2 ≤ d)   : ∀ (l1 : Int32) (l6 : Int32) (I : zMI), f11_feed_B118 l1 l6 I = some r → EV w d 0 0 Y11_feed 118 [some (.ref 32), some (.int l1), none, none, none, none, some (.int l6)] [] (n, kd, I, R) (q11_feed n kd R r) := by
  intro l1 l6 I h
  unfold f11_feed_B118 at h
  refine ev_iload_n dX11_feed_118 rfl rfl ?_
  refine ev_iconst dX11_feed_119 (v := (4 : Int32)) zci_4 ?_
  refine ev_icmp_le dX11_feed_120 (tgt := 132) (by decide) (fun c1 => ?_) (fun c1 => ?_)
  · replace h := zit c1 h
    refine ev_aload_n dX11_feed_132 rfl rfl ?_
    refine em_getA dX11_feed_133 zf_NineHeaps_35 rfl (hS.has 32 (by decide) (by decide) rfl) hw rfl ?_
    refine em_getI dX11_feed_136 zf_NineHeaps_100 rfl (hS.has 37 (by decide) (by decide) rfl) rfl ?_
    obtain rfl := Option.some.inj h
    exact ev_end_i dX11_feed_139 rfl rfl ⟨rfl, rfl⟩
  · replace h := zif c1 h
    refine ev_aload_n dX11_feed_123 rfl rfl ?_
    refine em_getA dX11_feed_124 zf_NineHeaps_35 rfl (hS.has 32 (by decide) (by decide) rfl) hw rfl ?_
    refine ev_iload dX11_feed_127 rfl ?_
    obtain ⟨p2, e3, h⟩ := zbd h
    refine ev_callV0 dX11_feed_129 zm7_add zl_NineHeaps_114 zi7_add zv7_add (zrcT hS) (As := [.int l6]) (rest := []) rfl rfl (Nat.le_of_ble_eq_true rfl) rfl (Nat.le_of_ble_eq_true rfl) (d' := 1) (by omega) (e7_add hw hS (Nat.le_refl _) e3) (fun v μ1 q => ?_)
    obtain ⟨rfl, rfl⟩ := q
    refine ev_aload_n dX11_feed_132 rfl rfl ?_
    refine em_getA dX11_feed_133 zf_NineHeaps_35 rfl (hS.has 32 (by decide) (by decide) rfl) hw rfl ?_
    refine em_getI dX11_feed_136 zf_NineHeaps_100 rfl (hS.has 37 (by decide) (by decide) rfl) rfl ?_
    obtain rfl := Option.some.inj h
    exact ev_end_i dX11_feed_139 rfl rfl ⟨rfl, rfl⟩
set_option maxHeartbeats 4000000 in
set_option maxRecDepth 100000 in
theorem e11_feed_B104 {w : zW} {d : Nat} {n : Nat} {kd : zMK} {R : zMR} {r : Int32 × zMI}  (hw : zst w = zSt0) (hS : zSh n kd) (hd : 2 ≤ d)   : ∀ (l1 : Int32) (l5 : Int32) (l6 : Int32) (I : zMI), f11_feed_B104 l1 l5 l6 I = some r → EV w d 0 0 Y11_feed 104 [some (.ref 32), some (.int l1), none, none, none, some (.int l5), some (.int l6)] [] (n, kd, I, R) (q11_feed n kd R r) := by
  intro l1 l5 l6 I h
  unfold f11_feed_B104 at h
  refine ev_iload_n dX11_feed_104 rfl rfl ?_
  refine ev_iconst dX11_feed_105 (v := (3 : Int32)) zci_3 ?_
  refine ev_icmp_le dX11_feed_106 (tgt := 118) (by decide) (fun c4 => ?_) (fun c4 => ?_)
  · replace h := zit c4 h
    exact EV.mask [true, true, false, false, false, false, true] rfl (e11_feed_B118 hw hS hd l1 l6 I h)
  · replace h := zif c4 h
    refine ev_aload_n dX11_feed_109 rfl rfl ?_
    refine em_getA dX11_feed_110 zf_NineHeaps_35 rfl (hS.has 32 (by decide) (by decide) rfl) hw rfl ?_
    refine ev_iload dX11_feed_113 rfl ?_
    obtain ⟨p5, e6, h⟩ := zbd h
    refine ev_callV0 dX11_feed_115 zm7_add zl_NineHeaps_114 zi7_add zv7_add (zrcT hS) (As := [.int l5]) (rest := []) rfl rfl (Nat.le_of_ble_eq_true rfl) rfl (Nat.le_of_ble_eq_true rfl) (d' := 1) (by omega) (e7_add hw hS (Nat.le_refl _) e6) (fun v μ1 q => ?_)
    obtain ⟨rfl, rfl⟩ := q
    exact EV.mask [true, true, false, false, false, false, true] rfl (e11_feed_B118 hw hS hd l1 l6 p5 h)
set_option maxHeartbeats 4000000 in
set_option maxRecDepth 100000 in
theorem e11_feed_B90 {w : zW} {d : Nat} {n : Nat} {kd : zMK} {R : zMR} {r : Int32 × zMI}  (hw : zst w = zSt0) (hS : zSh n kd) (hd : 2 ≤ d)   : ∀ (l1 : Int32) (l4 : Int32) (l5 : Int32) (l6 : Int32) (I : zMI), f11_feed_B90 l1 l4 l5 l6 I = some r → EV w d 0 0 Y11_feed 90 [some (.ref 32), some (.int l1), none, none, some (.int l4), some (.int l5), some (.int l6)] [] (n, kd, I, R) (q11_feed n kd R r) := by
  intro l1 l4 l5 l6 I h
  unfold f11_feed_B90 at h
  refine ev_iload_n dX11_feed_90 rfl rfl ?_
  refine ev_iconst dX11_feed_91 (v := (2 : Int32)) zci_2 ?_
  refine ev_icmp_le dX11_feed_92 (tgt := 104) (by decide) (fun c7 => ?_) (fun c7 => ?_)
  · replace h := zit c7 h
    exact EV.mask [true, true, false, false, false, true, true] rfl (e11_feed_B104 hw hS hd l1 l5 l6 I h)
  · replace h := zif c7 h
    refine ev_aload_n dX11_feed_95 rfl rfl ?_
    refine em_getA dX11_feed_96 zf_NineHeaps_35 rfl (hS.has 32 (by decide) (by decide) rfl) hw rfl ?_
    refine ev_iload dX11_feed_99 rfl ?_
    obtain ⟨p8, e9, h⟩ := zbd h
    refine ev_callV0 dX11_feed_101 zm7_add zl_NineHeaps_114 zi7_add zv7_add (zrcT hS) (As := [.int l4]) (rest := []) rfl rfl (Nat.le_of_ble_eq_true rfl) rfl (Nat.le_of_ble_eq_true rfl) (d' := 1) (by omega) (e7_add hw hS (Nat.le_refl _) e9) (fun v μ1 q => ?_)
    obtain ⟨rfl, rfl⟩ := q
    exact EV.mask [true, true, false, false, false, true, true] rfl (e11_feed_B104 hw hS hd l1 l5 l6 p8 h)
set_option maxHeartbeats 4000000 in
set_option maxRecDepth 100000 in
theorem e11_feed {w : zW} {d : Nat} {n : Nat} {kd : zMK} {I : zMI} {R : zMR} {r : Int32 × zMI} {l1 : Int32} {l2 : Int32} {l3 : Int32} {l4 : Int32} {l5 : Int32} {l6 : Int32} (hw : zst w = zSt0) (hS : zSh n kd) (hd : 2 ≤ d)  (h : f11_feed l1 l2 l3 l4 l5 l6 I = some r) : EV w d 0 0 Y11_feed 0 [some (.ref 32), some (.int l1), some (.int l2), some (.int l3), some (.int l4), some (.int l5), some (.int l6)] [] (n, kd, I, R) (q11_feed n kd R r) := by
  unfold f11_feed at h
  refine ev_iload_n dX11_feed_0 rfl rfl ?_
  refine ev_iconst dX11_feed_1 (v := (1 : Int32)) zci_1 ?_
  refine ev_icmp_lt dX11_feed_2 (tgt := 48) (by decide) (fun c10 => ?_) (fun c10 => ?_)
  · replace h := zit c10 h
    refine ev_bipush dX11_feed_48 (v := (-2 : Int32)) zcb_m2 ?_
    obtain rfl := Option.some.inj h
    exact ev_end_i dX11_feed_50 rfl rfl ⟨rfl, rfl⟩
  · replace h := zif c10 h
    refine ev_iload_n dX11_feed_5 rfl rfl ?_
    refine ev_iconst dX11_feed_6 (v := (5 : Int32)) zci_5 ?_
    refine ev_icmp_gt dX11_feed_7 (tgt := 48) (by decide) (fun c11 => ?_) (fun c11 => ?_)
    · replace h := zit c11 h
      refine ev_bipush dX11_feed_48 (v := (-2 : Int32)) zcb_m2 ?_
      obtain rfl := Option.some.inj h
      exact ev_end_i dX11_feed_50 rfl rfl ⟨rfl, rfl⟩
    · replace h := zif c11 h
      refine ev_iload_n dX11_feed_10 rfl rfl ?_
      obtain ⟨p12, e13, h⟩ := zbd h
      refine ev_callS0 dX11_feed_11 zm11_noByte zl_NineHeaps_111 zs11_noByte (As := [.int l2]) (rest := []) rfl rfl (Nat.le_of_ble_eq_true rfl) rfl (Nat.le_of_ble_eq_true rfl) (d' := 1) (by omega) (e11_noByte hw hS (Nat.le_refl _) e13) (fun v μ1 q => ?_)
      obtain ⟨rfl, rfl⟩ := q
      refine ev_if_ne dX11_feed_14 (tgt := 48) (by decide) (fun c14 => ?_) (fun c14 => ?_)
      · replace h := zif c14 h
        refine ev_bipush dX11_feed_48 (v := (-2 : Int32)) zcb_m2 ?_
        obtain rfl := Option.some.inj h
        exact ev_end_i dX11_feed_50 rfl rfl ⟨rfl, rfl⟩
      · replace h := zit c14 h
        refine ev_iload_n dX11_feed_17 rfl rfl ?_
        obtain ⟨p15, e16, h⟩ := zbd h
        refine ev_callS0 dX11_feed_18 zm11_noByte zl_NineHeaps_111 zs11_noByte (As := [.int l3]) (rest := []) rfl rfl (Nat.le_of_ble_eq_true rfl) rfl (Nat.le_of_ble_eq_true rfl) (d' := 1) (by omega) (e11_noByte hw hS (Nat.le_refl _) e16) (fun v μ1 q => ?_)
        obtain ⟨rfl, rfl⟩ := q
        refine ev_if_ne dX11_feed_21 (tgt := 48) (by decide) (fun c17 => ?_) (fun c17 => ?_)
        · replace h := zif c17 h
          refine ev_bipush dX11_feed_48 (v := (-2 : Int32)) zcb_m2 ?_
          obtain rfl := Option.some.inj h
          exact ev_end_i dX11_feed_50 rfl rfl ⟨rfl, rfl⟩
        · replace h := zit c17 h
          refine ev_iload dX11_feed_24 rfl ?_
          obtain ⟨p18, e19, h⟩ := zbd h
          refine ev_callS0 dX11_feed_26 zm11_noByte zl_NineHeaps_111 zs11_noByte (As := [.int l4]) (rest := []) rfl rfl (Nat.le_of_ble_eq_true rfl) rfl (Nat.le_of_ble_eq_true rfl) (d' := 1) (by omega) (e11_noByte hw hS (Nat.le_refl _) e19) (fun v μ1 q => ?_)
          obtain ⟨rfl, rfl⟩ := q
          refine ev_if_ne dX11_feed_29 (tgt := 48) (by decide) (fun c20 => ?_) (fun c20 => ?_)
          · replace h := zif c20 h
            refine ev_bipush dX11_feed_48 (v := (-2 : Int32)) zcb_m2 ?_
            obtain rfl := Option.some.inj h
            exact ev_end_i dX11_feed_50 rfl rfl ⟨rfl, rfl⟩
          · replace h := zit c20 h
            refine ev_iload dX11_feed_32 rfl ?_
            obtain ⟨p21, e22, h⟩ := zbd h
            refine ev_callS0 dX11_feed_34 zm11_noByte zl_NineHeaps_111 zs11_noByte (As := [.int l5]) (rest := []) rfl rfl (Nat.le_of_ble_eq_true rfl) rfl (Nat.le_of_ble_eq_true rfl) (d' := 1) (by omega) (e11_noByte hw hS (Nat.le_refl _) e22) (fun v μ1 q => ?_)
            obtain ⟨rfl, rfl⟩ := q
            refine ev_if_ne dX11_feed_37 (tgt := 48) (by decide) (fun c23 => ?_) (fun c23 => ?_)
            · replace h := zif c23 h
              refine ev_bipush dX11_feed_48 (v := (-2 : Int32)) zcb_m2 ?_
              obtain rfl := Option.some.inj h
              exact ev_end_i dX11_feed_50 rfl rfl ⟨rfl, rfl⟩
            · replace h := zit c23 h
              refine ev_iload dX11_feed_40 rfl ?_
              obtain ⟨p24, e25, h⟩ := zbd h
              refine ev_callS0 dX11_feed_42 zm11_noByte zl_NineHeaps_111 zs11_noByte (As := [.int l6]) (rest := []) rfl rfl (Nat.le_of_ble_eq_true rfl) rfl (Nat.le_of_ble_eq_true rfl) (d' := 1) (by omega) (e11_noByte hw hS (Nat.le_refl _) e25) (fun v μ1 q => ?_)
              obtain ⟨rfl, rfl⟩ := q
              refine ev_if_eq dX11_feed_45 (tgt := 51) (by decide) (fun c26 => ?_) (fun c26 => ?_)
              · replace h := zit c26 h
                refine ev_iload_n dX11_feed_51 rfl rfl ?_
                refine ev_sipush dX11_feed_52 (v := (160 : Int32)) zcs_160 ?_
                refine ev_aload_n dX11_feed_55 rfl rfl ?_
                refine em_getA dX11_feed_56 zf_NineHeaps_35 rfl (hS.has 32 (by decide) (by decide) rfl) hw rfl ?_
                refine em_getI dX11_feed_59 zf_NineHeaps_100 rfl (hS.has 37 (by decide) (by decide) rfl) rfl ?_
                refine ev_isub dX11_feed_62 rfl ?_
                refine ev_icmp_le dX11_feed_63 (tgt := 69) (by decide) (fun c27 => ?_) (fun c27 => ?_)
                · replace h := zit c27 h
                  refine ev_aload_n dX11_feed_69 rfl rfl ?_
                  refine em_getA dX11_feed_70 zf_NineHeaps_35 rfl (hS.has 32 (by decide) (by decide) rfl) hw rfl ?_
                  refine ev_iload_n dX11_feed_73 rfl rfl ?_
                  obtain ⟨p28, e29, h⟩ := zbd h
                  refine ev_callV0 dX11_feed_74 zm7_add zl_NineHeaps_114 zi7_add zv7_add (zrcT hS) (As := [.int l2]) (rest := []) rfl rfl (Nat.le_of_ble_eq_true rfl) rfl (Nat.le_of_ble_eq_true rfl) (d' := 1) (by omega) (e7_add hw hS (Nat.le_refl _) e29) (fun v μ1 q => ?_)
                  obtain ⟨rfl, rfl⟩ := q
                  refine ev_iload_n dX11_feed_77 rfl rfl ?_
                  refine ev_iconst dX11_feed_78 (v := (1 : Int32)) zci_1 ?_
                  refine ev_icmp_le dX11_feed_79 (tgt := 90) (by decide) (fun c30 => ?_) (fun c30 => ?_)
                  · replace h := zit c30 h
                    exact EV.mask [true, true, false, false, true, true, true] rfl (e11_feed_B90 hw hS hd l1 l4 l5 l6 p28 h)
                  · replace h := zif c30 h
                    refine ev_aload_n dX11_feed_82 rfl rfl ?_
                    refine em_getA dX11_feed_83 zf_NineHeaps_35 rfl (hS.has 32 (by decide) (by decide) rfl) hw rfl ?_
                    refine ev_iload_n dX11_feed_86 rfl rfl ?_
                    obtain ⟨p31, e32, h⟩ := zbd h
                    refine ev_callV0 dX11_feed_87 zm7_add zl_NineHeaps_114 zi7_add zv7_add (zrcT hS) (As := [.int l3]) (rest := []) rfl rfl (Nat.le_of_ble_eq_true rfl) rfl (Nat.le_of_ble_eq_true rfl) (d' := 1) (by omega) (e7_add hw hS (Nat.le_refl _) e32) (fun v μ1 q => ?_)
                    obtain ⟨rfl, rfl⟩ := q
                    exact EV.mask [true, true, false, false, true, true, true] rfl (e11_feed_B90 hw hS hd l1 l4 l5 l6 p31 h)
                · replace h := zif c27 h
                  refine ev_bipush dX11_feed_66 (v := (-4 : Int32)) zcb_m4 ?_
                  obtain rfl := Option.some.inj h
                  exact ev_end_i dX11_feed_68 rfl rfl ⟨rfl, rfl⟩
              · replace h := zif c26 h
                refine ev_bipush dX11_feed_48 (v := (-2 : Int32)) zcb_m2 ?_
                obtain rfl := Option.some.inj h
                exact ev_end_i dX11_feed_50 rfl rfl ⟨rfl, rfl⟩
abbrev q11_force (n : Nat) (kd : zMK) (R : zMR) (r : Int32 × zMI) : Option Value → zM → Prop := fun v μ1 => v = some (.int r.1) ∧ μ1 = (n, kd, r.2, R)
set_option maxHeartbeats 4000000 in
set_option maxRecDepth 100000 in
theorem e11_force {w : zW} {d : Nat} {n : Nat} {kd : zMK} {I : zMI} {R : zMR} {r : Int32 × zMI} {l1 : Int32} (hw : zst w = zSt0) (hS : zSh n kd) (hd : 1 ≤ d)  (h : f11_force l1 I = some r) : EV w d 0 0 Y11_force 0 [some (.ref 32), some (.int l1), none] [] (n, kd, I, R) (q11_force n kd R r) := by
  unfold f11_force at h
  refine ev_iload_n dX11_force_0 rfl rfl ?_
  refine ev_if_lt dX11_force_1 (tgt := 12) (by decide) (fun c1 => ?_) (fun c1 => ?_)
  · replace h := zit c1 h
    refine ev_bipush dX11_force_12 (v := (-2 : Int32)) zcb_m2 ?_
    obtain rfl := Option.some.inj h
    exact ev_end_i dX11_force_14 rfl rfl ⟨rfl, rfl⟩
  · replace h := zif c1 h
    refine ev_iload_n dX11_force_4 rfl rfl ?_
    refine ev_aload_n dX11_force_5 rfl rfl ?_
    refine em_getI dX11_force_6 zf_NineHeaps_90 rfl (hS.has 32 (by decide) (by decide) rfl) rfl ?_
    refine ev_icmp_lt dX11_force_9 (tgt := 15) (by decide) (fun c2 => ?_) (fun c2 => ?_)
    · replace h := zit c2 h
      refine ev_aload_n dX11_force_15 rfl rfl ?_
      refine em_getI dX11_force_16 zf_NineHeaps_97 rfl (hS.has 32 (by decide) (by decide) rfl) rfl ?_
      refine ev_istore_n dX11_force_19 rfl (by decide) rfl ?_
      refine ev_aload_n dX11_force_20 rfl rfl ?_
      refine ev_iload_n dX11_force_21 rfl rfl ?_
      obtain ⟨J3, e4, h⟩ := zld h
      refine em_putI dX11_force_22 zf_NineHeaps_97 (Or.inl rfl) rfl rfl rfl (hS.has 32 (by decide) (by decide) rfl) e4 ?_
      refine ev_iload_n dX11_force_25 rfl rfl ?_
      obtain rfl := Option.some.inj h
      exact ev_end_i dX11_force_26 rfl rfl ⟨rfl, rfl⟩
    · replace h := zif c2 h
      refine ev_bipush dX11_force_12 (v := (-2 : Int32)) zcb_m2 ?_
      obtain rfl := Option.some.inj h
      exact ev_end_i dX11_force_14 rfl rfl ⟨rfl, rfl⟩
abbrev q11_walkerOf (n : Nat) (kd : zMK) (I : zMI) (R : zMR) (r : Option Nat) : Option Value → zM → Prop := fun v μ1 => v = some (va_rf r) ∧ μ1 = (n, kd, I, R)
set_option maxHeartbeats 4000000 in
set_option maxRecDepth 100000 in
theorem e11_walkerOf {w : zW} {d : Nat} {n : Nat} {kd : zMK} {I : zMI} {R : zMR} {r : Option Nat} {l1 : Int32} (hw : zst w = zSt0) (hS : zSh n kd) (hd : 1 ≤ d)  (h : f11_walkerOf I R l1 = some r) : EV w d 0 0 Y11_walkerOf 0 [some (.ref 32), some (.int l1)] [] (n, kd, I, R) (q11_walkerOf n kd I R r) := by
  unfold f11_walkerOf at h
  refine ev_iload_n dX11_walkerOf_0 rfl rfl ?_
  refine ev_if_lt dX11_walkerOf_1 (tgt := 26) (by decide) (fun c1 => ?_) (fun c1 => ?_)
  · replace h := zit c1 h
    refine ev_null dX11_walkerOf_26 ?_
    obtain rfl := Option.some.inj h
    exact ev_end_n dX11_walkerOf_27 rfl (Or.inl ⟨_, rfl⟩) ⟨rfl, rfl⟩
  · replace h := zif c1 h
    refine ev_iload_n dX11_walkerOf_4 rfl rfl ?_
    refine ev_aload_n dX11_walkerOf_5 rfl rfl ?_
    refine em_getI dX11_walkerOf_6 zf_NineHeaps_94 rfl (hS.has 32 (by decide) (by decide) rfl) rfl ?_
    refine ev_icmp_ge dX11_walkerOf_9 (tgt := 26) (by decide) (fun c2 => ?_) (fun c2 => ?_)
    · replace h := zit c2 h
      refine ev_null dX11_walkerOf_26 ?_
      obtain rfl := Option.some.inj h
      exact ev_end_n dX11_walkerOf_27 rfl (Or.inl ⟨_, rfl⟩) ⟨rfl, rfl⟩
    · replace h := zif c2 h
      refine ev_iload_n dX11_walkerOf_12 rfl rfl ?_
      refine ev_iconst dX11_walkerOf_13 (v := (5 : Int32)) zci_5 ?_
      refine ev_icmp_ge dX11_walkerOf_14 (tgt := 26) (by decide) (fun c3 => ?_) (fun c3 => ?_)
      · replace h := zit c3 h
        refine ev_null dX11_walkerOf_26 ?_
        obtain rfl := Option.some.inj h
        exact ev_end_n dX11_walkerOf_27 rfl (Or.inl ⟨_, rfl⟩) ⟨rfl, rfl⟩
      · replace h := zif c3 h
        refine ev_aload_n dX11_walkerOf_17 rfl rfl ?_
        refine em_getA dX11_walkerOf_18 zf_NineHeaps_22 rfl (hS.has 32 (by decide) (by decide) rfl) hw rfl ?_
        refine ev_iload_n dX11_walkerOf_21 rfl rfl ?_
        obtain ⟨g4, h⟩ := zgd h
        refine em_aaldO dX11_walkerOf_22 hS (by decide) (by decide) (N := 5) rfl (by decide) (by decide) hw (fun _ => rfl) g4 rfl ?_
        refine ev_goto dX11_walkerOf_23 (tgt := 27) (by decide) ?_
        obtain rfl := Option.some.inj h
        exact ev_end_o dX11_walkerOf_27 rfl (Or.inl ⟨_, rfl⟩) ⟨rfl, rfl⟩
abbrev q11_told (n : Nat) (kd : zMK) (I : zMI) (R : zMR) (r : Int32) : Option Value → zM → Prop := fun v μ1 => v = some (.int r) ∧ μ1 = (n, kd, I, R)
set_option maxHeartbeats 4000000 in
set_option maxRecDepth 100000 in
theorem e11_told {w : zW} {d : Nat} {n : Nat} {kd : zMK} {I : zMI} {R : zMR} {r : Int32} {l1 : Int32} {l2 : Int32} (hw : zst w = zSt0) (hS : zSh n kd) (hd : 4 ≤ d)  (h : f11_told n kd I R l1 l2 = some r) : EV w d 0 0 Y11_told 0 [some (.ref 32), some (.int l1), some (.int l2), none] [] (n, kd, I, R) (q11_told n kd I R r) := by
  unfold f11_told at h
  refine ev_aload_n dX11_told_0 rfl rfl ?_
  refine ev_iload_n dX11_told_1 rfl rfl ?_
  obtain ⟨p1, e2, h⟩ := zbd h
  refine ev_callV0 dX11_told_2 zm11_walkerOf zl_NineHeaps_135 zi11_walkerOf zv11_walkerOf (zrcX hS) (As := [.int l1]) (rest := []) rfl rfl (Nat.le_of_ble_eq_true rfl) rfl (Nat.le_of_ble_eq_true rfl) (d' := 1) (by omega) (e11_walkerOf hw hS (Nat.le_refl _) e2) (fun v μ1 q => ?_)
  obtain ⟨rfl, rfl⟩ := q
  refine ev_astore_no dX11_told_5 rfl (by decide) rfl ?_
  refine ev_aload_no dX11_told_6 rfl rfl ?_
  refine ev_ifnonnull_o dX11_told_7 (tgt := 13) (by decide) (fun a3 o4 => ?_) (fun o4 => ?_)
  · replace h := zms o4 h
    refine ev_iload_n dX11_told_13 rfl rfl ?_
    by_cases c5 : l2 = (0 : Int32)
    · replace h := zit c5 h
      refine ev_tableIn dX11_told_14 (by rw [c5]; decide) (by rw [c5]; decide) (off := 30) (by rw [c5]; rfl) (tgt := 44) (by decide) ?_
      first | refine ev_aload_nk dX11_told_44 rfl o4 rfl ?_ | refine ev_aload_nk dX11_told_44 rfl rfl rfl ?_
      obtain ⟨g6, h⟩ := zgd h
      obtain ⟨cg6, wg6, yg6⟩ := zWkB_hasR hS g6
      obtain ⟨p7, e8, h⟩ := zbd h
      refine ec_kind dX11_told_45 zl_NineHeaps_154 hw hS g6 e8 (by omega) (rest := []) (Nat.le_of_ble_eq_true rfl) ?_
      obtain rfl := Option.some.inj h
      exact ev_end_i dX11_told_48 rfl rfl ⟨rfl, rfl⟩
    · replace h := zif c5 h
      by_cases c9 : l2 = (1 : Int32)
      · replace h := zit c9 h
        refine ev_tableIn dX11_told_14 (by rw [c9]; decide) (by rw [c9]; decide) (off := 35) (by rw [c9]; rfl) (tgt := 49) (by decide) ?_
        first | refine ev_aload_nk dX11_told_49 rfl o4 rfl ?_ | refine ev_aload_nk dX11_told_49 rfl rfl rfl ?_
        obtain ⟨g10, h⟩ := zgd h
        obtain ⟨cg10, wg10, yg10⟩ := zWkB_hasR hS g10
        refine em_getI dX11_told_50 (zf_NineHeaps_157 wg10) (by rcases wg10 with rfl | rfl | rfl | rfl | rfl | rfl <;> rfl) yg10 rfl ?_
        obtain rfl := Option.some.inj h
        exact ev_end_i dX11_told_53 rfl rfl ⟨rfl, rfl⟩
      · replace h := zif c9 h
        by_cases c11 : l2 = (2 : Int32)
        · replace h := zit c11 h
          refine ev_tableIn dX11_told_14 (by rw [c11]; decide) (by rw [c11]; decide) (off := 40) (by rw [c11]; rfl) (tgt := 54) (by decide) ?_
          first | refine ev_aload_nk dX11_told_54 rfl o4 rfl ?_ | refine ev_aload_nk dX11_told_54 rfl rfl rfl ?_
          obtain ⟨g12, h⟩ := zgd h
          obtain ⟨cg12, wg12, yg12⟩ := zWkB_hasR hS g12
          refine em_getI dX11_told_55 (zf_NineHeaps_151 wg12) (by rcases wg12 with rfl | rfl | rfl | rfl | rfl | rfl <;> rfl) yg12 rfl ?_
          obtain rfl := Option.some.inj h
          exact ev_end_i dX11_told_58 rfl rfl ⟨rfl, rfl⟩
        · replace h := zif c11 h
          by_cases c13 : l2 = (3 : Int32)
          · replace h := zit c13 h
            refine ev_tableIn dX11_told_14 (by rw [c13]; decide) (by rw [c13]; decide) (off := 45) (by rw [c13]; rfl) (tgt := 59) (by decide) ?_
            first | refine ev_aload_nk dX11_told_59 rfl o4 rfl ?_ | refine ev_aload_nk dX11_told_59 rfl rfl rfl ?_
            obtain ⟨g14, h⟩ := zgd h
            obtain ⟨cg14, wg14, yg14⟩ := zWkB_hasR hS g14
            obtain ⟨p15, e16, h⟩ := zbd h
            refine ec_waits dX11_told_60 zl_NineHeaps_160 hw hS g14 e16 (by omega) (rest := []) (Nat.le_of_ble_eq_true rfl) ?_
            obtain ⟨x18, e19, h⟩ := zld h
            have k20 : EV w d 0 0 Y11_told 71 [some (.ref 32), some (.int l1), some (.int l2), some (va_rf p1)] [.int x18] (n, kd, I, R) (q11_told n kd I R r) := by
              obtain rfl := Option.some.inj h
              exact ev_end_i dX11_told_71 rfl rfl ⟨rfl, rfl⟩
            clear h
            have h := e19
            clear e19
            refine ev_if_eq dX11_told_63 (tgt := 70) (by decide) (fun c17 => ?_) (fun c17 => ?_)
            · replace h := zit c17 h
              refine ev_iconst dX11_told_70 (v := (0 : Int32)) zci_0 ?_
              obtain rfl := h
              exact k20
            · replace h := zif c17 h
              refine ev_iconst dX11_told_66 (v := (1 : Int32)) zci_1 ?_
              refine ev_goto dX11_told_67 (tgt := 71) (by decide) ?_
              obtain rfl := h
              exact k20
          · replace h := zif c13 h
            refine ev_tableD dX11_told_14 ?_ (tgt := 72) (by decide) ?_
            · have q0 := lv_neT c5 (a := 0) (by decide)
              have q1 := lv_neT c9 (a := 1) (by decide)
              have q2 := lv_neT c11 (a := 2) (by decide)
              have q3 := lv_neT c13 (a := 3) (by decide)
              rcases (show l2.toInt < 0 ∨ 3 < l2.toInt by omega) with q | q
              · exact Or.inl q
              · exact Or.inr (Or.inl q)
            refine ev_bipush dX11_told_72 (v := (-7 : Int32)) zcb_m7 ?_
            obtain rfl := Option.some.inj h
            exact ev_end_i dX11_told_74 rfl rfl ⟨rfl, rfl⟩
  · replace h := zmn o4 h
    refine ev_bipush dX11_told_10 (v := (-5 : Int32)) zcb_m5 ?_
    obtain rfl := Option.some.inj h
    exact ev_end_i dX11_told_12 rfl rfl ⟨rfl, rfl⟩
abbrev q11_noSeconds (n : Nat) (kd : zMK) (I : zMI) (R : zMR) (r : Int32) : Option Value → zM → Prop := fun v μ1 => v = some (.int r) ∧ μ1 = (n, kd, I, R)
set_option maxHeartbeats 4000000 in
set_option maxRecDepth 100000 in
theorem e11_noSeconds {w : zW} {d : Nat} {n : Nat} {kd : zMK} {I : zMI} {R : zMR} {r : Int32} {l0 : Int32} (hw : zst w = zSt0) (hS : zSh n kd) (hd : 1 ≤ d)  (h : f11_noSeconds l0 = some r) : EV w d 0 0 Y11_noSeconds 0 [some (.int l0)] [] (n, kd, I, R) (q11_noSeconds n kd I R r) := by
  unfold f11_noSeconds at h
  refine ev_iload_n dX11_noSeconds_0 rfl rfl ?_
  obtain ⟨x3, e4, h⟩ := zld h
  have k6 : EV w d 0 0 Y11_noSeconds 16 [some (.int l0)] [.int x3] (n, kd, I, R) (q11_noSeconds n kd I R r) := by
    obtain ⟨g5, h⟩ := zgd h
    obtain rfl := Option.some.inj h
    exact ev_end_i dX11_noSeconds_16 rfl (zbB_n g5) ⟨rfl, rfl⟩
  clear h
  have h := e4
  clear e4
  refine ev_if_lt dX11_noSeconds_1 (tgt := 11) (by decide) (fun c1 => ?_) (fun c1 => ?_)
  · replace h := zit c1 h
    refine ev_iconst dX11_noSeconds_11 (v := (1 : Int32)) zci_1 ?_
    refine ev_goto dX11_noSeconds_12 (tgt := 16) (by decide) ?_
    obtain rfl := h
    exact k6
  · replace h := zif c1 h
    refine ev_iload_n dX11_noSeconds_4 rfl rfl ?_
    refine ev_sipush dX11_noSeconds_5 (v := (600 : Int32)) zcs_600 ?_
    refine ev_icmp_le dX11_noSeconds_8 (tgt := 15) (by decide) (fun c2 => ?_) (fun c2 => ?_)
    · replace h := zit c2 h
      refine ev_iconst dX11_noSeconds_15 (v := (0 : Int32)) zci_0 ?_
      obtain rfl := h
      exact k6
    · replace h := zif c2 h
      refine ev_iconst dX11_noSeconds_11 (v := (1 : Int32)) zci_1 ?_
      refine ev_goto dX11_noSeconds_12 (tgt := 16) (by decide) ?_
      obtain rfl := h
      exact k6
abbrev q11_textOf (n : Nat) (kd : zMK) (I : zMI) (R : zMR) (r : Option Nat) : Option Value → zM → Prop := fun v μ1 => v = some (va_rf r) ∧ μ1 = (n, kd, I, R)
set_option maxHeartbeats 4000000 in
set_option maxRecDepth 100000 in
theorem e11_textOf {w : zW} {d : Nat} {n : Nat} {kd : zMK} {I : zMI} {R : zMR} {r : Option Nat} {l1 : Int32} (hw : zst w = zSt0) (hS : zSh n kd) (hd : 1 ≤ d)  (h : f11_textOf I R l1 = some r) : EV w d 0 0 Y11_textOf 0 [some (.ref 32), some (.int l1)] [] (n, kd, I, R) (q11_textOf n kd I R r) := by
  unfold f11_textOf at h
  refine ev_iload_n dX11_textOf_0 rfl rfl ?_
  refine ev_if_lt dX11_textOf_1 (tgt := 27) (by decide) (fun c1 => ?_) (fun c1 => ?_)
  · replace h := zit c1 h
    refine ev_null dX11_textOf_27 ?_
    obtain rfl := Option.some.inj h
    exact ev_end_n dX11_textOf_28 rfl (Or.inl ⟨_, rfl⟩) ⟨rfl, rfl⟩
  · replace h := zif c1 h
    refine ev_iload_n dX11_textOf_4 rfl rfl ?_
    refine ev_aload_n dX11_textOf_5 rfl rfl ?_
    refine em_getI dX11_textOf_6 zf_NineHeaps_90 rfl (hS.has 32 (by decide) (by decide) rfl) rfl ?_
    refine ev_icmp_ge dX11_textOf_9 (tgt := 27) (by decide) (fun c2 => ?_) (fun c2 => ?_)
    · replace h := zit c2 h
      refine ev_null dX11_textOf_27 ?_
      obtain rfl := Option.some.inj h
      exact ev_end_n dX11_textOf_28 rfl (Or.inl ⟨_, rfl⟩) ⟨rfl, rfl⟩
    · replace h := zif c2 h
      refine ev_iload_n dX11_textOf_12 rfl rfl ?_
      refine ev_bipush dX11_textOf_13 (v := (6 : Int32)) zcb_6 ?_
      refine ev_icmp_ge dX11_textOf_15 (tgt := 27) (by decide) (fun c3 => ?_) (fun c3 => ?_)
      · replace h := zit c3 h
        refine ev_null dX11_textOf_27 ?_
        obtain rfl := Option.some.inj h
        exact ev_end_n dX11_textOf_28 rfl (Or.inl ⟨_, rfl⟩) ⟨rfl, rfl⟩
      · replace h := zif c3 h
        refine ev_aload_n dX11_textOf_18 rfl rfl ?_
        refine em_getA dX11_textOf_19 zf_NineHeaps_28 rfl (hS.has 32 (by decide) (by decide) rfl) hw rfl ?_
        refine ev_iload_n dX11_textOf_22 rfl rfl ?_
        obtain ⟨g4, h⟩ := zgd h
        refine em_aaldO dX11_textOf_23 hS (by decide) (by decide) (N := 6) rfl (by decide) (by decide) hw (fun _ => rfl) g4 rfl ?_
        refine ev_goto dX11_textOf_24 (tgt := 28) (by decide) ?_
        obtain rfl := Option.some.inj h
        exact ev_end_o dX11_textOf_28 rfl (Or.inl ⟨_, rfl⟩) ⟨rfl, rfl⟩
abbrev q11_layHeaps (n : Nat) (kd : zMK) (r : zMI × zMR) : Option Value → zM → Prop := fun v μ1 => v = none ∧ μ1 = (n, kd, r.1, r.2)
set_option maxHeartbeats 4000000 in
set_option maxRecDepth 100000 in
theorem e11_layHeaps {w : zW} {d : Nat} {n : Nat} {kd : zMK} {I : zMI} {R : zMR} {r : zMI × zMR}  (hw : zst w = zSt0) (hS : zSh n kd) (hd : 3 ≤ d)  (h : f11_layHeaps n kd I R = some r) : EV w d 0 0 Y11_layHeaps 0 [some (.ref 32)] [] (n, kd, I, R) (q11_layHeaps n kd r) := by
  unfold f11_layHeaps at h
  refine ev_aload_n dX11_layHeaps_0 rfl rfl ?_
  refine em_getA dX11_layHeaps_1 zf_NineHeaps_48 rfl (hS.has 32 (by decide) (by decide) rfl) hw rfl ?_
  refine ev_aload_n dX11_layHeaps_4 rfl rfl ?_
  refine em_getA dX11_layHeaps_5 zf_NineHeaps_9 rfl (hS.has 32 (by decide) (by decide) rfl) hw rfl ?_
  refine ev_aload_n dX11_layHeaps_8 rfl rfl ?_
  refine em_getA dX11_layHeaps_9 zf_NineHeaps_13 rfl (hS.has 32 (by decide) (by decide) rfl) hw rfl ?_
  refine ev_aload_n dX11_layHeaps_12 rfl rfl ?_
  refine ev_aload_n dX11_layHeaps_13 rfl rfl ?_
  refine em_getI dX11_layHeaps_14 zf_NineHeaps_97 rfl (hS.has 32 (by decide) (by decide) rfl) rfl ?_
  obtain ⟨p1, e2, h⟩ := zbd h
  refine ev_callV0 dX11_layHeaps_17 zm11_textOf zl_NineHeaps_139 zi11_textOf zv11_textOf (zrcX hS) (As := [.int (I 32 7)]) (rest := [.ref 34, .ref 33, .ref 42]) rfl rfl (Nat.le_of_ble_eq_true rfl) rfl (Nat.le_of_ble_eq_true rfl) (d' := 1) (by omega) (e11_textOf hw hS (Nat.le_refl _) e2) (fun v μ1 q => ?_)
  obtain ⟨rfl, rfl⟩ := q
  refine ev_aload_n dX11_layHeaps_20 rfl rfl ?_
  refine em_getI dX11_layHeaps_21 zf_NineHeaps_16 rfl (hS.has 32 (by decide) (by decide) rfl) rfl ?_
  refine ev_aload_n dX11_layHeaps_24 rfl rfl ?_
  refine em_getI dX11_layHeaps_25 zf_NineHeaps_94 rfl (hS.has 32 (by decide) (by decide) rfl) rfl ?_
  obtain ⟨p3, e4, h⟩ := zbd h
  refine ev_callV0 dX11_layHeaps_28 zm0_lay zl_NineHeaps_360 zi0_lay zv0_lay (zrcG hS) (As := [.ref 33, .ref 34, va_rf p1, .int (I 32 2), .int (I 32 4)]) (rest := []) rfl rfl (Nat.le_of_ble_eq_true rfl) (by cases p1 <;> rfl) (by cases p1 <;> exact Nat.le_of_ble_eq_true rfl) (d' := 2) (by omega) (e0_lay hw hS (Nat.le_refl _) e4) (fun v μ1 q => ?_)
  obtain ⟨rfl, rfl⟩ := q
  obtain rfl := Option.some.inj h
  exact ev_end_v dX11_layHeaps_31 rfl ⟨rfl, rfl⟩
abbrev q11_layWithout (n : Nat) (kd : zMK) (r : zMI × zMR) : Option Value → zM → Prop := fun v μ1 => v = none ∧ μ1 = (n, kd, r.1, r.2)
set_option maxHeartbeats 4000000 in
set_option maxRecDepth 100000 in
theorem e11_layWithout_B31 {w : zW} {d : Nat} {n : Nat} {kd : zMK} {r : zMI × zMR} {k6 : Int32 → Int32 → zMI → zMR → Option (zMI × zMR)} (hw : zst w = zSt0) (hS : zSh n kd) (hd : 5 ≤ d)  (hk6 : ∀ (l1 : Int32) (l2 : Int32) (I : zMI) (R : zMR), k6 l1 l2 I R = some r → EV w d 0 0 Y11_layWithout 6 [some (.ref 32), some (.int l1), some (.int l2)] [] (n, kd, I, R) (q11_layWithout n kd r)) : ∀ (l1 : Int32) (l2 : Int32) (I : zMI) (R : zMR), f11_layWithout_B31 n kd k6 l1 l2 I R = some r → EV w d 0 0 Y11_layWithout 31 [some (.ref 32), some (.int l1), some (.int l2)] [] (n, kd, I, R) (q11_layWithout n kd r) := by
  intro l1 l2 I R h
  unfold f11_layWithout_B31 at h
  refine ev_iinc dX11_layWithout_31 (v := l2 + (1 : Int32)) rfl rfl (by decide) rfl ?_
  refine ev_goto dX11_layWithout_34 (tgt := 6) (by decide) ?_
  exact EV.mask [true, true, true] rfl (hk6 l1 (l2 + (1 : Int32)) I R h)
set_option maxHeartbeats 4000000 in
set_option maxRecDepth 100000 in
theorem e11_layWithout_L6 {w : zW} {d : Nat} {n : Nat} {kd : zMK} {r : zMI × zMR}  (hw : zst w = zSt0) (hS : zSh n kd) (hd : 5 ≤ d)   : ∀ (q : Nat) (l1 : Int32) (l2 : Int32) (I : zMI) (R : zMR), f11_layWithout_L6 n kd q l1 l2 I R = some r → EV w d 0 0 Y11_layWithout 6 [some (.ref 32), some (.int l1), some (.int l2)] [] (n, kd, I, R) (q11_layWithout n kd r) := by
  intro q
  induction q with
  | zero =>
    intro l1 l2 I R h
    cases h
  | succ q ih =>
    intro l1 l2 I R h
    unfold f11_layWithout_L6 at h
    refine ev_iload_n dX11_layWithout_6 rfl rfl ?_
    refine ev_aload_n dX11_layWithout_7 rfl rfl ?_
    refine em_getI dX11_layWithout_8 zf_NineHeaps_94 rfl (hS.has 32 (by decide) (by decide) rfl) rfl ?_
    refine ev_icmp_ge dX11_layWithout_11 (tgt := 37) (by decide) (fun c1 => ?_) (fun c1 => ?_)
    · replace h := zit c1 h
      obtain rfl := Option.some.inj h
      exact ev_end_v dX11_layWithout_37 rfl ⟨rfl, rfl⟩
    · replace h := zif c1 h
      refine ev_iload_n dX11_layWithout_14 rfl rfl ?_
      refine ev_iload_n dX11_layWithout_15 rfl rfl ?_
      refine ev_icmp_eq dX11_layWithout_16 (tgt := 31) (by decide) (fun c2 => ?_) (fun c2 => ?_)
      · replace h := zit c2 h
        exact EV.mask [true, true, true] rfl (e11_layWithout_B31 hw hS hd (fun l1' l2' I' R' h' => ih l1' l2' I' R' h') l1 l2 I R h)
      · replace h := zif c2 h
        refine ev_aload_n dX11_layWithout_19 rfl rfl ?_
        refine em_getA dX11_layWithout_20 zf_NineHeaps_48 rfl (hS.has 32 (by decide) (by decide) rfl) hw rfl ?_
        refine ev_aload_n dX11_layWithout_23 rfl rfl ?_
        refine ev_iload_n dX11_layWithout_24 rfl rfl ?_
        obtain ⟨p3, e4, h⟩ := zbd h
        refine ev_callV0 dX11_layWithout_25 zm11_walkerOf zl_NineHeaps_135 zi11_walkerOf zv11_walkerOf (zrcX hS) (As := [.int l2]) (rest := [.ref 42]) rfl rfl (Nat.le_of_ble_eq_true rfl) rfl (Nat.le_of_ble_eq_true rfl) (d' := 1) (by omega) (e11_walkerOf hw hS (Nat.le_refl _) e4) (fun v μ1 q => ?_)
        obtain ⟨rfl, rfl⟩ := q
        obtain ⟨p5, e6, h⟩ := zbd h
        refine ev_callV0 dX11_layWithout_28 zm0_join zl_NineHeaps_246 zi0_join zv0_join (zrcG hS) (As := [va_rf p3]) (rest := []) rfl rfl (Nat.le_of_ble_eq_true rfl) (by cases p3 <;> rfl) (by cases p3 <;> exact Nat.le_of_ble_eq_true rfl) (d' := 4) (by omega) (e0_join hw hS (Nat.le_refl _) e6) (fun v μ1 q => ?_)
        obtain ⟨rfl, rfl⟩ := q
        exact EV.mask [true, true, true] rfl (e11_layWithout_B31 hw hS hd (fun l1' l2' I' R' h' => ih l1' l2' I' R' h') l1 l2 p5.1 p5.2 h)
set_option maxHeartbeats 4000000 in
set_option maxRecDepth 100000 in
theorem e11_layWithout {w : zW} {d : Nat} {n : Nat} {kd : zMK} {I : zMI} {R : zMR} {r : zMI × zMR} {l1 : Int32} (hw : zst w = zSt0) (hS : zSh n kd) (hd : 5 ≤ d)  (h : f11_layWithout n kd l1 I R = some r) : EV w d 0 0 Y11_layWithout 0 [some (.ref 32), some (.int l1), none] [] (n, kd, I, R) (q11_layWithout n kd r) := by
  unfold f11_layWithout at h
  refine ev_aload_n dX11_layWithout_0 rfl rfl ?_
  obtain ⟨p7, e8, h⟩ := zbd h
  refine ev_callV0 dX11_layWithout_1 zm11_layHeaps zl_NineHeaps_243 zi11_layHeaps zv11_layHeaps (zrcX hS) (As := []) (rest := []) rfl rfl (Nat.le_of_ble_eq_true rfl) rfl (Nat.le_of_ble_eq_true rfl) (d' := 3) (by omega) (e11_layHeaps hw hS (Nat.le_refl _) e8) (fun v μ1 q => ?_)
  obtain ⟨rfl, rfl⟩ := q
  refine ev_iconst dX11_layWithout_4 (v := (0 : Int32)) zci_0 ?_
  refine ev_istore_n dX11_layWithout_5 rfl (by decide) rfl ?_
  exact EV.mask [true, true, true] rfl (e11_layWithout_L6 hw hS hd zF l1 (0 : Int32) p7.1 p7.2 h)
abbrev q11_layPlain (n : Nat) (kd : zMK) (r : zMI × zMR) : Option Value → zM → Prop := fun v μ1 => v = none ∧ μ1 = (n, kd, r.1, r.2)
set_option maxHeartbeats 4000000 in
set_option maxRecDepth 100000 in
theorem e11_layPlain {w : zW} {d : Nat} {n : Nat} {kd : zMK} {I : zMI} {R : zMR} {r : zMI × zMR}  (hw : zst w = zSt0) (hS : zSh n kd) (hd : 6 ≤ d)  (h : f11_layPlain n kd I R = some r) : EV w d 0 0 Y11_layPlain 0 [some (.ref 32)] [] (n, kd, I, R) (q11_layPlain n kd r) := by
  unfold f11_layPlain at h
  refine ev_aload_n dX11_layPlain_0 rfl rfl ?_
  refine ev_iconst dX11_layPlain_1 (v := (-1 : Int32)) zci_m1 ?_
  obtain ⟨p1, e2, h⟩ := zbd h
  refine ev_callV0 dX11_layPlain_2 zm11_layWithout zl_NineHeaps_236 zi11_layWithout zv11_layWithout (zrcX hS) (As := [.int (-1 : Int32)]) (rest := []) rfl rfl (Nat.le_of_ble_eq_true rfl) rfl (Nat.le_of_ble_eq_true rfl) (d' := 5) (by omega) (e11_layWithout hw hS (Nat.le_refl _) e2) (fun v μ1 q => ?_)
  obtain ⟨rfl, rfl⟩ := q
  obtain rfl := Option.some.inj h
  exact ev_end_v dX11_layPlain_5 rfl ⟨rfl, rfl⟩
abbrev q11_run (n : Nat) (kd : zMK) (r : Int32 × zMI × zMR) : Option Value → zM → Prop := fun v μ1 => v = some (.int r.1) ∧ μ1 = (n, kd, r.2.1, r.2.2)
set_option maxHeartbeats 4000000 in
set_option maxRecDepth 100000 in
theorem e11_run {w : zW} {d : Nat} {n : Nat} {kd : zMK} {I : zMI} {R : zMR} {r : Int32 × zMI × zMR} {l1 : Int32} {l2 : Int32} (hw : zst w = zSt0) (hS : zSh n kd) (hd : 8 ≤ d)  (h : f11_run n kd l1 l2 I R = some r) : EV w d 0 0 Y11_run 0 [some (.ref 32), some (.int l1), some (.int l2)] [] (n, kd, I, R) (q11_run n kd r) := by
  unfold f11_run at h
  refine ev_iload_n dX11_run_0 rfl rfl ?_
  obtain ⟨p1, e2, h⟩ := zbd h
  refine ev_callS0 dX11_run_1 zm11_noSeconds zl_NineHeaps_164 zs11_noSeconds (As := [.int l1]) (rest := []) rfl rfl (Nat.le_of_ble_eq_true rfl) rfl (Nat.le_of_ble_eq_true rfl) (d' := 1) (by omega) (e11_noSeconds hw hS (Nat.le_refl _) e2) (fun v μ1 q => ?_)
  obtain ⟨rfl, rfl⟩ := q
  refine ev_if_ne dX11_run_4 (tgt := 16) (by decide) (fun c3 => ?_) (fun c3 => ?_)
  · replace h := zif c3 h
    refine ev_bipush dX11_run_16 (v := (-2 : Int32)) zcb_m2 ?_
    obtain rfl := Option.some.inj h
    exact ev_end_i dX11_run_18 rfl rfl ⟨rfl, rfl⟩
  · replace h := zit c3 h
    refine ev_iload_n dX11_run_7 rfl rfl ?_
    refine ev_if_lt dX11_run_8 (tgt := 16) (by decide) (fun c4 => ?_) (fun c4 => ?_)
    · replace h := zit c4 h
      refine ev_bipush dX11_run_16 (v := (-2 : Int32)) zcb_m2 ?_
      obtain rfl := Option.some.inj h
      exact ev_end_i dX11_run_18 rfl rfl ⟨rfl, rfl⟩
    · replace h := zif c4 h
      refine ev_iload_n dX11_run_11 rfl rfl ?_
      refine ev_iconst dX11_run_12 (v := (4 : Int32)) zci_4 ?_
      refine ev_icmp_le dX11_run_13 (tgt := 19) (by decide) (fun c5 => ?_) (fun c5 => ?_)
      · replace h := zit c5 h
        refine ev_aload_n dX11_run_19 rfl rfl ?_
        obtain ⟨p6, e7, h⟩ := zbd h
        refine ev_callV0 dX11_run_20 zm11_layPlain zl_NineHeaps_167 zi11_layPlain zv11_layPlain (zrcX hS) (As := []) (rest := []) rfl rfl (Nat.le_of_ble_eq_true rfl) rfl (Nat.le_of_ble_eq_true rfl) (d' := 6) (by omega) (e11_layPlain hw hS (Nat.le_refl _) e7) (fun v μ1 q => ?_)
        obtain ⟨rfl, rfl⟩ := q
        refine ev_aload_n dX11_run_23 rfl rfl ?_
        refine em_getA dX11_run_24 zf_NineHeaps_48 rfl (hS.has 32 (by decide) (by decide) rfl) hw rfl ?_
        refine ev_iload_n dX11_run_27 rfl rfl ?_
        obtain ⟨p8, e9, h⟩ := zbd h
        refine ev_callV0 dX11_run_28 zm0_pass zl_NineHeaps_170 zi0_pass zv0_pass (zrcG hS) (As := [.int l1]) (rest := []) rfl rfl (Nat.le_of_ble_eq_true rfl) rfl (Nat.le_of_ble_eq_true rfl) (d' := 7) (by omega) (e0_pass hw hS (Nat.le_refl _) e9) (fun v μ1 q => ?_)
        obtain ⟨rfl, rfl⟩ := q
        refine ev_iload_n dX11_run_31 rfl rfl ?_
        by_cases c10 : l2 = (0 : Int32)
        · replace h := zit c10 h
          refine ev_tableIn dX11_run_32 (by rw [c10]; decide) (by rw [c10]; decide) (off := 32) (by rw [c10]; rfl) (tgt := 64) (by decide) ?_
          refine ev_aload_n dX11_run_64 rfl rfl ?_
          refine em_getA dX11_run_65 zf_NineHeaps_48 rfl (hS.has 32 (by decide) (by decide) rfl) hw rfl ?_
          refine em_getI dX11_run_68 zf_NineHeaps_173 rfl (hS.has 42 (by decide) (by decide) rfl) rfl ?_
          obtain rfl := Option.some.inj h
          exact ev_end_i dX11_run_71 rfl rfl ⟨rfl, rfl⟩
        · replace h := zif c10 h
          by_cases c11 : l2 = (1 : Int32)
          · replace h := zit c11 h
            refine ev_tableIn dX11_run_32 (by rw [c11]; decide) (by rw [c11]; decide) (off := 40) (by rw [c11]; rfl) (tgt := 72) (by decide) ?_
            refine ev_aload_n dX11_run_72 rfl rfl ?_
            refine em_getA dX11_run_73 zf_NineHeaps_48 rfl (hS.has 32 (by decide) (by decide) rfl) hw rfl ?_
            refine em_getI dX11_run_76 zf_NineHeaps_176 rfl (hS.has 42 (by decide) (by decide) rfl) rfl ?_
            obtain rfl := Option.some.inj h
            exact ev_end_i dX11_run_79 rfl rfl ⟨rfl, rfl⟩
          · replace h := zif c11 h
            by_cases c12 : l2 = (2 : Int32)
            · replace h := zit c12 h
              refine ev_tableIn dX11_run_32 (by rw [c12]; decide) (by rw [c12]; decide) (off := 48) (by rw [c12]; rfl) (tgt := 80) (by decide) ?_
              refine ev_aload_n dX11_run_80 rfl rfl ?_
              refine em_getA dX11_run_81 zf_NineHeaps_48 rfl (hS.has 32 (by decide) (by decide) rfl) hw rfl ?_
              refine em_getI dX11_run_84 zf_NineHeaps_179 rfl (hS.has 42 (by decide) (by decide) rfl) rfl ?_
              obtain rfl := Option.some.inj h
              exact ev_end_i dX11_run_87 rfl rfl ⟨rfl, rfl⟩
            · replace h := zif c12 h
              by_cases c13 : l2 = (3 : Int32)
              · replace h := zit c13 h
                refine ev_tableIn dX11_run_32 (by rw [c13]; decide) (by rw [c13]; decide) (off := 56) (by rw [c13]; rfl) (tgt := 88) (by decide) ?_
                refine ev_aload_n dX11_run_88 rfl rfl ?_
                refine em_getA dX11_run_89 zf_NineHeaps_48 rfl (hS.has 32 (by decide) (by decide) rfl) hw rfl ?_
                obtain ⟨p14, e15, h⟩ := zbd h
                refine ev_callV0 dX11_run_92 zm0_badness zl_NineHeaps_182 zi0_badness zv0_badness (zrcG hS) (As := []) (rest := []) rfl rfl (Nat.le_of_ble_eq_true rfl) rfl (Nat.le_of_ble_eq_true rfl) (d' := 4) (by omega) (e0_badness hw hS (Nat.le_refl _) e15) (fun v μ1 q => ?_)
                obtain ⟨rfl, rfl⟩ := q
                obtain rfl := Option.some.inj h
                exact ev_end_i dX11_run_95 rfl rfl ⟨rfl, rfl⟩
              · replace h := zif c13 h
                refine ev_tableD dX11_run_32 ?_ (tgt := 96) (by decide) ?_
                · have q0 := lv_neT c10 (a := 0) (by decide)
                  have q1 := lv_neT c11 (a := 1) (by decide)
                  have q2 := lv_neT c12 (a := 2) (by decide)
                  have q3 := lv_neT c13 (a := 3) (by decide)
                  rcases (show l2.toInt < 0 ∨ 3 < l2.toInt by omega) with q | q
                  · exact Or.inl q
                  · exact Or.inr (Or.inl q)
                refine ev_aload_n dX11_run_96 rfl rfl ?_
                refine em_getA dX11_run_97 zf_NineHeaps_48 rfl (hS.has 32 (by decide) (by decide) rfl) hw rfl ?_
                refine em_getI dX11_run_100 zf_NineHeaps_185 rfl (hS.has 42 (by decide) (by decide) rfl) rfl ?_
                obtain rfl := Option.some.inj h
                exact ev_end_i dX11_run_103 rfl rfl ⟨rfl, rfl⟩
      · replace h := zif c5 h
        refine ev_bipush dX11_run_16 (v := (-2 : Int32)) zcb_m2 ?_
        obtain rfl := Option.some.inj h
        exact ev_end_i dX11_run_18 rfl rfl ⟨rfl, rfl⟩
abbrev q11_one (n : Nat) (kd : zMK) (r : Int32 × zMI × zMR) : Option Value → zM → Prop := fun v μ1 => v = some (.int r.1) ∧ μ1 = (n, kd, r.2.1, r.2.2)
set_option maxHeartbeats 4000000 in
set_option maxRecDepth 100000 in
theorem e11_one {w : zW} {d : Nat} {n : Nat} {kd : zMK} {I : zMI} {R : zMR} {r : Int32 × zMI × zMR} {l1 : Int32} {l2 : Int32} {l3 : Int32} (hw : zst w = zSt0) (hS : zSh n kd) (hd : 8 ≤ d)  (h : f11_one n kd l1 l2 l3 I R = some r) : EV w d 0 0 Y11_one 0 [some (.ref 32), some (.int l1), some (.int l2), some (.int l3), none] [] (n, kd, I, R) (q11_one n kd r) := by
  unfold f11_one at h
  refine ev_aload_n dX11_one_0 rfl rfl ?_
  refine ev_iload_n dX11_one_1 rfl rfl ?_
  obtain ⟨p1, e2, h⟩ := zbd h
  refine ev_callV0 dX11_one_2 zm11_walkerOf zl_NineHeaps_135 zi11_walkerOf zv11_walkerOf (zrcX hS) (As := [.int l1]) (rest := []) rfl rfl (Nat.le_of_ble_eq_true rfl) rfl (Nat.le_of_ble_eq_true rfl) (d' := 1) (by omega) (e11_walkerOf hw hS (Nat.le_refl _) e2) (fun v μ1 q => ?_)
  obtain ⟨rfl, rfl⟩ := q
  refine ev_astore_o dX11_one_5 (by decide) rfl ?_
  refine ev_aload_o dX11_one_7 rfl ?_
  refine ev_ifnonnull_o dX11_one_9 (tgt := 15) (by decide) (fun a3 o4 => ?_) (fun o4 => ?_)
  · replace h := zms o4 h
    refine ev_iload_n dX11_one_15 rfl rfl ?_
    obtain ⟨p5, e6, h⟩ := zbd h
    refine ev_callS0 dX11_one_16 zm11_noSeconds zl_NineHeaps_164 zs11_noSeconds (As := [.int l2]) (rest := []) rfl rfl (Nat.le_of_ble_eq_true rfl) rfl (Nat.le_of_ble_eq_true rfl) (d' := 1) (by omega) (e11_noSeconds hw hS (Nat.le_refl _) e6) (fun v μ1 q => ?_)
    obtain ⟨rfl, rfl⟩ := q
    refine ev_if_ne dX11_one_19 (tgt := 31) (by decide) (fun c7 => ?_) (fun c7 => ?_)
    · replace h := zif c7 h
      refine ev_bipush dX11_one_31 (v := (-7 : Int32)) zcb_m7 ?_
      obtain rfl := Option.some.inj h
      exact ev_end_i dX11_one_33 rfl rfl ⟨rfl, rfl⟩
    · replace h := zit c7 h
      refine ev_iload_n dX11_one_22 rfl rfl ?_
      refine ev_if_lt dX11_one_23 (tgt := 31) (by decide) (fun c8 => ?_) (fun c8 => ?_)
      · replace h := zit c8 h
        refine ev_bipush dX11_one_31 (v := (-7 : Int32)) zcb_m7 ?_
        obtain rfl := Option.some.inj h
        exact ev_end_i dX11_one_33 rfl rfl ⟨rfl, rfl⟩
      · replace h := zif c8 h
        refine ev_iload_n dX11_one_26 rfl rfl ?_
        refine ev_iconst dX11_one_27 (v := (4 : Int32)) zci_4 ?_
        refine ev_icmp_le dX11_one_28 (tgt := 34) (by decide) (fun c9 => ?_) (fun c9 => ?_)
        · replace h := zit c9 h
          refine ev_aload_n dX11_one_34 rfl rfl ?_
          obtain ⟨p10, e11, h⟩ := zbd h
          refine ev_callV0 dX11_one_35 zm11_layPlain zl_NineHeaps_167 zi11_layPlain zv11_layPlain (zrcX hS) (As := []) (rest := []) rfl rfl (Nat.le_of_ble_eq_true rfl) rfl (Nat.le_of_ble_eq_true rfl) (d' := 6) (by omega) (e11_layPlain hw hS (Nat.le_refl _) e11) (fun v μ1 q => ?_)
          obtain ⟨rfl, rfl⟩ := q
          refine ev_aload_n dX11_one_38 rfl rfl ?_
          refine em_getA dX11_one_39 zf_NineHeaps_48 rfl (hS.has 32 (by decide) (by decide) rfl) hw rfl ?_
          refine ev_iload_n dX11_one_42 rfl rfl ?_
          obtain ⟨p12, e13, h⟩ := zbd h
          refine ev_callV0 dX11_one_43 zm0_pass zl_NineHeaps_170 zi0_pass zv0_pass (zrcG hS) (As := [.int l2]) (rest := []) rfl rfl (Nat.le_of_ble_eq_true rfl) rfl (Nat.le_of_ble_eq_true rfl) (d' := 7) (by omega) (e0_pass hw hS (Nat.le_refl _) e13) (fun v μ1 q => ?_)
          obtain ⟨rfl, rfl⟩ := q
          refine ev_iload_n dX11_one_46 rfl rfl ?_
          by_cases c14 : l3 = (0 : Int32)
          · replace h := zit c14 h
            refine ev_tableIn dX11_one_47 (by rw [c14]; decide) (by rw [c14]; decide) (off := 29) (by rw [c14]; rfl) (tgt := 76) (by decide) ?_
            first | refine ev_aload_k dX11_one_76 o4 rfl ?_ | refine ev_aload_k dX11_one_76 rfl rfl ?_
            obtain ⟨g15, h⟩ := zgd h
            obtain ⟨cg15, wg15, yg15⟩ := zWkB_hasR hS g15
            refine em_getI dX11_one_78 (zf_NineHeaps_188 wg15) (by rcases wg15 with rfl | rfl | rfl | rfl | rfl | rfl <;> rfl) yg15 rfl ?_
            obtain rfl := Option.some.inj h
            exact ev_end_i dX11_one_81 rfl rfl ⟨rfl, rfl⟩
          · replace h := zif c14 h
            by_cases c16 : l3 = (1 : Int32)
            · replace h := zit c16 h
              refine ev_tableIn dX11_one_47 (by rw [c16]; decide) (by rw [c16]; decide) (off := 35) (by rw [c16]; rfl) (tgt := 82) (by decide) ?_
              first | refine ev_aload_k dX11_one_82 o4 rfl ?_ | refine ev_aload_k dX11_one_82 rfl rfl ?_
              obtain ⟨g17, h⟩ := zgd h
              obtain ⟨cg17, wg17, yg17⟩ := zWkB_hasR hS g17
              refine em_getI dX11_one_84 (zf_NineHeaps_191 wg17) (by rcases wg17 with rfl | rfl | rfl | rfl | rfl | rfl <;> rfl) yg17 rfl ?_
              obtain rfl := Option.some.inj h
              exact ev_end_i dX11_one_87 rfl rfl ⟨rfl, rfl⟩
            · replace h := zif c16 h
              by_cases c18 : l3 = (2 : Int32)
              · replace h := zit c18 h
                refine ev_tableIn dX11_one_47 (by rw [c18]; decide) (by rw [c18]; decide) (off := 41) (by rw [c18]; rfl) (tgt := 88) (by decide) ?_
                first | refine ev_aload_k dX11_one_88 o4 rfl ?_ | refine ev_aload_k dX11_one_88 rfl rfl ?_
                obtain ⟨g19, h⟩ := zgd h
                obtain ⟨cg19, wg19, yg19⟩ := zWkB_hasR hS g19
                refine em_getI dX11_one_90 (zf_NineHeaps_194 wg19) (by rcases wg19 with rfl | rfl | rfl | rfl | rfl | rfl <;> rfl) yg19 rfl ?_
                obtain rfl := Option.some.inj h
                exact ev_end_i dX11_one_93 rfl rfl ⟨rfl, rfl⟩
              · replace h := zif c18 h
                by_cases c20 : l3 = (3 : Int32)
                · replace h := zit c20 h
                  refine ev_tableIn dX11_one_47 (by rw [c20]; decide) (by rw [c20]; decide) (off := 47) (by rw [c20]; rfl) (tgt := 94) (by decide) ?_
                  first | refine ev_aload_k dX11_one_94 o4 rfl ?_ | refine ev_aload_k dX11_one_94 rfl rfl ?_
                  obtain ⟨g21, h⟩ := zgd h
                  obtain ⟨cg21, wg21, yg21⟩ := zWkB_hasR hS g21
                  refine em_getI dX11_one_96 (zf_NineHeaps_197 wg21) (by rcases wg21 with rfl | rfl | rfl | rfl | rfl | rfl <;> rfl) yg21 rfl ?_
                  obtain rfl := Option.some.inj h
                  exact ev_end_i dX11_one_99 rfl rfl ⟨rfl, rfl⟩
                · replace h := zif c20 h
                  refine ev_tableD dX11_one_47 ?_ (tgt := 100) (by decide) ?_
                  · have q0 := lv_neT c14 (a := 0) (by decide)
                    have q1 := lv_neT c16 (a := 1) (by decide)
                    have q2 := lv_neT c18 (a := 2) (by decide)
                    have q3 := lv_neT c20 (a := 3) (by decide)
                    rcases (show l3.toInt < 0 ∨ 3 < l3.toInt by omega) with q | q
                    · exact Or.inl q
                    · exact Or.inr (Or.inl q)
                  first | refine ev_aload_k dX11_one_100 o4 rfl ?_ | refine ev_aload_k dX11_one_100 rfl rfl ?_
                  obtain ⟨g22, h⟩ := zgd h
                  obtain ⟨cg22, wg22, yg22⟩ := zWkB_hasR hS g22
                  refine em_getI dX11_one_102 (zf_NineHeaps_200 wg22) (by rcases wg22 with rfl | rfl | rfl | rfl | rfl | rfl <;> rfl) yg22 rfl ?_
                  obtain rfl := Option.some.inj h
                  exact ev_end_i dX11_one_105 rfl rfl ⟨rfl, rfl⟩
        · replace h := zif c9 h
          refine ev_bipush dX11_one_31 (v := (-7 : Int32)) zcb_m7 ?_
          obtain rfl := Option.some.inj h
          exact ev_end_i dX11_one_33 rfl rfl ⟨rfl, rfl⟩
  · replace h := zmn o4 h
    refine ev_bipush dX11_one_12 (v := (-5 : Int32)) zcb_m5 ?_
    obtain rfl := Option.some.inj h
    exact ev_end_i dX11_one_14 rfl rfl ⟨rfl, rfl⟩
abbrev q11_height (n : Nat) (kd : zMK) (r : Int32 × zMI × zMR) : Option Value → zM → Prop := fun v μ1 => v = some (.int r.1) ∧ μ1 = (n, kd, r.2.1, r.2.2)
set_option maxHeartbeats 4000000 in
set_option maxRecDepth 100000 in
theorem e11_height {w : zW} {d : Nat} {n : Nat} {kd : zMK} {I : zMI} {R : zMR} {r : Int32 × zMI × zMR} {l1 : Int32} {l2 : Int32} {l3 : Int32} (hw : zst w = zSt0) (hS : zSh n kd) (hd : 8 ≤ d)  (h : f11_height n kd l1 l2 l3 I R = some r) : EV w d 0 0 Y11_height 0 [some (.ref 32), some (.int l1), some (.int l2), some (.int l3)] [] (n, kd, I, R) (q11_height n kd r) := by
  unfold f11_height at h
  refine ev_iload_n dX11_height_0 rfl rfl ?_
  obtain ⟨p1, e2, h⟩ := zbd h
  refine ev_callS0 dX11_height_1 zm11_noHeap zl_NineHeaps_107 zs11_noHeap (As := [.int l1]) (rest := []) rfl rfl (Nat.le_of_ble_eq_true rfl) rfl (Nat.le_of_ble_eq_true rfl) (d' := 1) (by omega) (e11_noHeap hw hS (Nat.le_refl _) e2) (fun v μ1 q => ?_)
  obtain ⟨rfl, rfl⟩ := q
  refine ev_if_eq dX11_height_4 (tgt := 10) (by decide) (fun c3 => ?_) (fun c3 => ?_)
  · replace h := zit c3 h
    refine ev_iload_n dX11_height_10 rfl rfl ?_
    obtain ⟨p4, e5, h⟩ := zbd h
    refine ev_callS0 dX11_height_11 zm11_noSeconds zl_NineHeaps_164 zs11_noSeconds (As := [.int l2]) (rest := []) rfl rfl (Nat.le_of_ble_eq_true rfl) rfl (Nat.le_of_ble_eq_true rfl) (d' := 1) (by omega) (e11_noSeconds hw hS (Nat.le_refl _) e5) (fun v μ1 q => ?_)
    obtain ⟨rfl, rfl⟩ := q
    refine ev_if_ne dX11_height_14 (tgt := 26) (by decide) (fun c6 => ?_) (fun c6 => ?_)
    · replace h := zif c6 h
      refine ev_bipush dX11_height_26 (v := (-7 : Int32)) zcb_m7 ?_
      obtain rfl := Option.some.inj h
      exact ev_end_i dX11_height_28 rfl rfl ⟨rfl, rfl⟩
    · replace h := zit c6 h
      refine ev_iload_n dX11_height_17 rfl rfl ?_
      refine ev_if_lt dX11_height_18 (tgt := 26) (by decide) (fun c7 => ?_) (fun c7 => ?_)
      · replace h := zit c7 h
        refine ev_bipush dX11_height_26 (v := (-7 : Int32)) zcb_m7 ?_
        obtain rfl := Option.some.inj h
        exact ev_end_i dX11_height_28 rfl rfl ⟨rfl, rfl⟩
      · replace h := zif c7 h
        refine ev_iload_n dX11_height_21 rfl rfl ?_
        refine ev_iconst dX11_height_22 (v := (1 : Int32)) zci_1 ?_
        refine ev_icmp_le dX11_height_23 (tgt := 29) (by decide) (fun c8 => ?_) (fun c8 => ?_)
        · replace h := zit c8 h
          refine ev_aload_n dX11_height_29 rfl rfl ?_
          obtain ⟨p9, e10, h⟩ := zbd h
          refine ev_callV0 dX11_height_30 zm11_layPlain zl_NineHeaps_167 zi11_layPlain zv11_layPlain (zrcX hS) (As := []) (rest := []) rfl rfl (Nat.le_of_ble_eq_true rfl) rfl (Nat.le_of_ble_eq_true rfl) (d' := 6) (by omega) (e11_layPlain hw hS (Nat.le_refl _) e10) (fun v μ1 q => ?_)
          obtain ⟨rfl, rfl⟩ := q
          refine ev_aload_n dX11_height_33 rfl rfl ?_
          refine em_getA dX11_height_34 zf_NineHeaps_48 rfl (hS.has 32 (by decide) (by decide) rfl) hw rfl ?_
          refine ev_iload_n dX11_height_37 rfl rfl ?_
          obtain ⟨p11, e12, h⟩ := zbd h
          refine ev_callV0 dX11_height_38 zm0_pass zl_NineHeaps_170 zi0_pass zv0_pass (zrcG hS) (As := [.int l2]) (rest := []) rfl rfl (Nat.le_of_ble_eq_true rfl) rfl (Nat.le_of_ble_eq_true rfl) (d' := 7) (by omega) (e0_pass hw hS (Nat.le_refl _) e12) (fun v μ1 q => ?_)
          obtain ⟨rfl, rfl⟩ := q
          refine ev_iload_n dX11_height_41 rfl rfl ?_
          refine ev_if_ne dX11_height_42 (tgt := 59) (by decide) (fun c13 => ?_) (fun c13 => ?_)
          · replace h := zif c13 h
            refine ev_aload_n dX11_height_59 rfl rfl ?_
            refine em_getA dX11_height_60 zf_NineHeaps_48 rfl (hS.has 32 (by decide) (by decide) rfl) hw rfl ?_
            refine ev_iload_n dX11_height_63 rfl rfl ?_
            obtain ⟨p14, e15, h⟩ := zbd h
            refine ev_callV0 dX11_height_64 zm0_heapAt zl_NineHeaps_203 zi0_heapAt zv0_heapAt (zrcG hS) (As := [.int l1]) (rest := []) rfl rfl (Nat.le_of_ble_eq_true rfl) rfl (Nat.le_of_ble_eq_true rfl) (d' := 2) (by omega) (e0_heapAt hw hS (Nat.le_refl _) e15) (fun v μ1 q => ?_)
            obtain ⟨rfl, rfl⟩ := q
            obtain ⟨g16, h⟩ := zgd h
            refine em_getI dX11_height_67 zf_NineHeaps_211 rfl (zHpB_has hS g16) rfl ?_
            obtain rfl := Option.some.inj h
            exact ev_end_i dX11_height_70 rfl rfl ⟨rfl, rfl⟩
          · replace h := zit c13 h
            refine ev_aload_n dX11_height_45 rfl rfl ?_
            refine em_getA dX11_height_46 zf_NineHeaps_48 rfl (hS.has 32 (by decide) (by decide) rfl) hw rfl ?_
            refine ev_iload_n dX11_height_49 rfl rfl ?_
            obtain ⟨p17, e18, h⟩ := zbd h
            refine ev_callV0 dX11_height_50 zm0_heapAt zl_NineHeaps_203 zi0_heapAt zv0_heapAt (zrcG hS) (As := [.int l1]) (rest := []) rfl rfl (Nat.le_of_ble_eq_true rfl) rfl (Nat.le_of_ble_eq_true rfl) (d' := 2) (by omega) (e0_heapAt hw hS (Nat.le_refl _) e18) (fun v μ1 q => ?_)
            obtain ⟨rfl, rfl⟩ := q
            obtain ⟨g19, h⟩ := zgd h
            refine em_getI dX11_height_53 zf_NineHeaps_207 rfl (zHpB_has hS g19) rfl ?_
            refine ev_goto dX11_height_56 (tgt := 70) (by decide) ?_
            obtain rfl := Option.some.inj h
            exact ev_end_i dX11_height_70 rfl rfl ⟨rfl, rfl⟩
        · replace h := zif c8 h
          refine ev_bipush dX11_height_26 (v := (-7 : Int32)) zcb_m7 ?_
          obtain rfl := Option.some.inj h
          exact ev_end_i dX11_height_28 rfl rfl ⟨rfl, rfl⟩
  · replace h := zif c3 h
    refine ev_bipush dX11_height_7 (v := (-6 : Int32)) zcb_m6 ?_
    obtain rfl := Option.some.inj h
    exact ev_end_i dX11_height_9 rfl rfl ⟨rfl, rfl⟩
abbrev q11_go (n : Nat) (kd : zMK) (r : Int32 × zMI × zMR) : Option Value → zM → Prop := fun v μ1 => v = some (.int r.1) ∧ μ1 = (n, kd, r.2.1, r.2.2)
set_option maxHeartbeats 4000000 in
set_option maxRecDepth 100000 in
theorem e11_go_L24 {w : zW} {d : Nat} {n : Nat} {kd : zMK} {r : Int32 × zMI × zMR}  (hw : zst w = zSt0) (hS : zSh n kd) (hd : 8 ≤ d)   : ∀ (q : Nat) (l2 : Int32) (I : zMI) (R : zMR), f11_go_L24 n kd q l2 I R = some r → EV w d 0 0 Y11_go 24 [some (.ref 32), none, some (.int l2)] [] (n, kd, I, R) (q11_go n kd r) := by
  intro q
  induction q with
  | zero =>
    intro l2 I R h
    cases h
  | succ q ih =>
    intro l2 I R h
    unfold f11_go_L24 at h
    refine ev_iload_n dX11_go_24 rfl rfl ?_
    refine ev_bipush dX11_go_25 (v := (9 : Int32)) zcb_9 ?_
    refine ev_icmp_ge dX11_go_27 (tgt := 53) (by decide) (fun c1 => ?_) (fun c1 => ?_)
    · replace h := zit c1 h
      refine ev_aload_n dX11_go_53 rfl rfl ?_
      refine em_getA dX11_go_54 zf_NineHeaps_48 rfl (hS.has 32 (by decide) (by decide) rfl) hw rfl ?_
      refine em_getI dX11_go_57 zf_NineHeaps_173 rfl (hS.has 42 (by decide) (by decide) rfl) rfl ?_
      obtain rfl := Option.some.inj h
      exact ev_end_i dX11_go_60 rfl rfl ⟨rfl, rfl⟩
    · replace h := zif c1 h
      refine ev_aload_n dX11_go_30 rfl rfl ?_
      refine em_getA dX11_go_31 zf_NineHeaps_9 rfl (hS.has 32 (by decide) (by decide) rfl) hw rfl ?_
      refine ev_iload_n dX11_go_34 rfl rfl ?_
      refine ev_aload_n dX11_go_35 rfl rfl ?_
      refine em_getA dX11_go_36 zf_NineHeaps_48 rfl (hS.has 32 (by decide) (by decide) rfl) hw rfl ?_
      refine ev_iload_n dX11_go_39 rfl rfl ?_
      obtain ⟨p2, e3, h⟩ := zbd h
      refine ev_callV0 dX11_go_40 zm0_heapAt zl_NineHeaps_203 zi0_heapAt zv0_heapAt (zrcG hS) (As := [.int l2]) (rest := [.int l2, .ref 33]) rfl rfl (Nat.le_of_ble_eq_true rfl) rfl (Nat.le_of_ble_eq_true rfl) (d' := 2) (by omega) (e0_heapAt hw hS (Nat.le_refl _) e3) (fun v μ1 q => ?_)
      obtain ⟨rfl, rfl⟩ := q
      obtain ⟨g4, h⟩ := zgd h
      refine em_getI dX11_go_43 zf_NineHeaps_207 rfl (zHpB_has hS g4) rfl ?_
      obtain ⟨g5, h⟩ := zgd h
      obtain ⟨J6, e7, h⟩ := zld h
      refine em_iast dX11_go_46 hS (by decide) (by decide) (N := 9) rfl g5 e7 ?_
      refine ev_iinc dX11_go_47 (v := l2 + (1 : Int32)) rfl rfl (by decide) rfl ?_
      refine ev_goto dX11_go_50 (tgt := 24) (by decide) ?_
      exact EV.mask [true, false, true] rfl (ih (l2 + (1 : Int32)) J6 R h)
set_option maxHeartbeats 4000000 in
set_option maxRecDepth 100000 in
theorem e11_go {w : zW} {d : Nat} {n : Nat} {kd : zMK} {I : zMI} {R : zMR} {r : Int32 × zMI × zMR} {l1 : Int32} (hw : zst w = zSt0) (hS : zSh n kd) (hd : 8 ≤ d)  (h : f11_go n kd l1 I R = some r) : EV w d 0 0 Y11_go 0 [some (.ref 32), some (.int l1), none] [] (n, kd, I, R) (q11_go n kd r) := by
  unfold f11_go at h
  refine ev_iload_n dX11_go_0 rfl rfl ?_
  obtain ⟨p8, e9, h⟩ := zbd h
  refine ev_callS0 dX11_go_1 zm11_noSeconds zl_NineHeaps_164 zs11_noSeconds (As := [.int l1]) (rest := []) rfl rfl (Nat.le_of_ble_eq_true rfl) rfl (Nat.le_of_ble_eq_true rfl) (d' := 1) (by omega) (e11_noSeconds hw hS (Nat.le_refl _) e9) (fun v μ1 q => ?_)
  obtain ⟨rfl, rfl⟩ := q
  refine ev_if_eq dX11_go_4 (tgt := 10) (by decide) (fun c10 => ?_) (fun c10 => ?_)
  · replace h := zit c10 h
    refine ev_aload_n dX11_go_10 rfl rfl ?_
    obtain ⟨p11, e12, h⟩ := zbd h
    refine ev_callV0 dX11_go_11 zm11_layPlain zl_NineHeaps_167 zi11_layPlain zv11_layPlain (zrcX hS) (As := []) (rest := []) rfl rfl (Nat.le_of_ble_eq_true rfl) rfl (Nat.le_of_ble_eq_true rfl) (d' := 6) (by omega) (e11_layPlain hw hS (Nat.le_refl _) e12) (fun v μ1 q => ?_)
    obtain ⟨rfl, rfl⟩ := q
    refine ev_aload_n dX11_go_14 rfl rfl ?_
    refine em_getA dX11_go_15 zf_NineHeaps_48 rfl (hS.has 32 (by decide) (by decide) rfl) hw rfl ?_
    refine ev_iload_n dX11_go_18 rfl rfl ?_
    obtain ⟨p13, e14, h⟩ := zbd h
    refine ev_callV0 dX11_go_19 zm0_pass zl_NineHeaps_170 zi0_pass zv0_pass (zrcG hS) (As := [.int l1]) (rest := []) rfl rfl (Nat.le_of_ble_eq_true rfl) rfl (Nat.le_of_ble_eq_true rfl) (d' := 7) (by omega) (e0_pass hw hS (Nat.le_refl _) e14) (fun v μ1 q => ?_)
    obtain ⟨rfl, rfl⟩ := q
    refine ev_iconst dX11_go_22 (v := (0 : Int32)) zci_0 ?_
    refine ev_istore_n dX11_go_23 rfl (by decide) rfl ?_
    exact EV.mask [true, false, true] rfl (e11_go_L24 hw hS hd zF (0 : Int32) p13 p11.2 h)
  · replace h := zif c10 h
    refine ev_bipush dX11_go_7 (v := (-2 : Int32)) zcb_m2 ?_
    obtain rfl := Option.some.inj h
    exact ev_end_i dX11_go_9 rfl rfl ⟨rfl, rfl⟩
abbrev q11_orderByNumbers (n : Nat) (kd : zMK) (R : zMR) (r : zMI) : Option Value → zM → Prop := fun v μ1 => v = none ∧ μ1 = (n, kd, r, R)
set_option maxHeartbeats 4000000 in
set_option maxRecDepth 100000 in
theorem e11_orderByNumbers_L2 {w : zW} {d : Nat} {n : Nat} {kd : zMK} {R : zMR} {r : zMI}  (hw : zst w = zSt0) (hS : zSh n kd) (hd : 1 ≤ d)   : ∀ (q : Nat) (l1 : Int32) (I : zMI), f11_orderByNumbers_L2  q l1 I = some r → EV w d 0 0 Y11_orderByNumbers 2 [some (.ref 32), some (.int l1)] [] (n, kd, I, R) (q11_orderByNumbers n kd R r) := by
  intro q
  induction q with
  | zero =>
    intro l1 I h
    cases h
  | succ q ih =>
    intro l1 I h
    unfold f11_orderByNumbers_L2 at h
    refine ev_iload_n dX11_orderByNumbers_2 rfl rfl ?_
    refine ev_iconst dX11_orderByNumbers_3 (v := (5 : Int32)) zci_5 ?_
    refine ev_icmp_ge dX11_orderByNumbers_4 (tgt := 20) (by decide) (fun c1 => ?_) (fun c1 => ?_)
    · replace h := zit c1 h
      obtain rfl := Option.some.inj h
      exact ev_end_v dX11_orderByNumbers_20 rfl ⟨rfl, rfl⟩
    · replace h := zif c1 h
      refine ev_aload_n dX11_orderByNumbers_7 rfl rfl ?_
      refine em_getA dX11_orderByNumbers_8 zf_NineHeaps_52 rfl (hS.has 32 (by decide) (by decide) rfl) hw rfl ?_
      refine ev_iload_n dX11_orderByNumbers_11 rfl rfl ?_
      refine ev_iload_n dX11_orderByNumbers_12 rfl rfl ?_
      obtain ⟨g2, h⟩ := zgd h
      obtain ⟨J3, e4, h⟩ := zld h
      refine em_iast dX11_orderByNumbers_13 hS (by decide) (by decide) (N := 5) rfl g2 e4 ?_
      refine ev_iinc dX11_orderByNumbers_14 (v := l1 + (1 : Int32)) rfl rfl (by decide) rfl ?_
      refine ev_goto dX11_orderByNumbers_17 (tgt := 2) (by decide) ?_
      exact EV.mask [true, true] rfl (ih (l1 + (1 : Int32)) J3 h)
set_option maxHeartbeats 4000000 in
set_option maxRecDepth 100000 in
theorem e11_orderByNumbers {w : zW} {d : Nat} {n : Nat} {kd : zMK} {I : zMI} {R : zMR} {r : zMI}  (hw : zst w = zSt0) (hS : zSh n kd) (hd : 1 ≤ d)  (h : f11_orderByNumbers I = some r) : EV w d 0 0 Y11_orderByNumbers 0 [some (.ref 32), none] [] (n, kd, I, R) (q11_orderByNumbers n kd R r) := by
  unfold f11_orderByNumbers at h
  refine ev_iconst dX11_orderByNumbers_0 (v := (0 : Int32)) zci_0 ?_
  refine ev_istore_n dX11_orderByNumbers_1 rfl (by decide) rfl ?_
  exact EV.mask [true, true] rfl (e11_orderByNumbers_L2 hw hS hd zF (0 : Int32) I h)
abbrev q11_layByOrder (n : Nat) (kd : zMK) (r : zMI × zMR) : Option Value → zM → Prop := fun v μ1 => v = none ∧ μ1 = (n, kd, r.1, r.2)
set_option maxHeartbeats 4000000 in
set_option maxRecDepth 100000 in
theorem e11_layByOrder_L6 {w : zW} {d : Nat} {n : Nat} {kd : zMK} {r : zMI × zMR}  (hw : zst w = zSt0) (hS : zSh n kd) (hd : 5 ≤ d)   : ∀ (q : Nat) (l1 : Int32) (I : zMI) (R : zMR), f11_layByOrder_L6 n kd q l1 I R = some r → EV w d 0 0 Y11_layByOrder 6 [some (.ref 32), some (.int l1)] [] (n, kd, I, R) (q11_layByOrder n kd r) := by
  intro q
  induction q with
  | zero =>
    intro l1 I R h
    cases h
  | succ q ih =>
    intro l1 I R h
    unfold f11_layByOrder_L6 at h
    refine ev_iload_n dX11_layByOrder_6 rfl rfl ?_
    refine ev_aload_n dX11_layByOrder_7 rfl rfl ?_
    refine em_getI dX11_layByOrder_8 zf_NineHeaps_94 rfl (hS.has 32 (by decide) (by decide) rfl) rfl ?_
    refine ev_icmp_ge dX11_layByOrder_11 (tgt := 42) (by decide) (fun c1 => ?_) (fun c1 => ?_)
    · replace h := zit c1 h
      obtain rfl := Option.some.inj h
      exact ev_end_v dX11_layByOrder_42 rfl ⟨rfl, rfl⟩
    · replace h := zif c1 h
      refine ev_iload_n dX11_layByOrder_14 rfl rfl ?_
      refine ev_iconst dX11_layByOrder_15 (v := (5 : Int32)) zci_5 ?_
      refine ev_icmp_ge dX11_layByOrder_16 (tgt := 42) (by decide) (fun c2 => ?_) (fun c2 => ?_)
      · replace h := zit c2 h
        obtain rfl := Option.some.inj h
        exact ev_end_v dX11_layByOrder_42 rfl ⟨rfl, rfl⟩
      · replace h := zif c2 h
        refine ev_aload_n dX11_layByOrder_19 rfl rfl ?_
        refine em_getA dX11_layByOrder_20 zf_NineHeaps_48 rfl (hS.has 32 (by decide) (by decide) rfl) hw rfl ?_
        refine ev_aload_n dX11_layByOrder_23 rfl rfl ?_
        refine ev_aload_n dX11_layByOrder_24 rfl rfl ?_
        refine em_getA dX11_layByOrder_25 zf_NineHeaps_52 rfl (hS.has 32 (by decide) (by decide) rfl) hw rfl ?_
        refine ev_iload_n dX11_layByOrder_28 rfl rfl ?_
        obtain ⟨g3, h⟩ := zgd h
        refine em_iald dX11_layByOrder_29 hS (by decide) (by decide) (N := 5) rfl g3 rfl ?_
        obtain ⟨p4, e5, h⟩ := zbd h
        refine ev_callV0 dX11_layByOrder_30 zm11_walkerOf zl_NineHeaps_135 zi11_walkerOf zv11_walkerOf (zrcX hS) (As := [.int (I 55 l1.toNatClampNeg)]) (rest := [.ref 42]) rfl rfl (Nat.le_of_ble_eq_true rfl) rfl (Nat.le_of_ble_eq_true rfl) (d' := 1) (by omega) (e11_walkerOf hw hS (Nat.le_refl _) e5) (fun v μ1 q => ?_)
        obtain ⟨rfl, rfl⟩ := q
        obtain ⟨p6, e7, h⟩ := zbd h
        refine ev_callV0 dX11_layByOrder_33 zm0_join zl_NineHeaps_246 zi0_join zv0_join (zrcG hS) (As := [va_rf p4]) (rest := []) rfl rfl (Nat.le_of_ble_eq_true rfl) (by cases p4 <;> rfl) (by cases p4 <;> exact Nat.le_of_ble_eq_true rfl) (d' := 4) (by omega) (e0_join hw hS (Nat.le_refl _) e7) (fun v μ1 q => ?_)
        obtain ⟨rfl, rfl⟩ := q
        refine ev_iinc dX11_layByOrder_36 (v := l1 + (1 : Int32)) rfl rfl (by decide) rfl ?_
        refine ev_goto dX11_layByOrder_39 (tgt := 6) (by decide) ?_
        exact EV.mask [true, true] rfl (ih (l1 + (1 : Int32)) p6.1 p6.2 h)
set_option maxHeartbeats 4000000 in
set_option maxRecDepth 100000 in
theorem e11_layByOrder {w : zW} {d : Nat} {n : Nat} {kd : zMK} {I : zMI} {R : zMR} {r : zMI × zMR}  (hw : zst w = zSt0) (hS : zSh n kd) (hd : 5 ≤ d)  (h : f11_layByOrder n kd I R = some r) : EV w d 0 0 Y11_layByOrder 0 [some (.ref 32), none] [] (n, kd, I, R) (q11_layByOrder n kd r) := by
  unfold f11_layByOrder at h
  refine ev_aload_n dX11_layByOrder_0 rfl rfl ?_
  obtain ⟨p8, e9, h⟩ := zbd h
  refine ev_callV0 dX11_layByOrder_1 zm11_layHeaps zl_NineHeaps_243 zi11_layHeaps zv11_layHeaps (zrcX hS) (As := []) (rest := []) rfl rfl (Nat.le_of_ble_eq_true rfl) rfl (Nat.le_of_ble_eq_true rfl) (d' := 3) (by omega) (e11_layHeaps hw hS (Nat.le_refl _) e9) (fun v μ1 q => ?_)
  obtain ⟨rfl, rfl⟩ := q
  refine ev_iconst dX11_layByOrder_4 (v := (0 : Int32)) zci_0 ?_
  refine ev_istore_n dX11_layByOrder_5 rfl (by decide) rfl ?_
  exact EV.mask [true, true] rfl (e11_layByOrder_L6 hw hS hd zF (0 : Int32) p8.1 p8.2 h)
abbrev q11_orderAsDigits (n : Nat) (kd : zMK) (I : zMI) (R : zMR) (r : Int32) : Option Value → zM → Prop := fun v μ1 => v = some (.int r) ∧ μ1 = (n, kd, I, R)
set_option maxHeartbeats 4000000 in
set_option maxRecDepth 100000 in
theorem e11_orderAsDigits_L4 {w : zW} {d : Nat} {n : Nat} {kd : zMK} {I : zMI} {R : zMR} {r : Int32}  (hw : zst w = zSt0) (hS : zSh n kd) (hd : 1 ≤ d)   : ∀ (q : Nat) (l1 : Int32) (l2 : Int32) , f11_orderAsDigits_L4 I q l1 l2 = some r → EV w d 0 0 Y11_orderAsDigits 4 [some (.ref 32), some (.int l1), some (.int l2)] [] (n, kd, I, R) (q11_orderAsDigits n kd I R r) := by
  intro q
  induction q with
  | zero =>
    intro l1 l2 h
    cases h
  | succ q ih =>
    intro l1 l2 h
    unfold f11_orderAsDigits_L4 at h
    refine ev_iload_n dX11_orderAsDigits_4 rfl rfl ?_
    refine ev_aload_n dX11_orderAsDigits_5 rfl rfl ?_
    refine em_getI dX11_orderAsDigits_6 zf_NineHeaps_94 rfl (hS.has 32 (by decide) (by decide) rfl) rfl ?_
    refine ev_icmp_ge dX11_orderAsDigits_9 (tgt := 37) (by decide) (fun c1 => ?_) (fun c1 => ?_)
    · replace h := zit c1 h
      refine ev_iload_n dX11_orderAsDigits_37 rfl rfl ?_
      obtain rfl := Option.some.inj h
      exact ev_end_i dX11_orderAsDigits_38 rfl rfl ⟨rfl, rfl⟩
    · replace h := zif c1 h
      refine ev_iload_n dX11_orderAsDigits_12 rfl rfl ?_
      refine ev_iconst dX11_orderAsDigits_13 (v := (5 : Int32)) zci_5 ?_
      refine ev_icmp_ge dX11_orderAsDigits_14 (tgt := 37) (by decide) (fun c2 => ?_) (fun c2 => ?_)
      · replace h := zit c2 h
        refine ev_iload_n dX11_orderAsDigits_37 rfl rfl ?_
        obtain rfl := Option.some.inj h
        exact ev_end_i dX11_orderAsDigits_38 rfl rfl ⟨rfl, rfl⟩
      · replace h := zif c2 h
        refine ev_iload_n dX11_orderAsDigits_17 rfl rfl ?_
        refine ev_bipush dX11_orderAsDigits_18 (v := (10 : Int32)) zcb_10 ?_
        refine ev_imul dX11_orderAsDigits_20 rfl ?_
        refine ev_aload_n dX11_orderAsDigits_21 rfl rfl ?_
        refine em_getA dX11_orderAsDigits_22 zf_NineHeaps_52 rfl (hS.has 32 (by decide) (by decide) rfl) hw rfl ?_
        refine ev_iload_n dX11_orderAsDigits_25 rfl rfl ?_
        obtain ⟨g3, h⟩ := zgd h
        refine em_iald dX11_orderAsDigits_26 hS (by decide) (by decide) (N := 5) rfl g3 rfl ?_
        refine ev_iadd dX11_orderAsDigits_27 rfl ?_
        refine ev_iconst dX11_orderAsDigits_28 (v := (1 : Int32)) zci_1 ?_
        refine ev_iadd dX11_orderAsDigits_29 rfl ?_
        obtain ⟨x4, e5, h⟩ := zld h
        refine ev_nm e5 ?_
        refine ev_istore_n dX11_orderAsDigits_30 rfl (by decide) rfl ?_
        refine ev_iinc dX11_orderAsDigits_31 (v := l2 + (1 : Int32)) rfl rfl (by decide) rfl ?_
        refine ev_goto dX11_orderAsDigits_34 (tgt := 4) (by decide) ?_
        exact EV.mask [true, true, true] rfl (ih x4 (l2 + (1 : Int32)) h)
set_option maxHeartbeats 4000000 in
set_option maxRecDepth 100000 in
theorem e11_orderAsDigits {w : zW} {d : Nat} {n : Nat} {kd : zMK} {I : zMI} {R : zMR} {r : Int32}  (hw : zst w = zSt0) (hS : zSh n kd) (hd : 1 ≤ d)  (h : f11_orderAsDigits I = some r) : EV w d 0 0 Y11_orderAsDigits 0 [some (.ref 32), none, none] [] (n, kd, I, R) (q11_orderAsDigits n kd I R r) := by
  unfold f11_orderAsDigits at h
  refine ev_iconst dX11_orderAsDigits_0 (v := (0 : Int32)) zci_0 ?_
  refine ev_istore_n dX11_orderAsDigits_1 rfl (by decide) rfl ?_
  refine ev_iconst dX11_orderAsDigits_2 (v := (0 : Int32)) zci_0 ?_
  refine ev_istore_n dX11_orderAsDigits_3 rfl (by decide) rfl ?_
  exact EV.mask [true, true, true] rfl (e11_orderAsDigits_L4 hw hS hd zF (0 : Int32) (0 : Int32) h)
abbrev q11_swapInOrder (n : Nat) (kd : zMK) (R : zMR) (r : zMI) : Option Value → zM → Prop := fun v μ1 => v = none ∧ μ1 = (n, kd, r, R)
set_option maxHeartbeats 4000000 in
set_option maxRecDepth 100000 in
theorem e11_swapInOrder {w : zW} {d : Nat} {n : Nat} {kd : zMK} {I : zMI} {R : zMR} {r : zMI} {l1 : Int32} {l2 : Int32} (hw : zst w = zSt0) (hS : zSh n kd) (hd : 1 ≤ d)  (h : f11_swapInOrder l1 l2 I = some r) : EV w d 0 0 Y11_swapInOrder 0 [some (.ref 32), some (.int l1), some (.int l2), none] [] (n, kd, I, R) (q11_swapInOrder n kd R r) := by
  unfold f11_swapInOrder at h
  refine ev_iload_n dX11_swapInOrder_0 rfl rfl ?_
  refine ev_if_lt dX11_swapInOrder_1 (tgt := 44) (by decide) (fun c1 => ?_) (fun c1 => ?_)
  · replace h := zit c1 h
    obtain rfl := Option.some.inj h
    exact ev_end_v dX11_swapInOrder_44 rfl ⟨rfl, rfl⟩
  · replace h := zif c1 h
    refine ev_iload_n dX11_swapInOrder_4 rfl rfl ?_
    refine ev_iconst dX11_swapInOrder_5 (v := (5 : Int32)) zci_5 ?_
    refine ev_icmp_ge dX11_swapInOrder_6 (tgt := 44) (by decide) (fun c2 => ?_) (fun c2 => ?_)
    · replace h := zit c2 h
      obtain rfl := Option.some.inj h
      exact ev_end_v dX11_swapInOrder_44 rfl ⟨rfl, rfl⟩
    · replace h := zif c2 h
      refine ev_iload_n dX11_swapInOrder_9 rfl rfl ?_
      refine ev_if_lt dX11_swapInOrder_10 (tgt := 44) (by decide) (fun c3 => ?_) (fun c3 => ?_)
      · replace h := zit c3 h
        obtain rfl := Option.some.inj h
        exact ev_end_v dX11_swapInOrder_44 rfl ⟨rfl, rfl⟩
      · replace h := zif c3 h
        refine ev_iload_n dX11_swapInOrder_13 rfl rfl ?_
        refine ev_iconst dX11_swapInOrder_14 (v := (5 : Int32)) zci_5 ?_
        refine ev_icmp_ge dX11_swapInOrder_15 (tgt := 44) (by decide) (fun c4 => ?_) (fun c4 => ?_)
        · replace h := zit c4 h
          obtain rfl := Option.some.inj h
          exact ev_end_v dX11_swapInOrder_44 rfl ⟨rfl, rfl⟩
        · replace h := zif c4 h
          refine ev_aload_n dX11_swapInOrder_18 rfl rfl ?_
          refine em_getA dX11_swapInOrder_19 zf_NineHeaps_52 rfl (hS.has 32 (by decide) (by decide) rfl) hw rfl ?_
          refine ev_iload_n dX11_swapInOrder_22 rfl rfl ?_
          obtain ⟨g5, h⟩ := zgd h
          refine em_iald dX11_swapInOrder_23 hS (by decide) (by decide) (N := 5) rfl g5 rfl ?_
          refine ev_istore_n dX11_swapInOrder_24 rfl (by decide) rfl ?_
          refine ev_aload_n dX11_swapInOrder_25 rfl rfl ?_
          refine em_getA dX11_swapInOrder_26 zf_NineHeaps_52 rfl (hS.has 32 (by decide) (by decide) rfl) hw rfl ?_
          refine ev_iload_n dX11_swapInOrder_29 rfl rfl ?_
          refine ev_aload_n dX11_swapInOrder_30 rfl rfl ?_
          refine em_getA dX11_swapInOrder_31 zf_NineHeaps_52 rfl (hS.has 32 (by decide) (by decide) rfl) hw rfl ?_
          refine ev_iload_n dX11_swapInOrder_34 rfl rfl ?_
          obtain ⟨g6, h⟩ := zgd h
          refine em_iald dX11_swapInOrder_35 hS (by decide) (by decide) (N := 5) rfl g6 rfl ?_
          obtain ⟨J7, e8, h⟩ := zld h
          refine em_iast dX11_swapInOrder_36 hS (by decide) (by decide) (N := 5) rfl g5 e8 ?_
          refine ev_aload_n dX11_swapInOrder_37 rfl rfl ?_
          refine em_getA dX11_swapInOrder_38 zf_NineHeaps_52 rfl (hS.has 32 (by decide) (by decide) rfl) hw rfl ?_
          refine ev_iload_n dX11_swapInOrder_41 rfl rfl ?_
          refine ev_iload_n dX11_swapInOrder_42 rfl rfl ?_
          obtain ⟨J9, e10, h⟩ := zld h
          refine em_iast dX11_swapInOrder_43 hS (by decide) (by decide) (N := 5) rfl g6 e10 ?_
          obtain rfl := Option.some.inj h
          exact ev_end_v dX11_swapInOrder_44 rfl ⟨rfl, rfl⟩
abbrev q11_nextOrder (n : Nat) (kd : zMK) (R : zMR) (r : Int32 × zMI) : Option Value → zM → Prop := fun v μ1 => v = some (.int r.1) ∧ μ1 = (n, kd, r.2, R)
set_option maxHeartbeats 4000000 in
set_option maxRecDepth 100000 in
theorem e11_nextOrder_L15 {w : zW} {d : Nat} {n : Nat} {kd : zMK} {R : zMR} {r : Int32 × zMI} {k36 : Int32 → Int32 → zMI → Option (Int32 × zMI)} {k45 : Int32 → Int32 → zMI → Option (Int32 × zMI)} (hw : zst w = zSt0) (hS : zSh n kd) (hd : 2 ≤ d)  (hk36 : ∀ (l1 : Int32) (l2 : Int32) (I : zMI), k36 l1 l2 I = some r → EV w d 0 0 Y11_nextOrder 36 [some (.ref 32), some (.int l1), some (.int l2), none, none, none] [] (n, kd, I, R) (q11_nextOrder n kd R r)) (hk45 : ∀ (l1 : Int32) (l2 : Int32) (I : zMI), k45 l1 l2 I = some r → EV w d 0 0 Y11_nextOrder 45 [some (.ref 32), some (.int l1), some (.int l2), none, none, none] [] (n, kd, I, R) (q11_nextOrder n kd R r)) : ∀ (q : Nat) (l1 : Int32) (l2 : Int32) (I : zMI), f11_nextOrder_L15 k36 k45 q l1 l2 I = some r → EV w d 0 0 Y11_nextOrder 15 [some (.ref 32), some (.int l1), some (.int l2), none, none, none] [] (n, kd, I, R) (q11_nextOrder n kd R r) := by
  intro q
  induction q with
  | zero =>
    intro l1 l2 I h
    cases h
  | succ q ih =>
    intro l1 l2 I h
    unfold f11_nextOrder_L15 at h
    refine ev_iload_n dX11_nextOrder_15 rfl rfl ?_
    refine ev_if_lt dX11_nextOrder_16 (tgt := 45) (by decide) (fun c1 => ?_) (fun c1 => ?_)
    · replace h := zit c1 h
      exact EV.mask [true, true, true, false, false, false] rfl (hk45 l1 l2 I h)
    · replace h := zif c1 h
      refine ev_aload_n dX11_nextOrder_19 rfl rfl ?_
      refine em_getA dX11_nextOrder_20 zf_NineHeaps_52 rfl (hS.has 32 (by decide) (by decide) rfl) hw rfl ?_
      refine ev_iload_n dX11_nextOrder_23 rfl rfl ?_
      obtain ⟨g2, h⟩ := zgd h
      refine em_iald dX11_nextOrder_24 hS (by decide) (by decide) (N := 5) rfl g2 rfl ?_
      refine ev_aload_n dX11_nextOrder_25 rfl rfl ?_
      refine em_getA dX11_nextOrder_26 zf_NineHeaps_52 rfl (hS.has 32 (by decide) (by decide) rfl) hw rfl ?_
      refine ev_iload_n dX11_nextOrder_29 rfl rfl ?_
      refine ev_iconst dX11_nextOrder_30 (v := (1 : Int32)) zci_1 ?_
      refine ev_iadd dX11_nextOrder_31 rfl ?_
      obtain ⟨g3, h⟩ := zgd h
      refine em_iald dX11_nextOrder_32 hS (by decide) (by decide) (N := 5) rfl g3 rfl ?_
      refine ev_icmp_ge dX11_nextOrder_33 (tgt := 39) (by decide) (fun c4 => ?_) (fun c4 => ?_)
      · replace h := zit c4 h
        refine ev_iinc dX11_nextOrder_39 (v := l2 + (-1 : Int32)) rfl rfl (by decide) rfl ?_
        refine ev_goto dX11_nextOrder_42 (tgt := 15) (by decide) ?_
        exact EV.mask [true, true, true, false, false, false] rfl (ih l1 (l2 + (-1 : Int32)) I h)
      · replace h := zif c4 h
        exact EV.mask [true, true, true, false, false, false] rfl (hk36 l1 l2 I h)
set_option maxHeartbeats 4000000 in
set_option maxRecDepth 100000 in
theorem e11_nextOrder_L53 {w : zW} {d : Nat} {n : Nat} {kd : zMK} {R : zMR} {r : Int32 × zMI} {k75 : Int32 → Int32 → Int32 → zMI → Option (Int32 × zMI)} {k84 : Int32 → Int32 → Int32 → zMI → Option (Int32 × zMI)} (hw : zst w = zSt0) (hS : zSh n kd) (hd : 2 ≤ d)  (hk75 : ∀ (l1 : Int32) (l2 : Int32) (l3 : Int32) (I : zMI), k75 l1 l2 l3 I = some r → EV w d 0 0 Y11_nextOrder 75 [some (.ref 32), some (.int l1), some (.int l2), some (.int l3), none, none] [] (n, kd, I, R) (q11_nextOrder n kd R r)) (hk84 : ∀ (l1 : Int32) (l2 : Int32) (l3 : Int32) (I : zMI), k84 l1 l2 l3 I = some r → EV w d 0 0 Y11_nextOrder 84 [some (.ref 32), some (.int l1), some (.int l2), some (.int l3), none, none] [] (n, kd, I, R) (q11_nextOrder n kd R r)) : ∀ (q : Nat) (l1 : Int32) (l2 : Int32) (l3 : Int32) (I : zMI), f11_nextOrder_L53 k75 k84 q l1 l2 l3 I = some r → EV w d 0 0 Y11_nextOrder 53 [some (.ref 32), some (.int l1), some (.int l2), some (.int l3), none, none] [] (n, kd, I, R) (q11_nextOrder n kd R r) := by
  intro q
  induction q with
  | zero =>
    intro l1 l2 l3 I h
    cases h
  | succ q ih =>
    intro l1 l2 l3 I h
    unfold f11_nextOrder_L53 at h
    refine ev_iload_n dX11_nextOrder_53 rfl rfl ?_
    refine ev_iload_n dX11_nextOrder_54 rfl rfl ?_
    refine ev_iconst dX11_nextOrder_55 (v := (1 : Int32)) zci_1 ?_
    refine ev_iadd dX11_nextOrder_56 rfl ?_
    refine ev_icmp_le dX11_nextOrder_57 (tgt := 84) (by decide) (fun c5 => ?_) (fun c5 => ?_)
    · replace h := zit c5 h
      exact EV.mask [true, true, true, true, false, false] rfl (hk84 l1 l2 l3 I h)
    · replace h := zif c5 h
      refine ev_aload_n dX11_nextOrder_60 rfl rfl ?_
      refine em_getA dX11_nextOrder_61 zf_NineHeaps_52 rfl (hS.has 32 (by decide) (by decide) rfl) hw rfl ?_
      refine ev_iload_n dX11_nextOrder_64 rfl rfl ?_
      obtain ⟨g6, h⟩ := zgd h
      refine em_iald dX11_nextOrder_65 hS (by decide) (by decide) (N := 5) rfl g6 rfl ?_
      refine ev_aload_n dX11_nextOrder_66 rfl rfl ?_
      refine em_getA dX11_nextOrder_67 zf_NineHeaps_52 rfl (hS.has 32 (by decide) (by decide) rfl) hw rfl ?_
      refine ev_iload_n dX11_nextOrder_70 rfl rfl ?_
      obtain ⟨g7, h⟩ := zgd h
      refine em_iald dX11_nextOrder_71 hS (by decide) (by decide) (N := 5) rfl g7 rfl ?_
      refine ev_icmp_le dX11_nextOrder_72 (tgt := 78) (by decide) (fun c8 => ?_) (fun c8 => ?_)
      · replace h := zit c8 h
        refine ev_iinc dX11_nextOrder_78 (v := l3 + (-1 : Int32)) rfl rfl (by decide) rfl ?_
        refine ev_goto dX11_nextOrder_81 (tgt := 53) (by decide) ?_
        exact EV.mask [true, true, true, true, false, false] rfl (ih l1 l2 (l3 + (-1 : Int32)) I h)
      · replace h := zif c8 h
        exact EV.mask [true, true, true, true, false, false] rfl (hk75 l1 l2 l3 I h)
set_option maxHeartbeats 4000000 in
set_option maxRecDepth 100000 in
theorem e11_nextOrder_L98 {w : zW} {d : Nat} {n : Nat} {kd : zMK} {R : zMR} {r : Int32 × zMI}  (hw : zst w = zSt0) (hS : zSh n kd) (hd : 2 ≤ d)   : ∀ (q : Nat) (l4 : Int32) (l5 : Int32) (I : zMI), f11_nextOrder_L98  q l4 l5 I = some r → EV w d 0 0 Y11_nextOrder 98 [some (.ref 32), none, none, none, some (.int l4), some (.int l5)] [] (n, kd, I, R) (q11_nextOrder n kd R r) := by
  intro q
  induction q with
  | zero =>
    intro l4 l5 I h
    cases h
  | succ q ih =>
    intro l4 l5 I h
    unfold f11_nextOrder_L98 at h
    refine ev_iload dX11_nextOrder_98 rfl ?_
    refine ev_iload dX11_nextOrder_100 rfl ?_
    refine ev_icmp_ge dX11_nextOrder_102 (tgt := 122) (by decide) (fun c9 => ?_) (fun c9 => ?_)
    · replace h := zit c9 h
      refine ev_iconst dX11_nextOrder_122 (v := (1 : Int32)) zci_1 ?_
      obtain rfl := Option.some.inj h
      exact ev_end_i dX11_nextOrder_123 rfl rfl ⟨rfl, rfl⟩
    · replace h := zif c9 h
      refine ev_aload_n dX11_nextOrder_105 rfl rfl ?_
      refine ev_iload dX11_nextOrder_106 rfl ?_
      refine ev_iload dX11_nextOrder_108 rfl ?_
      obtain ⟨p10, e11, h⟩ := zbd h
      refine ev_callV0 dX11_nextOrder_110 zm11_swapInOrder zl_NineHeaps_250 zi11_swapInOrder zv11_swapInOrder (zrcX hS) (As := [.int l4, .int l5]) (rest := []) rfl rfl (Nat.le_of_ble_eq_true rfl) rfl (Nat.le_of_ble_eq_true rfl) (d' := 1) (by omega) (e11_swapInOrder hw hS (Nat.le_refl _) e11) (fun v μ1 q => ?_)
      obtain ⟨rfl, rfl⟩ := q
      refine ev_iinc dX11_nextOrder_113 (v := l4 + (1 : Int32)) rfl rfl (by decide) rfl ?_
      refine ev_iinc dX11_nextOrder_116 (v := l5 + (-1 : Int32)) rfl rfl (by decide) rfl ?_
      refine ev_goto dX11_nextOrder_119 (tgt := 98) (by decide) ?_
      exact EV.mask [true, false, false, false, true, true] rfl (ih (l4 + (1 : Int32)) (l5 + (-1 : Int32)) p10 h)
set_option maxHeartbeats 4000000 in
set_option maxRecDepth 100000 in
theorem e11_nextOrder_B84 {w : zW} {d : Nat} {n : Nat} {kd : zMK} {R : zMR} {r : Int32 × zMI}  (hw : zst w = zSt0) (hS : zSh n kd) (hd : 2 ≤ d)   : ∀ (l1 : Int32) (l2 : Int32) (l3 : Int32) (I : zMI), f11_nextOrder_B84 l1 l2 l3 I = some r → EV w d 0 0 Y11_nextOrder 84 [some (.ref 32), some (.int l1), some (.int l2), some (.int l3), none, none] [] (n, kd, I, R) (q11_nextOrder n kd R r) := by
  intro l1 l2 l3 I h
  unfold f11_nextOrder_B84 at h
  refine ev_aload_n dX11_nextOrder_84 rfl rfl ?_
  refine ev_iload_n dX11_nextOrder_85 rfl rfl ?_
  refine ev_iload_n dX11_nextOrder_86 rfl rfl ?_
  obtain ⟨p12, e13, h⟩ := zbd h
  refine ev_callV0 dX11_nextOrder_87 zm11_swapInOrder zl_NineHeaps_250 zi11_swapInOrder zv11_swapInOrder (zrcX hS) (As := [.int l2, .int l3]) (rest := []) rfl rfl (Nat.le_of_ble_eq_true rfl) rfl (Nat.le_of_ble_eq_true rfl) (d' := 1) (by omega) (e11_swapInOrder hw hS (Nat.le_refl _) e13) (fun v μ1 q => ?_)
  obtain ⟨rfl, rfl⟩ := q
  refine ev_iload_n dX11_nextOrder_90 rfl rfl ?_
  refine ev_iconst dX11_nextOrder_91 (v := (1 : Int32)) zci_1 ?_
  refine ev_iadd dX11_nextOrder_92 rfl ?_
  refine ev_istore dX11_nextOrder_93 (by decide) rfl ?_
  refine ev_iload_n dX11_nextOrder_95 rfl rfl ?_
  refine ev_istore dX11_nextOrder_96 (by decide) rfl ?_
  exact EV.mask [true, false, false, false, true, true] rfl (e11_nextOrder_L98 hw hS hd zF (l2 + (1 : Int32)) l1 p12 h)
set_option maxHeartbeats 4000000 in
set_option maxRecDepth 100000 in
theorem e11_nextOrder_B75 {w : zW} {d : Nat} {n : Nat} {kd : zMK} {R : zMR} {r : Int32 × zMI}  (hw : zst w = zSt0) (hS : zSh n kd) (hd : 2 ≤ d)   : ∀ (l1 : Int32) (l2 : Int32) (l3 : Int32) (I : zMI), f11_nextOrder_B75 l1 l2 l3 I = some r → EV w d 0 0 Y11_nextOrder 75 [some (.ref 32), some (.int l1), some (.int l2), some (.int l3), none, none] [] (n, kd, I, R) (q11_nextOrder n kd R r) := by
  intro l1 l2 l3 I h
  unfold f11_nextOrder_B75 at h
  refine ev_goto dX11_nextOrder_75 (tgt := 84) (by decide) ?_
  exact EV.mask [true, true, true, true, false, false] rfl (e11_nextOrder_B84 hw hS hd l1 l2 l3 I h)
set_option maxHeartbeats 4000000 in
set_option maxRecDepth 100000 in
theorem e11_nextOrder_B45 {w : zW} {d : Nat} {n : Nat} {kd : zMK} {R : zMR} {r : Int32 × zMI}  (hw : zst w = zSt0) (hS : zSh n kd) (hd : 2 ≤ d)   : ∀ (l1 : Int32) (l2 : Int32) (I : zMI), f11_nextOrder_B45 l1 l2 I = some r → EV w d 0 0 Y11_nextOrder 45 [some (.ref 32), some (.int l1), some (.int l2), none, none, none] [] (n, kd, I, R) (q11_nextOrder n kd R r) := by
  intro l1 l2 I h
  unfold f11_nextOrder_B45 at h
  refine ev_iload_n dX11_nextOrder_45 rfl rfl ?_
  refine ev_if_ge dX11_nextOrder_46 (tgt := 51) (by decide) (fun c14 => ?_) (fun c14 => ?_)
  · replace h := zit c14 h
    refine ev_iload_n dX11_nextOrder_51 rfl rfl ?_
    refine ev_istore_n dX11_nextOrder_52 rfl (by decide) rfl ?_
    exact EV.mask [true, true, true, true, false, false] rfl (e11_nextOrder_L53 hw hS hd (fun l1' l2' l3' I' h' => e11_nextOrder_B75 hw hS hd l1' l2' l3' I' h') (fun l1' l2' l3' I' h' => e11_nextOrder_B84 hw hS hd l1' l2' l3' I' h') zF l1 l2 l1 I h)
  · replace h := zif c14 h
    refine ev_iconst dX11_nextOrder_49 (v := (0 : Int32)) zci_0 ?_
    obtain rfl := Option.some.inj h
    exact ev_end_i dX11_nextOrder_50 rfl rfl ⟨rfl, rfl⟩
set_option maxHeartbeats 4000000 in
set_option maxRecDepth 100000 in
theorem e11_nextOrder_B36 {w : zW} {d : Nat} {n : Nat} {kd : zMK} {R : zMR} {r : Int32 × zMI}  (hw : zst w = zSt0) (hS : zSh n kd) (hd : 2 ≤ d)   : ∀ (l1 : Int32) (l2 : Int32) (I : zMI), f11_nextOrder_B36 l1 l2 I = some r → EV w d 0 0 Y11_nextOrder 36 [some (.ref 32), some (.int l1), some (.int l2), none, none, none] [] (n, kd, I, R) (q11_nextOrder n kd R r) := by
  intro l1 l2 I h
  unfold f11_nextOrder_B36 at h
  refine ev_goto dX11_nextOrder_36 (tgt := 45) (by decide) ?_
  exact EV.mask [true, true, true, false, false, false] rfl (e11_nextOrder_B45 hw hS hd l1 l2 I h)
set_option maxHeartbeats 4000000 in
set_option maxRecDepth 100000 in
theorem e11_nextOrder {w : zW} {d : Nat} {n : Nat} {kd : zMK} {I : zMI} {R : zMR} {r : Int32 × zMI}  (hw : zst w = zSt0) (hS : zSh n kd) (hd : 2 ≤ d)  (h : f11_nextOrder I = some r) : EV w d 0 0 Y11_nextOrder 0 [some (.ref 32), none, none, none, none, none] [] (n, kd, I, R) (q11_nextOrder n kd R r) := by
  unfold f11_nextOrder at h
  refine ev_aload_n dX11_nextOrder_0 rfl rfl ?_
  refine em_getI dX11_nextOrder_1 zf_NineHeaps_94 rfl (hS.has 32 (by decide) (by decide) rfl) rfl ?_
  refine ev_iconst dX11_nextOrder_4 (v := (5 : Int32)) zci_5 ?_
  obtain ⟨x15, e16, h⟩ := zld h
  refine ev_min dX11_nextOrder_5 zl_NineHeaps_227 zmm_min_s zn_java_lang_Math zmm_min_c (by omega) (Nat.le_of_ble_eq_true rfl) e16 ?_
  refine ev_iconst dX11_nextOrder_8 (v := (1 : Int32)) zci_1 ?_
  refine ev_isub dX11_nextOrder_9 rfl ?_
  refine ev_istore_n dX11_nextOrder_10 rfl (by decide) rfl ?_
  refine ev_iload_n dX11_nextOrder_11 rfl rfl ?_
  refine ev_iconst dX11_nextOrder_12 (v := (1 : Int32)) zci_1 ?_
  refine ev_isub dX11_nextOrder_13 rfl ?_
  obtain ⟨x17, e18, h⟩ := zld h
  refine ev_nm e18 ?_
  refine ev_istore_n dX11_nextOrder_14 rfl (by decide) rfl ?_
  exact EV.mask [true, true, true, false, false, false] rfl (e11_nextOrder_L15 hw hS hd (fun l1' l2' I' h' => e11_nextOrder_B36 hw hS hd l1' l2' I' h') (fun l1' l2' I' h' => e11_nextOrder_B45 hw hS hd l1' l2' I' h') zF (x15 - (1 : Int32)) x17 I h)
abbrev q11_best (n : Nat) (kd : zMK) (r : Int32 × zMI × zMR) : Option Value → zM → Prop := fun v μ1 => v = some (.int r.1) ∧ μ1 = (n, kd, r.2.1, r.2.2)
set_option maxHeartbeats 4000000 in
set_option maxRecDepth 100000 in
theorem e11_best_B169 {w : zW} {d : Nat} {n : Nat} {kd : zMK} {r : Int32 × zMI × zMR} {k30 : Int32 → Int32 → Int32 → Int32 → Int32 → Int32 → zMI → zMR → Option (Int32 × zMI × zMR)} (hw : zst w = zSt0) (hS : zSh n kd) (hd : 8 ≤ d)  (hk30 : ∀ (l1 : Int32) (l2 : Int32) (l3 : Int32) (l4 : Int32) (l5 : Int32) (l6 : Int32) (I : zMI) (R : zMR), k30 l1 l2 l3 l4 l5 l6 I R = some r → EV w d 0 0 Y11_best 30 [some (.ref 32), some (.int l1), some (.int l2), some (.int l3), some (.int l4), some (.int l5), some (.int l6), none, none] [] (n, kd, I, R) (q11_best n kd r)) : ∀ (l1 : Int32) (l2 : Int32) (l3 : Int32) (l4 : Int32) (l6 : Int32) (I : zMI) (R : zMR), f11_best_B169 n kd k30 l1 l2 l3 l4 l6 I R = some r → EV w d 0 0 Y11_best 169 [some (.ref 32), some (.int l1), some (.int l2), some (.int l3), some (.int l4), none, some (.int l6), none, none] [] (n, kd, I, R) (q11_best n kd r) := by
  intro l1 l2 l3 l4 l6 I R h
  unfold f11_best_B169 at h
  refine ev_aload_n dX11_best_169 rfl rfl ?_
  obtain ⟨p1, e2, h⟩ := zbd h
  refine ev_callV0 dX11_best_170 zm11_nextOrder zl_NineHeaps_233 zi11_nextOrder zv11_nextOrder (zrcX hS) (As := []) (rest := []) rfl rfl (Nat.le_of_ble_eq_true rfl) rfl (Nat.le_of_ble_eq_true rfl) (d' := 2) (by omega) (e11_nextOrder hw hS (Nat.le_refl _) e2) (fun v μ1 q => ?_)
  obtain ⟨rfl, rfl⟩ := q
  refine ev_istore dX11_best_173 (by decide) rfl ?_
  refine ev_iinc dX11_best_175 (v := l6 + (1 : Int32)) rfl rfl (by decide) rfl ?_
  refine ev_goto dX11_best_178 (tgt := 30) (by decide) ?_
  exact EV.mask [true, true, true, true, true, true, true, false, false] rfl (hk30 l1 l2 l3 l4 p1.1 (l6 + (1 : Int32)) p1.2 R h)
set_option maxHeartbeats 4000000 in
set_option maxRecDepth 100000 in
theorem e11_best_B152 {w : zW} {d : Nat} {n : Nat} {kd : zMK} {r : Int32 × zMI × zMR} {k30 : Int32 → Int32 → Int32 → Int32 → Int32 → Int32 → zMI → zMR → Option (Int32 × zMI × zMR)} (hw : zst w = zSt0) (hS : zSh n kd) (hd : 8 ≤ d)  (hk30 : ∀ (l1 : Int32) (l2 : Int32) (l3 : Int32) (l4 : Int32) (l5 : Int32) (l6 : Int32) (I : zMI) (R : zMR), k30 l1 l2 l3 l4 l5 l6 I R = some r → EV w d 0 0 Y11_best 30 [some (.ref 32), some (.int l1), some (.int l2), some (.int l3), some (.int l4), some (.int l5), some (.int l6), none, none] [] (n, kd, I, R) (q11_best n kd r)) : ∀ (l1 : Int32) (l6 : Int32) (l8 : Int32) (I : zMI) (R : zMR), f11_best_B152 n kd k30 l1 l6 l8 I R = some r → EV w d 0 0 Y11_best 152 [some (.ref 32), some (.int l1), none, none, none, none, some (.int l6), none, some (.int l8)] [] (n, kd, I, R) (q11_best n kd r) := by
  intro l1 l6 l8 I R h
  unfold f11_best_B152 at h
  refine ev_iload dX11_best_152 rfl ?_
  refine ev_istore_n dX11_best_154 rfl (by decide) rfl ?_
  refine ev_aload_n dX11_best_155 rfl rfl ?_
  refine em_getA dX11_best_156 zf_NineHeaps_48 rfl (hS.has 32 (by decide) (by decide) rfl) hw rfl ?_
  refine em_getI dX11_best_159 zf_NineHeaps_173 rfl (hS.has 42 (by decide) (by decide) rfl) rfl ?_
  refine ev_istore_n dX11_best_162 rfl (by decide) rfl ?_
  refine ev_aload_n dX11_best_163 rfl rfl ?_
  obtain ⟨p3, e4, h⟩ := zbd h
  refine ev_callV0 dX11_best_164 zm11_orderAsDigits zl_NineHeaps_230 zi11_orderAsDigits zv11_orderAsDigits (zrcX hS) (As := []) (rest := []) rfl rfl (Nat.le_of_ble_eq_true rfl) rfl (Nat.le_of_ble_eq_true rfl) (d' := 1) (by omega) (e11_orderAsDigits hw hS (Nat.le_refl _) e4) (fun v μ1 q => ?_)
  obtain ⟨rfl, rfl⟩ := q
  refine ev_istore dX11_best_167 (by decide) rfl ?_
  exact EV.mask [true, true, true, true, true, false, true, false, false] rfl (e11_best_B169 hw hS hd hk30 l1 l8 (I 42 9) p3 l6 I R h)
set_option maxHeartbeats 4000000 in
set_option maxRecDepth 100000 in
theorem e11_best_B133 {w : zW} {d : Nat} {n : Nat} {kd : zMK} {r : Int32 × zMI × zMR} {k30 : Int32 → Int32 → Int32 → Int32 → Int32 → Int32 → zMI → zMR → Option (Int32 × zMI × zMR)} (hw : zst w = zSt0) (hS : zSh n kd) (hd : 8 ≤ d)  (hk30 : ∀ (l1 : Int32) (l2 : Int32) (l3 : Int32) (l4 : Int32) (l5 : Int32) (l6 : Int32) (I : zMI) (R : zMR), k30 l1 l2 l3 l4 l5 l6 I R = some r → EV w d 0 0 Y11_best 30 [some (.ref 32), some (.int l1), some (.int l2), some (.int l3), some (.int l4), some (.int l5), some (.int l6), none, none] [] (n, kd, I, R) (q11_best n kd r)) : ∀ (l1 : Int32) (l2 : Int32) (l3 : Int32) (l4 : Int32) (l6 : Int32) (s0 : Int32) (I : zMI) (R : zMR), f11_best_B133 n kd k30 l1 l2 l3 l4 l6 s0 I R = some r → EV w d 0 0 Y11_best 133 [some (.ref 32), some (.int l1), some (.int l2), some (.int l3), some (.int l4), none, some (.int l6), none, none] [.int s0] (n, kd, I, R) (q11_best n kd r) := by
  intro l1 l2 l3 l4 l6 s0 I R h
  unfold f11_best_B133 at h
  refine ev_istore dX11_best_133 (by decide) rfl ?_
  refine ev_iload dX11_best_135 rfl ?_
  refine ev_iload_n dX11_best_137 rfl rfl ?_
  refine ev_icmp_lt dX11_best_138 (tgt := 152) (by decide) (fun c5 => ?_) (fun c5 => ?_)
  · replace h := zit c5 h
    exact EV.mask [true, true, false, false, false, false, true, false, true] rfl (e11_best_B152 hw hS hd hk30 l1 l6 s0 I R h)
  · replace h := zif c5 h
    refine ev_aload_n dX11_best_141 rfl rfl ?_
    refine em_getA dX11_best_142 zf_NineHeaps_48 rfl (hS.has 32 (by decide) (by decide) rfl) hw rfl ?_
    refine em_getI dX11_best_145 zf_NineHeaps_173 rfl (hS.has 42 (by decide) (by decide) rfl) rfl ?_
    refine ev_iload_n dX11_best_148 rfl rfl ?_
    refine ev_icmp_le dX11_best_149 (tgt := 169) (by decide) (fun c6 => ?_) (fun c6 => ?_)
    · replace h := zit c6 h
      exact EV.mask [true, true, true, true, true, false, true, false, false] rfl (e11_best_B169 hw hS hd hk30 l1 l2 l3 l4 l6 I R h)
    · replace h := zif c6 h
      exact EV.mask [true, true, false, false, false, false, true, false, true] rfl (e11_best_B152 hw hS hd hk30 l1 l6 s0 I R h)
set_option maxHeartbeats 4000000 in
set_option maxRecDepth 100000 in
theorem e11_best_B89 {w : zW} {d : Nat} {n : Nat} {kd : zMK} {r : Int32 × zMI × zMR} {k30 : Int32 → Int32 → Int32 → Int32 → Int32 → Int32 → zMI → zMR → Option (Int32 × zMI × zMR)} (hw : zst w = zSt0) (hS : zSh n kd) (hd : 8 ≤ d)  (hk30 : ∀ (l1 : Int32) (l2 : Int32) (l3 : Int32) (l4 : Int32) (l5 : Int32) (l6 : Int32) (I : zMI) (R : zMR), k30 l1 l2 l3 l4 l5 l6 I R = some r → EV w d 0 0 Y11_best 30 [some (.ref 32), some (.int l1), some (.int l2), some (.int l3), some (.int l4), some (.int l5), some (.int l6), none, none] [] (n, kd, I, R) (q11_best n kd r)) : ∀ (l1 : Int32) (l2 : Int32) (l3 : Int32) (l4 : Int32) (l6 : Int32) (l7 : Int32) (s0 : Int32) (I : zMI) (R : zMR), f11_best_B89 n kd k30 l1 l2 l3 l4 l6 l7 s0 I R = some r → EV w d 0 0 Y11_best 89 [some (.ref 32), some (.int l1), some (.int l2), some (.int l3), some (.int l4), none, some (.int l6), some (.int l7), none] [.int s0] (n, kd, I, R) (q11_best n kd r) := by
  intro l1 l2 l3 l4 l6 l7 s0 I R h
  unfold f11_best_B89 at h
  refine ev_istore dX11_best_89 (by decide) rfl ?_
  refine ev_iload dX11_best_91 rfl ?_
  refine ev_iload_n dX11_best_93 rfl rfl ?_
  refine ev_icmp_gt dX11_best_94 (tgt := 169) (by decide) (fun c7 => ?_) (fun c7 => ?_)
  · replace h := zit c7 h
    exact EV.mask [true, true, true, true, true, false, true, false, false] rfl (e11_best_B169 hw hS hd hk30 l1 l2 l3 l4 l6 I R h)
  · replace h := zif c7 h
    refine ev_aload_n dX11_best_97 rfl rfl ?_
    refine em_getA dX11_best_98 zf_NineHeaps_48 rfl (hS.has 32 (by decide) (by decide) rfl) hw rfl ?_
    refine ev_sipush dX11_best_101 (v := (600 : Int32)) zcs_600 ?_
    refine ev_iload dX11_best_104 rfl ?_
    refine ev_isub dX11_best_106 rfl ?_
    obtain ⟨p8, e9, h⟩ := zbd h
    refine ev_callV0 dX11_best_107 zm0_pass zl_NineHeaps_170 zi0_pass zv0_pass (zrcG hS) (As := [.int ((600 : Int32) - l7)]) (rest := []) rfl rfl (Nat.le_of_ble_eq_true rfl) rfl (Nat.le_of_ble_eq_true rfl) (d' := 7) (by omega) (e0_pass hw hS (Nat.le_refl _) e9) (fun v μ1 q => ?_)
    obtain ⟨rfl, rfl⟩ := q
    refine ev_aload_n dX11_best_110 rfl rfl ?_
    refine em_getA dX11_best_111 zf_NineHeaps_48 rfl (hS.has 32 (by decide) (by decide) rfl) hw rfl ?_
    refine em_getI dX11_best_114 zf_NineHeaps_185 rfl (hS.has 42 (by decide) (by decide) rfl) rfl ?_
    refine ev_iconst dX11_best_117 (v := (-1 : Int32)) zci_m1 ?_
    refine ev_icmp_ne dX11_best_118 (tgt := 126) (by decide) (fun c10 => ?_) (fun c10 => ?_)
    · replace h := zif c10 h
      refine ev_aload_n dX11_best_126 rfl rfl ?_
      refine em_getA dX11_best_127 zf_NineHeaps_48 rfl (hS.has 32 (by decide) (by decide) rfl) hw rfl ?_
      refine em_getI dX11_best_130 zf_NineHeaps_185 rfl (hS.has 42 (by decide) (by decide) rfl) rfl ?_
      exact EV.mask [true, true, true, true, true, false, true, false, false] rfl (e11_best_B133 hw hS hd hk30 l1 l2 l3 l4 l6 (p8 42 12) p8 R h)
    · replace h := zit c10 h
      refine ev_ldc dX11_best_121 zk_NineHeaps_220 ?_
      refine ev_goto dX11_best_123 (tgt := 133) (by decide) ?_
      exact EV.mask [true, true, true, true, true, false, true, false, false] rfl (e11_best_B133 hw hS hd hk30 l1 l2 l3 l4 l6 (1000000 : Int32) p8 R h)
set_option maxHeartbeats 4000000 in
set_option maxRecDepth 100000 in
theorem e11_best_L30 {w : zW} {d : Nat} {n : Nat} {kd : zMK} {r : Int32 × zMI × zMR} {k181 : Int32 → Int32 → Int32 → Int32 → zMI → zMR → Option (Int32 × zMI × zMR)} (hw : zst w = zSt0) (hS : zSh n kd) (hd : 8 ≤ d)  (hk181 : ∀ (l1 : Int32) (l2 : Int32) (l3 : Int32) (l4 : Int32) (I : zMI) (R : zMR), k181 l1 l2 l3 l4 I R = some r → EV w d 0 0 Y11_best 181 [none, some (.int l1), some (.int l2), some (.int l3), some (.int l4), none, none, none, none] [] (n, kd, I, R) (q11_best n kd r)) : ∀ (q : Nat) (l1 : Int32) (l2 : Int32) (l3 : Int32) (l4 : Int32) (l5 : Int32) (l6 : Int32) (I : zMI) (R : zMR), f11_best_L30 n kd k181 q l1 l2 l3 l4 l5 l6 I R = some r → EV w d 0 0 Y11_best 30 [some (.ref 32), some (.int l1), some (.int l2), some (.int l3), some (.int l4), some (.int l5), some (.int l6), none, none] [] (n, kd, I, R) (q11_best n kd r) := by
  intro q
  induction q with
  | zero =>
    intro l1 l2 l3 l4 l5 l6 I R h
    cases h
  | succ q ih =>
    intro l1 l2 l3 l4 l5 l6 I R h
    unfold f11_best_L30 at h
    refine ev_iload dX11_best_30 rfl ?_
    refine ev_bipush dX11_best_32 (v := (120 : Int32)) zcb_120 ?_
    refine ev_icmp_ge dX11_best_34 (tgt := 181) (by decide) (fun c11 => ?_) (fun c11 => ?_)
    · replace h := zit c11 h
      exact EV.mask [false, true, true, true, true, false, false, false, false] rfl (hk181 l1 l2 l3 l4 I R h)
    · replace h := zif c11 h
      refine ev_iload dX11_best_37 rfl ?_
      refine ev_if_eq dX11_best_39 (tgt := 181) (by decide) (fun c12 => ?_) (fun c12 => ?_)
      · replace h := zit c12 h
        exact EV.mask [false, true, true, true, true, false, false, false, false] rfl (hk181 l1 l2 l3 l4 I R h)
      · replace h := zif c12 h
        refine ev_aload_n dX11_best_42 rfl rfl ?_
        obtain ⟨p13, e14, h⟩ := zbd h
        refine ev_callV0 dX11_best_43 zm11_layByOrder zl_NineHeaps_224 zi11_layByOrder zv11_layByOrder (zrcX hS) (As := []) (rest := []) rfl rfl (Nat.le_of_ble_eq_true rfl) rfl (Nat.le_of_ble_eq_true rfl) (d' := 5) (by omega) (e11_layByOrder hw hS (Nat.le_refl _) e14) (fun v μ1 q => ?_)
        obtain ⟨rfl, rfl⟩ := q
        refine ev_iload_n dX11_best_46 rfl rfl ?_
        refine ev_iconst dX11_best_47 (v := (1 : Int32)) zci_1 ?_
        refine ev_iadd dX11_best_48 rfl ?_
        refine ev_sipush dX11_best_49 (v := (600 : Int32)) zcs_600 ?_
        obtain ⟨x15, e16, h⟩ := zld h
        refine ev_min dX11_best_52 zl_NineHeaps_227 zmm_min_s zn_java_lang_Math zmm_min_c (by omega) (Nat.le_of_ble_eq_true rfl) e16 ?_
        refine ev_istore dX11_best_55 (by decide) rfl ?_
        refine ev_aload_n dX11_best_57 rfl rfl ?_
        refine em_getA dX11_best_58 zf_NineHeaps_48 rfl (hS.has 32 (by decide) (by decide) rfl) hw rfl ?_
        refine ev_iload dX11_best_61 rfl ?_
        obtain ⟨p17, e18, h⟩ := zbd h
        refine ev_callV0 dX11_best_63 zm0_pass zl_NineHeaps_170 zi0_pass zv0_pass (zrcG hS) (As := [.int x15]) (rest := []) rfl rfl (Nat.le_of_ble_eq_true rfl) rfl (Nat.le_of_ble_eq_true rfl) (d' := 7) (by omega) (e0_pass hw hS (Nat.le_refl _) e18) (fun v μ1 q => ?_)
        obtain ⟨rfl, rfl⟩ := q
        refine ev_aload_n dX11_best_66 rfl rfl ?_
        refine em_getA dX11_best_67 zf_NineHeaps_48 rfl (hS.has 32 (by decide) (by decide) rfl) hw rfl ?_
        refine em_getI dX11_best_70 zf_NineHeaps_185 rfl (hS.has 42 (by decide) (by decide) rfl) rfl ?_
        refine ev_iconst dX11_best_73 (v := (-1 : Int32)) zci_m1 ?_
        refine ev_icmp_ne dX11_best_74 (tgt := 82) (by decide) (fun c19 => ?_) (fun c19 => ?_)
        · replace h := zif c19 h
          refine ev_aload_n dX11_best_82 rfl rfl ?_
          refine em_getA dX11_best_83 zf_NineHeaps_48 rfl (hS.has 32 (by decide) (by decide) rfl) hw rfl ?_
          refine em_getI dX11_best_86 zf_NineHeaps_185 rfl (hS.has 42 (by decide) (by decide) rfl) rfl ?_
          exact EV.mask [true, true, true, true, true, false, true, true, false] rfl (e11_best_B89 hw hS hd (fun l1' l2' l3' l4' l5' l6' I' R' h' => ih l1' l2' l3' l4' l5' l6' I' R' h') l1 l2 l3 l4 l6 x15 (p17 42 12) p17 p13.2 h)
        · replace h := zit c19 h
          refine ev_ldc dX11_best_77 zk_NineHeaps_220 ?_
          refine ev_goto dX11_best_79 (tgt := 89) (by decide) ?_
          exact EV.mask [true, true, true, true, true, false, true, true, false] rfl (e11_best_B89 hw hS hd (fun l1' l2' l3' l4' l5' l6' I' R' h' => ih l1' l2' l3' l4' l5' l6' I' R' h') l1 l2 l3 l4 l6 x15 (1000000 : Int32) p17 p13.2 h)
set_option maxHeartbeats 4000000 in
set_option maxRecDepth 100000 in
theorem e11_best_B181 {w : zW} {d : Nat} {n : Nat} {kd : zMK} {r : Int32 × zMI × zMR}  (hw : zst w = zSt0) (hS : zSh n kd) (hd : 8 ≤ d)   : ∀ (l1 : Int32) (l2 : Int32) (l3 : Int32) (l4 : Int32) (I : zMI) (R : zMR), f11_best_B181 n kd l1 l2 l3 l4 I R = some r → EV w d 0 0 Y11_best 181 [none, some (.int l1), some (.int l2), some (.int l3), some (.int l4), none, none, none, none] [] (n, kd, I, R) (q11_best n kd r) := by
  intro l1 l2 l3 l4 I R h
  unfold f11_best_B181 at h
  refine ev_iload_n dX11_best_181 rfl rfl ?_
  refine ev_if_ne dX11_best_182 (tgt := 197) (by decide) (fun c20 => ?_) (fun c20 => ?_)
  · replace h := zif c20 h
    refine ev_iload_n dX11_best_197 rfl rfl ?_
    refine ev_iconst dX11_best_198 (v := (1 : Int32)) zci_1 ?_
    obtain ⟨x22, e23, h⟩ := zld h
    have k24 : EV w d 0 0 Y11_best 208 [none, some (.int l1), some (.int l2), some (.int l3), some (.int l4), none, none, none, none] [.int x22] (n, kd, I, R) (q11_best n kd r) := by
      obtain rfl := Option.some.inj h
      exact ev_end_i dX11_best_208 rfl rfl ⟨rfl, rfl⟩
    clear h
    have h := e23
    clear e23
    refine ev_icmp_ne dX11_best_199 (tgt := 206) (by decide) (fun c21 => ?_) (fun c21 => ?_)
    · replace h := zif c21 h
      refine ev_iload dX11_best_206 rfl ?_
      obtain rfl := h
      exact k24
    · replace h := zit c21 h
      refine ev_iload_n dX11_best_202 rfl rfl ?_
      refine ev_goto dX11_best_203 (tgt := 208) (by decide) ?_
      obtain rfl := h
      exact k24
  · replace h := zit c20 h
    refine ev_iload_n dX11_best_185 rfl rfl ?_
    refine ev_ldc dX11_best_186 zk_NineHeaps_220 ?_
    obtain ⟨x26, e27, h⟩ := zld h
    have k28 : EV w d 0 0 Y11_best 196 [none, some (.int l1), some (.int l2), some (.int l3), some (.int l4), none, none, none, none] [.int x26] (n, kd, I, R) (q11_best n kd r) := by
      obtain rfl := Option.some.inj h
      exact ev_end_i dX11_best_196 rfl rfl ⟨rfl, rfl⟩
    clear h
    have h := e27
    clear e27
    refine ev_icmp_ne dX11_best_188 (tgt := 195) (by decide) (fun c25 => ?_) (fun c25 => ?_)
    · replace h := zif c25 h
      refine ev_iload_n dX11_best_195 rfl rfl ?_
      obtain rfl := h
      exact k28
    · replace h := zit c25 h
      refine ev_iconst dX11_best_191 (v := (-1 : Int32)) zci_m1 ?_
      refine ev_goto dX11_best_192 (tgt := 196) (by decide) ?_
      obtain rfl := h
      exact k28
set_option maxHeartbeats 4000000 in
set_option maxRecDepth 100000 in
theorem e11_best {w : zW} {d : Nat} {n : Nat} {kd : zMK} {I : zMI} {R : zMR} {r : Int32 × zMI × zMR} {l1 : Int32} (hw : zst w = zSt0) (hS : zSh n kd) (hd : 8 ≤ d)  (h : f11_best n kd l1 I R = some r) : EV w d 0 0 Y11_best 0 [some (.ref 32), some (.int l1), none, none, none, none, none, none, none] [] (n, kd, I, R) (q11_best n kd r) := by
  unfold f11_best at h
  refine ev_iload_n dX11_best_0 rfl rfl ?_
  refine ev_if_lt dX11_best_1 (tgt := 9) (by decide) (fun c29 => ?_) (fun c29 => ?_)
  · replace h := zit c29 h
    refine ev_bipush dX11_best_9 (v := (-2 : Int32)) zcb_m2 ?_
    obtain rfl := Option.some.inj h
    exact ev_end_i dX11_best_11 rfl rfl ⟨rfl, rfl⟩
  · replace h := zif c29 h
    refine ev_iload_n dX11_best_4 rfl rfl ?_
    refine ev_iconst dX11_best_5 (v := (2 : Int32)) zci_2 ?_
    refine ev_icmp_le dX11_best_6 (tgt := 12) (by decide) (fun c30 => ?_) (fun c30 => ?_)
    · replace h := zit c30 h
      refine ev_ldc dX11_best_12 zk_NineHeaps_220 ?_
      refine ev_istore_n dX11_best_14 rfl (by decide) rfl ?_
      refine ev_iconst dX11_best_15 (v := (-1 : Int32)) zci_m1 ?_
      refine ev_istore_n dX11_best_16 rfl (by decide) rfl ?_
      refine ev_iconst dX11_best_17 (v := (0 : Int32)) zci_0 ?_
      refine ev_istore dX11_best_18 (by decide) rfl ?_
      refine ev_iconst dX11_best_20 (v := (1 : Int32)) zci_1 ?_
      refine ev_istore dX11_best_21 (by decide) rfl ?_
      refine ev_aload_n dX11_best_23 rfl rfl ?_
      obtain ⟨p31, e32, h⟩ := zbd h
      refine ev_callV0 dX11_best_24 zm11_orderByNumbers zl_NineHeaps_221 zi11_orderByNumbers zv11_orderByNumbers (zrcX hS) (As := []) (rest := []) rfl rfl (Nat.le_of_ble_eq_true rfl) rfl (Nat.le_of_ble_eq_true rfl) (d' := 1) (by omega) (e11_orderByNumbers hw hS (Nat.le_refl _) e32) (fun v μ1 q => ?_)
      obtain ⟨rfl, rfl⟩ := q
      refine ev_iconst dX11_best_27 (v := (0 : Int32)) zci_0 ?_
      refine ev_istore dX11_best_28 (by decide) rfl ?_
      exact EV.mask [true, true, true, true, true, true, true, false, false] rfl (e11_best_L30 hw hS hd (fun l1' l2' l3' l4' I' R' h' => e11_best_B181 hw hS hd l1' l2' l3' l4' I' R' h') zF l1 (1000000 : Int32) (-1 : Int32) (0 : Int32) (1 : Int32) (0 : Int32) p31 R h)
    · replace h := zif c30 h
      refine ev_bipush dX11_best_9 (v := (-2 : Int32)) zcb_m2 ?_
      obtain rfl := Option.some.inj h
      exact ev_end_i dX11_best_11 rfl rfl ⟨rfl, rfl⟩
abbrev q11_start (n : Nat) (kd : zMK) (r : Int32 × zMI × zMR) : Option Value → zM → Prop := fun v μ1 => v = some (.int r.1) ∧ μ1 = (n, kd, r.2.1, r.2.2)
set_option maxHeartbeats 4000000 in
set_option maxRecDepth 100000 in
theorem e11_start_B86 {w : zW} {d : Nat} {n : Nat} {kd : zMK} {r : Int32 × zMI × zMR} {k34 : Int32 → Option Nat → Int32 → Int32 → Int32 → zMI → zMR → Option (Int32 × zMI × zMR)} (hw : zst w = zSt0) (hS : zSh n kd) (hd : 8 ≤ d)  (hk34 : ∀ (l2 : Int32) (l3 : Option Nat) (l4 : Int32) (l5 : Int32) (l6 : Int32) (I : zMI) (R : zMR), k34 l2 l3 l4 l5 l6 I R = some r → EV w d 0 0 Y11_start 34 [some (.ref 32), none, some (.int l2), some (va_rf l3), some (.int l4), some (.int l5), some (.int l6)] [] (n, kd, I, R) (q11_start n kd r)) : ∀ (l2 : Int32) (l3 : Option Nat) (l4 : Int32) (l5 : Int32) (l6 : Int32) (I : zMI) (R : zMR), f11_start_B86 n kd k34 l2 l3 l4 l5 l6 I R = some r → EV w d 0 0 Y11_start 86 [some (.ref 32), none, some (.int l2), some (va_rf l3), some (.int l4), some (.int l5), some (.int l6)] [] (n, kd, I, R) (q11_start n kd r) := by
  intro l2 l3 l4 l5 l6 I R h
  unfold f11_start_B86 at h
  refine ev_iinc dX11_start_86 (v := l6 + (1 : Int32)) rfl rfl (by decide) rfl ?_
  refine ev_goto dX11_start_89 (tgt := 34) (by decide) ?_
  exact EV.mask [true, false, true, true, true, true, true] rfl (hk34 l2 l3 l4 l5 (l6 + (1 : Int32)) I R h)
set_option maxHeartbeats 4000000 in
set_option maxRecDepth 100000 in
theorem e11_start_L34 {w : zW} {d : Nat} {n : Nat} {kd : zMK} {r : Int32 × zMI × zMR} {k92 : Int32 → Int32 → Int32 → zMI → zMR → Option (Int32 × zMI × zMR)} (hw : zst w = zSt0) (hS : zSh n kd) (hd : 8 ≤ d)  (hk92 : ∀ (l2 : Int32) (l4 : Int32) (l5 : Int32) (I : zMI) (R : zMR), k92 l2 l4 l5 I R = some r → EV w d 0 0 Y11_start 92 [none, none, some (.int l2), none, some (.int l4), some (.int l5), none] [] (n, kd, I, R) (q11_start n kd r)) : ∀ (q : Nat) (l2 : Int32) (l3 : Option Nat) (l4 : Int32) (l5 : Int32) (l6 : Int32) (I : zMI) (R : zMR), f11_start_L34 n kd k92 q l2 l3 l4 l5 l6 I R = some r → EV w d 0 0 Y11_start 34 [some (.ref 32), none, some (.int l2), some (va_rf l3), some (.int l4), some (.int l5), some (.int l6)] [] (n, kd, I, R) (q11_start n kd r) := by
  intro q
  induction q with
  | zero =>
    intro l2 l3 l4 l5 l6 I R h
    cases h
  | succ q ih =>
    intro l2 l3 l4 l5 l6 I R h
    unfold f11_start_L34 at h
    refine ev_iload dX11_start_34 rfl ?_
    refine ev_bipush dX11_start_36 (v := (9 : Int32)) zcb_9 ?_
    refine ev_icmp_ge dX11_start_38 (tgt := 92) (by decide) (fun c1 => ?_) (fun c1 => ?_)
    · replace h := zit c1 h
      exact EV.mask [false, false, true, false, true, true, false] rfl (hk92 l2 l4 l5 I R h)
    · replace h := zif c1 h
      refine ev_aload_n dX11_start_41 rfl rfl ?_
      obtain ⟨p2, e3, h⟩ := zbd h
      refine ev_callV0 dX11_start_42 zm11_layPlain zl_NineHeaps_167 zi11_layPlain zv11_layPlain (zrcX hS) (As := []) (rest := []) rfl rfl (Nat.le_of_ble_eq_true rfl) rfl (Nat.le_of_ble_eq_true rfl) (d' := 6) (by omega) (e11_layPlain hw hS (Nat.le_refl _) e3) (fun v μ1 q => ?_)
      obtain ⟨rfl, rfl⟩ := q
      refine ev_aload_no dX11_start_45 rfl rfl ?_
      refine ev_iload dX11_start_46 rfl ?_
      rcases zopt l3 with o5 | ⟨a4, o5⟩
      · have h9 := zmn o5 h
        cases h9
      replace h := zms o5 h
      obtain ⟨g6, h⟩ := zgd h
      obtain ⟨cg6, wg6, yg6⟩ := zWkB_hasR hS g6
      rw [o5]
      obtain ⟨J7, e8, h⟩ := zld h
      refine em_putI dX11_start_48 (zf_NineHeaps_188 wg6)  (by rcases wg6 with rfl | rfl | rfl | rfl | rfl | rfl <;> exact Or.inl rfl)  (by rcases wg6 with rfl | rfl | rfl | rfl | rfl | rfl <;> rfl)  (by rcases wg6 with rfl | rfl | rfl | rfl | rfl | rfl <;> rfl) (by rcases wg6 with rfl | rfl | rfl | rfl | rfl | rfl <;> rfl) yg6 e8 ?_
      refine ev_aload_n dX11_start_51 rfl rfl ?_
      refine em_getA dX11_start_52 zf_NineHeaps_48 rfl (hS.has 32 (by decide) (by decide) rfl) hw rfl ?_
      refine ev_sipush dX11_start_55 (v := (600 : Int32)) zcs_600 ?_
      obtain ⟨p9, e10, h⟩ := zbd h
      refine ev_callV0 dX11_start_58 zm0_pass zl_NineHeaps_170 zi0_pass zv0_pass (zrcG hS) (As := [.int (600 : Int32)]) (rest := []) rfl rfl (Nat.le_of_ble_eq_true rfl) rfl (Nat.le_of_ble_eq_true rfl) (d' := 7) (by omega) (e0_pass hw hS (Nat.le_refl _) e10) (fun v μ1 q => ?_)
      obtain ⟨rfl, rfl⟩ := q
      refine ev_aload_n dX11_start_61 rfl rfl ?_
      refine em_getA dX11_start_62 zf_NineHeaps_48 rfl (hS.has 32 (by decide) (by decide) rfl) hw rfl ?_
      refine em_getI dX11_start_65 zf_NineHeaps_173 rfl (hS.has 42 (by decide) (by decide) rfl) rfl ?_
      refine ev_iload dX11_start_68 rfl ?_
      refine ev_icmp_le dX11_start_70 (tgt := 86) (by decide) (fun c11 => ?_) (fun c11 => ?_)
      · replace h := zit c11 h
        first | exact EV.mask [true, false, true, true, true, true, true] rfl (e11_start_B86 hw hS hd (fun l2' l3' l4' l5' l6' I' R' h' => ih l2' l3' l4' l5' l6' I' R' h') l2 l3 l4 l5 l6 p9 p2.2 h) | (rw [← o5]; exact EV.mask [true, false, true, true, true, true, true] rfl (e11_start_B86 hw hS hd (fun l2' l3' l4' l5' l6' I' R' h' => ih l2' l3' l4' l5' l6' I' R' h') l2 l3 l4 l5 l6 p9 p2.2 h))
      · replace h := zif c11 h
        refine ev_iload dX11_start_73 rfl ?_
        refine ev_istore dX11_start_75 (by decide) (by cases l3 <;> rfl) ?_
        refine ev_aload_n dX11_start_77 rfl rfl ?_
        refine em_getA dX11_start_78 zf_NineHeaps_48 rfl (hS.has 32 (by decide) (by decide) rfl) hw rfl ?_
        refine em_getI dX11_start_81 zf_NineHeaps_173 rfl (hS.has 42 (by decide) (by decide) rfl) rfl ?_
        refine ev_istore dX11_start_84 (by decide) rfl ?_
        first | exact EV.mask [true, false, true, true, true, true, true] rfl (e11_start_B86 hw hS hd (fun l2' l3' l4' l5' l6' I' R' h' => ih l2' l3' l4' l5' l6' I' R' h') l2 l3 l6 (p9 42 9) l6 p9 p2.2 h) | (rw [← o5]; exact EV.mask [true, false, true, true, true, true, true] rfl (e11_start_B86 hw hS hd (fun l2' l3' l4' l5' l6' I' R' h' => ih l2' l3' l4' l5' l6' I' R' h') l2 l3 l6 (p9 42 9) l6 p9 p2.2 h))
set_option maxHeartbeats 4000000 in
set_option maxRecDepth 100000 in
theorem e11_start_B92 {w : zW} {d : Nat} {n : Nat} {kd : zMK} {r : Int32 × zMI × zMR}  (hw : zst w = zSt0) (hS : zSh n kd) (hd : 8 ≤ d)   : ∀ (l2 : Int32) (l4 : Int32) (l5 : Int32) (I : zMI) (R : zMR), f11_start_B92 n kd l2 l4 l5 I R = some r → EV w d 0 0 Y11_start 92 [none, none, some (.int l2), none, some (.int l4), some (.int l5), none] [] (n, kd, I, R) (q11_start n kd r) := by
  intro l2 l4 l5 I R h
  unfold f11_start_B92 at h
  refine ev_iload_n dX11_start_92 rfl rfl ?_
  obtain ⟨x13, e14, h⟩ := zld h
  have k15 : EV w d 0 0 Y11_start 103 [none, none, some (.int l2), none, some (.int l4), some (.int l5), none] [.int x13] (n, kd, I, R) (q11_start n kd r) := by
    obtain rfl := Option.some.inj h
    exact ev_end_i dX11_start_103 rfl rfl ⟨rfl, rfl⟩
  clear h
  have h := e14
  clear e14
  refine ev_if_ne dX11_start_93 (tgt := 101) (by decide) (fun c12 => ?_) (fun c12 => ?_)
  · replace h := zif c12 h
    refine ev_iload dX11_start_101 rfl ?_
    obtain rfl := h
    exact k15
  · replace h := zit c12 h
    refine ev_iload dX11_start_96 rfl ?_
    refine ev_goto dX11_start_98 (tgt := 103) (by decide) ?_
    obtain rfl := h
    exact k15
set_option maxHeartbeats 4000000 in
set_option maxRecDepth 100000 in
theorem e11_start {w : zW} {d : Nat} {n : Nat} {kd : zMK} {I : zMI} {R : zMR} {r : Int32 × zMI × zMR} {l1 : Int32} {l2 : Int32} (hw : zst w = zSt0) (hS : zSh n kd) (hd : 8 ≤ d)  (h : f11_start n kd l1 l2 I R = some r) : EV w d 0 0 Y11_start 0 [some (.ref 32), some (.int l1), some (.int l2), none, none, none, none] [] (n, kd, I, R) (q11_start n kd r) := by
  unfold f11_start at h
  refine ev_aload_n dX11_start_0 rfl rfl ?_
  refine ev_iload_n dX11_start_1 rfl rfl ?_
  obtain ⟨p16, e17, h⟩ := zbd h
  refine ev_callV0 dX11_start_2 zm11_walkerOf zl_NineHeaps_135 zi11_walkerOf zv11_walkerOf (zrcX hS) (As := [.int l1]) (rest := []) rfl rfl (Nat.le_of_ble_eq_true rfl) rfl (Nat.le_of_ble_eq_true rfl) (d' := 1) (by omega) (e11_walkerOf hw hS (Nat.le_refl _) e17) (fun v μ1 q => ?_)
  obtain ⟨rfl, rfl⟩ := q
  refine ev_astore_no dX11_start_5 rfl (by decide) rfl ?_
  refine ev_aload_no dX11_start_6 rfl rfl ?_
  refine ev_ifnonnull_o dX11_start_7 (tgt := 13) (by decide) (fun a18 o19 => ?_) (fun o19 => ?_)
  · replace h := zms o19 h
    refine ev_iload_n dX11_start_13 rfl rfl ?_
    refine ev_if_lt dX11_start_14 (tgt := 22) (by decide) (fun c20 => ?_) (fun c20 => ?_)
    · replace h := zit c20 h
      refine ev_bipush dX11_start_22 (v := (-7 : Int32)) zcb_m7 ?_
      obtain rfl := Option.some.inj h
      exact ev_end_i dX11_start_24 rfl rfl ⟨rfl, rfl⟩
    · replace h := zif c20 h
      refine ev_iload_n dX11_start_17 rfl rfl ?_
      refine ev_iconst dX11_start_18 (v := (1 : Int32)) zci_1 ?_
      refine ev_icmp_le dX11_start_19 (tgt := 25) (by decide) (fun c21 => ?_) (fun c21 => ?_)
      · replace h := zit c21 h
        refine ev_iconst dX11_start_25 (v := (-1 : Int32)) zci_m1 ?_
        refine ev_istore dX11_start_26 (by decide) (by cases p16 <;> rfl) ?_
        refine ev_iconst dX11_start_28 (v := (-1 : Int32)) zci_m1 ?_
        refine ev_istore dX11_start_29 (by decide) rfl ?_
        refine ev_iconst dX11_start_31 (v := (0 : Int32)) zci_0 ?_
        refine ev_istore dX11_start_32 (by decide) rfl ?_
        first | exact EV.mask [true, false, true, true, true, true, true] rfl (e11_start_L34 hw hS hd (fun l2' l4' l5' I' R' h' => e11_start_B92 hw hS hd l2' l4' l5' I' R' h') zF l2 p16 (-1 : Int32) (-1 : Int32) (0 : Int32) I R h) | (rw [← o19]; exact EV.mask [true, false, true, true, true, true, true] rfl (e11_start_L34 hw hS hd (fun l2' l4' l5' I' R' h' => e11_start_B92 hw hS hd l2' l4' l5' I' R' h') zF l2 p16 (-1 : Int32) (-1 : Int32) (0 : Int32) I R h))
      · replace h := zif c21 h
        refine ev_bipush dX11_start_22 (v := (-7 : Int32)) zcb_m7 ?_
        obtain rfl := Option.some.inj h
        exact ev_end_i dX11_start_24 rfl rfl ⟨rfl, rfl⟩
  · replace h := zmn o19 h
    refine ev_bipush dX11_start_10 (v := (-5 : Int32)) zcb_m5 ?_
    obtain rfl := Option.some.inj h
    exact ev_end_i dX11_start_12 rfl rfl ⟨rfl, rfl⟩
abbrev q11_sheetOf (n : Nat) (kd : zMK) (I : zMI) (R : zMR) (r : Option Nat) : Option Value → zM → Prop := fun v μ1 => v = some (va_rf r) ∧ μ1 = (n, kd, I, R)
set_option maxHeartbeats 4000000 in
set_option maxRecDepth 100000 in
theorem e11_sheetOf {w : zW} {d : Nat} {n : Nat} {kd : zMK} {I : zMI} {R : zMR} {r : Option Nat} {l1 : Int32} (hw : zst w = zSt0) (hS : zSh n kd) (hd : 1 ≤ d)  (h : f11_sheetOf l1 = some r) : EV w d 0 0 Y11_sheetOf 0 [some (.ref 32), some (.int l1)] [] (n, kd, I, R) (q11_sheetOf n kd I R r) := by
  unfold f11_sheetOf at h
  refine ev_iload_n dX11_sheetOf_0 rfl rfl ?_
  refine ev_if_lt dX11_sheetOf_1 (tgt := 18) (by decide) (fun c1 => ?_) (fun c1 => ?_)
  · replace h := zit c1 h
    refine ev_null dX11_sheetOf_18 ?_
    obtain rfl := Option.some.inj h
    exact ev_end_n dX11_sheetOf_19 rfl (Or.inl ⟨_, rfl⟩) ⟨rfl, rfl⟩
  · replace h := zif c1 h
    refine ev_iload_n dX11_sheetOf_4 rfl rfl ?_
    refine ev_iconst dX11_sheetOf_5 (v := (4 : Int32)) zci_4 ?_
    refine ev_icmp_ge dX11_sheetOf_6 (tgt := 18) (by decide) (fun c2 => ?_) (fun c2 => ?_)
    · replace h := zit c2 h
      refine ev_null dX11_sheetOf_18 ?_
      obtain rfl := Option.some.inj h
      exact ev_end_n dX11_sheetOf_19 rfl (Or.inl ⟨_, rfl⟩) ⟨rfl, rfl⟩
    · replace h := zif c2 h
      refine ev_aload_n dX11_sheetOf_9 rfl rfl ?_
      refine em_getA dX11_sheetOf_10 zf_NineHeaps_41 rfl (hS.has 32 (by decide) (by decide) rfl) hw rfl ?_
      refine ev_iload_n dX11_sheetOf_13 rfl rfl ?_
      obtain ⟨g3, h⟩ := zgd h
      refine em_aaldA dX11_sheetOf_14 hS (by decide) (by decide) (N := 4) rfl (by decide) (by decide) hw g3 (zsheet g3) ?_
      refine ev_goto dX11_sheetOf_15 (tgt := 19) (by decide) ?_
      obtain rfl := Option.some.inj h
      exact ev_end_r dX11_sheetOf_19 rfl (Or.inl ⟨_, rfl⟩) ⟨rfl, rfl⟩
abbrev q11_refusedTelling (n : Nat) (kd : zMK) (I : zMI) (R : zMR) (r : Int32) : Option Value → zM → Prop := fun v μ1 => v = some (.int r) ∧ μ1 = (n, kd, I, R)
set_option maxHeartbeats 4000000 in
set_option maxRecDepth 100000 in
theorem e11_refusedTelling {w : zW} {d : Nat} {n : Nat} {kd : zMK} {I : zMI} {R : zMR} {r : Int32} {l1 : Int32} (hw : zst w = zSt0) (hS : zSh n kd) (hd : 2 ≤ d)  (h : f11_refusedTelling I l1 = some r) : EV w d 0 0 Y11_refusedTelling 0 [some (.ref 32), some (.int l1), none] [] (n, kd, I, R) (q11_refusedTelling n kd I R r) := by
  unfold f11_refusedTelling at h
  refine ev_aload_n dX11_refusedTelling_0 rfl rfl ?_
  refine ev_iload_n dX11_refusedTelling_1 rfl rfl ?_
  obtain ⟨p1, e2, h⟩ := zbd h
  refine ev_callV0 dX11_refusedTelling_2 zm11_sheetOf zl_NineHeaps_303 zi11_sheetOf zv11_sheetOf (zrcX hS) (As := [.int l1]) (rest := []) rfl rfl (Nat.le_of_ble_eq_true rfl) rfl (Nat.le_of_ble_eq_true rfl) (d' := 1) (by omega) (e11_sheetOf hw hS (Nat.le_refl _) e2) (fun v μ1 q => ?_)
  obtain ⟨rfl, rfl⟩ := q
  refine ev_astore_no dX11_refusedTelling_5 rfl (by decide) rfl ?_
  refine ev_aload_no dX11_refusedTelling_6 rfl rfl ?_
  refine ev_ifnonnull_o dX11_refusedTelling_7 (tgt := 13) (by decide) (fun a3 o4 => ?_) (fun o4 => ?_)
  · replace h := zms o4 h
    first | refine ev_aload_nk dX11_refusedTelling_13 rfl o4 rfl ?_ | refine ev_aload_nk dX11_refusedTelling_13 rfl rfl rfl ?_
    obtain ⟨g5, h⟩ := zgd h
    obtain ⟨p6, e7, h⟩ := zbd h
    refine ev_callV0 dX11_refusedTelling_14 zm6_missing zl_NineHeaps_313 zi6_missing zv6_missing (zrcSe hS g5) (As := []) (rest := []) rfl rfl (Nat.le_of_ble_eq_true rfl) rfl (Nat.le_of_ble_eq_true rfl) (d' := 1) (by omega) (e6_missing hw hS (Nat.le_refl _) e7) (fun v μ1 q => ?_)
    obtain ⟨rfl, rfl⟩ := q
    refine ev_if_eq dX11_refusedTelling_17 (tgt := 23) (by decide) (fun c8 => ?_) (fun c8 => ?_)
    · replace h := zit c8 h
      first | refine ev_aload_nk dX11_refusedTelling_23 rfl o4 rfl ?_ | refine ev_aload_nk dX11_refusedTelling_23 rfl rfl rfl ?_
      refine em_getI dX11_refusedTelling_24 zf_NineHeaps_316 rfl (zSeB_has hS g5).1 rfl ?_
      refine ev_bipush dX11_refusedTelling_27 (v := (9 : Int32)) zcb_9 ?_
      obtain ⟨x10, e11, h⟩ := zld h
      have k12 : EV w d 0 0 Y11_refusedTelling 38 [some (.ref 32), some (.int l1), some (va_rf p1)] [.int x10] (n, kd, I, R) (q11_refusedTelling n kd I R r) := by
        obtain rfl := Option.some.inj h
        exact ev_end_i dX11_refusedTelling_38 rfl rfl ⟨rfl, rfl⟩
      clear h
      have h := e11
      clear e11
      refine ev_icmp_ne dX11_refusedTelling_29 (tgt := 36) (by decide) (fun c9 => ?_) (fun c9 => ?_)
      · replace h := zif c9 h
        refine ev_bipush dX11_refusedTelling_36 (v := (-2 : Int32)) zcb_m2 ?_
        obtain rfl := h
        exact k12
      · replace h := zit c9 h
        refine ev_iconst dX11_refusedTelling_32 (v := (0 : Int32)) zci_0 ?_
        refine ev_goto dX11_refusedTelling_33 (tgt := 38) (by decide) ?_
        obtain rfl := h
        exact k12
    · replace h := zif c8 h
      refine ev_bipush dX11_refusedTelling_20 (v := (-11 : Int32)) zcb_m11 ?_
      obtain rfl := Option.some.inj h
      exact ev_end_i dX11_refusedTelling_22 rfl rfl ⟨rfl, rfl⟩
  · replace h := zmn o4 h
    refine ev_bipush dX11_refusedTelling_10 (v := (-2 : Int32)) zcb_m2 ?_
    obtain rfl := Option.some.inj h
    exact ev_end_i dX11_refusedTelling_12 rfl rfl ⟨rfl, rfl⟩
abbrev q11_refusedJudging (n : Nat) (kd : zMK) (I : zMI) (R : zMR) (r : Int32) : Option Value → zM → Prop := fun v μ1 => v = some (.int r) ∧ μ1 = (n, kd, I, R)
set_option maxHeartbeats 4000000 in
set_option maxRecDepth 100000 in
theorem e11_refusedJudging {w : zW} {d : Nat} {n : Nat} {kd : zMK} {I : zMI} {R : zMR} {r : Int32} {l1 : Int32} {l2 : Int32} (hw : zst w = zSt0) (hS : zSh n kd) (hd : 3 ≤ d)  (h : f11_refusedJudging I l1 l2 = some r) : EV w d 0 0 Y11_refusedJudging 0 [some (.ref 32), some (.int l1), some (.int l2), none] [] (n, kd, I, R) (q11_refusedJudging n kd I R r) := by
  unfold f11_refusedJudging at h
  refine ev_aload_n dX11_refusedJudging_0 rfl rfl ?_
  refine ev_iload_n dX11_refusedJudging_1 rfl rfl ?_
  obtain ⟨p1, e2, h⟩ := zbd h
  refine ev_callV0 dX11_refusedJudging_2 zm11_refusedTelling zl_NineHeaps_289 zi11_refusedTelling zv11_refusedTelling (zrcX hS) (As := [.int l1]) (rest := []) rfl rfl (Nat.le_of_ble_eq_true rfl) rfl (Nat.le_of_ble_eq_true rfl) (d' := 2) (by omega) (e11_refusedTelling hw hS (Nat.le_refl _) e2) (fun v μ1 q => ?_)
  obtain ⟨rfl, rfl⟩ := q
  refine ev_istore_n dX11_refusedJudging_5 rfl (by decide) rfl ?_
  refine ev_iload_n dX11_refusedJudging_6 rfl rfl ?_
  refine ev_if_ne dX11_refusedJudging_7 (tgt := 22) (by decide) (fun c3 => ?_) (fun c3 => ?_)
  · replace h := zif c3 h
    refine ev_iload_n dX11_refusedJudging_22 rfl rfl ?_
    obtain rfl := Option.some.inj h
    exact ev_end_i dX11_refusedJudging_23 rfl rfl ⟨rfl, rfl⟩
  · replace h := zit c3 h
    refine ev_iload_n dX11_refusedJudging_10 rfl rfl ?_
    obtain ⟨p4, e5, h⟩ := zbd h
    refine ev_callS0 dX11_refusedJudging_11 zm11_noSeconds zl_NineHeaps_164 zs11_noSeconds (As := [.int l2]) (rest := []) rfl rfl (Nat.le_of_ble_eq_true rfl) rfl (Nat.le_of_ble_eq_true rfl) (d' := 1) (by omega) (e11_noSeconds hw hS (Nat.le_refl _) e5) (fun v μ1 q => ?_)
    obtain ⟨rfl, rfl⟩ := q
    refine ev_if_eq dX11_refusedJudging_14 (tgt := 22) (by decide) (fun c6 => ?_) (fun c6 => ?_)
    · replace h := zit c6 h
      refine ev_iload_n dX11_refusedJudging_22 rfl rfl ?_
      obtain rfl := Option.some.inj h
      exact ev_end_i dX11_refusedJudging_23 rfl rfl ⟨rfl, rfl⟩
    · replace h := zif c6 h
      refine ev_bipush dX11_refusedJudging_17 (v := (-7 : Int32)) zcb_m7 ?_
      refine ev_goto dX11_refusedJudging_19 (tgt := 23) (by decide) ?_
      obtain rfl := Option.some.inj h
      exact ev_end_i dX11_refusedJudging_23 rfl rfl ⟨rfl, rfl⟩
abbrev q11_firstOtherwise (n : Nat) (kd : zMK) (I : zMI) (R : zMR) (r : Int32) : Option Value → zM → Prop := fun v μ1 => v = some (.int r) ∧ μ1 = (n, kd, I, R)
set_option maxHeartbeats 4000000 in
set_option maxRecDepth 100000 in
theorem e11_firstOtherwise_L8 {w : zW} {d : Nat} {n : Nat} {kd : zMK} {I : zMI} {R : zMR} {r : Int32}  (hw : zst w = zSt0) (hS : zSh n kd) (hd : 3 ≤ d)   : ∀ (q : Nat) (l2 : Option Nat) (l3 : Int32) , f11_firstOtherwise_L8 I q l2 l3 = some r → EV w d 0 0 Y11_firstOtherwise 8 [some (.ref 32), none, some (va_rf l2), some (.int l3)] [] (n, kd, I, R) (q11_firstOtherwise n kd I R r) := by
  intro q
  induction q with
  | zero =>
    intro l2 l3 h
    cases h
  | succ q ih =>
    intro l2 l3 h
    unfold f11_firstOtherwise_L8 at h
    refine ev_iload_n dX11_firstOtherwise_8 rfl rfl ?_
    refine ev_bipush dX11_firstOtherwise_9 (v := (9 : Int32)) zcb_9 ?_
    refine ev_icmp_ge dX11_firstOtherwise_11 (tgt := 46) (by decide) (fun c1 => ?_) (fun c1 => ?_)
    · replace h := zit c1 h
      refine ev_iconst dX11_firstOtherwise_46 (v := (-1 : Int32)) zci_m1 ?_
      obtain rfl := Option.some.inj h
      exact ev_end_i dX11_firstOtherwise_47 rfl rfl ⟨rfl, rfl⟩
    · replace h := zif c1 h
      refine ev_aload_no dX11_firstOtherwise_14 rfl rfl ?_
      refine ev_ifnull_o dX11_firstOtherwise_15 (tgt := 46) (by decide) (fun o3 => ?_) (fun a2 o3 => ?_)
      · replace h := zmn o3 h
        refine ev_iconst dX11_firstOtherwise_46 (v := (-1 : Int32)) zci_m1 ?_
        obtain rfl := Option.some.inj h
        exact ev_end_i dX11_firstOtherwise_47 rfl rfl ⟨rfl, rfl⟩
      · replace h := zms o3 h
        first | refine ev_aload_nk dX11_firstOtherwise_18 rfl o3 rfl ?_ | refine ev_aload_nk dX11_firstOtherwise_18 rfl rfl rfl ?_
        obtain ⟨g4, h⟩ := zgd h
        refine em_getA dX11_firstOtherwise_19 zf_NineHeaps_317 rfl (zSeB_has hS g4).1 hw (zSeB_has hS g4).2.2.2 ?_
        refine ev_iload_n dX11_firstOtherwise_22 rfl rfl ?_
        obtain ⟨g5, h⟩ := zgd h
        refine em_ialdG dX11_firstOtherwise_23 (zSeB_has hS g4).2.1 (N := 40) (zSeB_has hS g4).2.2.1 g5 rfl ?_
        refine ev_aload_n dX11_firstOtherwise_24 rfl rfl ?_
        refine em_getA dX11_firstOtherwise_25 zf_NineHeaps_48 rfl (hS.has 32 (by decide) (by decide) rfl) hw rfl ?_
        refine ev_iload_n dX11_firstOtherwise_28 rfl rfl ?_
        obtain ⟨p6, e7, h⟩ := zbd h
        refine ev_callV0 dX11_firstOtherwise_29 zm0_heapAt zl_NineHeaps_203 zi0_heapAt zv0_heapAt (zrcG hS) (As := [.int l3]) (rest := [.int (I (a2 + 1) l3.toNatClampNeg)]) rfl rfl (Nat.le_of_ble_eq_true rfl) rfl (Nat.le_of_ble_eq_true rfl) (d' := 2) (by omega) (e0_heapAt hw hS (Nat.le_refl _) e7) (fun v μ1 q => ?_)
        obtain ⟨rfl, rfl⟩ := q
        obtain ⟨g8, h⟩ := zgd h
        refine em_getI dX11_firstOtherwise_32 zf_NineHeaps_207 rfl (zHpB_has hS g8) rfl ?_
        refine ev_icmp_eq dX11_firstOtherwise_35 (tgt := 40) (by decide) (fun c9 => ?_) (fun c9 => ?_)
        · replace h := zit c9 h
          refine ev_iinc dX11_firstOtherwise_40 (v := l3 + (1 : Int32)) rfl rfl (by decide) (by cases l2 <;> rfl) ?_
          refine ev_goto dX11_firstOtherwise_43 (tgt := 8) (by decide) ?_
          first | exact EV.mask [true, false, true, true] rfl (ih l2 (l3 + (1 : Int32)) h) | (rw [← o3]; exact EV.mask [true, false, true, true] rfl (ih l2 (l3 + (1 : Int32)) h))
        · replace h := zif c9 h
          refine ev_iload_n dX11_firstOtherwise_38 rfl rfl ?_
          obtain rfl := Option.some.inj h
          exact ev_end_i dX11_firstOtherwise_39 rfl rfl ⟨rfl, rfl⟩
set_option maxHeartbeats 4000000 in
set_option maxRecDepth 100000 in
theorem e11_firstOtherwise {w : zW} {d : Nat} {n : Nat} {kd : zMK} {I : zMI} {R : zMR} {r : Int32} {l1 : Int32} (hw : zst w = zSt0) (hS : zSh n kd) (hd : 3 ≤ d)  (h : f11_firstOtherwise I l1 = some r) : EV w d 0 0 Y11_firstOtherwise 0 [some (.ref 32), some (.int l1), none, none] [] (n, kd, I, R) (q11_firstOtherwise n kd I R r) := by
  unfold f11_firstOtherwise at h
  refine ev_aload_n dX11_firstOtherwise_0 rfl rfl ?_
  refine ev_iload_n dX11_firstOtherwise_1 rfl rfl ?_
  obtain ⟨p10, e11, h⟩ := zbd h
  refine ev_callV0 dX11_firstOtherwise_2 zm11_sheetOf zl_NineHeaps_303 zi11_sheetOf zv11_sheetOf (zrcX hS) (As := [.int l1]) (rest := []) rfl rfl (Nat.le_of_ble_eq_true rfl) rfl (Nat.le_of_ble_eq_true rfl) (d' := 1) (by omega) (e11_sheetOf hw hS (Nat.le_refl _) e11) (fun v μ1 q => ?_)
  obtain ⟨rfl, rfl⟩ := q
  refine ev_astore_no dX11_firstOtherwise_5 rfl (by decide) rfl ?_
  refine ev_iconst dX11_firstOtherwise_6 (v := (0 : Int32)) zci_0 ?_
  refine ev_istore_n dX11_firstOtherwise_7 rfl (by decide) (by cases p10 <;> rfl) ?_
  exact EV.mask [true, false, true, true] rfl (e11_firstOtherwise_L8 hw hS hd zF p10 (0 : Int32) h)
abbrev q11_judge (n : Nat) (kd : zMK) (r : Int32 × zMI × zMR) : Option Value → zM → Prop := fun v μ1 => v = some (.int r.1) ∧ μ1 = (n, kd, r.2.1, r.2.2)
set_option maxHeartbeats 4000000 in
set_option maxRecDepth 100000 in
theorem e11_judge {w : zW} {d : Nat} {n : Nat} {kd : zMK} {I : zMI} {R : zMR} {r : Int32 × zMI × zMR} {l1 : Int32} {l2 : Int32} (hw : zst w = zSt0) (hS : zSh n kd) (hd : 8 ≤ d)  (h : f11_judge n kd l1 l2 I R = some r) : EV w d 0 0 Y11_judge 0 [some (.ref 32), some (.int l1), some (.int l2), none] [] (n, kd, I, R) (q11_judge n kd r) := by
  unfold f11_judge at h
  refine ev_aload_n dX11_judge_0 rfl rfl ?_
  refine ev_iload_n dX11_judge_1 rfl rfl ?_
  refine ev_iload_n dX11_judge_2 rfl rfl ?_
  obtain ⟨p1, e2, h⟩ := zbd h
  refine ev_callV0 dX11_judge_3 zm11_refusedJudging zl_NineHeaps_283 zi11_refusedJudging zv11_refusedJudging (zrcX hS) (As := [.int l1, .int l2]) (rest := []) rfl rfl (Nat.le_of_ble_eq_true rfl) rfl (Nat.le_of_ble_eq_true rfl) (d' := 3) (by omega) (e11_refusedJudging hw hS (Nat.le_refl _) e2) (fun v μ1 q => ?_)
  obtain ⟨rfl, rfl⟩ := q
  refine ev_istore_n dX11_judge_6 rfl (by decide) rfl ?_
  refine ev_iload_n dX11_judge_7 rfl rfl ?_
  refine ev_if_eq dX11_judge_8 (tgt := 13) (by decide) (fun c3 => ?_) (fun c3 => ?_)
  · replace h := zit c3 h
    refine ev_aload_n dX11_judge_13 rfl rfl ?_
    obtain ⟨p4, e5, h⟩ := zbd h
    refine ev_callV0 dX11_judge_14 zm11_layPlain zl_NineHeaps_167 zi11_layPlain zv11_layPlain (zrcX hS) (As := []) (rest := []) rfl rfl (Nat.le_of_ble_eq_true rfl) rfl (Nat.le_of_ble_eq_true rfl) (d' := 6) (by omega) (e11_layPlain hw hS (Nat.le_refl _) e5) (fun v μ1 q => ?_)
    obtain ⟨rfl, rfl⟩ := q
    refine ev_aload_n dX11_judge_17 rfl rfl ?_
    refine em_getA dX11_judge_18 zf_NineHeaps_48 rfl (hS.has 32 (by decide) (by decide) rfl) hw rfl ?_
    refine ev_iload_n dX11_judge_21 rfl rfl ?_
    obtain ⟨p6, e7, h⟩ := zbd h
    refine ev_callV0 dX11_judge_22 zm0_pass zl_NineHeaps_170 zi0_pass zv0_pass (zrcG hS) (As := [.int l2]) (rest := []) rfl rfl (Nat.le_of_ble_eq_true rfl) rfl (Nat.le_of_ble_eq_true rfl) (d' := 7) (by omega) (e0_pass hw hS (Nat.le_refl _) e7) (fun v μ1 q => ?_)
    obtain ⟨rfl, rfl⟩ := q
    refine ev_aload_n dX11_judge_25 rfl rfl ?_
    refine ev_iload_n dX11_judge_26 rfl rfl ?_
    obtain ⟨p8, e9, h⟩ := zbd h
    refine ev_callV0 dX11_judge_27 zm11_firstOtherwise zl_NineHeaps_286 zi11_firstOtherwise zv11_firstOtherwise (zrcX hS) (As := [.int l1]) (rest := []) rfl rfl (Nat.le_of_ble_eq_true rfl) rfl (Nat.le_of_ble_eq_true rfl) (d' := 3) (by omega) (e11_firstOtherwise hw hS (Nat.le_refl _) e9) (fun v μ1 q => ?_)
    obtain ⟨rfl, rfl⟩ := q
    obtain rfl := Option.some.inj h
    exact ev_end_i dX11_judge_30 rfl rfl ⟨rfl, rfl⟩
  · replace h := zif c3 h
    refine ev_iload_n dX11_judge_11 rfl rfl ?_
    obtain rfl := Option.some.inj h
    exact ev_end_i dX11_judge_12 rfl rfl ⟨rfl, rfl⟩
abbrev q11_film (n : Nat) (kd : zMK) (r : Int32 × zMI × zMR) : Option Value → zM → Prop := fun v μ1 => v = some (.int r.1) ∧ μ1 = (n, kd, r.2.1, r.2.2)
set_option maxHeartbeats 4000000 in
set_option maxRecDepth 100000 in
theorem e11_film_L42 {w : zW} {d : Nat} {n : Nat} {kd : zMK} {r : Int32 × zMI × zMR}  (hw : zst w = zSt0) (hS : zSh n kd) (hd : 8 ≤ d)   : ∀ (q : Nat) (l3 : Option Nat) (l4 : Int32) (I : zMI) (R : zMR), f11_film_L42 n kd q l3 l4 I R = some r → EV w d 0 0 Y11_film 42 [some (.ref 32), none, none, some (va_rf l3), some (.int l4)] [] (n, kd, I, R) (q11_film n kd r) := by
  intro q
  induction q with
  | zero =>
    intro l3 l4 I R h
    cases h
  | succ q ih =>
    intro l3 l4 I R h
    unfold f11_film_L42 at h
    refine ev_iload dX11_film_42 rfl ?_
    refine ev_bipush dX11_film_44 (v := (9 : Int32)) zcb_9 ?_
    refine ev_icmp_ge dX11_film_46 (tgt := 73) (by decide) (fun c1 => ?_) (fun c1 => ?_)
    · replace h := zit c1 h
      refine ev_bipush dX11_film_73 (v := (9 : Int32)) zcb_9 ?_
      obtain rfl := Option.some.inj h
      exact ev_end_i dX11_film_75 rfl rfl ⟨rfl, rfl⟩
    · replace h := zif c1 h
      refine ev_aload_no dX11_film_49 rfl rfl ?_
      refine ev_iload dX11_film_50 rfl ?_
      refine ev_aload_n dX11_film_52 rfl rfl ?_
      refine em_getA dX11_film_53 zf_NineHeaps_48 rfl (hS.has 32 (by decide) (by decide) rfl) hw rfl ?_
      refine ev_iload dX11_film_56 rfl ?_
      obtain ⟨p2, e3, h⟩ := zbd h
      refine ev_callV0 dX11_film_58 zm0_heapAt zl_NineHeaps_203 zi0_heapAt zv0_heapAt (zrcG hS) (As := [.int l4]) (rest := [.int l4, va_rf l3]) rfl rfl (by cases l3 <;> exact Nat.le_of_ble_eq_true rfl) rfl (Nat.le_of_ble_eq_true rfl) (d' := 2) (by omega) (e0_heapAt hw hS (Nat.le_refl _) e3) (fun v μ1 q => ?_)
      obtain ⟨rfl, rfl⟩ := q
      obtain ⟨g4, h⟩ := zgd h
      refine em_getI dX11_film_61 zf_NineHeaps_207 rfl (zHpB_has hS g4) rfl ?_
      rcases zopt l3 with o6 | ⟨a5, o6⟩
      · have h9 := zmn o6 h
        cases h9
      replace h := zms o6 h
      rw [o6]
      obtain ⟨g7, h⟩ := zgd h
      obtain ⟨p8, e9, h⟩ := zbd h
      refine ev_callV0 dX11_film_64 zm6_put zl_NineHeaps_310 zi6_put zv6_put (zrcSe hS g7) (As := [.int l4, .int (I p2 1)]) (rest := []) rfl rfl (Nat.le_of_ble_eq_true rfl) rfl (Nat.le_of_ble_eq_true rfl) (d' := 2) (by omega) (e6_put hw hS (Nat.le_refl _) e9) (fun v μ1 q => ?_)
      obtain ⟨rfl, rfl⟩ := q
      refine ev_iinc dX11_film_67 (v := l4 + (1 : Int32)) rfl rfl (by decide) (by cases l3 <;> rfl) ?_
      refine ev_goto dX11_film_70 (tgt := 42) (by decide) ?_
      first | exact EV.mask [true, false, false, true, true] rfl (ih l3 (l4 + (1 : Int32)) p8 R h) | (rw [← o6]; exact EV.mask [true, false, false, true, true] rfl (ih l3 (l4 + (1 : Int32)) p8 R h))
set_option maxHeartbeats 4000000 in
set_option maxRecDepth 100000 in
theorem e11_film {w : zW} {d : Nat} {n : Nat} {kd : zMK} {I : zMI} {R : zMR} {r : Int32 × zMI × zMR} {l1 : Int32} {l2 : Int32} (hw : zst w = zSt0) (hS : zSh n kd) (hd : 8 ≤ d)  (h : f11_film n kd l1 l2 I R = some r) : EV w d 0 0 Y11_film 0 [some (.ref 32), some (.int l1), some (.int l2), none, none] [] (n, kd, I, R) (q11_film n kd r) := by
  unfold f11_film at h
  refine ev_aload_n dX11_film_0 rfl rfl ?_
  refine ev_iload_n dX11_film_1 rfl rfl ?_
  obtain ⟨p10, e11, h⟩ := zbd h
  refine ev_callV0 dX11_film_2 zm11_sheetOf zl_NineHeaps_303 zi11_sheetOf zv11_sheetOf (zrcX hS) (As := [.int l1]) (rest := []) rfl rfl (Nat.le_of_ble_eq_true rfl) rfl (Nat.le_of_ble_eq_true rfl) (d' := 1) (by omega) (e11_sheetOf hw hS (Nat.le_refl _) e11) (fun v μ1 q => ?_)
  obtain ⟨rfl, rfl⟩ := q
  refine ev_astore_no dX11_film_5 rfl (by decide) rfl ?_
  refine ev_aload_no dX11_film_6 rfl rfl ?_
  refine ev_ifnull_o dX11_film_7 (tgt := 17) (by decide) (fun o13 => ?_) (fun a12 o13 => ?_)
  · replace h := zmn o13 h
    refine ev_bipush dX11_film_17 (v := (-2 : Int32)) zcb_m2 ?_
    obtain rfl := Option.some.inj h
    exact ev_end_i dX11_film_19 rfl rfl ⟨rfl, rfl⟩
  · replace h := zms o13 h
    refine ev_iload_n dX11_film_10 rfl rfl ?_
    obtain ⟨p14, e15, h⟩ := zbd h
    refine ev_callS0 dX11_film_11 zm11_noSeconds zl_NineHeaps_164 zs11_noSeconds (As := [.int l2]) (rest := []) rfl rfl (Nat.le_of_ble_eq_true rfl) rfl (Nat.le_of_ble_eq_true rfl) (d' := 1) (by omega) (e11_noSeconds hw hS (Nat.le_refl _) e15) (fun v μ1 q => ?_)
    obtain ⟨rfl, rfl⟩ := q
    refine ev_if_eq dX11_film_14 (tgt := 20) (by decide) (fun c16 => ?_) (fun c16 => ?_)
    · replace h := zit c16 h
      refine ev_aload_n dX11_film_20 rfl rfl ?_
      obtain ⟨p17, e18, h⟩ := zbd h
      refine ev_callV0 dX11_film_21 zm11_layPlain zl_NineHeaps_167 zi11_layPlain zv11_layPlain (zrcX hS) (As := []) (rest := []) rfl rfl (Nat.le_of_ble_eq_true rfl) rfl (Nat.le_of_ble_eq_true rfl) (d' := 6) (by omega) (e11_layPlain hw hS (Nat.le_refl _) e18) (fun v μ1 q => ?_)
      obtain ⟨rfl, rfl⟩ := q
      refine ev_aload_n dX11_film_24 rfl rfl ?_
      refine em_getA dX11_film_25 zf_NineHeaps_48 rfl (hS.has 32 (by decide) (by decide) rfl) hw rfl ?_
      refine ev_iload_n dX11_film_28 rfl rfl ?_
      obtain ⟨p19, e20, h⟩ := zbd h
      refine ev_callV0 dX11_film_29 zm0_pass zl_NineHeaps_170 zi0_pass zv0_pass (zrcG hS) (As := [.int l2]) (rest := []) rfl rfl (Nat.le_of_ble_eq_true rfl) rfl (Nat.le_of_ble_eq_true rfl) (d' := 7) (by omega) (e0_pass hw hS (Nat.le_refl _) e20) (fun v μ1 q => ?_)
      obtain ⟨rfl, rfl⟩ := q
      first | refine ev_aload_nk dX11_film_32 rfl o13 rfl ?_ | refine ev_aload_nk dX11_film_32 rfl rfl rfl ?_
      refine ev_iconst dX11_film_33 (v := (1 : Int32)) zci_1 ?_
      refine ev_bipush dX11_film_34 (v := (9 : Int32)) zcb_9 ?_
      obtain ⟨g21, h⟩ := zgd h
      obtain ⟨p22, e23, h⟩ := zbd h
      refine ev_callV0 dX11_film_36 zm6_become zl_NineHeaps_307 zi6_become zv6_become (zrcSe hS g21) (As := [.int (1 : Int32), .int (9 : Int32)]) (rest := []) rfl rfl (Nat.le_of_ble_eq_true rfl) rfl (Nat.le_of_ble_eq_true rfl) (d' := 2) (by omega) (e6_become hw hS (Nat.le_refl _) e23) (fun v μ1 q => ?_)
      obtain ⟨rfl, rfl⟩ := q
      refine ev_iconst dX11_film_39 (v := (0 : Int32)) zci_0 ?_
      refine ev_istore dX11_film_40 (by decide) (by cases p10 <;> rfl) ?_
      first | exact EV.mask [true, false, false, true, true] rfl (e11_film_L42 hw hS hd zF p10 (0 : Int32) p22 p17.2 h) | (rw [← o13]; exact EV.mask [true, false, false, true, true] rfl (e11_film_L42 hw hS hd zF p10 (0 : Int32) p22 p17.2 h))
    · replace h := zif c16 h
      refine ev_bipush dX11_film_17 (v := (-2 : Int32)) zcb_m2 ?_
      obtain rfl := Option.some.inj h
      exact ev_end_i dX11_film_19 rfl rfl ⟨rfl, rfl⟩
