/-! the machine does as the reference's functions say: laid by program -/
abbrev q12_in (n : Nat) (kd : zMK) (I : zMI) (R : zMR) (r : Int32) : Option Value → zM → Prop := fun v μ1 => v = some (.int r) ∧ μ1 = (n, kd, I, R)
set_option maxHeartbeats 4000000 in
set_option maxRecDepth 100000 in
theorem e12_in {w : zW} {d : Nat} {n : Nat} {kd : zMK} {I : zMI} {R : zMR} {r : Int32} {l0 : Int32} {l1 : Int32} {l2 : Int32} (hw : zst w = zSt0) (hS : zSh n kd) (hd : 1 ≤ d)  (h : f12_in l0 l1 l2 = some r) : EV w d 0 0 Y12_in 0 [some (.int l0), some (.int l1), some (.int l2)] [] (n, kd, I, R) (q12_in n kd I R r) := by
  unfold f12_in at h
  refine ev_iload_n dX12_in_0 rfl rfl ?_
  refine ev_iload_n dX12_in_1 rfl rfl ?_
  obtain ⟨x3, e4, h⟩ := zld h
  have k6 : EV w d 0 0 Y12_in 15 [some (.int l0), some (.int l1), some (.int l2)] [.int x3] (n, kd, I, R) (q12_in n kd I R r) := by
    obtain ⟨g5, h⟩ := zgd h
    obtain rfl := Option.some.inj h
    exact ev_end_i dX12_in_15 rfl (zbB_n g5) ⟨rfl, rfl⟩
  clear h
  have h := e4
  clear e4
  refine ev_icmp_lt dX12_in_2 (tgt := 14) (by decide) (fun c1 => ?_) (fun c1 => ?_)
  · replace h := zit c1 h
    refine ev_iconst dX12_in_14 (v := (0 : Int32)) zci_0 ?_
    obtain rfl := h
    exact k6
  · replace h := zif c1 h
    refine ev_iload_n dX12_in_5 rfl rfl ?_
    refine ev_iload_n dX12_in_6 rfl rfl ?_
    refine ev_icmp_gt dX12_in_7 (tgt := 14) (by decide) (fun c2 => ?_) (fun c2 => ?_)
    · replace h := zit c2 h
      refine ev_iconst dX12_in_14 (v := (0 : Int32)) zci_0 ?_
      obtain rfl := h
      exact k6
    · replace h := zif c2 h
      refine ev_iconst dX12_in_10 (v := (1 : Int32)) zci_1 ?_
      refine ev_goto dX12_in_11 (tgt := 15) (by decide) ?_
      obtain rfl := h
      exact k6
abbrev q12_within (n : Nat) (kd : zMK) (I : zMI) (R : zMR) (r : Int32) : Option Value → zM → Prop := fun v μ1 => v = some (.int r) ∧ μ1 = (n, kd, I, R)
set_option maxHeartbeats 4000000 in
set_option maxRecDepth 100000 in
theorem e12_within {w : zW} {d : Nat} {n : Nat} {kd : zMK} {I : zMI} {R : zMR} {r : Int32} {l0 : Int32} {l1 : Int32} {l2 : Int32} (hw : zst w = zSt0) (hS : zSh n kd) (hd : 1 ≤ d)  (h : f12_within l0 l1 l2 = some r) : EV w d 0 0 Y12_within 0 [some (.int l0), some (.int l1), some (.int l2)] [] (n, kd, I, R) (q12_within n kd I R r) := by
  unfold f12_within at h
  refine ev_iload_n dX12_within_0 rfl rfl ?_
  refine ev_iload_n dX12_within_1 rfl rfl ?_
  obtain ⟨x3, e4, h⟩ := zld h
  have k5 : EV w d 0 0 Y12_within 19 [some (.int l0), some (.int l1), some (.int l2)] [.int x3] (n, kd, I, R) (q12_within n kd I R r) := by
    obtain rfl := Option.some.inj h
    exact ev_end_i dX12_within_19 rfl rfl ⟨rfl, rfl⟩
  clear h
  have h := e4
  clear e4
  refine ev_icmp_ge dX12_within_2 (tgt := 9) (by decide) (fun c1 => ?_) (fun c1 => ?_)
  · replace h := zit c1 h
    refine ev_iload_n dX12_within_9 rfl rfl ?_
    refine ev_iload_n dX12_within_10 rfl rfl ?_
    refine ev_icmp_le dX12_within_11 (tgt := 18) (by decide) (fun c2 => ?_) (fun c2 => ?_)
    · replace h := zit c2 h
      refine ev_iload_n dX12_within_18 rfl rfl ?_
      obtain rfl := h
      exact k5
    · replace h := zif c2 h
      refine ev_iload_n dX12_within_14 rfl rfl ?_
      refine ev_goto dX12_within_15 (tgt := 19) (by decide) ?_
      obtain rfl := h
      exact k5
  · replace h := zif c1 h
    refine ev_iload_n dX12_within_5 rfl rfl ?_
    refine ev_goto dX12_within_6 (tgt := 19) (by decide) ?_
    obtain rfl := h
    exact k5
abbrev q12_isWalker (n : Nat) (kd : zMK) (I : zMI) (R : zMR) (r : Int32) : Option Value → zM → Prop := fun v μ1 => v = some (.int r) ∧ μ1 = (n, kd, I, R)
set_option maxHeartbeats 4000000 in
set_option maxRecDepth 100000 in
theorem e12_isWalker {w : zW} {d : Nat} {n : Nat} {kd : zMK} {I : zMI} {R : zMR} {r : Int32} {l1 : Int32} (hw : zst w = zSt0) (hS : zSh n kd) (hd : 2 ≤ d)  (h : f12_isWalker I l1 = some r) : EV w d 0 0 Y12_isWalker 0 [some (.ref 81), some (.int l1)] [] (n, kd, I, R) (q12_isWalker n kd I R r) := by
  unfold f12_isWalker at h
  refine ev_iload_n dX12_isWalker_0 rfl rfl ?_
  refine ev_iconst dX12_isWalker_1 (v := (0 : Int32)) zci_0 ?_
  refine ev_aload_n dX12_isWalker_2 rfl rfl ?_
  refine em_getI dX12_isWalker_3 zf_NineHeapsModel_117 rfl (hS.has 81 (by decide) (by decide) rfl) rfl ?_
  refine ev_iconst dX12_isWalker_6 (v := (1 : Int32)) zci_1 ?_
  refine ev_isub dX12_isWalker_7 rfl ?_
  obtain ⟨p1, e2, h⟩ := zbd h
  refine ev_callS0 dX12_isWalker_8 zm12_in zl_NineHeapsModel_120 zs12_in (As := [.int l1, .int (0 : Int32), .int ((I 81 3) - (1 : Int32))]) (rest := []) rfl rfl (Nat.le_of_ble_eq_true rfl) rfl (Nat.le_of_ble_eq_true rfl) (d' := 1) (by omega) (e12_in hw hS (Nat.le_refl _) e2) (fun v μ1 q => ?_)
  obtain ⟨rfl, rfl⟩ := q
  obtain ⟨g3, h⟩ := zgd h
  obtain rfl := Option.some.inj h
  exact ev_end_i dX12_isWalker_11 rfl (zbB_n g3) ⟨rfl, rfl⟩
abbrev q12_isHeap (n : Nat) (kd : zMK) (I : zMI) (R : zMR) (r : Int32) : Option Value → zM → Prop := fun v μ1 => v = some (.int r) ∧ μ1 = (n, kd, I, R)
set_option maxHeartbeats 4000000 in
set_option maxRecDepth 100000 in
theorem e12_isHeap {w : zW} {d : Nat} {n : Nat} {kd : zMK} {I : zMI} {R : zMR} {r : Int32} {l0 : Int32} (hw : zst w = zSt0) (hS : zSh n kd) (hd : 2 ≤ d)  (h : f12_isHeap l0 = some r) : EV w d 0 0 Y12_isHeap 0 [some (.int l0)] [] (n, kd, I, R) (q12_isHeap n kd I R r) := by
  unfold f12_isHeap at h
  refine ev_iload_n dX12_isHeap_0 rfl rfl ?_
  refine ev_iconst dX12_isHeap_1 (v := (0 : Int32)) zci_0 ?_
  refine ev_bipush dX12_isHeap_2 (v := (8 : Int32)) zcb_8 ?_
  obtain ⟨p1, e2, h⟩ := zbd h
  refine ev_callS0 dX12_isHeap_4 zm12_in zl_NineHeapsModel_120 zs12_in (As := [.int l0, .int (0 : Int32), .int (8 : Int32)]) (rest := []) rfl rfl (Nat.le_of_ble_eq_true rfl) rfl (Nat.le_of_ble_eq_true rfl) (d' := 1) (by omega) (e12_in hw hS (Nat.le_refl _) e2) (fun v μ1 q => ?_)
  obtain ⟨rfl, rfl⟩ := q
  obtain ⟨g3, h⟩ := zgd h
  obtain rfl := Option.some.inj h
  exact ev_end_i dX12_isHeap_7 rfl (zbB_n g3) ⟨rfl, rfl⟩
abbrev q12_areSeconds (n : Nat) (kd : zMK) (I : zMI) (R : zMR) (r : Int32) : Option Value → zM → Prop := fun v μ1 => v = some (.int r) ∧ μ1 = (n, kd, I, R)
set_option maxHeartbeats 4000000 in
set_option maxRecDepth 100000 in
theorem e12_areSeconds {w : zW} {d : Nat} {n : Nat} {kd : zMK} {I : zMI} {R : zMR} {r : Int32} {l0 : Int32} (hw : zst w = zSt0) (hS : zSh n kd) (hd : 2 ≤ d)  (h : f12_areSeconds l0 = some r) : EV w d 0 0 Y12_areSeconds 0 [some (.int l0)] [] (n, kd, I, R) (q12_areSeconds n kd I R r) := by
  unfold f12_areSeconds at h
  refine ev_iload_n dX12_areSeconds_0 rfl rfl ?_
  refine ev_iconst dX12_areSeconds_1 (v := (0 : Int32)) zci_0 ?_
  refine ev_sipush dX12_areSeconds_2 (v := (600 : Int32)) zcs_600 ?_
  obtain ⟨p1, e2, h⟩ := zbd h
  refine ev_callS0 dX12_areSeconds_5 zm12_in zl_NineHeapsModel_120 zs12_in (As := [.int l0, .int (0 : Int32), .int (600 : Int32)]) (rest := []) rfl rfl (Nat.le_of_ble_eq_true rfl) rfl (Nat.le_of_ble_eq_true rfl) (d' := 1) (by omega) (e12_in hw hS (Nat.le_refl _) e2) (fun v μ1 q => ?_)
  obtain ⟨rfl, rfl⟩ := q
  obtain ⟨g3, h⟩ := zgd h
  obtain rfl := Option.some.inj h
  exact ev_end_i dX12_areSeconds_8 rfl (zbB_n g3) ⟨rfl, rfl⟩
abbrev q12_count (n : Nat) (kd : zMK) (I : zMI) (R : zMR) (r : Int32) : Option Value → zM → Prop := fun v μ1 => v = some (.int r) ∧ μ1 = (n, kd, I, R)
set_option maxHeartbeats 4000000 in
set_option maxRecDepth 100000 in
theorem e12_count {w : zW} {d : Nat} {n : Nat} {kd : zMK} {I : zMI} {R : zMR} {r : Int32} {l1 : Int32} (hw : zst w = zSt0) (hS : zSh n kd) (hd : 1 ≤ d)  (h : f12_count I l1 = some r) : EV w d 0 0 Y12_count 0 [some (.ref 81), some (.int l1)] [] (n, kd, I, R) (q12_count n kd I R r) := by
  unfold f12_count at h
  refine ev_iload_n dX12_count_0 rfl rfl ?_
  by_cases c1 : l1 = (0 : Int32)
  · replace h := zit c1 h
    refine ev_tableIn dX12_count_1 (by rw [c1]; decide) (by rw [c1]; decide) (off := 35) (by rw [c1]; rfl) (tgt := 36) (by decide) ?_
    refine ev_aload_n dX12_count_36 rfl rfl ?_
    refine em_getI dX12_count_37 zf_NineHeapsModel_117 rfl (hS.has 81 (by decide) (by decide) rfl) rfl ?_
    obtain rfl := Option.some.inj h
    exact ev_end_i dX12_count_40 rfl rfl ⟨rfl, rfl⟩
  · replace h := zif c1 h
    by_cases c2 : l1 = (1 : Int32)
    · replace h := zit c2 h
      refine ev_tableIn dX12_count_1 (by rw [c2]; decide) (by rw [c2]; decide) (off := 40) (by rw [c2]; rfl) (tgt := 41) (by decide) ?_
      refine ev_aload_n dX12_count_41 rfl rfl ?_
      refine em_getI dX12_count_42 zf_NineHeapsModel_16 rfl (hS.has 81 (by decide) (by decide) rfl) rfl ?_
      obtain rfl := Option.some.inj h
      exact ev_end_i dX12_count_45 rfl rfl ⟨rfl, rfl⟩
    · replace h := zif c2 h
      by_cases c3 : l1 = (2 : Int32)
      · replace h := zit c3 h
        refine ev_tableIn dX12_count_1 (by rw [c3]; decide) (by rw [c3]; decide) (off := 45) (by rw [c3]; rfl) (tgt := 46) (by decide) ?_
        refine ev_aload_n dX12_count_46 rfl rfl ?_
        refine em_getI dX12_count_47 zf_NineHeapsModel_124 rfl (hS.has 81 (by decide) (by decide) rfl) rfl ?_
        obtain rfl := Option.some.inj h
        exact ev_end_i dX12_count_50 rfl rfl ⟨rfl, rfl⟩
      · replace h := zif c3 h
        by_cases c4 : l1 = (3 : Int32)
        · replace h := zit c4 h
          refine ev_tableIn dX12_count_1 (by rw [c4]; decide) (by rw [c4]; decide) (off := 50) (by rw [c4]; rfl) (tgt := 51) (by decide) ?_
          refine ev_aload_n dX12_count_51 rfl rfl ?_
          refine em_getI dX12_count_52 zf_NineHeapsModel_127 rfl (hS.has 81 (by decide) (by decide) rfl) rfl ?_
          obtain rfl := Option.some.inj h
          exact ev_end_i dX12_count_55 rfl rfl ⟨rfl, rfl⟩
        · replace h := zif c4 h
          by_cases c5 : l1 = (4 : Int32)
          · replace h := zit c5 h
            refine ev_tableIn dX12_count_1 (by rw [c5]; decide) (by rw [c5]; decide) (off := 55) (by rw [c5]; rfl) (tgt := 56) (by decide) ?_
            refine ev_aload_n dX12_count_56 rfl rfl ?_
            refine em_getI dX12_count_57 zf_NineHeapsModel_110 rfl (hS.has 81 (by decide) (by decide) rfl) rfl ?_
            obtain rfl := Option.some.inj h
            exact ev_end_i dX12_count_60 rfl rfl ⟨rfl, rfl⟩
          · replace h := zif c5 h
            refine ev_tableD dX12_count_1 ?_ (tgt := 61) (by decide) ?_
            · have q0 := lv_neT c1 (a := 0) (by decide)
              have q1 := lv_neT c2 (a := 1) (by decide)
              have q2 := lv_neT c3 (a := 2) (by decide)
              have q3 := lv_neT c4 (a := 3) (by decide)
              have q4 := lv_neT c5 (a := 4) (by decide)
              rcases (show l1.toInt < 0 ∨ 4 < l1.toInt by omega) with q | q
              · exact Or.inl q
              · exact Or.inr (Or.inl q)
            refine ev_bipush dX12_count_61 (v := (-2 : Int32)) zcb_m2 ?_
            obtain rfl := Option.some.inj h
            exact ev_end_i dX12_count_63 rfl rfl ⟨rfl, rfl⟩
abbrev q12_set (n : Nat) (kd : zMK) (R : zMR) (r : Int32 × zMI) : Option Value → zM → Prop := fun v μ1 => v = some (.int r.1) ∧ μ1 = (n, kd, r.2, R)
set_option maxHeartbeats 4000000 in
set_option maxRecDepth 100000 in
theorem e12_set_B27 {w : zW} {d : Nat} {n : Nat} {kd : zMK} {R : zMR} {r : Int32 × zMI}  (hw : zst w = zSt0) (hS : zSh n kd) (hd : 3 ≤ d)   : ∀ (l1 : Int32) (l2 : Int32) (l3 : Int32) (I : zMI), f12_set_B27 l1 l2 l3 I = some r → EV w d 0 0 Y12_set 27 [some (.ref 81), some (.int l1), some (.int l2), some (.int l3), none] [] (n, kd, I, R) (q12_set n kd R r) := by
  intro l1 l2 l3 I h
  unfold f12_set_B27 at h
  refine ev_iload_n dX12_set_27 rfl rfl ?_
  refine ev_iload_n dX12_set_28 rfl rfl ?_
  refine ev_iconst dX12_set_29 (v := (2 : Int32)) zci_2 ?_
  obtain ⟨x2, e3, h⟩ := zld h
  have k28 : EV w d 0 0 Y12_set 38 [some (.ref 81), some (.int l1), some (.int l2), some (.int l3), none] [.int x2, .int l3] (n, kd, I, R) (q12_set n kd R r) := by
    refine ev_iload_n dX12_set_38 rfl rfl ?_
    refine ev_iconst dX12_set_39 (v := (1 : Int32)) zci_1 ?_
    obtain ⟨x5, e6, h⟩ := zld h
    have k27 : EV w d 0 0 Y12_set 51 [some (.ref 81), some (.int l1), some (.int l2), some (.int l3), none] [.int x5, .int x2, .int l3] (n, kd, I, R) (q12_set n kd R r) := by
      obtain ⟨p7, e8, h⟩ := zbd h
      refine ev_callS0 dX12_set_51 zm12_in zl_NineHeapsModel_120 zs12_in (As := [.int l3, .int x2, .int x5]) (rest := []) rfl rfl (Nat.le_of_ble_eq_true rfl) rfl (Nat.le_of_ble_eq_true rfl) (d' := 1) (by omega) (e12_in hw hS (Nat.le_refl _) e8) (fun v μ1 q => ?_)
      obtain ⟨rfl, rfl⟩ := q
      refine ev_if_ne dX12_set_54 (tgt := 60) (by decide) (fun c9 => ?_) (fun c9 => ?_)
      · replace h := zif c9 h
        refine ev_iload_n dX12_set_60 rfl rfl ?_
        obtain ⟨x14, e15, h⟩ := zbd h
        have k26 : EV w d 0 0 Y12_set 91 [some (.ref 81), some (.int l1), some (.int l2), some (.int l3), none] [.int x14] (n, kd, I, R) (q12_set n kd R r) := by
          refine ev_istore dX12_set_91 (by decide) rfl ?_
          refine ev_iload_n dX12_set_93 rfl rfl ?_
          by_cases c16 : l1 = (0 : Int32)
          · replace h := zit c16 h
            refine ev_lookup dX12_set_94 (by decide) (off := 26) (by rw [c16]; decide) (tgt := 120) (by decide) ?_
            refine ev_aload_n dX12_set_120 rfl rfl ?_
            refine em_getA dX12_set_121 zf_NineHeapsModel_7 rfl (hS.has 81 (by decide) (by decide) rfl) hw rfl ?_
            refine ev_iload_n dX12_set_124 rfl rfl ?_
            refine ev_iload_n dX12_set_125 rfl rfl ?_
            obtain ⟨g17, h⟩ := zgd h
            obtain ⟨J18, e19, h⟩ := zld h
            refine em_iast dX12_set_126 hS (by decide) (by decide) (N := 9) rfl g17 e19 ?_
            refine ev_goto dX12_set_127 (tgt := 145) (by decide) ?_
            refine ev_iload dX12_set_145 rfl ?_
            obtain rfl := Option.some.inj h
            exact ev_end_i dX12_set_147 rfl rfl ⟨rfl, rfl⟩
          · replace h := zif c16 h
            by_cases c20 : l1 = (1 : Int32)
            · replace h := zit c20 h
              refine ev_lookup dX12_set_94 (by decide) (off := 36) (by rw [c20]; decide) (tgt := 130) (by decide) ?_
              refine ev_aload_n dX12_set_130 rfl rfl ?_
              refine em_getA dX12_set_131 zf_NineHeapsModel_13 rfl (hS.has 81 (by decide) (by decide) rfl) hw rfl ?_
              refine ev_iload_n dX12_set_134 rfl rfl ?_
              refine ev_iload_n dX12_set_135 rfl rfl ?_
              obtain ⟨g21, h⟩ := zgd h
              obtain ⟨J22, e23, h⟩ := zld h
              refine em_iast dX12_set_136 hS (by decide) (by decide) (N := 9) rfl g21 e23 ?_
              refine ev_goto dX12_set_137 (tgt := 145) (by decide) ?_
              refine ev_iload dX12_set_145 rfl ?_
              obtain rfl := Option.some.inj h
              exact ev_end_i dX12_set_147 rfl rfl ⟨rfl, rfl⟩
            · replace h := zif c20 h
              refine ev_lookup dX12_set_94 (by decide) (off := 46) (by show Op.lookupswitch.offset [(0, 26), (1, 36)] 46 _ = _; rw [lv_osw c16 (by decide), lv_osw c20 (by decide)]; rfl) (tgt := 140) (by decide) ?_
              refine ev_aload_n dX12_set_140 rfl rfl ?_
              refine ev_iload_n dX12_set_141 rfl rfl ?_
              obtain ⟨J24, e25, h⟩ := zld h
              refine em_putI dX12_set_142 zf_NineHeapsModel_16 (Or.inl rfl) rfl rfl rfl (hS.has 81 (by decide) (by decide) rfl) e25 ?_
              refine ev_iload dX12_set_145 rfl ?_
              obtain rfl := Option.some.inj h
              exact ev_end_i dX12_set_147 rfl rfl ⟨rfl, rfl⟩
        clear h
        have h := e15
        clear e15
        refine ev_if_ne dX12_set_61 (tgt := 73) (by decide) (fun c10 => ?_) (fun c10 => ?_)
        · replace h := zif c10 h
          refine ev_iload_n dX12_set_73 rfl rfl ?_
          refine ev_iconst dX12_set_74 (v := (1 : Int32)) zci_1 ?_
          refine ev_icmp_ne dX12_set_75 (tgt := 87) (by decide) (fun c11 => ?_) (fun c11 => ?_)
          · replace h := zif c11 h
            refine ev_aload_n dX12_set_87 rfl rfl ?_
            refine em_getI dX12_set_88 zf_NineHeapsModel_16 rfl (hS.has 81 (by decide) (by decide) rfl) rfl ?_
            obtain rfl := Option.some.inj h
            exact k26
          · replace h := zit c11 h
            refine ev_aload_n dX12_set_78 rfl rfl ?_
            refine em_getA dX12_set_79 zf_NineHeapsModel_13 rfl (hS.has 81 (by decide) (by decide) rfl) hw rfl ?_
            refine ev_iload_n dX12_set_82 rfl rfl ?_
            obtain ⟨g12, h⟩ := zgd h
            refine em_iald dX12_set_83 hS (by decide) (by decide) (N := 9) rfl g12 rfl ?_
            refine ev_goto dX12_set_84 (tgt := 91) (by decide) ?_
            obtain rfl := Option.some.inj h
            exact k26
        · replace h := zit c10 h
          refine ev_aload_n dX12_set_64 rfl rfl ?_
          refine em_getA dX12_set_65 zf_NineHeapsModel_7 rfl (hS.has 81 (by decide) (by decide) rfl) hw rfl ?_
          refine ev_iload_n dX12_set_68 rfl rfl ?_
          obtain ⟨g13, h⟩ := zgd h
          refine em_iald dX12_set_69 hS (by decide) (by decide) (N := 9) rfl g13 rfl ?_
          refine ev_goto dX12_set_70 (tgt := 91) (by decide) ?_
          obtain rfl := Option.some.inj h
          exact k26
      · replace h := zit c9 h
        refine ev_bipush dX12_set_57 (v := (-7 : Int32)) zcb_m7 ?_
        obtain rfl := Option.some.inj h
        exact ev_end_i dX12_set_59 rfl rfl ⟨rfl, rfl⟩
    clear h
    have h := e6
    clear e6
    refine ev_icmp_ne dX12_set_40 (tgt := 48) (by decide) (fun c4 => ?_) (fun c4 => ?_)
    · replace h := zif c4 h
      refine ev_sipush dX12_set_48 (v := (200 : Int32)) zcs_200 ?_
      obtain rfl := h
      exact k27
    · replace h := zit c4 h
      refine ev_bipush dX12_set_43 (v := (9 : Int32)) zcb_9 ?_
      refine ev_goto dX12_set_45 (tgt := 51) (by decide) ?_
      obtain rfl := h
      exact k27
  clear h
  have h := e3
  clear e3
  refine ev_icmp_ne dX12_set_30 (tgt := 37) (by decide) (fun c1 => ?_) (fun c1 => ?_)
  · replace h := zif c1 h
    refine ev_iconst dX12_set_37 (v := (0 : Int32)) zci_0 ?_
    obtain rfl := h
    exact k28
  · replace h := zit c1 h
    refine ev_iconst dX12_set_33 (v := (1 : Int32)) zci_1 ?_
    refine ev_goto dX12_set_34 (tgt := 38) (by decide) ?_
    obtain rfl := h
    exact k28
set_option maxHeartbeats 4000000 in
set_option maxRecDepth 100000 in
theorem e12_set {w : zW} {d : Nat} {n : Nat} {kd : zMK} {I : zMI} {R : zMR} {r : Int32 × zMI} {l1 : Int32} {l2 : Int32} {l3 : Int32} (hw : zst w = zSt0) (hS : zSh n kd) (hd : 3 ≤ d)  (h : f12_set l1 l2 l3 I = some r) : EV w d 0 0 Y12_set 0 [some (.ref 81), some (.int l1), some (.int l2), some (.int l3), none] [] (n, kd, I, R) (q12_set n kd R r) := by
  unfold f12_set at h
  refine ev_iload_n dX12_set_0 rfl rfl ?_
  refine ev_iconst dX12_set_1 (v := (0 : Int32)) zci_0 ?_
  refine ev_iconst dX12_set_2 (v := (2 : Int32)) zci_2 ?_
  obtain ⟨p29, e30, h⟩ := zbd h
  refine ev_callS0 dX12_set_3 zm12_in zl_NineHeapsModel_120 zs12_in (As := [.int l1, .int (0 : Int32), .int (2 : Int32)]) (rest := []) rfl rfl (Nat.le_of_ble_eq_true rfl) rfl (Nat.le_of_ble_eq_true rfl) (d' := 1) (by omega) (e12_in hw hS (Nat.le_refl _) e30) (fun v μ1 q => ?_)
  obtain ⟨rfl, rfl⟩ := q
  refine ev_if_ne dX12_set_6 (tgt := 12) (by decide) (fun c31 => ?_) (fun c31 => ?_)
  · replace h := zif c31 h
    refine ev_iload_n dX12_set_12 rfl rfl ?_
    refine ev_iconst dX12_set_13 (v := (2 : Int32)) zci_2 ?_
    refine ev_icmp_ge dX12_set_14 (tgt := 27) (by decide) (fun c32 => ?_) (fun c32 => ?_)
    · replace h := zit c32 h
      exact EV.mask [true, true, true, true, false] rfl (e12_set_B27 hw hS hd l1 l2 l3 I h)
    · replace h := zif c32 h
      refine ev_iload_n dX12_set_17 rfl rfl ?_
      obtain ⟨p33, e34, h⟩ := zbd h
      refine ev_callS0 dX12_set_18 zm12_isHeap zl_NineHeapsModel_130 zs12_isHeap (As := [.int l2]) (rest := []) rfl rfl (Nat.le_of_ble_eq_true rfl) rfl (Nat.le_of_ble_eq_true rfl) (d' := 2) (by omega) (e12_isHeap hw hS (Nat.le_refl _) e34) (fun v μ1 q => ?_)
      obtain ⟨rfl, rfl⟩ := q
      refine ev_if_ne dX12_set_21 (tgt := 27) (by decide) (fun c35 => ?_) (fun c35 => ?_)
      · replace h := zif c35 h
        exact EV.mask [true, true, true, true, false] rfl (e12_set_B27 hw hS hd l1 l2 l3 I h)
      · replace h := zit c35 h
        refine ev_bipush dX12_set_24 (v := (-6 : Int32)) zcb_m6 ?_
        obtain rfl := Option.some.inj h
        exact ev_end_i dX12_set_26 rfl rfl ⟨rfl, rfl⟩
  · replace h := zit c31 h
    refine ev_bipush dX12_set_9 (v := (-5 : Int32)) zcb_m5 ?_
    obtain rfl := Option.some.inj h
    exact ev_end_i dX12_set_11 rfl rfl ⟨rfl, rfl⟩
abbrev q12_heap (n : Nat) (kd : zMK) (I : zMI) (R : zMR) (r : Int32) : Option Value → zM → Prop := fun v μ1 => v = some (.int r) ∧ μ1 = (n, kd, I, R)
set_option maxHeartbeats 4000000 in
set_option maxRecDepth 100000 in
theorem e12_heap {w : zW} {d : Nat} {n : Nat} {kd : zMK} {I : zMI} {R : zMR} {r : Int32} {l1 : Int32} {l2 : Int32} (hw : zst w = zSt0) (hS : zSh n kd) (hd : 3 ≤ d)  (h : f12_heap I l1 l2 = some r) : EV w d 0 0 Y12_heap 0 [some (.ref 81), some (.int l1), some (.int l2)] [] (n, kd, I, R) (q12_heap n kd I R r) := by
  unfold f12_heap at h
  refine ev_iload_n dX12_heap_0 rfl rfl ?_
  obtain ⟨p1, e2, h⟩ := zbd h
  refine ev_callS0 dX12_heap_1 zm12_isHeap zl_NineHeapsModel_130 zs12_isHeap (As := [.int l1]) (rest := []) rfl rfl (Nat.le_of_ble_eq_true rfl) rfl (Nat.le_of_ble_eq_true rfl) (d' := 2) (by omega) (e12_isHeap hw hS (Nat.le_refl _) e2) (fun v μ1 q => ?_)
  obtain ⟨rfl, rfl⟩ := q
  refine ev_if_ne dX12_heap_4 (tgt := 10) (by decide) (fun c3 => ?_) (fun c3 => ?_)
  · replace h := zif c3 h
    refine ev_iload_n dX12_heap_10 rfl rfl ?_
    obtain ⟨x8, e9, h⟩ := zbd h
    have k10 : EV w d 0 0 Y12_heap 39 [some (.ref 81), some (.int l1), some (.int l2)] [.int x8] (n, kd, I, R) (q12_heap n kd I R r) := by
      obtain rfl := Option.some.inj h
      exact ev_end_i dX12_heap_39 rfl rfl ⟨rfl, rfl⟩
    clear h
    have h := e9
    clear e9
    refine ev_if_ne dX12_heap_11 (tgt := 23) (by decide) (fun c4 => ?_) (fun c4 => ?_)
    · replace h := zif c4 h
      refine ev_iload_n dX12_heap_23 rfl rfl ?_
      refine ev_iconst dX12_heap_24 (v := (1 : Int32)) zci_1 ?_
      refine ev_icmp_ne dX12_heap_25 (tgt := 37) (by decide) (fun c5 => ?_) (fun c5 => ?_)
      · replace h := zif c5 h
        refine ev_bipush dX12_heap_37 (v := (-7 : Int32)) zcb_m7 ?_
        obtain rfl := Option.some.inj h
        exact k10
      · replace h := zit c5 h
        refine ev_aload_n dX12_heap_28 rfl rfl ?_
        refine em_getA dX12_heap_29 zf_NineHeapsModel_13 rfl (hS.has 81 (by decide) (by decide) rfl) hw rfl ?_
        refine ev_iload_n dX12_heap_32 rfl rfl ?_
        obtain ⟨g6, h⟩ := zgd h
        refine em_iald dX12_heap_33 hS (by decide) (by decide) (N := 9) rfl g6 rfl ?_
        refine ev_goto dX12_heap_34 (tgt := 39) (by decide) ?_
        obtain rfl := Option.some.inj h
        exact k10
    · replace h := zit c4 h
      refine ev_aload_n dX12_heap_14 rfl rfl ?_
      refine em_getA dX12_heap_15 zf_NineHeapsModel_7 rfl (hS.has 81 (by decide) (by decide) rfl) hw rfl ?_
      refine ev_iload_n dX12_heap_18 rfl rfl ?_
      obtain ⟨g7, h⟩ := zgd h
      refine em_iald dX12_heap_19 hS (by decide) (by decide) (N := 9) rfl g7 rfl ?_
      refine ev_goto dX12_heap_20 (tgt := 39) (by decide) ?_
      obtain rfl := Option.some.inj h
      exact k10
  · replace h := zit c3 h
    refine ev_bipush dX12_heap_7 (v := (-6 : Int32)) zcb_m6 ?_
    obtain rfl := Option.some.inj h
    exact ev_end_i dX12_heap_9 rfl rfl ⟨rfl, rfl⟩
abbrev q12_isByte (n : Nat) (kd : zMK) (I : zMI) (R : zMR) (r : Int32) : Option Value → zM → Prop := fun v μ1 => v = some (.int r) ∧ μ1 = (n, kd, I, R)
set_option maxHeartbeats 4000000 in
set_option maxRecDepth 100000 in
theorem e12_isByte {w : zW} {d : Nat} {n : Nat} {kd : zMK} {I : zMI} {R : zMR} {r : Int32} {l0 : Int32} (hw : zst w = zSt0) (hS : zSh n kd) (hd : 2 ≤ d)  (h : f12_isByte l0 = some r) : EV w d 0 0 Y12_isByte 0 [some (.int l0)] [] (n, kd, I, R) (q12_isByte n kd I R r) := by
  unfold f12_isByte at h
  refine ev_iload_n dX12_isByte_0 rfl rfl ?_
  refine ev_iconst dX12_isByte_1 (v := (0 : Int32)) zci_0 ?_
  refine ev_sipush dX12_isByte_2 (v := (255 : Int32)) zcs_255 ?_
  obtain ⟨p1, e2, h⟩ := zbd h
  refine ev_callS0 dX12_isByte_5 zm12_in zl_NineHeapsModel_120 zs12_in (As := [.int l0, .int (0 : Int32), .int (255 : Int32)]) (rest := []) rfl rfl (Nat.le_of_ble_eq_true rfl) rfl (Nat.le_of_ble_eq_true rfl) (d' := 1) (by omega) (e12_in hw hS (Nat.le_refl _) e2) (fun v μ1 q => ?_)
  obtain ⟨rfl, rfl⟩ := q
  obtain ⟨g3, h⟩ := zgd h
  obtain rfl := Option.some.inj h
  exact ev_end_i dX12_isByte_8 rfl (zbB_n g3) ⟨rfl, rfl⟩
abbrev q12_feed (n : Nat) (kd : zMK) (R : zMR) (r : Int32 × zMI) : Option Value → zM → Prop := fun v μ1 => v = some (.int r.1) ∧ μ1 = (n, kd, r.2, R)
set_option maxHeartbeats 4000000 in
set_option maxRecDepth 100000 in
theorem e12_feed_L68 {w : zW} {d : Nat} {n : Nat} {kd : zMK} {R : zMR} {r : Int32 × zMI}  (hw : zst w = zSt0) (hS : zSh n kd) (hd : 3 ≤ d)   : ∀ (q : Nat) (l1 : Int32) (l2 : Int32) (l3 : Int32) (l4 : Int32) (l5 : Int32) (l6 : Int32) (l7 : Int32) (I : zMI), f12_feed_L68  q l1 l2 l3 l4 l5 l6 l7 I = some r → EV w d 0 0 Y12_feed 68 [some (.ref 81), some (.int l1), some (.int l2), some (.int l3), some (.int l4), some (.int l5), some (.int l6), some (.int l7)] [] (n, kd, I, R) (q12_feed n kd R r) := by
  intro q
  induction q with
  | zero =>
    intro l1 l2 l3 l4 l5 l6 l7 I h
    cases h
  | succ q ih =>
    intro l1 l2 l3 l4 l5 l6 l7 I h
    unfold f12_feed_L68 at h
    refine ev_iload dX12_feed_68 rfl ?_
    refine ev_iload_n dX12_feed_70 rfl rfl ?_
    refine ev_icmp_ge dX12_feed_71 (tgt := 142) (by decide) (fun c1 => ?_) (fun c1 => ?_)
    · replace h := zit c1 h
      refine ev_aload_n dX12_feed_142 rfl rfl ?_
      refine em_getI dX12_feed_143 zf_NineHeapsModel_110 rfl (hS.has 81 (by decide) (by decide) rfl) rfl ?_
      obtain rfl := Option.some.inj h
      exact ev_end_i dX12_feed_146 rfl rfl ⟨rfl, rfl⟩
    · replace h := zif c1 h
      refine ev_aload_n dX12_feed_74 rfl rfl ?_
      refine em_getA dX12_feed_75 zf_NineHeapsModel_29 rfl (hS.has 81 (by decide) (by decide) rfl) hw rfl ?_
      refine ev_aload_n dX12_feed_78 rfl rfl ?_
      refine em_getI dX12_feed_79 zf_NineHeapsModel_110 rfl (hS.has 81 (by decide) (by decide) rfl) rfl ?_
      refine ev_iload dX12_feed_82 rfl ?_
      obtain ⟨x6, e7, h⟩ := zld h
      have k13 : EV w d 0 0 Y12_feed 125 [some (.ref 81), some (.int l1), some (.int l2), some (.int l3), some (.int l4), some (.int l5), some (.int l6), some (.int l7)] [.int x6, .int (I 81 8), .ref 87] (n, kd, I, R) (q12_feed n kd R r) := by
        obtain ⟨g8, h⟩ := zgd h
        obtain ⟨J9, e10, h⟩ := zld h
        refine em_iast dX12_feed_125 hS (by decide) (by decide) (N := 160) rfl g8 e10 ?_
        refine ev_aload_n dX12_feed_126 rfl rfl ?_
        refine ev_dup dX12_feed_127 rfl ?_
        refine em_getI dX12_feed_128 zf_NineHeapsModel_110 rfl (hS.has 81 (by decide) (by decide) rfl) rfl ?_
        refine ev_iconst dX12_feed_131 (v := (1 : Int32)) zci_1 ?_
        refine ev_iadd dX12_feed_132 rfl ?_
        obtain ⟨J11, e12, h⟩ := zld h
        refine em_putI dX12_feed_133 zf_NineHeapsModel_110 (Or.inl rfl) rfl rfl rfl (hS.has 81 (by decide) (by decide) rfl) e12 ?_
        refine ev_iinc dX12_feed_136 (v := l7 + (1 : Int32)) rfl rfl (by decide) rfl ?_
        refine ev_goto dX12_feed_139 (tgt := 68) (by decide) ?_
        exact EV.mask [true, true, true, true, true, true, true, true] rfl (ih l1 l2 l3 l4 l5 l6 (l7 + (1 : Int32)) J11 h)
      clear h
      have h := e7
      clear e7
      refine ev_if_ne dX12_feed_84 (tgt := 91) (by decide) (fun c2 => ?_) (fun c2 => ?_)
      · replace h := zif c2 h
        refine ev_iload dX12_feed_91 rfl ?_
        refine ev_iconst dX12_feed_93 (v := (1 : Int32)) zci_1 ?_
        refine ev_icmp_ne dX12_feed_94 (tgt := 101) (by decide) (fun c3 => ?_) (fun c3 => ?_)
        · replace h := zif c3 h
          refine ev_iload dX12_feed_101 rfl ?_
          refine ev_iconst dX12_feed_103 (v := (2 : Int32)) zci_2 ?_
          refine ev_icmp_ne dX12_feed_104 (tgt := 112) (by decide) (fun c4 => ?_) (fun c4 => ?_)
          · replace h := zif c4 h
            refine ev_iload dX12_feed_112 rfl ?_
            refine ev_iconst dX12_feed_114 (v := (3 : Int32)) zci_3 ?_
            refine ev_icmp_ne dX12_feed_115 (tgt := 123) (by decide) (fun c5 => ?_) (fun c5 => ?_)
            · replace h := zif c5 h
              refine ev_iload dX12_feed_123 rfl ?_
              obtain rfl := h
              exact k13
            · replace h := zit c5 h
              refine ev_iload dX12_feed_118 rfl ?_
              refine ev_goto dX12_feed_120 (tgt := 125) (by decide) ?_
              obtain rfl := h
              exact k13
          · replace h := zit c4 h
            refine ev_iload dX12_feed_107 rfl ?_
            refine ev_goto dX12_feed_109 (tgt := 125) (by decide) ?_
            obtain rfl := h
            exact k13
        · replace h := zit c3 h
          refine ev_iload_n dX12_feed_97 rfl rfl ?_
          refine ev_goto dX12_feed_98 (tgt := 125) (by decide) ?_
          obtain rfl := h
          exact k13
      · replace h := zit c2 h
        refine ev_iload_n dX12_feed_87 rfl rfl ?_
        refine ev_goto dX12_feed_88 (tgt := 125) (by decide) ?_
        obtain rfl := h
        exact k13
set_option maxHeartbeats 4000000 in
set_option maxRecDepth 100000 in
theorem e12_feed {w : zW} {d : Nat} {n : Nat} {kd : zMK} {I : zMI} {R : zMR} {r : Int32 × zMI} {l1 : Int32} {l2 : Int32} {l3 : Int32} {l4 : Int32} {l5 : Int32} {l6 : Int32} (hw : zst w = zSt0) (hS : zSh n kd) (hd : 3 ≤ d)  (h : f12_feed l1 l2 l3 l4 l5 l6 I = some r) : EV w d 0 0 Y12_feed 0 [some (.ref 81), some (.int l1), some (.int l2), some (.int l3), some (.int l4), some (.int l5), some (.int l6), none] [] (n, kd, I, R) (q12_feed n kd R r) := by
  unfold f12_feed at h
  refine ev_iload_n dX12_feed_0 rfl rfl ?_
  refine ev_iconst dX12_feed_1 (v := (1 : Int32)) zci_1 ?_
  refine ev_iconst dX12_feed_2 (v := (5 : Int32)) zci_5 ?_
  obtain ⟨p14, e15, h⟩ := zbd h
  refine ev_callS0 dX12_feed_3 zm12_in zl_NineHeapsModel_120 zs12_in (As := [.int l1, .int (1 : Int32), .int (5 : Int32)]) (rest := []) rfl rfl (Nat.le_of_ble_eq_true rfl) rfl (Nat.le_of_ble_eq_true rfl) (d' := 1) (by omega) (e12_in hw hS (Nat.le_refl _) e15) (fun v μ1 q => ?_)
  obtain ⟨rfl, rfl⟩ := q
  refine ev_if_eq dX12_feed_6 (tgt := 47) (by decide) (fun c16 => ?_) (fun c16 => ?_)
  · replace h := zit c16 h
    refine ev_bipush dX12_feed_47 (v := (-2 : Int32)) zcb_m2 ?_
    obtain rfl := Option.some.inj h
    exact ev_end_i dX12_feed_49 rfl rfl ⟨rfl, rfl⟩
  · replace h := zif c16 h
    refine ev_iload_n dX12_feed_9 rfl rfl ?_
    obtain ⟨p17, e18, h⟩ := zbd h
    refine ev_callS0 dX12_feed_10 zm12_isByte zl_NineHeapsModel_134 zs12_isByte (As := [.int l2]) (rest := []) rfl rfl (Nat.le_of_ble_eq_true rfl) rfl (Nat.le_of_ble_eq_true rfl) (d' := 2) (by omega) (e12_isByte hw hS (Nat.le_refl _) e18) (fun v μ1 q => ?_)
    obtain ⟨rfl, rfl⟩ := q
    refine ev_if_eq dX12_feed_13 (tgt := 47) (by decide) (fun c19 => ?_) (fun c19 => ?_)
    · replace h := zit c19 h
      refine ev_bipush dX12_feed_47 (v := (-2 : Int32)) zcb_m2 ?_
      obtain rfl := Option.some.inj h
      exact ev_end_i dX12_feed_49 rfl rfl ⟨rfl, rfl⟩
    · replace h := zif c19 h
      refine ev_iload_n dX12_feed_16 rfl rfl ?_
      obtain ⟨p20, e21, h⟩ := zbd h
      refine ev_callS0 dX12_feed_17 zm12_isByte zl_NineHeapsModel_134 zs12_isByte (As := [.int l3]) (rest := []) rfl rfl (Nat.le_of_ble_eq_true rfl) rfl (Nat.le_of_ble_eq_true rfl) (d' := 2) (by omega) (e12_isByte hw hS (Nat.le_refl _) e21) (fun v μ1 q => ?_)
      obtain ⟨rfl, rfl⟩ := q
      refine ev_if_eq dX12_feed_20 (tgt := 47) (by decide) (fun c22 => ?_) (fun c22 => ?_)
      · replace h := zit c22 h
        refine ev_bipush dX12_feed_47 (v := (-2 : Int32)) zcb_m2 ?_
        obtain rfl := Option.some.inj h
        exact ev_end_i dX12_feed_49 rfl rfl ⟨rfl, rfl⟩
      · replace h := zif c22 h
        refine ev_iload dX12_feed_23 rfl ?_
        obtain ⟨p23, e24, h⟩ := zbd h
        refine ev_callS0 dX12_feed_25 zm12_isByte zl_NineHeapsModel_134 zs12_isByte (As := [.int l4]) (rest := []) rfl rfl (Nat.le_of_ble_eq_true rfl) rfl (Nat.le_of_ble_eq_true rfl) (d' := 2) (by omega) (e12_isByte hw hS (Nat.le_refl _) e24) (fun v μ1 q => ?_)
        obtain ⟨rfl, rfl⟩ := q
        refine ev_if_eq dX12_feed_28 (tgt := 47) (by decide) (fun c25 => ?_) (fun c25 => ?_)
        · replace h := zit c25 h
          refine ev_bipush dX12_feed_47 (v := (-2 : Int32)) zcb_m2 ?_
          obtain rfl := Option.some.inj h
          exact ev_end_i dX12_feed_49 rfl rfl ⟨rfl, rfl⟩
        · replace h := zif c25 h
          refine ev_iload dX12_feed_31 rfl ?_
          obtain ⟨p26, e27, h⟩ := zbd h
          refine ev_callS0 dX12_feed_33 zm12_isByte zl_NineHeapsModel_134 zs12_isByte (As := [.int l5]) (rest := []) rfl rfl (Nat.le_of_ble_eq_true rfl) rfl (Nat.le_of_ble_eq_true rfl) (d' := 2) (by omega) (e12_isByte hw hS (Nat.le_refl _) e27) (fun v μ1 q => ?_)
          obtain ⟨rfl, rfl⟩ := q
          refine ev_if_eq dX12_feed_36 (tgt := 47) (by decide) (fun c28 => ?_) (fun c28 => ?_)
          · replace h := zit c28 h
            refine ev_bipush dX12_feed_47 (v := (-2 : Int32)) zcb_m2 ?_
            obtain rfl := Option.some.inj h
            exact ev_end_i dX12_feed_49 rfl rfl ⟨rfl, rfl⟩
          · replace h := zif c28 h
            refine ev_iload dX12_feed_39 rfl ?_
            obtain ⟨p29, e30, h⟩ := zbd h
            refine ev_callS0 dX12_feed_41 zm12_isByte zl_NineHeapsModel_134 zs12_isByte (As := [.int l6]) (rest := []) rfl rfl (Nat.le_of_ble_eq_true rfl) rfl (Nat.le_of_ble_eq_true rfl) (d' := 2) (by omega) (e12_isByte hw hS (Nat.le_refl _) e30) (fun v μ1 q => ?_)
            obtain ⟨rfl, rfl⟩ := q
            refine ev_if_ne dX12_feed_44 (tgt := 50) (by decide) (fun c31 => ?_) (fun c31 => ?_)
            · replace h := zif c31 h
              refine ev_aload_n dX12_feed_50 rfl rfl ?_
              refine em_getI dX12_feed_51 zf_NineHeapsModel_110 rfl (hS.has 81 (by decide) (by decide) rfl) rfl ?_
              refine ev_iload_n dX12_feed_54 rfl rfl ?_
              refine ev_iadd dX12_feed_55 rfl ?_
              refine ev_sipush dX12_feed_56 (v := (160 : Int32)) zcs_160 ?_
              refine ev_icmp_le dX12_feed_59 (tgt := 65) (by decide) (fun c32 => ?_) (fun c32 => ?_)
              · replace h := zit c32 h
                refine ev_iconst dX12_feed_65 (v := (0 : Int32)) zci_0 ?_
                refine ev_istore dX12_feed_66 (by decide) rfl ?_
                exact EV.mask [true, true, true, true, true, true, true, true] rfl (e12_feed_L68 hw hS hd zF l1 l2 l3 l4 l5 l6 (0 : Int32) I h)
              · replace h := zif c32 h
                refine ev_bipush dX12_feed_62 (v := (-4 : Int32)) zcb_m4 ?_
                obtain rfl := Option.some.inj h
                exact ev_end_i dX12_feed_64 rfl rfl ⟨rfl, rfl⟩
            · replace h := zit c31 h
              refine ev_bipush dX12_feed_47 (v := (-2 : Int32)) zcb_m2 ?_
              obtain rfl := Option.some.inj h
              exact ev_end_i dX12_feed_49 rfl rfl ⟨rfl, rfl⟩
abbrev q12_wordFrom (n : Nat) (kd : zMK) (I : zMI) (R : zMR) (r : Int32) : Option Value → zM → Prop := fun v μ1 => v = some (.int r) ∧ μ1 = (n, kd, I, R)
set_option maxHeartbeats 4000000 in
set_option maxRecDepth 100000 in
theorem e12_wordFrom_L26 {w : zW} {d : Nat} {n : Nat} {kd : zMK} {I : zMI} {R : zMR} {r : Int32} {k88 : Int32 → Int32 → Int32 → Int32 → Option (Int32)} (hw : zst w = zSt0) (hS : zSh n kd) (hd : 1 ≤ d)  (hk88 : ∀ (l1 : Int32) (l2 : Int32) (l3 : Int32) (l4 : Int32) , k88 l1 l2 l3 l4 = some r → EV w d 0 0 Y12_wordFrom 88 [some (.ref 81), some (.int l1), some (.int l2), some (.int l3), some (.int l4), none] [] (n, kd, I, R) (q12_wordFrom n kd I R r)) : ∀ (q : Nat) (l1 : Int32) (l2 : Int32) (l3 : Int32) (l4 : Int32) (l5 : Int32) , f12_wordFrom_L26 I k88 q l1 l2 l3 l4 l5 = some r → EV w d 0 0 Y12_wordFrom 26 [some (.ref 81), some (.int l1), some (.int l2), some (.int l3), some (.int l4), some (.int l5)] [] (n, kd, I, R) (q12_wordFrom n kd I R r) := by
  intro q
  induction q with
  | zero =>
    intro l1 l2 l3 l4 l5 h
    cases h
  | succ q ih =>
    intro l1 l2 l3 l4 l5 h
    unfold f12_wordFrom_L26 at h
    refine ev_iload dX12_wordFrom_26 rfl ?_
    refine ev_bipush dX12_wordFrom_28 (v := (8 : Int32)) zcb_8 ?_
    refine ev_icmp_ge dX12_wordFrom_30 (tgt := 88) (by decide) (fun c1 => ?_) (fun c1 => ?_)
    · replace h := zit c1 h
      exact EV.mask [true, true, true, true, true, false] rfl (hk88 l1 l2 l3 l4 h)
    · replace h := zif c1 h
      refine ev_iload dX12_wordFrom_33 rfl ?_
      refine ev_if_eq dX12_wordFrom_35 (tgt := 88) (by decide) (fun c2 => ?_) (fun c2 => ?_)
      · replace h := zit c2 h
        exact EV.mask [true, true, true, true, true, false] rfl (hk88 l1 l2 l3 l4 h)
      · replace h := zif c2 h
        refine ev_aload_n dX12_wordFrom_38 rfl rfl ?_
        refine em_getA dX12_wordFrom_39 zf_NineHeapsModel_53 rfl (hS.has 81 (by decide) (by decide) rfl) hw rfl ?_
        refine ev_bipush dX12_wordFrom_42 (v := (8 : Int32)) zcb_8 ?_
        refine ev_iload_n dX12_wordFrom_44 rfl rfl ?_
        refine ev_imul dX12_wordFrom_45 rfl ?_
        refine ev_iload dX12_wordFrom_46 rfl ?_
        refine ev_iadd dX12_wordFrom_48 rfl ?_
        obtain ⟨g3, h⟩ := zgd h
        refine em_iald dX12_wordFrom_49 hS (by decide) (by decide) (N := 96) rfl g3 rfl ?_
        refine ev_iload_n dX12_wordFrom_50 rfl rfl ?_
        refine ev_iload dX12_wordFrom_51 rfl ?_
        refine ev_iadd dX12_wordFrom_53 rfl ?_
        refine ev_iload_n dX12_wordFrom_54 rfl rfl ?_
        obtain ⟨x6, e7, h⟩ := zbd h
        have k12 : EV w d 0 0 Y12_wordFrom 72 [some (.ref 81), some (.int l1), some (.int l2), some (.int l3), some (.int l4), some (.int l5)] [.int x6, .int (I 95 (((8 : Int32) * l3) + l5).toNatClampNeg)] (n, kd, I, R) (q12_wordFrom n kd I R r) := by
          obtain ⟨x9, e10, h⟩ := zld h
          have k11 : EV w d 0 0 Y12_wordFrom 80 [some (.ref 81), some (.int l1), some (.int l2), some (.int l3), some (.int l4), some (.int l5)] [.int x9] (n, kd, I, R) (q12_wordFrom n kd I R r) := by
            refine ev_istore dX12_wordFrom_80 (by decide) rfl ?_
            refine ev_iinc dX12_wordFrom_82 (v := l5 + (1 : Int32)) rfl rfl (by decide) rfl ?_
            refine ev_goto dX12_wordFrom_85 (tgt := 26) (by decide) ?_
            exact EV.mask [true, true, true, true, true, true] rfl (ih l1 l2 l3 x9 (l5 + (1 : Int32)) h)
          clear h
          have h := e10
          clear e10
          refine ev_icmp_ne dX12_wordFrom_72 (tgt := 79) (by decide) (fun c8 => ?_) (fun c8 => ?_)
          · replace h := zif c8 h
            refine ev_iconst dX12_wordFrom_79 (v := (0 : Int32)) zci_0 ?_
            obtain rfl := h
            exact k11
          · replace h := zit c8 h
            refine ev_iconst dX12_wordFrom_75 (v := (1 : Int32)) zci_1 ?_
            refine ev_goto dX12_wordFrom_76 (tgt := 80) (by decide) ?_
            obtain rfl := h
            exact k11
        clear h
        have h := e7
        clear e7
        refine ev_icmp_ge dX12_wordFrom_55 (tgt := 70) (by decide) (fun c4 => ?_) (fun c4 => ?_)
        · replace h := zit c4 h
          refine ev_bipush dX12_wordFrom_70 (v := (32 : Int32)) zcb_32 ?_
          obtain rfl := Option.some.inj h
          exact k12
        · replace h := zif c4 h
          refine ev_aload_n dX12_wordFrom_58 rfl rfl ?_
          refine em_getA dX12_wordFrom_59 zf_NineHeapsModel_29 rfl (hS.has 81 (by decide) (by decide) rfl) hw rfl ?_
          refine ev_iload_n dX12_wordFrom_62 rfl rfl ?_
          refine ev_iload dX12_wordFrom_63 rfl ?_
          refine ev_iadd dX12_wordFrom_65 rfl ?_
          obtain ⟨g5, h⟩ := zgd h
          refine em_iald dX12_wordFrom_66 hS (by decide) (by decide) (N := 160) rfl g5 rfl ?_
          refine ev_goto dX12_wordFrom_67 (tgt := 72) (by decide) ?_
          obtain rfl := Option.some.inj h
          exact k12
set_option maxHeartbeats 4000000 in
set_option maxRecDepth 100000 in
theorem e12_wordFrom_B88 {w : zW} {d : Nat} {n : Nat} {kd : zMK} {I : zMI} {R : zMR} {r : Int32} {k2 : Int32 → Int32 → Int32 → Option (Int32)} (hw : zst w = zSt0) (hS : zSh n kd) (hd : 1 ≤ d)  (hk2 : ∀ (l1 : Int32) (l2 : Int32) (l3 : Int32) , k2 l1 l2 l3 = some r → EV w d 0 0 Y12_wordFrom 2 [some (.ref 81), some (.int l1), some (.int l2), some (.int l3), none, none] [] (n, kd, I, R) (q12_wordFrom n kd I R r)) : ∀ (l1 : Int32) (l2 : Int32) (l3 : Int32) (l4 : Int32) , f12_wordFrom_B88 I k2 l1 l2 l3 l4 = some r → EV w d 0 0 Y12_wordFrom 88 [some (.ref 81), some (.int l1), some (.int l2), some (.int l3), some (.int l4), none] [] (n, kd, I, R) (q12_wordFrom n kd I R r) := by
  intro l1 l2 l3 l4 h
  unfold f12_wordFrom_B88 at h
  refine ev_iload dX12_wordFrom_88 rfl ?_
  refine ev_if_eq dX12_wordFrom_90 (tgt := 95) (by decide) (fun c13 => ?_) (fun c13 => ?_)
  · replace h := zit c13 h
    refine ev_iinc dX12_wordFrom_95 (v := l3 + (1 : Int32)) rfl rfl (by decide) rfl ?_
    refine ev_goto dX12_wordFrom_98 (tgt := 2) (by decide) ?_
    exact EV.mask [true, true, true, true, false, false] rfl (hk2 l1 l2 (l3 + (1 : Int32)) h)
  · replace h := zif c13 h
    refine ev_iload_n dX12_wordFrom_93 rfl rfl ?_
    obtain rfl := Option.some.inj h
    exact ev_end_i dX12_wordFrom_94 rfl rfl ⟨rfl, rfl⟩
set_option maxHeartbeats 4000000 in
set_option maxRecDepth 100000 in
theorem e12_wordFrom_L2 {w : zW} {d : Nat} {n : Nat} {kd : zMK} {I : zMI} {R : zMR} {r : Int32}  (hw : zst w = zSt0) (hS : zSh n kd) (hd : 1 ≤ d)   : ∀ (q : Nat) (l1 : Int32) (l2 : Int32) (l3 : Int32) , f12_wordFrom_L2 I q l1 l2 l3 = some r → EV w d 0 0 Y12_wordFrom 2 [some (.ref 81), some (.int l1), some (.int l2), some (.int l3), none, none] [] (n, kd, I, R) (q12_wordFrom n kd I R r) := by
  intro q
  induction q with
  | zero =>
    intro l1 l2 l3 h
    cases h
  | succ q ih =>
    intro l1 l2 l3 h
    unfold f12_wordFrom_L2 at h
    refine ev_iload_n dX12_wordFrom_2 rfl rfl ?_
    refine ev_bipush dX12_wordFrom_3 (v := (12 : Int32)) zcb_12 ?_
    refine ev_icmp_ge dX12_wordFrom_5 (tgt := 101) (by decide) (fun c14 => ?_) (fun c14 => ?_)
    · replace h := zit c14 h
      refine ev_bipush dX12_wordFrom_101 (v := (12 : Int32)) zcb_12 ?_
      obtain rfl := Option.some.inj h
      exact ev_end_i dX12_wordFrom_103 rfl rfl ⟨rfl, rfl⟩
    · replace h := zif c14 h
      refine ev_iload_n dX12_wordFrom_8 rfl rfl ?_
      refine ev_iload_n dX12_wordFrom_9 rfl rfl ?_
      refine ev_isub dX12_wordFrom_10 rfl ?_
      refine ev_bipush dX12_wordFrom_11 (v := (8 : Int32)) zcb_8 ?_
      obtain ⟨x16, e17, h⟩ := zld h
      have k18 : EV w d 0 0 Y12_wordFrom 21 [some (.ref 81), some (.int l1), some (.int l2), some (.int l3), none, none] [.int x16] (n, kd, I, R) (q12_wordFrom n kd I R r) := by
        refine ev_istore dX12_wordFrom_21 (by decide) rfl ?_
        refine ev_iconst dX12_wordFrom_23 (v := (0 : Int32)) zci_0 ?_
        refine ev_istore dX12_wordFrom_24 (by decide) rfl ?_
        exact EV.mask [true, true, true, true, true, true] rfl (e12_wordFrom_L26 hw hS hd (fun l1' l2' l3' l4' h' => e12_wordFrom_B88 hw hS hd (fun l1' l2' l3' h' => ih l1' l2' l3' h') l1' l2' l3' l4' h') zF l1 l2 l3 x16 (0 : Int32) h)
      clear h
      have h := e17
      clear e17
      refine ev_icmp_gt dX12_wordFrom_13 (tgt := 20) (by decide) (fun c15 => ?_) (fun c15 => ?_)
      · replace h := zit c15 h
        refine ev_iconst dX12_wordFrom_20 (v := (0 : Int32)) zci_0 ?_
        obtain rfl := h
        exact k18
      · replace h := zif c15 h
        refine ev_iconst dX12_wordFrom_16 (v := (1 : Int32)) zci_1 ?_
        refine ev_goto dX12_wordFrom_17 (tgt := 21) (by decide) ?_
        obtain rfl := h
        exact k18
set_option maxHeartbeats 4000000 in
set_option maxRecDepth 100000 in
theorem e12_wordFrom {w : zW} {d : Nat} {n : Nat} {kd : zMK} {I : zMI} {R : zMR} {r : Int32} {l1 : Int32} {l2 : Int32} (hw : zst w = zSt0) (hS : zSh n kd) (hd : 1 ≤ d)  (h : f12_wordFrom I l1 l2 = some r) : EV w d 0 0 Y12_wordFrom 0 [some (.ref 81), some (.int l1), some (.int l2), none, none, none] [] (n, kd, I, R) (q12_wordFrom n kd I R r) := by
  unfold f12_wordFrom at h
  refine ev_iconst dX12_wordFrom_0 (v := (0 : Int32)) zci_0 ?_
  refine ev_istore_n dX12_wordFrom_1 rfl (by decide) rfl ?_
  exact EV.mask [true, true, true, true, false, false] rfl (e12_wordFrom_L2 hw hS hd zF l1 l2 (0 : Int32) h)
abbrev q12_next (n : Nat) (kd : zMK) (R : zMR) (r : zMI) : Option Value → zM → Prop := fun v μ1 => v = none ∧ μ1 = (n, kd, r, R)
set_option maxHeartbeats 4000000 in
set_option maxRecDepth 100000 in
theorem e12_next_B39 {w : zW} {d : Nat} {n : Nat} {kd : zMK} {R : zMR} {r : zMI} {k0 : zMI → Option (zMI)} (hw : zst w = zSt0) (hS : zSh n kd) (hd : 2 ≤ d)  (hk0 : ∀  (I : zMI), k0 I = some r → EV w d 0 0 Y12_next 0 [some (.ref 81), none, none] [] (n, kd, I, R) (q12_next n kd R r)) : ∀  (I : zMI), f12_next_B39 k0 I = some r → EV w d 0 0 Y12_next 39 [some (.ref 81), none, none] [] (n, kd, I, R) (q12_next n kd R r) := by
  intro I h
  unfold f12_next_B39 at h
  refine ev_aload_n dX12_next_39 rfl rfl ?_
  refine ev_dup dX12_next_40 rfl ?_
  refine em_getI dX12_next_41 zf_NineHeapsModel_137 rfl (hS.has 81 (by decide) (by decide) rfl) rfl ?_
  refine ev_iconst dX12_next_44 (v := (1 : Int32)) zci_1 ?_
  refine ev_iadd dX12_next_45 rfl ?_
  obtain ⟨J1, e2, h⟩ := zld h
  refine em_putI dX12_next_46 zf_NineHeapsModel_137 (Or.inl rfl) rfl rfl rfl (hS.has 81 (by decide) (by decide) rfl) e2 ?_
  refine ev_goto dX12_next_49 (tgt := 0) (by decide) ?_
  exact EV.mask [true, false, false] rfl (hk0 J1 h)
set_option maxHeartbeats 4000000 in
set_option maxRecDepth 100000 in
theorem e12_next_L0 {w : zW} {d : Nat} {n : Nat} {kd : zMK} {R : zMR} {r : zMI} {k52 : zMI → Option (zMI)} (hw : zst w = zSt0) (hS : zSh n kd) (hd : 2 ≤ d)  (hk52 : ∀  (I : zMI), k52 I = some r → EV w d 0 0 Y12_next 52 [some (.ref 81), none, none] [] (n, kd, I, R) (q12_next n kd R r)) : ∀ (q : Nat)  (I : zMI), f12_next_L0 k52 q I = some r → EV w d 0 0 Y12_next 0 [some (.ref 81), none, none] [] (n, kd, I, R) (q12_next n kd R r) := by
  intro q
  induction q with
  | zero =>
    intro I h
    cases h
  | succ q ih =>
    intro I h
    unfold f12_next_L0 at h
    refine ev_aload_n dX12_next_0 rfl rfl ?_
    refine em_getI dX12_next_1 zf_NineHeapsModel_137 rfl (hS.has 81 (by decide) (by decide) rfl) rfl ?_
    refine ev_aload_n dX12_next_4 rfl rfl ?_
    refine em_getI dX12_next_5 zf_NineHeapsModel_110 rfl (hS.has 81 (by decide) (by decide) rfl) rfl ?_
    refine ev_icmp_ge dX12_next_8 (tgt := 52) (by decide) (fun c3 => ?_) (fun c3 => ?_)
    · replace h := zit c3 h
      exact EV.mask [true, false, false] rfl (hk52 I h)
    · replace h := zif c3 h
      refine ev_aload_n dX12_next_11 rfl rfl ?_
      refine em_getA dX12_next_12 zf_NineHeapsModel_29 rfl (hS.has 81 (by decide) (by decide) rfl) hw rfl ?_
      refine ev_aload_n dX12_next_15 rfl rfl ?_
      refine em_getI dX12_next_16 zf_NineHeapsModel_137 rfl (hS.has 81 (by decide) (by decide) rfl) rfl ?_
      obtain ⟨g4, h⟩ := zgd h
      refine em_iald dX12_next_19 hS (by decide) (by decide) (N := 160) rfl g4 rfl ?_
      refine ev_bipush dX12_next_20 (v := (32 : Int32)) zcb_32 ?_
      refine ev_icmp_eq dX12_next_22 (tgt := 39) (by decide) (fun c5 => ?_) (fun c5 => ?_)
      · replace h := zit c5 h
        exact EV.mask [true, false, false] rfl (e12_next_B39 hw hS hd (fun I' h' => ih I' h') I h)
      · replace h := zif c5 h
        refine ev_aload_n dX12_next_25 rfl rfl ?_
        refine em_getA dX12_next_26 zf_NineHeapsModel_29 rfl (hS.has 81 (by decide) (by decide) rfl) hw rfl ?_
        refine ev_aload_n dX12_next_29 rfl rfl ?_
        refine em_getI dX12_next_30 zf_NineHeapsModel_137 rfl (hS.has 81 (by decide) (by decide) rfl) rfl ?_
        refine em_iald dX12_next_33 hS (by decide) (by decide) (N := 160) rfl g4 rfl ?_
        refine ev_bipush dX12_next_34 (v := (10 : Int32)) zcb_10 ?_
        refine ev_icmp_ne dX12_next_36 (tgt := 52) (by decide) (fun c6 => ?_) (fun c6 => ?_)
        · replace h := zif c6 h
          exact EV.mask [true, false, false] rfl (hk52 I h)
        · replace h := zit c6 h
          exact EV.mask [true, false, false] rfl (e12_next_B39 hw hS hd (fun I' h' => ih I' h') I h)
set_option maxHeartbeats 4000000 in
set_option maxRecDepth 100000 in
theorem e12_next_L103 {w : zW} {d : Nat} {n : Nat} {kd : zMK} {R : zMR} {r : zMI} {k146 : zMI → Option (zMI)} (hw : zst w = zSt0) (hS : zSh n kd) (hd : 2 ≤ d)  (hk146 : ∀  (I : zMI), k146 I = some r → EV w d 0 0 Y12_next 146 [some (.ref 81), none, none] [] (n, kd, I, R) (q12_next n kd R r)) : ∀ (q : Nat)  (I : zMI), f12_next_L103 k146 q I = some r → EV w d 0 0 Y12_next 103 [some (.ref 81), none, none] [] (n, kd, I, R) (q12_next n kd R r) := by
  intro q
  induction q with
  | zero =>
    intro I h
    cases h
  | succ q ih =>
    intro I h
    unfold f12_next_L103 at h
    refine ev_aload_n dX12_next_103 rfl rfl ?_
    refine em_getI dX12_next_104 zf_NineHeapsModel_137 rfl (hS.has 81 (by decide) (by decide) rfl) rfl ?_
    refine ev_aload_n dX12_next_107 rfl rfl ?_
    refine em_getI dX12_next_108 zf_NineHeapsModel_110 rfl (hS.has 81 (by decide) (by decide) rfl) rfl ?_
    refine ev_icmp_ge dX12_next_111 (tgt := 146) (by decide) (fun c7 => ?_) (fun c7 => ?_)
    · replace h := zit c7 h
      exact EV.mask [true, false, false] rfl (hk146 I h)
    · replace h := zif c7 h
      refine ev_aload_n dX12_next_114 rfl rfl ?_
      refine em_getA dX12_next_115 zf_NineHeapsModel_29 rfl (hS.has 81 (by decide) (by decide) rfl) hw rfl ?_
      refine ev_aload_n dX12_next_118 rfl rfl ?_
      refine em_getI dX12_next_119 zf_NineHeapsModel_137 rfl (hS.has 81 (by decide) (by decide) rfl) rfl ?_
      obtain ⟨g8, h⟩ := zgd h
      refine em_iald dX12_next_122 hS (by decide) (by decide) (N := 160) rfl g8 rfl ?_
      refine ev_bipush dX12_next_123 (v := (97 : Int32)) zcb_97 ?_
      refine ev_bipush dX12_next_125 (v := (122 : Int32)) zcb_122 ?_
      obtain ⟨p9, e10, h⟩ := zbd h
      refine ev_callS0 dX12_next_127 zm12_in zl_NineHeapsModel_120 zs12_in (As := [.int (I 87 (I 81 22).toNatClampNeg), .int (97 : Int32), .int (122 : Int32)]) (rest := []) rfl rfl (Nat.le_of_ble_eq_true rfl) rfl (Nat.le_of_ble_eq_true rfl) (d' := 1) (by omega) (e12_in hw hS (Nat.le_refl _) e10) (fun v μ1 q => ?_)
      obtain ⟨rfl, rfl⟩ := q
      refine ev_if_eq dX12_next_130 (tgt := 146) (by decide) (fun c11 => ?_) (fun c11 => ?_)
      · replace h := zit c11 h
        exact EV.mask [true, false, false] rfl (hk146 I h)
      · replace h := zif c11 h
        refine ev_aload_n dX12_next_133 rfl rfl ?_
        refine ev_dup dX12_next_134 rfl ?_
        refine em_getI dX12_next_135 zf_NineHeapsModel_137 rfl (hS.has 81 (by decide) (by decide) rfl) rfl ?_
        refine ev_iconst dX12_next_138 (v := (1 : Int32)) zci_1 ?_
        refine ev_iadd dX12_next_139 rfl ?_
        obtain ⟨J12, e13, h⟩ := zld h
        refine em_putI dX12_next_140 zf_NineHeapsModel_137 (Or.inl rfl) rfl rfl rfl (hS.has 81 (by decide) (by decide) rfl) e13 ?_
        refine ev_goto dX12_next_143 (tgt := 103) (by decide) ?_
        exact EV.mask [true, false, false] rfl (ih J12 h)
set_option maxHeartbeats 4000000 in
set_option maxRecDepth 100000 in
theorem e12_next_B146 {w : zW} {d : Nat} {n : Nat} {kd : zMK} {R : zMR} {r : zMI}  (hw : zst w = zSt0) (hS : zSh n kd) (hd : 2 ≤ d)   : ∀  (I : zMI), f12_next_B146 I = some r → EV w d 0 0 Y12_next 146 [some (.ref 81), none, none] [] (n, kd, I, R) (q12_next n kd R r) := by
  intro I h
  unfold f12_next_B146 at h
  refine ev_aload_n dX12_next_146 rfl rfl ?_
  refine ev_aload_n dX12_next_147 rfl rfl ?_
  refine em_getI dX12_next_148 zf_NineHeapsModel_140 rfl (hS.has 81 (by decide) (by decide) rfl) rfl ?_
  refine ev_aload_n dX12_next_151 rfl rfl ?_
  refine em_getI dX12_next_152 zf_NineHeapsModel_137 rfl (hS.has 81 (by decide) (by decide) rfl) rfl ?_
  obtain ⟨p14, e15, h⟩ := zbd h
  refine ev_callV0 dX12_next_155 zm12_wordFrom zl_NineHeapsModel_149 zi12_wordFrom zv12_wordFrom (zrcM hS) (As := [.int (I 81 23), .int (I 81 22)]) (rest := []) rfl rfl (Nat.le_of_ble_eq_true rfl) rfl (Nat.le_of_ble_eq_true rfl) (d' := 1) (by omega) (e12_wordFrom hw hS (Nat.le_refl _) e15) (fun v μ1 q => ?_)
  obtain ⟨rfl, rfl⟩ := q
  refine ev_istore_n dX12_next_158 rfl (by decide) rfl ?_
  refine ev_aload_n dX12_next_159 rfl rfl ?_
  refine ev_iload_n dX12_next_160 rfl rfl ?_
  refine ev_iconst dX12_next_161 (v := (3 : Int32)) zci_3 ?_
  obtain ⟨x19, e20, h⟩ := zld h
  have k29 : EV w d 0 0 Y12_next 195 [some (.ref 81), none, some (.int p14)] [.int x19, .ref 81] (n, kd, I, R) (q12_next n kd R r) := by
    obtain ⟨J21, e22, h⟩ := zld h
    refine em_putI dX12_next_195 zf_NineHeapsModel_143 (Or.inl rfl) rfl rfl rfl (hS.has 81 (by decide) (by decide) rfl) e22 ?_
    refine ev_aload_n dX12_next_198 rfl rfl ?_
    refine ev_iload_n dX12_next_199 rfl rfl ?_
    refine ev_iconst dX12_next_200 (v := (3 : Int32)) zci_3 ?_
    obtain ⟨x24, e25, h⟩ := zld h
    have k28 : EV w d 0 0 Y12_next 211 [some (.ref 81), none, some (.int p14)] [.int x24, .ref 81] (n, kd, J21, R) (q12_next n kd R r) := by
      obtain ⟨J26, e27, h⟩ := zld h
      refine em_putI dX12_next_211 zf_NineHeapsModel_146 (Or.inl rfl) rfl rfl rfl (hS.has 81 (by decide) (by decide) rfl) e27 ?_
      refine ev_goto dX12_next_214 (tgt := 403) (by decide) ?_
      obtain rfl := Option.some.inj h
      exact ev_end_v dX12_next_403 rfl ⟨rfl, rfl⟩
    clear h
    have h := e25
    clear e25
    refine ev_icmp_ge dX12_next_201 (tgt := 208) (by decide) (fun c23 => ?_) (fun c23 => ?_)
    · replace h := zit c23 h
      refine ev_iload_n dX12_next_208 rfl rfl ?_
      refine ev_iconst dX12_next_209 (v := (3 : Int32)) zci_3 ?_
      refine ev_isub dX12_next_210 rfl ?_
      obtain rfl := h
      exact k28
    · replace h := zif c23 h
      refine ev_iload_n dX12_next_204 rfl rfl ?_
      refine ev_goto dX12_next_205 (tgt := 211) (by decide) ?_
      obtain rfl := h
      exact k28
  clear h
  have h := e20
  clear e20
  refine ev_icmp_ge dX12_next_162 (tgt := 169) (by decide) (fun c16 => ?_) (fun c16 => ?_)
  · replace h := zit c16 h
    refine ev_iload_n dX12_next_169 rfl rfl ?_
    refine ev_bipush dX12_next_170 (v := (9 : Int32)) zcb_9 ?_
    refine ev_icmp_ge dX12_next_172 (tgt := 179) (by decide) (fun c17 => ?_) (fun c17 => ?_)
    · replace h := zit c17 h
      refine ev_iload_n dX12_next_179 rfl rfl ?_
      refine ev_bipush dX12_next_180 (v := (12 : Int32)) zcb_12 ?_
      refine ev_icmp_ne dX12_next_182 (tgt := 189) (by decide) (fun c18 => ?_) (fun c18 => ?_)
      · replace h := zif c18 h
        refine ev_iconst dX12_next_189 (v := (4 : Int32)) zci_4 ?_
        refine ev_iload_n dX12_next_190 rfl rfl ?_
        refine ev_iadd dX12_next_191 rfl ?_
        refine ev_bipush dX12_next_192 (v := (9 : Int32)) zcb_9 ?_
        refine ev_isub dX12_next_194 rfl ?_
        obtain rfl := h
        exact k29
      · replace h := zit c18 h
        refine ev_iconst dX12_next_185 (v := (-1 : Int32)) zci_m1 ?_
        refine ev_goto dX12_next_186 (tgt := 195) (by decide) ?_
        obtain rfl := h
        exact k29
    · replace h := zif c17 h
      refine ev_iconst dX12_next_175 (v := (2 : Int32)) zci_2 ?_
      refine ev_goto dX12_next_176 (tgt := 195) (by decide) ?_
      obtain rfl := h
      exact k29
  · replace h := zif c16 h
    refine ev_iconst dX12_next_165 (v := (3 : Int32)) zci_3 ?_
    refine ev_goto dX12_next_166 (tgt := 195) (by decide) ?_
    obtain rfl := h
    exact k29
set_option maxHeartbeats 4000000 in
set_option maxRecDepth 100000 in
theorem e12_next_L230 {w : zW} {d : Nat} {n : Nat} {kd : zMK} {R : zMR} {r : zMI} {k309 : Int32 → zMI → Option (zMI)} (hw : zst w = zSt0) (hS : zSh n kd) (hd : 2 ≤ d)  (hk309 : ∀ (l2 : Int32) (I : zMI), k309 l2 I = some r → EV w d 0 0 Y12_next 309 [some (.ref 81), none, some (.int l2)] [] (n, kd, I, R) (q12_next n kd R r)) : ∀ (q : Nat) (l2 : Int32) (I : zMI), f12_next_L230 k309 q l2 I = some r → EV w d 0 0 Y12_next 230 [some (.ref 81), none, some (.int l2)] [] (n, kd, I, R) (q12_next n kd R r) := by
  intro q
  induction q with
  | zero =>
    intro l2 I h
    cases h
  | succ q ih =>
    intro l2 I h
    unfold f12_next_L230 at h
    refine ev_aload_n dX12_next_230 rfl rfl ?_
    refine em_getI dX12_next_231 zf_NineHeapsModel_137 rfl (hS.has 81 (by decide) (by decide) rfl) rfl ?_
    refine ev_aload_n dX12_next_234 rfl rfl ?_
    refine em_getI dX12_next_235 zf_NineHeapsModel_110 rfl (hS.has 81 (by decide) (by decide) rfl) rfl ?_
    refine ev_icmp_ge dX12_next_238 (tgt := 309) (by decide) (fun c30 => ?_) (fun c30 => ?_)
    · replace h := zit c30 h
      exact EV.mask [true, false, true] rfl (hk309 l2 I h)
    · replace h := zif c30 h
      refine ev_aload_n dX12_next_241 rfl rfl ?_
      refine em_getA dX12_next_242 zf_NineHeapsModel_29 rfl (hS.has 81 (by decide) (by decide) rfl) hw rfl ?_
      refine ev_aload_n dX12_next_245 rfl rfl ?_
      refine em_getI dX12_next_246 zf_NineHeapsModel_137 rfl (hS.has 81 (by decide) (by decide) rfl) rfl ?_
      obtain ⟨g31, h⟩ := zgd h
      refine em_iald dX12_next_249 hS (by decide) (by decide) (N := 160) rfl g31 rfl ?_
      refine ev_bipush dX12_next_250 (v := (48 : Int32)) zcb_48 ?_
      refine ev_bipush dX12_next_252 (v := (57 : Int32)) zcb_57 ?_
      obtain ⟨p32, e33, h⟩ := zbd h
      refine ev_callS0 dX12_next_254 zm12_in zl_NineHeapsModel_120 zs12_in (As := [.int (I 87 (I 81 22).toNatClampNeg), .int (48 : Int32), .int (57 : Int32)]) (rest := []) rfl rfl (Nat.le_of_ble_eq_true rfl) rfl (Nat.le_of_ble_eq_true rfl) (d' := 1) (by omega) (e12_in hw hS (Nat.le_refl _) e33) (fun v μ1 q => ?_)
      obtain ⟨rfl, rfl⟩ := q
      refine ev_if_eq dX12_next_257 (tgt := 309) (by decide) (fun c34 => ?_) (fun c34 => ?_)
      · replace h := zit c34 h
        exact EV.mask [true, false, true] rfl (hk309 l2 I h)
      · replace h := zif c34 h
        refine ev_aload_n dX12_next_260 rfl rfl ?_
        refine ev_iload_n dX12_next_261 rfl rfl ?_
        refine ev_iconst dX12_next_262 (v := (4 : Int32)) zci_4 ?_
        obtain ⟨x36, e37, h⟩ := zld h
        have k42 : EV w d 0 0 Y12_next 290 [some (.ref 81), none, some (.int l2)] [.int x36, .ref 81] (n, kd, I, R) (q12_next n kd R r) := by
          obtain ⟨J38, e39, h⟩ := zld h
          refine em_putI dX12_next_290 zf_NineHeapsModel_146 (Or.inl rfl) rfl rfl rfl (hS.has 81 (by decide) (by decide) rfl) e39 ?_
          refine ev_iinc dX12_next_293 (v := l2 + (1 : Int32)) rfl rfl (by decide) rfl ?_
          refine ev_aload_n dX12_next_296 rfl rfl ?_
          refine ev_dup dX12_next_297 rfl ?_
          refine em_getI dX12_next_298 zf_NineHeapsModel_137 rfl (hS.has 81 (by decide) (by decide) rfl) rfl ?_
          refine ev_iconst dX12_next_301 (v := (1 : Int32)) zci_1 ?_
          refine ev_iadd dX12_next_302 rfl ?_
          obtain ⟨J40, e41, h⟩ := zld h
          refine em_putI dX12_next_303 zf_NineHeapsModel_137 (Or.inl rfl) rfl rfl rfl (hS.has 81 (by decide) (by decide) rfl) e41 ?_
          refine ev_goto dX12_next_306 (tgt := 230) (by decide) ?_
          exact EV.mask [true, false, true] rfl (ih (l2 + (1 : Int32)) J40 h)
        clear h
        have h := e37
        clear e37
        refine ev_icmp_ge dX12_next_263 (tgt := 289) (by decide) (fun c35 => ?_) (fun c35 => ?_)
        · replace h := zit c35 h
          refine ev_iconst dX12_next_289 (v := (0 : Int32)) zci_0 ?_
          obtain rfl := h
          exact k42
        · replace h := zif c35 h
          refine ev_bipush dX12_next_266 (v := (10 : Int32)) zcb_10 ?_
          refine ev_aload_n dX12_next_268 rfl rfl ?_
          refine em_getI dX12_next_269 zf_NineHeapsModel_146 rfl (hS.has 81 (by decide) (by decide) rfl) rfl ?_
          refine ev_imul dX12_next_272 rfl ?_
          refine ev_aload_n dX12_next_273 rfl rfl ?_
          refine em_getA dX12_next_274 zf_NineHeapsModel_29 rfl (hS.has 81 (by decide) (by decide) rfl) hw rfl ?_
          refine ev_aload_n dX12_next_277 rfl rfl ?_
          refine em_getI dX12_next_278 zf_NineHeapsModel_137 rfl (hS.has 81 (by decide) (by decide) rfl) rfl ?_
          refine em_iald dX12_next_281 hS (by decide) (by decide) (N := 160) rfl g31 rfl ?_
          refine ev_iadd dX12_next_282 rfl ?_
          refine ev_bipush dX12_next_283 (v := (48 : Int32)) zcb_48 ?_
          refine ev_isub dX12_next_285 rfl ?_
          refine ev_goto dX12_next_286 (tgt := 290) (by decide) ?_
          obtain rfl := h
          exact k42
set_option maxHeartbeats 4000000 in
set_option maxRecDepth 100000 in
theorem e12_next_B309 {w : zW} {d : Nat} {n : Nat} {kd : zMK} {R : zMR} {r : zMI}  (hw : zst w = zSt0) (hS : zSh n kd) (hd : 2 ≤ d)   : ∀ (l2 : Int32) (I : zMI), f12_next_B309 l2 I = some r → EV w d 0 0 Y12_next 309 [some (.ref 81), none, some (.int l2)] [] (n, kd, I, R) (q12_next n kd R r) := by
  intro l2 I h
  unfold f12_next_B309 at h
  refine ev_aload_n dX12_next_309 rfl rfl ?_
  refine ev_iload_n dX12_next_310 rfl rfl ?_
  refine ev_iconst dX12_next_311 (v := (4 : Int32)) zci_4 ?_
  obtain ⟨x44, e45, h⟩ := zld h
  have k48 : EV w d 0 0 Y12_next 320 [some (.ref 81), none, some (.int l2)] [.int x44, .ref 81] (n, kd, I, R) (q12_next n kd R r) := by
    obtain ⟨J46, e47, h⟩ := zld h
    refine em_putI dX12_next_320 zf_NineHeapsModel_143 (Or.inl rfl) rfl rfl rfl (hS.has 81 (by decide) (by decide) rfl) e47 ?_
    refine ev_goto dX12_next_323 (tgt := 403) (by decide) ?_
    obtain rfl := Option.some.inj h
    exact ev_end_v dX12_next_403 rfl ⟨rfl, rfl⟩
  clear h
  have h := e45
  clear e45
  refine ev_icmp_le dX12_next_312 (tgt := 319) (by decide) (fun c43 => ?_) (fun c43 => ?_)
  · replace h := zit c43 h
    refine ev_iconst dX12_next_319 (v := (1 : Int32)) zci_1 ?_
    obtain rfl := h
    exact k48
  · replace h := zif c43 h
    refine ev_iconst dX12_next_315 (v := (-1 : Int32)) zci_m1 ?_
    refine ev_goto dX12_next_316 (tgt := 320) (by decide) ?_
    obtain rfl := h
    exact k48
set_option maxHeartbeats 4000000 in
set_option maxRecDepth 100000 in
theorem e12_next_B52 {w : zW} {d : Nat} {n : Nat} {kd : zMK} {R : zMR} {r : zMI}  (hw : zst w = zSt0) (hS : zSh n kd) (hd : 2 ≤ d)   : ∀  (I : zMI), f12_next_B52 I = some r → EV w d 0 0 Y12_next 52 [some (.ref 81), none, none] [] (n, kd, I, R) (q12_next n kd R r) := by
  intro I h
  unfold f12_next_B52 at h
  refine ev_aload_n dX12_next_52 rfl rfl ?_
  refine ev_aload_n dX12_next_53 rfl rfl ?_
  refine em_getI dX12_next_54 zf_NineHeapsModel_137 rfl (hS.has 81 (by decide) (by decide) rfl) rfl ?_
  obtain ⟨J49, e50, h⟩ := zld h
  refine em_putI dX12_next_57 zf_NineHeapsModel_140 (Or.inl rfl) rfl rfl rfl (hS.has 81 (by decide) (by decide) rfl) e50 ?_
  refine ev_aload_n dX12_next_60 rfl rfl ?_
  refine ev_iconst dX12_next_61 (v := (0 : Int32)) zci_0 ?_
  obtain ⟨J51, e52, h⟩ := zld h
  refine em_putI dX12_next_62 zf_NineHeapsModel_143 (Or.inl rfl) rfl rfl rfl (hS.has 81 (by decide) (by decide) rfl) e52 ?_
  refine ev_aload_n dX12_next_65 rfl rfl ?_
  refine ev_iconst dX12_next_66 (v := (0 : Int32)) zci_0 ?_
  obtain ⟨J53, e54, h⟩ := zld h
  refine em_putI dX12_next_67 zf_NineHeapsModel_146 (Or.inl rfl) rfl rfl rfl (hS.has 81 (by decide) (by decide) rfl) e54 ?_
  refine ev_aload_n dX12_next_70 rfl rfl ?_
  refine em_getI dX12_next_71 zf_NineHeapsModel_137 rfl (hS.has 81 (by decide) (by decide) rfl) rfl ?_
  refine ev_aload_n dX12_next_74 rfl rfl ?_
  refine em_getI dX12_next_75 zf_NineHeapsModel_110 rfl (hS.has 81 (by decide) (by decide) rfl) rfl ?_
  refine ev_icmp_ne dX12_next_78 (tgt := 82) (by decide) (fun c55 => ?_) (fun c55 => ?_)
  · replace h := zif c55 h
    refine ev_aload_n dX12_next_82 rfl rfl ?_
    refine em_getA dX12_next_83 zf_NineHeapsModel_29 rfl (hS.has 81 (by decide) (by decide) rfl) hw rfl ?_
    refine ev_aload_n dX12_next_86 rfl rfl ?_
    refine em_getI dX12_next_87 zf_NineHeapsModel_137 rfl (hS.has 81 (by decide) (by decide) rfl) rfl ?_
    obtain ⟨g56, h⟩ := zgd h
    refine em_iald dX12_next_90 hS (by decide) (by decide) (N := 160) rfl g56 rfl ?_
    obtain ⟨x57, e58, h⟩ := zld h
    refine ev_nm e58 ?_
    refine ev_istore_n dX12_next_91 rfl (by decide) rfl ?_
    refine ev_iload_n dX12_next_92 rfl rfl ?_
    refine ev_bipush dX12_next_93 (v := (97 : Int32)) zcb_97 ?_
    refine ev_bipush dX12_next_95 (v := (122 : Int32)) zcb_122 ?_
    obtain ⟨p59, e60, h⟩ := zbd h
    refine ev_callS0 dX12_next_97 zm12_in zl_NineHeapsModel_120 zs12_in (As := [.int x57, .int (97 : Int32), .int (122 : Int32)]) (rest := []) rfl rfl (Nat.le_of_ble_eq_true rfl) rfl (Nat.le_of_ble_eq_true rfl) (d' := 1) (by omega) (e12_in hw hS (Nat.le_refl _) e60) (fun v μ1 q => ?_)
    obtain ⟨rfl, rfl⟩ := q
    refine ev_if_eq dX12_next_100 (tgt := 217) (by decide) (fun c61 => ?_) (fun c61 => ?_)
    · replace h := zit c61 h
      refine ev_iload_n dX12_next_217 rfl rfl ?_
      refine ev_bipush dX12_next_218 (v := (48 : Int32)) zcb_48 ?_
      refine ev_bipush dX12_next_220 (v := (57 : Int32)) zcb_57 ?_
      obtain ⟨p62, e63, h⟩ := zbd h
      refine ev_callS0 dX12_next_222 zm12_in zl_NineHeapsModel_120 zs12_in (As := [.int x57, .int (48 : Int32), .int (57 : Int32)]) (rest := []) rfl rfl (Nat.le_of_ble_eq_true rfl) rfl (Nat.le_of_ble_eq_true rfl) (d' := 1) (by omega) (e12_in hw hS (Nat.le_refl _) e63) (fun v μ1 q => ?_)
      obtain ⟨rfl, rfl⟩ := q
      refine ev_if_eq dX12_next_225 (tgt := 326) (by decide) (fun c64 => ?_) (fun c64 => ?_)
      · replace h := zit c64 h
        refine ev_iload_n dX12_next_326 rfl rfl ?_
        refine ev_bipush dX12_next_327 (v := (40 : Int32)) zcb_40 ?_
        obtain ⟨x73, e74, h⟩ := zld h
        have k83 : EV w d 0 0 Y12_next 379 [some (.ref 81), some (.int x57), none] [.int x73] (n, kd, J53, R) (q12_next n kd R r) := by
          refine ev_istore_n dX12_next_379 rfl (by decide) rfl ?_
          refine ev_aload_n dX12_next_380 rfl rfl ?_
          refine ev_iload_n dX12_next_381 rfl rfl ?_
          obtain ⟨x76, e77, h⟩ := zld h
          have k82 : EV w d 0 0 Y12_next 390 [some (.ref 81), some (.int x57), some (.int x73)] [.int x76, .ref 81] (n, kd, J53, R) (q12_next n kd R r) := by
            obtain ⟨J78, e79, h⟩ := zld h
            refine em_putI dX12_next_390 zf_NineHeapsModel_143 (Or.inl rfl) rfl rfl rfl (hS.has 81 (by decide) (by decide) rfl) e79 ?_
            refine ev_aload_n dX12_next_393 rfl rfl ?_
            refine ev_dup dX12_next_394 rfl ?_
            refine em_getI dX12_next_395 zf_NineHeapsModel_137 rfl (hS.has 81 (by decide) (by decide) rfl) rfl ?_
            refine ev_iconst dX12_next_398 (v := (1 : Int32)) zci_1 ?_
            refine ev_iadd dX12_next_399 rfl ?_
            obtain ⟨J80, e81, h⟩ := zld h
            refine em_putI dX12_next_400 zf_NineHeapsModel_137 (Or.inl rfl) rfl rfl rfl (hS.has 81 (by decide) (by decide) rfl) e81 ?_
            obtain rfl := Option.some.inj h
            exact ev_end_v dX12_next_403 rfl ⟨rfl, rfl⟩
          clear h
          have h := e77
          clear e77
          refine ev_if_eq dX12_next_382 (tgt := 389) (by decide) (fun c75 => ?_) (fun c75 => ?_)
          · replace h := zit c75 h
            refine ev_iconst dX12_next_389 (v := (-1 : Int32)) zci_m1 ?_
            obtain rfl := h
            exact k82
          · replace h := zif c75 h
            refine ev_iload_n dX12_next_385 rfl rfl ?_
            refine ev_goto dX12_next_386 (tgt := 390) (by decide) ?_
            obtain rfl := h
            exact k82
        clear h
        have h := e74
        clear e74
        refine ev_icmp_eq dX12_next_329 (tgt := 374) (by decide) (fun c65 => ?_) (fun c65 => ?_)
        · replace h := zit c65 h
          refine ev_iconst dX12_next_374 (v := (1 : Int32)) zci_1 ?_
          refine ev_goto dX12_next_375 (tgt := 379) (by decide) ?_
          obtain rfl := h
          exact k83
        · replace h := zif c65 h
          refine ev_iload_n dX12_next_332 rfl rfl ?_
          refine ev_bipush dX12_next_333 (v := (41 : Int32)) zcb_41 ?_
          refine ev_icmp_eq dX12_next_335 (tgt := 374) (by decide) (fun c66 => ?_) (fun c66 => ?_)
          · replace h := zit c66 h
            refine ev_iconst dX12_next_374 (v := (1 : Int32)) zci_1 ?_
            refine ev_goto dX12_next_375 (tgt := 379) (by decide) ?_
            obtain rfl := h
            exact k83
          · replace h := zif c66 h
            refine ev_iload_n dX12_next_338 rfl rfl ?_
            refine ev_bipush dX12_next_339 (v := (59 : Int32)) zcb_59 ?_
            refine ev_icmp_eq dX12_next_341 (tgt := 374) (by decide) (fun c67 => ?_) (fun c67 => ?_)
            · replace h := zit c67 h
              refine ev_iconst dX12_next_374 (v := (1 : Int32)) zci_1 ?_
              refine ev_goto dX12_next_375 (tgt := 379) (by decide) ?_
              obtain rfl := h
              exact k83
            · replace h := zif c67 h
              refine ev_iload_n dX12_next_344 rfl rfl ?_
              refine ev_bipush dX12_next_345 (v := (43 : Int32)) zcb_43 ?_
              refine ev_icmp_eq dX12_next_347 (tgt := 374) (by decide) (fun c68 => ?_) (fun c68 => ?_)
              · replace h := zit c68 h
                refine ev_iconst dX12_next_374 (v := (1 : Int32)) zci_1 ?_
                refine ev_goto dX12_next_375 (tgt := 379) (by decide) ?_
                obtain rfl := h
                exact k83
              · replace h := zif c68 h
                refine ev_iload_n dX12_next_350 rfl rfl ?_
                refine ev_bipush dX12_next_351 (v := (45 : Int32)) zcb_45 ?_
                refine ev_icmp_eq dX12_next_353 (tgt := 374) (by decide) (fun c69 => ?_) (fun c69 => ?_)
                · replace h := zit c69 h
                  refine ev_iconst dX12_next_374 (v := (1 : Int32)) zci_1 ?_
                  refine ev_goto dX12_next_375 (tgt := 379) (by decide) ?_
                  obtain rfl := h
                  exact k83
                · replace h := zif c69 h
                  refine ev_iload_n dX12_next_356 rfl rfl ?_
                  refine ev_bipush dX12_next_357 (v := (42 : Int32)) zcb_42 ?_
                  refine ev_icmp_eq dX12_next_359 (tgt := 374) (by decide) (fun c70 => ?_) (fun c70 => ?_)
                  · replace h := zit c70 h
                    refine ev_iconst dX12_next_374 (v := (1 : Int32)) zci_1 ?_
                    refine ev_goto dX12_next_375 (tgt := 379) (by decide) ?_
                    obtain rfl := h
                    exact k83
                  · replace h := zif c70 h
                    refine ev_iload_n dX12_next_362 rfl rfl ?_
                    refine ev_bipush dX12_next_363 (v := (60 : Int32)) zcb_60 ?_
                    refine ev_icmp_eq dX12_next_365 (tgt := 374) (by decide) (fun c71 => ?_) (fun c71 => ?_)
                    · replace h := zit c71 h
                      refine ev_iconst dX12_next_374 (v := (1 : Int32)) zci_1 ?_
                      refine ev_goto dX12_next_375 (tgt := 379) (by decide) ?_
                      obtain rfl := h
                      exact k83
                    · replace h := zif c71 h
                      refine ev_iload_n dX12_next_368 rfl rfl ?_
                      refine ev_bipush dX12_next_369 (v := (61 : Int32)) zcb_61 ?_
                      refine ev_icmp_ne dX12_next_371 (tgt := 378) (by decide) (fun c72 => ?_) (fun c72 => ?_)
                      · replace h := zif c72 h
                        refine ev_iconst dX12_next_378 (v := (0 : Int32)) zci_0 ?_
                        obtain rfl := h
                        exact k83
                      · replace h := zit c72 h
                        refine ev_iconst dX12_next_374 (v := (1 : Int32)) zci_1 ?_
                        refine ev_goto dX12_next_375 (tgt := 379) (by decide) ?_
                        obtain rfl := h
                        exact k83
      · replace h := zif c64 h
        refine ev_iconst dX12_next_228 (v := (0 : Int32)) zci_0 ?_
        refine ev_istore_n dX12_next_229 rfl (by decide) rfl ?_
        exact EV.mask [true, false, true] rfl (e12_next_L230 hw hS hd (fun l2' I' h' => e12_next_B309 hw hS hd l2' I' h') zF (0 : Int32) J53 h)
    · replace h := zif c61 h
      exact EV.mask [true, false, false] rfl (e12_next_L103 hw hS hd (fun I' h' => e12_next_B146 hw hS hd I' h') zF J53 h)
  · replace h := zit c55 h
    obtain rfl := Option.some.inj h
    exact ev_end_v dX12_next_81 rfl ⟨rfl, rfl⟩
set_option maxHeartbeats 4000000 in
set_option maxRecDepth 100000 in
theorem e12_next {w : zW} {d : Nat} {n : Nat} {kd : zMK} {I : zMI} {R : zMR} {r : zMI}  (hw : zst w = zSt0) (hS : zSh n kd) (hd : 2 ≤ d)  (h : f12_next I = some r) : EV w d 0 0 Y12_next 0 [some (.ref 81), none, none] [] (n, kd, I, R) (q12_next n kd R r) := by
  unfold f12_next at h
  exact EV.mask [true, false, false] rfl (e12_next_L0 hw hS hd (fun I' h' => e12_next_B52 hw hS hd I' h') zF I h)
abbrev q12_rank (n : Nat) (kd : zMK) (I : zMI) (R : zMR) (r : Int32) : Option Value → zM → Prop := fun v μ1 => v = some (.int r) ∧ μ1 = (n, kd, I, R)
set_option maxHeartbeats 4000000 in
set_option maxRecDepth 100000 in
theorem e12_rank {w : zW} {d : Nat} {n : Nat} {kd : zMK} {I : zMI} {R : zMR} {r : Int32} {l0 : Int32} (hw : zst w = zSt0) (hS : zSh n kd) (hd : 1 ≤ d)  (h : f12_rank l0 = some r) : EV w d 0 0 Y12_rank 0 [some (.int l0)] [] (n, kd, I, R) (q12_rank n kd I R r) := by
  unfold f12_rank at h
  refine ev_iload_n dX12_rank_0 rfl rfl ?_
  obtain ⟨x8, e9, h⟩ := zld h
  have k10 : EV w d 0 0 Y12_rank 71 [some (.int l0)] [.int x8] (n, kd, I, R) (q12_rank n kd I R r) := by
    obtain rfl := Option.some.inj h
    exact ev_end_i dX12_rank_71 rfl rfl ⟨rfl, rfl⟩
  clear h
  have h := e9
  clear e9
  refine ev_if_ne dX12_rank_1 (tgt := 8) (by decide) (fun c1 => ?_) (fun c1 => ?_)
  · replace h := zif c1 h
    refine ev_iload_n dX12_rank_8 rfl rfl ?_
    refine ev_bipush dX12_rank_9 (v := (11 : Int32)) zcb_11 ?_
    refine ev_icmp_ne dX12_rank_11 (tgt := 18) (by decide) (fun c2 => ?_) (fun c2 => ?_)
    · replace h := zif c2 h
      refine ev_iload_n dX12_rank_18 rfl rfl ?_
      refine ev_bipush dX12_rank_19 (v := (12 : Int32)) zcb_12 ?_
      refine ev_icmp_ne dX12_rank_21 (tgt := 28) (by decide) (fun c3 => ?_) (fun c3 => ?_)
      · replace h := zif c3 h
        refine ev_iload_n dX12_rank_28 rfl rfl ?_
        refine ev_bipush dX12_rank_29 (v := (13 : Int32)) zcb_13 ?_
        refine ev_icmp_ne dX12_rank_31 (tgt := 38) (by decide) (fun c4 => ?_) (fun c4 => ?_)
        · replace h := zif c4 h
          refine ev_iload_n dX12_rank_38 rfl rfl ?_
          refine ev_bipush dX12_rank_39 (v := (15 : Int32)) zcb_15 ?_
          refine ev_icmp_gt dX12_rank_41 (tgt := 48) (by decide) (fun c5 => ?_) (fun c5 => ?_)
          · replace h := zit c5 h
            refine ev_iload_n dX12_rank_48 rfl rfl ?_
            refine ev_bipush dX12_rank_49 (v := (17 : Int32)) zcb_17 ?_
            refine ev_icmp_gt dX12_rank_51 (tgt := 58) (by decide) (fun c6 => ?_) (fun c6 => ?_)
            · replace h := zit c6 h
              refine ev_iload_n dX12_rank_58 rfl rfl ?_
              refine ev_bipush dX12_rank_59 (v := (18 : Int32)) zcb_18 ?_
              refine ev_icmp_ne dX12_rank_61 (tgt := 69) (by decide) (fun c7 => ?_) (fun c7 => ?_)
              · replace h := zif c7 h
                refine ev_bipush dX12_rank_69 (v := (7 : Int32)) zcb_7 ?_
                obtain rfl := h
                exact k10
              · replace h := zit c7 h
                refine ev_bipush dX12_rank_64 (v := (6 : Int32)) zcb_6 ?_
                refine ev_goto dX12_rank_66 (tgt := 71) (by decide) ?_
                obtain rfl := h
                exact k10
            · replace h := zif c6 h
              refine ev_iconst dX12_rank_54 (v := (5 : Int32)) zci_5 ?_
              refine ev_goto dX12_rank_55 (tgt := 71) (by decide) ?_
              obtain rfl := h
              exact k10
          · replace h := zif c5 h
            refine ev_iconst dX12_rank_44 (v := (4 : Int32)) zci_4 ?_
            refine ev_goto dX12_rank_45 (tgt := 71) (by decide) ?_
            obtain rfl := h
            exact k10
        · replace h := zit c4 h
          refine ev_iconst dX12_rank_34 (v := (3 : Int32)) zci_3 ?_
          refine ev_goto dX12_rank_35 (tgt := 71) (by decide) ?_
          obtain rfl := h
          exact k10
      · replace h := zit c3 h
        refine ev_iconst dX12_rank_24 (v := (2 : Int32)) zci_2 ?_
        refine ev_goto dX12_rank_25 (tgt := 71) (by decide) ?_
        obtain rfl := h
        exact k10
    · replace h := zit c2 h
      refine ev_iconst dX12_rank_14 (v := (1 : Int32)) zci_1 ?_
      refine ev_goto dX12_rank_15 (tgt := 71) (by decide) ?_
      obtain rfl := h
      exact k10
  · replace h := zit c1 h
    refine ev_iconst dX12_rank_4 (v := (0 : Int32)) zci_0 ?_
    refine ev_goto dX12_rank_5 (tgt := 71) (by decide) ?_
    obtain rfl := h
    exact k10
abbrev q12_puts (n : Nat) (kd : zMK) (R : zMR) (r : zMI) : Option Value → zM → Prop := fun v μ1 => v = none ∧ μ1 = (n, kd, r, R)
set_option maxHeartbeats 4000000 in
set_option maxRecDepth 100000 in
theorem e12_puts {w : zW} {d : Nat} {n : Nat} {kd : zMK} {I : zMI} {R : zMR} {r : zMI} {l1 : Int32} (hw : zst w = zSt0) (hS : zSh n kd) (hd : 1 ≤ d)  (h : f12_puts l1 I = some r) : EV w d 0 0 Y12_puts 0 [some (.ref 81), some (.int l1)] [] (n, kd, I, R) (q12_puts n kd R r) := by
  unfold f12_puts at h
  refine ev_aload_n dX12_puts_0 rfl rfl ?_
  refine em_getA dX12_puts_1 zf_NineHeapsModel_32 rfl (hS.has 81 (by decide) (by decide) rfl) hw rfl ?_
  refine ev_sipush dX12_puts_4 (v := (200 : Int32)) zcs_200 ?_
  refine ev_aload_n dX12_puts_7 rfl rfl ?_
  refine em_getI dX12_puts_8 zf_NineHeapsModel_124 rfl (hS.has 81 (by decide) (by decide) rfl) rfl ?_
  refine ev_imul dX12_puts_11 rfl ?_
  refine ev_aload_n dX12_puts_12 rfl rfl ?_
  refine em_getI dX12_puts_13 zf_NineHeapsModel_153 rfl (hS.has 81 (by decide) (by decide) rfl) rfl ?_
  refine ev_iadd dX12_puts_16 rfl ?_
  refine ev_iload_n dX12_puts_17 rfl rfl ?_
  obtain ⟨g1, h⟩ := zgd h
  obtain ⟨J2, e3, h⟩ := zld h
  refine em_iast dX12_puts_18 hS (by decide) (by decide) (N := 1200) rfl g1 e3 ?_
  refine ev_aload_n dX12_puts_19 rfl rfl ?_
  refine ev_dup dX12_puts_20 rfl ?_
  refine em_getI dX12_puts_21 zf_NineHeapsModel_153 rfl (hS.has 81 (by decide) (by decide) rfl) rfl ?_
  refine ev_iconst dX12_puts_24 (v := (1 : Int32)) zci_1 ?_
  refine ev_iadd dX12_puts_25 rfl ?_
  obtain ⟨J4, e5, h⟩ := zld h
  refine em_putI dX12_puts_26 zf_NineHeapsModel_153 (Or.inl rfl) rfl rfl rfl (hS.has 81 (by decide) (by decide) rfl) e5 ?_
  obtain rfl := Option.some.inj h
  exact ev_end_v dX12_puts_29 rfl ⟨rfl, rfl⟩
abbrev q12_unwinds (n : Nat) (kd : zMK) (R : zMR) (r : zMI) : Option Value → zM → Prop := fun v μ1 => v = none ∧ μ1 = (n, kd, r, R)
set_option maxHeartbeats 4000000 in
set_option maxRecDepth 100000 in
theorem e12_unwinds_L0 {w : zW} {d : Nat} {n : Nat} {kd : zMK} {R : zMR} {r : zMI}  (hw : zst w = zSt0) (hS : zSh n kd) (hd : 2 ≤ d)   : ∀ (q : Nat) (l1 : Int32) (I : zMI), f12_unwinds_L0  q l1 I = some r → EV w d 0 0 Y12_unwinds 0 [some (.ref 81), some (.int l1), none] [] (n, kd, I, R) (q12_unwinds n kd R r) := by
  intro q
  induction q with
  | zero =>
    intro l1 I h
    cases h
  | succ q ih =>
    intro l1 I h
    unfold f12_unwinds_L0 at h
    refine ev_aload_n dX12_unwinds_0 rfl rfl ?_
    refine em_getI dX12_unwinds_1 zf_NineHeapsModel_156 rfl (hS.has 81 (by decide) (by decide) rfl) rfl ?_
    refine ev_if_le dX12_unwinds_4 (tgt := 79) (by decide) (fun c1 => ?_) (fun c1 => ?_)
    · replace h := zit c1 h
      obtain rfl := Option.some.inj h
      exact ev_end_v dX12_unwinds_79 rfl ⟨rfl, rfl⟩
    · replace h := zif c1 h
      refine ev_aload_n dX12_unwinds_7 rfl rfl ?_
      refine em_getA dX12_unwinds_8 zf_NineHeapsModel_56 rfl (hS.has 81 (by decide) (by decide) rfl) hw rfl ?_
      refine ev_aload_n dX12_unwinds_11 rfl rfl ?_
      refine em_getI dX12_unwinds_12 zf_NineHeapsModel_156 rfl (hS.has 81 (by decide) (by decide) rfl) rfl ?_
      refine ev_iconst dX12_unwinds_15 (v := (1 : Int32)) zci_1 ?_
      refine ev_isub dX12_unwinds_16 rfl ?_
      obtain ⟨g2, h⟩ := zgd h
      refine em_iald dX12_unwinds_17 hS (by decide) (by decide) (N := 200) rfl g2 rfl ?_
      obtain ⟨p3, e4, h⟩ := zbd h
      refine ev_callS0 dX12_unwinds_18 zm12_rank zl_NineHeapsModel_159 zs12_rank (As := [.int (I 96 ((I 81 28) - (1 : Int32)).toNatClampNeg)]) (rest := []) rfl rfl (Nat.le_of_ble_eq_true rfl) rfl (Nat.le_of_ble_eq_true rfl) (d' := 1) (by omega) (e12_rank hw hS (Nat.le_refl _) e4) (fun v μ1 q => ?_)
      obtain ⟨rfl, rfl⟩ := q
      refine ev_iload_n dX12_unwinds_21 rfl rfl ?_
      refine ev_icmp_lt dX12_unwinds_22 (tgt := 79) (by decide) (fun c5 => ?_) (fun c5 => ?_)
      · replace h := zit c5 h
        obtain rfl := Option.some.inj h
        exact ev_end_v dX12_unwinds_79 rfl ⟨rfl, rfl⟩
      · replace h := zif c5 h
        refine ev_aload_n dX12_unwinds_25 rfl rfl ?_
        refine ev_dup dX12_unwinds_26 rfl ?_
        refine em_getI dX12_unwinds_27 zf_NineHeapsModel_156 rfl (hS.has 81 (by decide) (by decide) rfl) rfl ?_
        refine ev_iconst dX12_unwinds_30 (v := (1 : Int32)) zci_1 ?_
        refine ev_isub dX12_unwinds_31 rfl ?_
        obtain ⟨J6, e7, h⟩ := zld h
        refine em_putI dX12_unwinds_32 zf_NineHeapsModel_156 (Or.inl rfl) rfl rfl rfl (hS.has 81 (by decide) (by decide) rfl) e7 ?_
        refine ev_aload_n dX12_unwinds_35 rfl rfl ?_
        refine em_getA dX12_unwinds_36 zf_NineHeapsModel_56 rfl (hS.has 81 (by decide) (by decide) rfl) hw rfl ?_
        refine ev_aload_n dX12_unwinds_39 rfl rfl ?_
        refine em_getI dX12_unwinds_40 zf_NineHeapsModel_156 rfl (hS.has 81 (by decide) (by decide) rfl) rfl ?_
        obtain ⟨g8, h⟩ := zgd h
        refine em_iald dX12_unwinds_43 hS (by decide) (by decide) (N := 200) rfl g8 rfl ?_
        obtain ⟨x9, e10, h⟩ := zld h
        refine ev_nm e10 ?_
        refine ev_istore_n dX12_unwinds_44 rfl (by decide) rfl ?_
        refine ev_aload_n dX12_unwinds_45 rfl rfl ?_
        refine ev_dup dX12_unwinds_46 rfl ?_
        refine em_getI dX12_unwinds_47 zf_NineHeapsModel_163 rfl (hS.has 81 (by decide) (by decide) rfl) rfl ?_
        refine ev_iload_n dX12_unwinds_50 rfl rfl ?_
        refine ev_bipush dX12_unwinds_51 (v := (13 : Int32)) zcb_13 ?_
        obtain ⟨x13, e14, h⟩ := zld h
        have k19 : EV w d 0 0 Y12_unwinds 67 [some (.ref 81), some (.int l1), some (.int x9)] [.int x13, .int (J6 81 29), .ref 81] (n, kd, J6, R) (q12_unwinds n kd R r) := by
          refine ev_isub dX12_unwinds_67 rfl ?_
          obtain ⟨J15, e16, h⟩ := zld h
          refine em_putI dX12_unwinds_68 zf_NineHeapsModel_163 (Or.inl rfl) rfl rfl rfl (hS.has 81 (by decide) (by decide) rfl) e16 ?_
          refine ev_aload_n dX12_unwinds_71 rfl rfl ?_
          refine ev_iload_n dX12_unwinds_72 rfl rfl ?_
          obtain ⟨p17, e18, h⟩ := zbd h
          refine ev_callV0 dX12_unwinds_73 zm12_puts zl_NineHeapsModel_166 zi12_puts zv12_puts (zrcM hS) (As := [.int x9]) (rest := []) rfl rfl (Nat.le_of_ble_eq_true rfl) rfl (Nat.le_of_ble_eq_true rfl) (d' := 1) (by omega) (e12_puts hw hS (Nat.le_refl _) e18) (fun v μ1 q => ?_)
          obtain ⟨rfl, rfl⟩ := q
          refine ev_goto dX12_unwinds_76 (tgt := 0) (by decide) ?_
          exact EV.mask [true, true, false] rfl (ih l1 p17 h)
        clear h
        have h := e14
        clear e14
        refine ev_icmp_eq dX12_unwinds_53 (tgt := 62) (by decide) (fun c11 => ?_) (fun c11 => ?_)
        · replace h := zit c11 h
          refine ev_iconst dX12_unwinds_62 (v := (1 : Int32)) zci_1 ?_
          refine ev_goto dX12_unwinds_63 (tgt := 67) (by decide) ?_
          obtain rfl := h
          exact k19
        · replace h := zif c11 h
          refine ev_iload_n dX12_unwinds_56 rfl rfl ?_
          refine ev_bipush dX12_unwinds_57 (v := (19 : Int32)) zcb_19 ?_
          refine ev_icmp_ne dX12_unwinds_59 (tgt := 66) (by decide) (fun c12 => ?_) (fun c12 => ?_)
          · replace h := zif c12 h
            refine ev_iconst dX12_unwinds_66 (v := (0 : Int32)) zci_0 ?_
            obtain rfl := h
            exact k19
          · replace h := zit c12 h
            refine ev_iconst dX12_unwinds_62 (v := (1 : Int32)) zci_1 ?_
            refine ev_goto dX12_unwinds_63 (tgt := 67) (by decide) ?_
            obtain rfl := h
            exact k19
set_option maxHeartbeats 4000000 in
set_option maxRecDepth 100000 in
theorem e12_unwinds {w : zW} {d : Nat} {n : Nat} {kd : zMK} {I : zMI} {R : zMR} {r : zMI} {l1 : Int32} (hw : zst w = zSt0) (hS : zSh n kd) (hd : 2 ≤ d)  (h : f12_unwinds l1 I = some r) : EV w d 0 0 Y12_unwinds 0 [some (.ref 81), some (.int l1), none] [] (n, kd, I, R) (q12_unwinds n kd R r) := by
  unfold f12_unwinds at h
  exact EV.mask [true, true, false] rfl (e12_unwinds_L0 hw hS hd zF l1 I h)
abbrev q12_holds (n : Nat) (kd : zMK) (R : zMR) (r : zMI) : Option Value → zM → Prop := fun v μ1 => v = none ∧ μ1 = (n, kd, r, R)
set_option maxHeartbeats 4000000 in
set_option maxRecDepth 100000 in
theorem e12_holds {w : zW} {d : Nat} {n : Nat} {kd : zMK} {I : zMI} {R : zMR} {r : zMI} {l1 : Int32} (hw : zst w = zSt0) (hS : zSh n kd) (hd : 1 ≤ d)  (h : f12_holds l1 I = some r) : EV w d 0 0 Y12_holds 0 [some (.ref 81), some (.int l1)] [] (n, kd, I, R) (q12_holds n kd R r) := by
  unfold f12_holds at h
  refine ev_aload_n dX12_holds_0 rfl rfl ?_
  refine em_getA dX12_holds_1 zf_NineHeapsModel_56 rfl (hS.has 81 (by decide) (by decide) rfl) hw rfl ?_
  refine ev_aload_n dX12_holds_4 rfl rfl ?_
  refine em_getI dX12_holds_5 zf_NineHeapsModel_156 rfl (hS.has 81 (by decide) (by decide) rfl) rfl ?_
  refine ev_iload_n dX12_holds_8 rfl rfl ?_
  obtain ⟨g1, h⟩ := zgd h
  obtain ⟨J2, e3, h⟩ := zld h
  refine em_iast dX12_holds_9 hS (by decide) (by decide) (N := 200) rfl g1 e3 ?_
  refine ev_aload_n dX12_holds_10 rfl rfl ?_
  refine ev_dup dX12_holds_11 rfl ?_
  refine em_getI dX12_holds_12 zf_NineHeapsModel_156 rfl (hS.has 81 (by decide) (by decide) rfl) rfl ?_
  refine ev_iconst dX12_holds_15 (v := (1 : Int32)) zci_1 ?_
  refine ev_iadd dX12_holds_16 rfl ?_
  obtain ⟨J4, e5, h⟩ := zld h
  refine em_putI dX12_holds_17 zf_NineHeapsModel_156 (Or.inl rfl) rfl rfl rfl (hS.has 81 (by decide) (by decide) rfl) e5 ?_
  obtain rfl := Option.some.inj h
  exact ev_end_v dX12_holds_20 rfl ⟨rfl, rfl⟩
abbrev q12_opensOne (n : Nat) (kd : zMK) (R : zMR) (r : Int32 × zMI) : Option Value → zM → Prop := fun v μ1 => v = some (.int r.1) ∧ μ1 = (n, kd, r.2, R)
set_option maxHeartbeats 4000000 in
set_option maxRecDepth 100000 in
theorem e12_opensOne {w : zW} {d : Nat} {n : Nat} {kd : zMK} {I : zMI} {R : zMR} {r : Int32 × zMI} {l1 : Int32} (hw : zst w = zSt0) (hS : zSh n kd) (hd : 2 ≤ d)  (h : f12_opensOne l1 I = some r) : EV w d 0 0 Y12_opensOne 0 [some (.ref 81), some (.int l1)] [] (n, kd, I, R) (q12_opensOne n kd R r) := by
  unfold f12_opensOne at h
  refine ev_aload_n dX12_opensOne_0 rfl rfl ?_
  refine em_getI dX12_opensOne_1 zf_NineHeapsModel_163 rfl (hS.has 81 (by decide) (by decide) rfl) rfl ?_
  refine ev_iconst dX12_opensOne_4 (v := (5 : Int32)) zci_5 ?_
  refine ev_icmp_ne dX12_opensOne_5 (tgt := 10) (by decide) (fun c1 => ?_) (fun c1 => ?_)
  · replace h := zif c1 h
    refine ev_aload_n dX12_opensOne_10 rfl rfl ?_
    refine ev_dup dX12_opensOne_11 rfl ?_
    refine em_getI dX12_opensOne_12 zf_NineHeapsModel_163 rfl (hS.has 81 (by decide) (by decide) rfl) rfl ?_
    refine ev_iconst dX12_opensOne_15 (v := (1 : Int32)) zci_1 ?_
    refine ev_iadd dX12_opensOne_16 rfl ?_
    obtain ⟨J2, e3, h⟩ := zld h
    refine em_putI dX12_opensOne_17 zf_NineHeapsModel_163 (Or.inl rfl) rfl rfl rfl (hS.has 81 (by decide) (by decide) rfl) e3 ?_
    refine ev_aload_n dX12_opensOne_20 rfl rfl ?_
    refine ev_iload_n dX12_opensOne_21 rfl rfl ?_
    obtain ⟨p4, e5, h⟩ := zbd h
    refine ev_callV0 dX12_opensOne_22 zm12_holds zl_NineHeapsModel_170 zi12_holds zv12_holds (zrcM hS) (As := [.int l1]) (rest := []) rfl rfl (Nat.le_of_ble_eq_true rfl) rfl (Nat.le_of_ble_eq_true rfl) (d' := 1) (by omega) (e12_holds hw hS (Nat.le_refl _) e5) (fun v μ1 q => ?_)
    obtain ⟨rfl, rfl⟩ := q
    refine ev_iconst dX12_opensOne_25 (v := (1 : Int32)) zci_1 ?_
    obtain rfl := Option.some.inj h
    exact ev_end_i dX12_opensOne_26 rfl rfl ⟨rfl, rfl⟩
  · replace h := zit c1 h
    refine ev_iconst dX12_opensOne_8 (v := (0 : Int32)) zci_0 ?_
    obtain rfl := Option.some.inj h
    exact ev_end_i dX12_opensOne_9 rfl rfl ⟨rfl, rfl⟩
abbrev q12_between (n : Nat) (kd : zMK) (R : zMR) (r : Int32 × zMI) : Option Value → zM → Prop := fun v μ1 => v = some (.int r.1) ∧ μ1 = (n, kd, r.2, R)
set_option maxHeartbeats 4000000 in
set_option maxRecDepth 100000 in
theorem e12_between_B17 {w : zW} {d : Nat} {n : Nat} {kd : zMK} {R : zMR} {r : Int32 × zMI}  (hw : zst w = zSt0) (hS : zSh n kd) (hd : 3 ≤ d)   : ∀ (l1 : Int32) (s1 : Int32) (I : zMI), f12_between_B17 l1 s1 I = some r → EV w d 0 0 Y12_between 17 [some (.ref 81), some (.int l1)] [.int s1, .ref 81] (n, kd, I, R) (q12_between n kd R r) := by
  intro l1 s1 I h
  unfold f12_between_B17 at h
  obtain ⟨p1, e2, h⟩ := zbd h
  refine ev_callV0 dX12_between_17 zm12_unwinds zl_NineHeapsModel_173 zi12_unwinds zv12_unwinds (zrcM hS) (As := [.int s1]) (rest := []) rfl rfl (Nat.le_of_ble_eq_true rfl) rfl (Nat.le_of_ble_eq_true rfl) (d' := 2) (by omega) (e12_unwinds hw hS (Nat.le_refl _) e2) (fun v μ1 q => ?_)
  obtain ⟨rfl, rfl⟩ := q
  refine ev_iload_n dX12_between_20 rfl rfl ?_
  obtain ⟨p3, e4, h⟩ := zbd h
  refine ev_callS0 dX12_between_21 zm12_rank zl_NineHeapsModel_159 zs12_rank (As := [.int l1]) (rest := []) rfl rfl (Nat.le_of_ble_eq_true rfl) rfl (Nat.le_of_ble_eq_true rfl) (d' := 1) (by omega) (e12_rank hw hS (Nat.le_refl _) e4) (fun v μ1 q => ?_)
  obtain ⟨rfl, rfl⟩ := q
  refine ev_iconst dX12_between_24 (v := (4 : Int32)) zci_4 ?_
  refine ev_icmp_ne dX12_between_25 (tgt := 55) (by decide) (fun c5 => ?_) (fun c5 => ?_)
  · replace h := zif c5 h
    refine ev_aload_n dX12_between_55 rfl rfl ?_
    refine ev_iload_n dX12_between_56 rfl rfl ?_
    obtain ⟨p6, e7, h⟩ := zbd h
    refine ev_callV0 dX12_between_57 zm12_holds zl_NineHeapsModel_170 zi12_holds zv12_holds (zrcM hS) (As := [.int l1]) (rest := []) rfl rfl (Nat.le_of_ble_eq_true rfl) rfl (Nat.le_of_ble_eq_true rfl) (d' := 1) (by omega) (e12_holds hw hS (Nat.le_refl _) e7) (fun v μ1 q => ?_)
    obtain ⟨rfl, rfl⟩ := q
    refine ev_iconst dX12_between_60 (v := (1 : Int32)) zci_1 ?_
    obtain rfl := Option.some.inj h
    exact ev_end_i dX12_between_61 rfl rfl ⟨rfl, rfl⟩
  · replace h := zit c5 h
    refine ev_aload_n dX12_between_28 rfl rfl ?_
    refine em_getI dX12_between_29 zf_NineHeapsModel_156 rfl (hS.has 81 (by decide) (by decide) rfl) rfl ?_
    refine ev_if_le dX12_between_32 (tgt := 55) (by decide) (fun c8 => ?_) (fun c8 => ?_)
    · replace h := zit c8 h
      refine ev_aload_n dX12_between_55 rfl rfl ?_
      refine ev_iload_n dX12_between_56 rfl rfl ?_
      obtain ⟨p9, e10, h⟩ := zbd h
      refine ev_callV0 dX12_between_57 zm12_holds zl_NineHeapsModel_170 zi12_holds zv12_holds (zrcM hS) (As := [.int l1]) (rest := []) rfl rfl (Nat.le_of_ble_eq_true rfl) rfl (Nat.le_of_ble_eq_true rfl) (d' := 1) (by omega) (e12_holds hw hS (Nat.le_refl _) e10) (fun v μ1 q => ?_)
      obtain ⟨rfl, rfl⟩ := q
      refine ev_iconst dX12_between_60 (v := (1 : Int32)) zci_1 ?_
      obtain rfl := Option.some.inj h
      exact ev_end_i dX12_between_61 rfl rfl ⟨rfl, rfl⟩
    · replace h := zif c8 h
      refine ev_aload_n dX12_between_35 rfl rfl ?_
      refine em_getA dX12_between_36 zf_NineHeapsModel_56 rfl (hS.has 81 (by decide) (by decide) rfl) hw rfl ?_
      refine ev_aload_n dX12_between_39 rfl rfl ?_
      refine em_getI dX12_between_40 zf_NineHeapsModel_156 rfl (hS.has 81 (by decide) (by decide) rfl) rfl ?_
      refine ev_iconst dX12_between_43 (v := (1 : Int32)) zci_1 ?_
      refine ev_isub dX12_between_44 rfl ?_
      obtain ⟨g11, h⟩ := zgd h
      refine em_iald dX12_between_45 hS (by decide) (by decide) (N := 200) rfl g11 rfl ?_
      obtain ⟨p12, e13, h⟩ := zbd h
      refine ev_callS0 dX12_between_46 zm12_rank zl_NineHeapsModel_159 zs12_rank (As := [.int (p1 96 ((p1 81 28) - (1 : Int32)).toNatClampNeg)]) (rest := []) rfl rfl (Nat.le_of_ble_eq_true rfl) rfl (Nat.le_of_ble_eq_true rfl) (d' := 1) (by omega) (e12_rank hw hS (Nat.le_refl _) e13) (fun v μ1 q => ?_)
      obtain ⟨rfl, rfl⟩ := q
      refine ev_iconst dX12_between_49 (v := (4 : Int32)) zci_4 ?_
      refine ev_icmp_ne dX12_between_50 (tgt := 55) (by decide) (fun c14 => ?_) (fun c14 => ?_)
      · replace h := zif c14 h
        refine ev_aload_n dX12_between_55 rfl rfl ?_
        refine ev_iload_n dX12_between_56 rfl rfl ?_
        obtain ⟨p15, e16, h⟩ := zbd h
        refine ev_callV0 dX12_between_57 zm12_holds zl_NineHeapsModel_170 zi12_holds zv12_holds (zrcM hS) (As := [.int l1]) (rest := []) rfl rfl (Nat.le_of_ble_eq_true rfl) rfl (Nat.le_of_ble_eq_true rfl) (d' := 1) (by omega) (e12_holds hw hS (Nat.le_refl _) e16) (fun v μ1 q => ?_)
        obtain ⟨rfl, rfl⟩ := q
        refine ev_iconst dX12_between_60 (v := (1 : Int32)) zci_1 ?_
        obtain rfl := Option.some.inj h
        exact ev_end_i dX12_between_61 rfl rfl ⟨rfl, rfl⟩
      · replace h := zit c14 h
        refine ev_iconst dX12_between_53 (v := (0 : Int32)) zci_0 ?_
        obtain rfl := Option.some.inj h
        exact ev_end_i dX12_between_54 rfl rfl ⟨rfl, rfl⟩
set_option maxHeartbeats 4000000 in
set_option maxRecDepth 100000 in
theorem e12_between {w : zW} {d : Nat} {n : Nat} {kd : zMK} {I : zMI} {R : zMR} {r : Int32 × zMI} {l1 : Int32} (hw : zst w = zSt0) (hS : zSh n kd) (hd : 3 ≤ d)  (h : f12_between l1 I = some r) : EV w d 0 0 Y12_between 0 [some (.ref 81), some (.int l1)] [] (n, kd, I, R) (q12_between n kd R r) := by
  unfold f12_between at h
  refine ev_aload_n dX12_between_0 rfl rfl ?_
  refine ev_iload_n dX12_between_1 rfl rfl ?_
  obtain ⟨p17, e18, h⟩ := zbd h
  refine ev_callS0 dX12_between_2 zm12_rank zl_NineHeapsModel_159 zs12_rank (As := [.int l1]) (rest := [.ref 81]) rfl rfl (Nat.le_of_ble_eq_true rfl) rfl (Nat.le_of_ble_eq_true rfl) (d' := 1) (by omega) (e12_rank hw hS (Nat.le_refl _) e18) (fun v μ1 q => ?_)
  obtain ⟨rfl, rfl⟩ := q
  refine ev_iconst dX12_between_5 (v := (4 : Int32)) zci_4 ?_
  refine ev_icmp_ne dX12_between_6 (tgt := 13) (by decide) (fun c19 => ?_) (fun c19 => ?_)
  · replace h := zif c19 h
    refine ev_iload_n dX12_between_13 rfl rfl ?_
    obtain ⟨p20, e21, h⟩ := zbd h
    refine ev_callS0 dX12_between_14 zm12_rank zl_NineHeapsModel_159 zs12_rank (As := [.int l1]) (rest := [.ref 81]) rfl rfl (Nat.le_of_ble_eq_true rfl) rfl (Nat.le_of_ble_eq_true rfl) (d' := 1) (by omega) (e12_rank hw hS (Nat.le_refl _) e21) (fun v μ1 q => ?_)
    obtain ⟨rfl, rfl⟩ := q
    exact EV.mask [true, true] rfl (e12_between_B17 hw hS hd l1 p20 I h)
  · replace h := zit c19 h
    refine ev_iconst dX12_between_9 (v := (5 : Int32)) zci_5 ?_
    refine ev_goto dX12_between_10 (tgt := 17) (by decide) ?_
    exact EV.mask [true, true] rfl (e12_between_B17 hw hS hd l1 (5 : Int32) I h)
abbrev q12_signOf (n : Nat) (kd : zMK) (I : zMI) (R : zMR) (r : Int32) : Option Value → zM → Prop := fun v μ1 => v = some (.int r) ∧ μ1 = (n, kd, I, R)
set_option maxHeartbeats 4000000 in
set_option maxRecDepth 100000 in
theorem e12_signOf {w : zW} {d : Nat} {n : Nat} {kd : zMK} {I : zMI} {R : zMR} {r : Int32}  (hw : zst w = zSt0) (hS : zSh n kd) (hd : 1 ≤ d)  (h : f12_signOf I = some r) : EV w d 0 0 Y12_signOf 0 [some (.ref 81)] [] (n, kd, I, R) (q12_signOf n kd I R r) := by
  unfold f12_signOf at h
  refine ev_aload_n dX12_signOf_0 rfl rfl ?_
  refine em_getI dX12_signOf_1 zf_NineHeapsModel_143 rfl (hS.has 81 (by decide) (by decide) rfl) rfl ?_
  refine ev_iconst dX12_signOf_4 (v := (4 : Int32)) zci_4 ?_
  obtain ⟨x8, e9, h⟩ := zld h
  have k10 : EV w d 0 0 Y12_signOf 97 [some (.ref 81)] [.int x8] (n, kd, I, R) (q12_signOf n kd I R r) := by
    obtain rfl := Option.some.inj h
    exact ev_end_i dX12_signOf_97 rfl rfl ⟨rfl, rfl⟩
  clear h
  have h := e9
  clear e9
  refine ev_icmp_ne dX12_signOf_5 (tgt := 13) (by decide) (fun c1 => ?_) (fun c1 => ?_)
  · replace h := zif c1 h
    refine ev_aload_n dX12_signOf_13 rfl rfl ?_
    refine em_getI dX12_signOf_14 zf_NineHeapsModel_143 rfl (hS.has 81 (by decide) (by decide) rfl) rfl ?_
    refine ev_iconst dX12_signOf_17 (v := (5 : Int32)) zci_5 ?_
    refine ev_icmp_ne dX12_signOf_18 (tgt := 26) (by decide) (fun c2 => ?_) (fun c2 => ?_)
    · replace h := zif c2 h
      refine ev_aload_n dX12_signOf_26 rfl rfl ?_
      refine em_getI dX12_signOf_27 zf_NineHeapsModel_143 rfl (hS.has 81 (by decide) (by decide) rfl) rfl ?_
      refine ev_bipush dX12_signOf_30 (v := (60 : Int32)) zcb_60 ?_
      refine ev_icmp_ne dX12_signOf_32 (tgt := 40) (by decide) (fun c3 => ?_) (fun c3 => ?_)
      · replace h := zif c3 h
        refine ev_aload_n dX12_signOf_40 rfl rfl ?_
        refine em_getI dX12_signOf_41 zf_NineHeapsModel_143 rfl (hS.has 81 (by decide) (by decide) rfl) rfl ?_
        refine ev_bipush dX12_signOf_44 (v := (61 : Int32)) zcb_61 ?_
        refine ev_icmp_ne dX12_signOf_46 (tgt := 54) (by decide) (fun c4 => ?_) (fun c4 => ?_)
        · replace h := zif c4 h
          refine ev_aload_n dX12_signOf_54 rfl rfl ?_
          refine em_getI dX12_signOf_55 zf_NineHeapsModel_143 rfl (hS.has 81 (by decide) (by decide) rfl) rfl ?_
          refine ev_bipush dX12_signOf_58 (v := (43 : Int32)) zcb_43 ?_
          refine ev_icmp_ne dX12_signOf_60 (tgt := 68) (by decide) (fun c5 => ?_) (fun c5 => ?_)
          · replace h := zif c5 h
            refine ev_aload_n dX12_signOf_68 rfl rfl ?_
            refine em_getI dX12_signOf_69 zf_NineHeapsModel_143 rfl (hS.has 81 (by decide) (by decide) rfl) rfl ?_
            refine ev_bipush dX12_signOf_72 (v := (45 : Int32)) zcb_45 ?_
            refine ev_icmp_ne dX12_signOf_74 (tgt := 82) (by decide) (fun c6 => ?_) (fun c6 => ?_)
            · replace h := zif c6 h
              refine ev_aload_n dX12_signOf_82 rfl rfl ?_
              refine em_getI dX12_signOf_83 zf_NineHeapsModel_143 rfl (hS.has 81 (by decide) (by decide) rfl) rfl ?_
              refine ev_bipush dX12_signOf_86 (v := (42 : Int32)) zcb_42 ?_
              refine ev_icmp_ne dX12_signOf_88 (tgt := 96) (by decide) (fun c7 => ?_) (fun c7 => ?_)
              · replace h := zif c7 h
                refine ev_iconst dX12_signOf_96 (v := (-1 : Int32)) zci_m1 ?_
                obtain rfl := h
                exact k10
              · replace h := zit c7 h
                refine ev_bipush dX12_signOf_91 (v := (18 : Int32)) zcb_18 ?_
                refine ev_goto dX12_signOf_93 (tgt := 97) (by decide) ?_
                obtain rfl := h
                exact k10
            · replace h := zit c6 h
              refine ev_bipush dX12_signOf_77 (v := (17 : Int32)) zcb_17 ?_
              refine ev_goto dX12_signOf_79 (tgt := 97) (by decide) ?_
              obtain rfl := h
              exact k10
          · replace h := zit c5 h
            refine ev_bipush dX12_signOf_63 (v := (16 : Int32)) zcb_16 ?_
            refine ev_goto dX12_signOf_65 (tgt := 97) (by decide) ?_
            obtain rfl := h
            exact k10
        · replace h := zit c4 h
          refine ev_bipush dX12_signOf_49 (v := (15 : Int32)) zcb_15 ?_
          refine ev_goto dX12_signOf_51 (tgt := 97) (by decide) ?_
          obtain rfl := h
          exact k10
      · replace h := zit c3 h
        refine ev_bipush dX12_signOf_35 (v := (14 : Int32)) zcb_14 ?_
        refine ev_goto dX12_signOf_37 (tgt := 97) (by decide) ?_
        obtain rfl := h
        exact k10
    · replace h := zit c2 h
      refine ev_bipush dX12_signOf_21 (v := (12 : Int32)) zcb_12 ?_
      refine ev_goto dX12_signOf_23 (tgt := 97) (by decide) ?_
      obtain rfl := h
      exact k10
  · replace h := zit c1 h
    refine ev_bipush dX12_signOf_8 (v := (11 : Int32)) zcb_11 ?_
    refine ev_goto dX12_signOf_10 (tgt := 97) (by decide) ?_
    obtain rfl := h
    exact k10
abbrev q12_eRead (n : Nat) (kd : zMK) (R : zMR) (r : Int32 × zMI) : Option Value → zM → Prop := fun v μ1 => v = some (.int r.1) ∧ μ1 = (n, kd, r.2, R)
set_option maxHeartbeats 4000000 in
set_option maxRecDepth 100000 in
theorem e12_eRead_B61 {w : zW} {d : Nat} {n : Nat} {kd : zMK} {R : zMR} {r : Int32 × zMI} {k14 : Int32 → Int32 → zMI → Option (Int32 × zMI)} (hw : zst w = zSt0) (hS : zSh n kd) (hd : 4 ≤ d)  (hk14 : ∀ (l1 : Int32) (l2 : Int32) (I : zMI), k14 l1 l2 I = some r → EV w d 0 0 Y12_eRead 14 [some (.ref 81), some (.int l1), some (.int l2), none] [] (n, kd, I, R) (q12_eRead n kd R r)) : ∀ (l2 : Int32) (s1 : Int32) (I : zMI), f12_eRead_B61 k14 l2 s1 I = some r → EV w d 0 0 Y12_eRead 61 [some (.ref 81), none, some (.int l2), none] [.int s1, .ref 81] (n, kd, I, R) (q12_eRead n kd R r) := by
  intro l2 s1 I h
  unfold f12_eRead_B61 at h
  obtain ⟨p1, e2, h⟩ := zbd h
  refine ev_callV0 dX12_eRead_61 zm12_puts zl_NineHeapsModel_166 zi12_puts zv12_puts (zrcM hS) (As := [.int s1]) (rest := []) rfl rfl (Nat.le_of_ble_eq_true rfl) rfl (Nat.le_of_ble_eq_true rfl) (d' := 1) (by omega) (e12_puts hw hS (Nat.le_refl _) e2) (fun v μ1 q => ?_)
  obtain ⟨rfl, rfl⟩ := q
  refine ev_aload_n dX12_eRead_64 rfl rfl ?_
  refine ev_bipush dX12_eRead_65 (v := (7 : Int32)) zcb_7 ?_
  obtain ⟨p3, e4, h⟩ := zbd h
  refine ev_callV0 dX12_eRead_67 zm12_unwinds zl_NineHeapsModel_173 zi12_unwinds zv12_unwinds (zrcM hS) (As := [.int (7 : Int32)]) (rest := []) rfl rfl (Nat.le_of_ble_eq_true rfl) rfl (Nat.le_of_ble_eq_true rfl) (d' := 2) (by omega) (e12_unwinds hw hS (Nat.le_refl _) e4) (fun v μ1 q => ?_)
  obtain ⟨rfl, rfl⟩ := q
  refine ev_iconst dX12_eRead_70 (v := (0 : Int32)) zci_0 ?_
  refine ev_istore_n dX12_eRead_71 rfl (by decide) rfl ?_
  refine ev_goto dX12_eRead_72 (tgt := 14) (by decide) ?_
  exact EV.mask [true, true, true, false] rfl (hk14 (0 : Int32) l2 p3 h)
set_option maxHeartbeats 4000000 in
set_option maxRecDepth 100000 in
theorem e12_eRead_B38 {w : zW} {d : Nat} {n : Nat} {kd : zMK} {R : zMR} {r : Int32 × zMI} {k14 : Int32 → Int32 → zMI → Option (Int32 × zMI)} (hw : zst w = zSt0) (hS : zSh n kd) (hd : 4 ≤ d)  (hk14 : ∀ (l1 : Int32) (l2 : Int32) (I : zMI), k14 l1 l2 I = some r → EV w d 0 0 Y12_eRead 14 [some (.ref 81), some (.int l1), some (.int l2), none] [] (n, kd, I, R) (q12_eRead n kd R r)) : ∀ (l2 : Int32) (I : zMI), f12_eRead_B38 k14 l2 I = some r → EV w d 0 0 Y12_eRead 38 [some (.ref 81), none, some (.int l2), none] [] (n, kd, I, R) (q12_eRead n kd R r) := by
  intro l2 I h
  unfold f12_eRead_B38 at h
  refine ev_aload_n dX12_eRead_38 rfl rfl ?_
  refine ev_aload_n dX12_eRead_39 rfl rfl ?_
  refine em_getI dX12_eRead_40 zf_NineHeapsModel_143 rfl (hS.has 81 (by decide) (by decide) rfl) rfl ?_
  refine ev_iconst dX12_eRead_43 (v := (1 : Int32)) zci_1 ?_
  refine ev_icmp_ne dX12_eRead_44 (tgt := 57) (by decide) (fun c5 => ?_) (fun c5 => ?_)
  · replace h := zif c5 h
    refine ev_aload_n dX12_eRead_57 rfl rfl ?_
    refine em_getI dX12_eRead_58 zf_NineHeapsModel_146 rfl (hS.has 81 (by decide) (by decide) rfl) rfl ?_
    exact EV.mask [true, false, true, false] rfl (e12_eRead_B61 hw hS hd hk14 l2 (I 81 25) I h)
  · replace h := zit c5 h
    refine ev_ldc dX12_eRead_47 zk_NineHeapsModel_179 ?_
    refine ev_aload_n dX12_eRead_49 rfl rfl ?_
    refine em_getI dX12_eRead_50 zf_NineHeapsModel_146 rfl (hS.has 81 (by decide) (by decide) rfl) rfl ?_
    refine ev_iadd dX12_eRead_53 rfl ?_
    refine ev_goto dX12_eRead_54 (tgt := 61) (by decide) ?_
    exact EV.mask [true, false, true, false] rfl (e12_eRead_B61 hw hS hd hk14 l2 ((100000 : Int32) + (I 81 25)) I h)
set_option maxHeartbeats 4000000 in
set_option maxRecDepth 100000 in
theorem e12_eRead_B99 {w : zW} {d : Nat} {n : Nat} {kd : zMK} {R : zMR} {r : Int32 × zMI} {k14 : Int32 → Int32 → zMI → Option (Int32 × zMI)} (hw : zst w = zSt0) (hS : zSh n kd) (hd : 4 ≤ d)  (hk14 : ∀ (l1 : Int32) (l2 : Int32) (I : zMI), k14 l1 l2 I = some r → EV w d 0 0 Y12_eRead 14 [some (.ref 81), some (.int l1), some (.int l2), none] [] (n, kd, I, R) (q12_eRead n kd R r)) : ∀ (l1 : Int32) (I : zMI), f12_eRead_B99 k14 l1 I = some r → EV w d 0 0 Y12_eRead 99 [some (.ref 81), some (.int l1), none, none] [] (n, kd, I, R) (q12_eRead n kd R r) := by
  intro l1 I h
  unfold f12_eRead_B99 at h
  refine ev_aload_n dX12_eRead_99 rfl rfl ?_
  refine em_getI dX12_eRead_100 zf_NineHeapsModel_143 rfl (hS.has 81 (by decide) (by decide) rfl) rfl ?_
  refine ev_bipush dX12_eRead_103 (v := (45 : Int32)) zcb_45 ?_
  refine ev_icmp_ne dX12_eRead_105 (tgt := 124) (by decide) (fun c6 => ?_) (fun c6 => ?_)
  · replace h := zif c6 h
    refine ev_aload_n dX12_eRead_124 rfl rfl ?_
    refine em_getI dX12_eRead_125 zf_NineHeapsModel_143 rfl (hS.has 81 (by decide) (by decide) rfl) rfl ?_
    refine ev_bipush dX12_eRead_128 (v := (40 : Int32)) zcb_40 ?_
    refine ev_icmp_ne dX12_eRead_130 (tgt := 148) (by decide) (fun c7 => ?_) (fun c7 => ?_)
    · replace h := zif c7 h
      refine ev_iconst dX12_eRead_148 (v := (0 : Int32)) zci_0 ?_
      obtain rfl := Option.some.inj h
      exact ev_end_i dX12_eRead_149 rfl rfl ⟨rfl, rfl⟩
    · replace h := zit c7 h
      refine ev_aload_n dX12_eRead_133 rfl rfl ?_
      refine ev_iconst dX12_eRead_134 (v := (0 : Int32)) zci_0 ?_
      obtain ⟨p8, e9, h⟩ := zbd h
      refine ev_callV0 dX12_eRead_135 zm12_opensOne zl_NineHeapsModel_180 zi12_opensOne zv12_opensOne (zrcM hS) (As := [.int (0 : Int32)]) (rest := []) rfl rfl (Nat.le_of_ble_eq_true rfl) rfl (Nat.le_of_ble_eq_true rfl) (d' := 2) (by omega) (e12_opensOne hw hS (Nat.le_refl _) e9) (fun v μ1 q => ?_)
      obtain ⟨rfl, rfl⟩ := q
      refine ev_if_ne dX12_eRead_138 (tgt := 143) (by decide) (fun c10 => ?_) (fun c10 => ?_)
      · replace h := zif c10 h
        refine ev_iconst dX12_eRead_143 (v := (1 : Int32)) zci_1 ?_
        refine ev_istore_n dX12_eRead_144 rfl (by decide) rfl ?_
        refine ev_goto dX12_eRead_145 (tgt := 14) (by decide) ?_
        exact EV.mask [true, true, true, false] rfl (hk14 l1 (1 : Int32) p8.2 h)
      · replace h := zit c10 h
        refine ev_iconst dX12_eRead_141 (v := (0 : Int32)) zci_0 ?_
        obtain rfl := Option.some.inj h
        exact ev_end_i dX12_eRead_142 rfl rfl ⟨rfl, rfl⟩
  · replace h := zit c6 h
    refine ev_aload_n dX12_eRead_108 rfl rfl ?_
    refine ev_bipush dX12_eRead_109 (v := (19 : Int32)) zcb_19 ?_
    obtain ⟨p11, e12, h⟩ := zbd h
    refine ev_callV0 dX12_eRead_111 zm12_opensOne zl_NineHeapsModel_180 zi12_opensOne zv12_opensOne (zrcM hS) (As := [.int (19 : Int32)]) (rest := []) rfl rfl (Nat.le_of_ble_eq_true rfl) rfl (Nat.le_of_ble_eq_true rfl) (d' := 2) (by omega) (e12_opensOne hw hS (Nat.le_refl _) e12) (fun v μ1 q => ?_)
    obtain ⟨rfl, rfl⟩ := q
    refine ev_if_ne dX12_eRead_114 (tgt := 119) (by decide) (fun c13 => ?_) (fun c13 => ?_)
    · replace h := zif c13 h
      refine ev_iconst dX12_eRead_119 (v := (0 : Int32)) zci_0 ?_
      refine ev_istore_n dX12_eRead_120 rfl (by decide) rfl ?_
      refine ev_goto dX12_eRead_121 (tgt := 14) (by decide) ?_
      exact EV.mask [true, true, true, false] rfl (hk14 l1 (0 : Int32) p11.2 h)
    · replace h := zit c13 h
      refine ev_iconst dX12_eRead_117 (v := (0 : Int32)) zci_0 ?_
      obtain rfl := Option.some.inj h
      exact ev_end_i dX12_eRead_118 rfl rfl ⟨rfl, rfl⟩
set_option maxHeartbeats 4000000 in
set_option maxRecDepth 100000 in
theorem e12_eRead_L14 {w : zW} {d : Nat} {n : Nat} {kd : zMK} {R : zMR} {r : Int32 × zMI} {k159 : zMI → Option (Int32 × zMI)} (hw : zst w = zSt0) (hS : zSh n kd) (hd : 4 ≤ d)  (hk159 : ∀  (I : zMI), k159 I = some r → EV w d 0 0 Y12_eRead 159 [some (.ref 81), none, none, none] [] (n, kd, I, R) (q12_eRead n kd R r)) : ∀ (q : Nat) (l1 : Int32) (l2 : Int32) (I : zMI), f12_eRead_L14 k159 q l1 l2 I = some r → EV w d 0 0 Y12_eRead 14 [some (.ref 81), some (.int l1), some (.int l2), none] [] (n, kd, I, R) (q12_eRead n kd R r) := by
  intro q
  induction q with
  | zero =>
    intro l1 l2 I h
    cases h
  | succ q ih =>
    intro l1 l2 I h
    unfold f12_eRead_L14 at h
    refine ev_aload_n dX12_eRead_14 rfl rfl ?_
    obtain ⟨p14, e15, h⟩ := zbd h
    refine ev_callV0 dX12_eRead_15 zm12_next zl_NineHeapsModel_176 zi12_next zv12_next (zrcM hS) (As := []) (rest := []) rfl rfl (Nat.le_of_ble_eq_true rfl) rfl (Nat.le_of_ble_eq_true rfl) (d' := 2) (by omega) (e12_next hw hS (Nat.le_refl _) e15) (fun v μ1 q => ?_)
    obtain ⟨rfl, rfl⟩ := q
    refine ev_iload_n dX12_eRead_18 rfl rfl ?_
    refine ev_if_eq dX12_eRead_19 (tgt := 150) (by decide) (fun c16 => ?_) (fun c16 => ?_)
    · replace h := zit c16 h
      refine ev_aload_n dX12_eRead_150 rfl rfl ?_
      refine em_getI dX12_eRead_151 zf_NineHeapsModel_143 rfl (hS.has 81 (by decide) (by decide) rfl) rfl ?_
      refine ev_bipush dX12_eRead_154 (v := (59 : Int32)) zcb_59 ?_
      refine ev_icmp_ne dX12_eRead_156 (tgt := 177) (by decide) (fun c17 => ?_) (fun c17 => ?_)
      · replace h := zif c17 h
        refine ev_aload_n dX12_eRead_177 rfl rfl ?_
        refine em_getI dX12_eRead_178 zf_NineHeapsModel_143 rfl (hS.has 81 (by decide) (by decide) rfl) rfl ?_
        refine ev_bipush dX12_eRead_181 (v := (41 : Int32)) zcb_41 ?_
        refine ev_icmp_ne dX12_eRead_183 (tgt := 229) (by decide) (fun c18 => ?_) (fun c18 => ?_)
        · replace h := zif c18 h
          refine ev_aload_n dX12_eRead_229 rfl rfl ?_
          obtain ⟨p19, e20, h⟩ := zbd h
          refine ev_callV0 dX12_eRead_230 zm12_signOf zl_NineHeapsModel_183 zi12_signOf zv12_signOf (zrcM hS) (As := []) (rest := []) rfl rfl (Nat.le_of_ble_eq_true rfl) rfl (Nat.le_of_ble_eq_true rfl) (d' := 1) (by omega) (e12_signOf hw hS (Nat.le_refl _) e20) (fun v μ1 q => ?_)
          obtain ⟨rfl, rfl⟩ := q
          refine ev_istore_n dX12_eRead_233 rfl (by decide) rfl ?_
          refine ev_iload_n dX12_eRead_234 rfl rfl ?_
          refine ev_iconst dX12_eRead_235 (v := (-1 : Int32)) zci_m1 ?_
          refine ev_icmp_eq dX12_eRead_236 (tgt := 247) (by decide) (fun c21 => ?_) (fun c21 => ?_)
          · replace h := zit c21 h
            refine ev_iconst dX12_eRead_247 (v := (0 : Int32)) zci_0 ?_
            obtain rfl := Option.some.inj h
            exact ev_end_i dX12_eRead_248 rfl rfl ⟨rfl, rfl⟩
          · replace h := zif c21 h
            refine ev_aload_n dX12_eRead_239 rfl rfl ?_
            refine ev_iload_n dX12_eRead_240 rfl rfl ?_
            obtain ⟨p22, e23, h⟩ := zbd h
            refine ev_callV0 dX12_eRead_241 zm12_between zl_NineHeapsModel_186 zi12_between zv12_between (zrcM hS) (As := [.int p19]) (rest := []) rfl rfl (Nat.le_of_ble_eq_true rfl) rfl (Nat.le_of_ble_eq_true rfl) (d' := 3) (by omega) (e12_between hw hS (Nat.le_refl _) e23) (fun v μ1 q => ?_)
            obtain ⟨rfl, rfl⟩ := q
            refine ev_if_ne dX12_eRead_244 (tgt := 249) (by decide) (fun c24 => ?_) (fun c24 => ?_)
            · replace h := zif c24 h
              refine ev_iconst dX12_eRead_249 (v := (1 : Int32)) zci_1 ?_
              refine ev_istore_n dX12_eRead_250 rfl (by decide) rfl ?_
              refine ev_iload_n dX12_eRead_251 rfl rfl ?_
              refine ev_bipush dX12_eRead_252 (v := (12 : Int32)) zcb_12 ?_
              obtain ⟨x26, e27, h⟩ := zld h
              have k28 : EV w d 0 0 Y12_eRead 262 [some (.ref 81), some (.int (1 : Int32)), some (.int l2), some (.int p19)] [.int x26] (n, kd, p22.2, R) (q12_eRead n kd R r) := by
                refine ev_istore_n dX12_eRead_262 rfl (by decide) rfl ?_
                refine ev_goto dX12_eRead_263 (tgt := 14) (by decide) ?_
                exact EV.mask [true, true, true, false] rfl (ih (1 : Int32) x26 p22.2 h)
              clear h
              have h := e27
              clear e27
              refine ev_icmp_gt dX12_eRead_254 (tgt := 261) (by decide) (fun c25 => ?_) (fun c25 => ?_)
              · replace h := zit c25 h
                refine ev_iconst dX12_eRead_261 (v := (0 : Int32)) zci_0 ?_
                obtain rfl := h
                exact k28
              · replace h := zif c25 h
                refine ev_iconst dX12_eRead_257 (v := (1 : Int32)) zci_1 ?_
                refine ev_goto dX12_eRead_258 (tgt := 262) (by decide) ?_
                obtain rfl := h
                exact k28
            · replace h := zit c24 h
              refine ev_iconst dX12_eRead_247 (v := (0 : Int32)) zci_0 ?_
              obtain rfl := Option.some.inj h
              exact ev_end_i dX12_eRead_248 rfl rfl ⟨rfl, rfl⟩
        · replace h := zit c18 h
          refine ev_aload_n dX12_eRead_186 rfl rfl ?_
          refine ev_iconst dX12_eRead_187 (v := (1 : Int32)) zci_1 ?_
          obtain ⟨p29, e30, h⟩ := zbd h
          refine ev_callV0 dX12_eRead_188 zm12_unwinds zl_NineHeapsModel_173 zi12_unwinds zv12_unwinds (zrcM hS) (As := [.int (1 : Int32)]) (rest := []) rfl rfl (Nat.le_of_ble_eq_true rfl) rfl (Nat.le_of_ble_eq_true rfl) (d' := 2) (by omega) (e12_unwinds hw hS (Nat.le_refl _) e30) (fun v μ1 q => ?_)
          obtain ⟨rfl, rfl⟩ := q
          refine ev_aload_n dX12_eRead_191 rfl rfl ?_
          refine em_getI dX12_eRead_192 zf_NineHeapsModel_156 rfl (hS.has 81 (by decide) (by decide) rfl) rfl ?_
          refine ev_if_ne dX12_eRead_195 (tgt := 200) (by decide) (fun c31 => ?_) (fun c31 => ?_)
          · replace h := zif c31 h
            refine ev_aload_n dX12_eRead_200 rfl rfl ?_
            refine ev_dup dX12_eRead_201 rfl ?_
            refine em_getI dX12_eRead_202 zf_NineHeapsModel_156 rfl (hS.has 81 (by decide) (by decide) rfl) rfl ?_
            refine ev_iconst dX12_eRead_205 (v := (1 : Int32)) zci_1 ?_
            refine ev_isub dX12_eRead_206 rfl ?_
            obtain ⟨J32, e33, h⟩ := zld h
            refine em_putI dX12_eRead_207 zf_NineHeapsModel_156 (Or.inl rfl) rfl rfl rfl (hS.has 81 (by decide) (by decide) rfl) e33 ?_
            refine ev_aload_n dX12_eRead_210 rfl rfl ?_
            refine ev_dup dX12_eRead_211 rfl ?_
            refine em_getI dX12_eRead_212 zf_NineHeapsModel_163 rfl (hS.has 81 (by decide) (by decide) rfl) rfl ?_
            refine ev_iconst dX12_eRead_215 (v := (1 : Int32)) zci_1 ?_
            refine ev_isub dX12_eRead_216 rfl ?_
            obtain ⟨J34, e35, h⟩ := zld h
            refine em_putI dX12_eRead_217 zf_NineHeapsModel_163 (Or.inl rfl) rfl rfl rfl (hS.has 81 (by decide) (by decide) rfl) e35 ?_
            refine ev_aload_n dX12_eRead_220 rfl rfl ?_
            refine ev_bipush dX12_eRead_221 (v := (7 : Int32)) zcb_7 ?_
            obtain ⟨p36, e37, h⟩ := zbd h
            refine ev_callV0 dX12_eRead_223 zm12_unwinds zl_NineHeapsModel_173 zi12_unwinds zv12_unwinds (zrcM hS) (As := [.int (7 : Int32)]) (rest := []) rfl rfl (Nat.le_of_ble_eq_true rfl) rfl (Nat.le_of_ble_eq_true rfl) (d' := 2) (by omega) (e12_unwinds hw hS (Nat.le_refl _) e37) (fun v μ1 q => ?_)
            obtain ⟨rfl, rfl⟩ := q
            refine ev_goto dX12_eRead_226 (tgt := 14) (by decide) ?_
            exact EV.mask [true, true, true, false] rfl (ih l1 l2 p36 h)
          · replace h := zit c31 h
            refine ev_iconst dX12_eRead_198 (v := (0 : Int32)) zci_0 ?_
            obtain rfl := Option.some.inj h
            exact ev_end_i dX12_eRead_199 rfl rfl ⟨rfl, rfl⟩
      · replace h := zit c17 h
        exact EV.mask [true, false, false, false] rfl (hk159 p14 h)
    · replace h := zif c16 h
      refine ev_aload_n dX12_eRead_22 rfl rfl ?_
      refine em_getI dX12_eRead_23 zf_NineHeapsModel_143 rfl (hS.has 81 (by decide) (by decide) rfl) rfl ?_
      refine ev_iconst dX12_eRead_26 (v := (1 : Int32)) zci_1 ?_
      refine ev_icmp_eq dX12_eRead_27 (tgt := 38) (by decide) (fun c38 => ?_) (fun c38 => ?_)
      · replace h := zit c38 h
        exact EV.mask [true, false, true, false] rfl (e12_eRead_B38 hw hS hd (fun l1' l2' I' h' => ih l1' l2' I' h') l2 p14 h)
      · replace h := zif c38 h
        refine ev_aload_n dX12_eRead_30 rfl rfl ?_
        refine em_getI dX12_eRead_31 zf_NineHeapsModel_143 rfl (hS.has 81 (by decide) (by decide) rfl) rfl ?_
        refine ev_iconst dX12_eRead_34 (v := (2 : Int32)) zci_2 ?_
        refine ev_icmp_ne dX12_eRead_35 (tgt := 75) (by decide) (fun c39 => ?_) (fun c39 => ?_)
        · replace h := zif c39 h
          refine ev_aload_n dX12_eRead_75 rfl rfl ?_
          refine em_getI dX12_eRead_76 zf_NineHeapsModel_143 rfl (hS.has 81 (by decide) (by decide) rfl) rfl ?_
          refine ev_bipush dX12_eRead_79 (v := (6 : Int32)) zcb_6 ?_
          refine ev_icmp_ne dX12_eRead_81 (tgt := 99) (by decide) (fun c40 => ?_) (fun c40 => ?_)
          · replace h := zif c40 h
            exact EV.mask [true, true, false, false] rfl (e12_eRead_B99 hw hS hd (fun l1' l2' I' h' => ih l1' l2' I' h') l1 p14 h)
          · replace h := zit c40 h
            refine ev_iload_n dX12_eRead_84 rfl rfl ?_
            refine ev_if_eq dX12_eRead_85 (tgt := 99) (by decide) (fun c41 => ?_) (fun c41 => ?_)
            · replace h := zit c41 h
              exact EV.mask [true, true, false, false] rfl (e12_eRead_B99 hw hS hd (fun l1' l2' I' h' => ih l1' l2' I' h') l1 p14 h)
            · replace h := zif c41 h
              refine ev_aload_n dX12_eRead_88 rfl rfl ?_
              refine ev_bipush dX12_eRead_89 (v := (13 : Int32)) zcb_13 ?_
              obtain ⟨p42, e43, h⟩ := zbd h
              refine ev_callV0 dX12_eRead_91 zm12_opensOne zl_NineHeapsModel_180 zi12_opensOne zv12_opensOne (zrcM hS) (As := [.int (13 : Int32)]) (rest := []) rfl rfl (Nat.le_of_ble_eq_true rfl) rfl (Nat.le_of_ble_eq_true rfl) (d' := 2) (by omega) (e12_opensOne hw hS (Nat.le_refl _) e43) (fun v μ1 q => ?_)
              obtain ⟨rfl, rfl⟩ := q
              refine ev_if_ne dX12_eRead_94 (tgt := 14) (by decide) (fun c44 => ?_) (fun c44 => ?_)
              · replace h := zif c44 h
                exact EV.mask [true, true, true, false] rfl (ih l1 l2 p42.2 h)
              · replace h := zit c44 h
                refine ev_iconst dX12_eRead_97 (v := (0 : Int32)) zci_0 ?_
                obtain rfl := Option.some.inj h
                exact ev_end_i dX12_eRead_98 rfl rfl ⟨rfl, rfl⟩
        · replace h := zit c39 h
          exact EV.mask [true, false, true, false] rfl (e12_eRead_B38 hw hS hd (fun l1' l2' I' h' => ih l1' l2' I' h') l2 p14 h)
set_option maxHeartbeats 4000000 in
set_option maxRecDepth 100000 in
theorem e12_eRead_B159 {w : zW} {d : Nat} {n : Nat} {kd : zMK} {R : zMR} {r : Int32 × zMI}  (hw : zst w = zSt0) (hS : zSh n kd) (hd : 4 ≤ d)   : ∀  (I : zMI), f12_eRead_B159 I = some r → EV w d 0 0 Y12_eRead 159 [some (.ref 81), none, none, none] [] (n, kd, I, R) (q12_eRead n kd R r) := by
  intro I h
  unfold f12_eRead_B159 at h
  refine ev_aload_n dX12_eRead_159 rfl rfl ?_
  refine ev_iconst dX12_eRead_160 (v := (1 : Int32)) zci_1 ?_
  obtain ⟨p45, e46, h⟩ := zbd h
  refine ev_callV0 dX12_eRead_161 zm12_unwinds zl_NineHeapsModel_173 zi12_unwinds zv12_unwinds (zrcM hS) (As := [.int (1 : Int32)]) (rest := []) rfl rfl (Nat.le_of_ble_eq_true rfl) rfl (Nat.le_of_ble_eq_true rfl) (d' := 2) (by omega) (e12_unwinds hw hS (Nat.le_refl _) e46) (fun v μ1 q => ?_)
  obtain ⟨rfl, rfl⟩ := q
  refine ev_aload_n dX12_eRead_164 rfl rfl ?_
  refine em_getI dX12_eRead_165 zf_NineHeapsModel_156 rfl (hS.has 81 (by decide) (by decide) rfl) rfl ?_
  obtain ⟨x48, e49, h⟩ := zld h
  have k51 : EV w d 0 0 Y12_eRead 176 [some (.ref 81), none, none, none] [.int x48] (n, kd, p45, R) (q12_eRead n kd R r) := by
    obtain ⟨g50, h⟩ := zgd h
    obtain rfl := Option.some.inj h
    exact ev_end_i dX12_eRead_176 rfl (zbB_n g50) ⟨rfl, rfl⟩
  clear h
  have h := e49
  clear e49
  refine ev_if_ne dX12_eRead_168 (tgt := 175) (by decide) (fun c47 => ?_) (fun c47 => ?_)
  · replace h := zif c47 h
    refine ev_iconst dX12_eRead_175 (v := (0 : Int32)) zci_0 ?_
    obtain rfl := h
    exact k51
  · replace h := zit c47 h
    refine ev_iconst dX12_eRead_171 (v := (1 : Int32)) zci_1 ?_
    refine ev_goto dX12_eRead_172 (tgt := 176) (by decide) ?_
    obtain rfl := h
    exact k51
set_option maxHeartbeats 4000000 in
set_option maxRecDepth 100000 in
theorem e12_eRead {w : zW} {d : Nat} {n : Nat} {kd : zMK} {I : zMI} {R : zMR} {r : Int32 × zMI}  (hw : zst w = zSt0) (hS : zSh n kd) (hd : 4 ≤ d)  (h : f12_eRead I = some r) : EV w d 0 0 Y12_eRead 0 [some (.ref 81), none, none, none] [] (n, kd, I, R) (q12_eRead n kd R r) := by
  unfold f12_eRead at h
  refine ev_aload_n dX12_eRead_0 rfl rfl ?_
  refine ev_iconst dX12_eRead_1 (v := (0 : Int32)) zci_0 ?_
  obtain ⟨J52, e53, h⟩ := zld h
  refine em_putI dX12_eRead_2 zf_NineHeapsModel_156 (Or.inl rfl) rfl rfl rfl (hS.has 81 (by decide) (by decide) rfl) e53 ?_
  refine ev_aload_n dX12_eRead_5 rfl rfl ?_
  refine ev_iconst dX12_eRead_6 (v := (0 : Int32)) zci_0 ?_
  obtain ⟨J54, e55, h⟩ := zld h
  refine em_putI dX12_eRead_7 zf_NineHeapsModel_163 (Or.inl rfl) rfl rfl rfl (hS.has 81 (by decide) (by decide) rfl) e55 ?_
  refine ev_iconst dX12_eRead_10 (v := (1 : Int32)) zci_1 ?_
  refine ev_istore_n dX12_eRead_11 rfl (by decide) rfl ?_
  refine ev_iconst dX12_eRead_12 (v := (1 : Int32)) zci_1 ?_
  refine ev_istore_n dX12_eRead_13 rfl (by decide) rfl ?_
  exact EV.mask [true, true, true, false] rfl (e12_eRead_L14 hw hS hd (fun I' h' => e12_eRead_B159 hw hS hd I' h') zF (1 : Int32) (1 : Int32) J54 h)
abbrev q12_text (n : Nat) (kd : zMK) (R : zMR) (r : Int32 × zMI) : Option Value → zM → Prop := fun v μ1 => v = some (.int r.1) ∧ μ1 = (n, kd, r.2, R)
set_option maxHeartbeats 4000000 in
set_option maxRecDepth 100000 in
theorem e12_text_B94 {w : zW} {d : Nat} {n : Nat} {kd : zMK} {R : zMR} {r : Int32 × zMI} {k26 : Int32 → Int32 → zMI → Option (Int32 × zMI)} (hw : zst w = zSt0) (hS : zSh n kd) (hd : 5 ≤ d)  (hk26 : ∀ (l1 : Int32) (l2 : Int32) (I : zMI), k26 l1 l2 I = some r → EV w d 0 0 Y12_text 26 [some (.ref 81), some (.int l1), some (.int l2)] [] (n, kd, I, R) (q12_text n kd R r)) : ∀ (l2 : Int32) (s0 : Int32) (I : zMI), f12_text_B94 k26 l2 s0 I = some r → EV w d 0 0 Y12_text 94 [some (.ref 81), none, some (.int l2)] [.int s0] (n, kd, I, R) (q12_text n kd R r) := by
  intro l2 s0 I h
  unfold f12_text_B94 at h
  refine ev_istore_n dX12_text_94 rfl (by decide) rfl ?_
  refine ev_iinc dX12_text_95 (v := l2 + (1 : Int32)) rfl rfl (by decide) rfl ?_
  refine ev_goto dX12_text_98 (tgt := 26) (by decide) ?_
  exact EV.mask [true, true, true] rfl (hk26 s0 (l2 + (1 : Int32)) I h)
set_option maxHeartbeats 4000000 in
set_option maxRecDepth 100000 in
theorem e12_text_B93 {w : zW} {d : Nat} {n : Nat} {kd : zMK} {R : zMR} {r : Int32 × zMI} {k26 : Int32 → Int32 → zMI → Option (Int32 × zMI)} (hw : zst w = zSt0) (hS : zSh n kd) (hd : 5 ≤ d)  (hk26 : ∀ (l1 : Int32) (l2 : Int32) (I : zMI), k26 l1 l2 I = some r → EV w d 0 0 Y12_text 26 [some (.ref 81), some (.int l1), some (.int l2)] [] (n, kd, I, R) (q12_text n kd R r)) : ∀ (l2 : Int32) (I : zMI), f12_text_B93 k26 l2 I = some r → EV w d 0 0 Y12_text 93 [some (.ref 81), none, some (.int l2)] [] (n, kd, I, R) (q12_text n kd R r) := by
  intro l2 I h
  unfold f12_text_B93 at h
  refine ev_iconst dX12_text_93 (v := (0 : Int32)) zci_0 ?_
  exact EV.mask [true, false, true] rfl (e12_text_B94 hw hS hd hk26 l2 (0 : Int32) I h)
set_option maxHeartbeats 4000000 in
set_option maxRecDepth 100000 in
theorem e12_text_L26 {w : zW} {d : Nat} {n : Nat} {kd : zMK} {R : zMR} {r : Int32 × zMI} {k101 : Int32 → zMI → Option (Int32 × zMI)} (hw : zst w = zSt0) (hS : zSh n kd) (hd : 5 ≤ d)  (hk101 : ∀ (l1 : Int32) (I : zMI), k101 l1 I = some r → EV w d 0 0 Y12_text 101 [some (.ref 81), some (.int l1), none] [] (n, kd, I, R) (q12_text n kd R r)) : ∀ (q : Nat) (l1 : Int32) (l2 : Int32) (I : zMI), f12_text_L26 k101 q l1 l2 I = some r → EV w d 0 0 Y12_text 26 [some (.ref 81), some (.int l1), some (.int l2)] [] (n, kd, I, R) (q12_text n kd R r) := by
  intro q
  induction q with
  | zero =>
    intro l1 l2 I h
    cases h
  | succ q ih =>
    intro l1 l2 I h
    unfold f12_text_L26 at h
    refine ev_iload_n dX12_text_26 rfl rfl ?_
    refine ev_iconst dX12_text_27 (v := (3 : Int32)) zci_3 ?_
    refine ev_icmp_ge dX12_text_28 (tgt := 101) (by decide) (fun c1 => ?_) (fun c1 => ?_)
    · replace h := zit c1 h
      exact EV.mask [true, true, false] rfl (hk101 l1 I h)
    · replace h := zif c1 h
      refine ev_iload_n dX12_text_31 rfl rfl ?_
      refine ev_if_eq dX12_text_32 (tgt := 101) (by decide) (fun c2 => ?_) (fun c2 => ?_)
      · replace h := zit c2 h
        exact EV.mask [true, true, false] rfl (hk101 l1 I h)
      · replace h := zif c2 h
        refine ev_aload_n dX12_text_35 rfl rfl ?_
        obtain ⟨p3, e4, h⟩ := zbd h
        refine ev_callV0 dX12_text_36 zm12_next zl_NineHeapsModel_176 zi12_next zv12_next (zrcM hS) (As := []) (rest := []) rfl rfl (Nat.le_of_ble_eq_true rfl) rfl (Nat.le_of_ble_eq_true rfl) (d' := 2) (by omega) (e12_next hw hS (Nat.le_refl _) e4) (fun v μ1 q => ?_)
        obtain ⟨rfl, rfl⟩ := q
        refine ev_aload_n dX12_text_39 rfl rfl ?_
        refine em_getI dX12_text_40 zf_NineHeapsModel_143 rfl (hS.has 81 (by decide) (by decide) rfl) rfl ?_
        refine ev_iconst dX12_text_43 (v := (3 : Int32)) zci_3 ?_
        obtain ⟨x7, e8, h⟩ := zld h
        have k16 : EV w d 0 0 Y12_text 60 [some (.ref 81), some (.int l1), some (.int l2)] [.int x7] (n, kd, p3, R) (q12_text n kd R r) := by
          refine ev_istore_n dX12_text_60 rfl (by decide) rfl ?_
          refine ev_aload_n dX12_text_61 rfl rfl ?_
          refine em_getA dX12_text_62 zf_NineHeapsModel_35 rfl (hS.has 81 (by decide) (by decide) rfl) hw rfl ?_
          refine ev_iconst dX12_text_65 (v := (4 : Int32)) zci_4 ?_
          refine ev_aload_n dX12_text_66 rfl rfl ?_
          refine em_getI dX12_text_67 zf_NineHeapsModel_124 rfl (hS.has 81 (by decide) (by decide) rfl) rfl ?_
          refine ev_imul dX12_text_70 rfl ?_
          refine ev_iload_n dX12_text_71 rfl rfl ?_
          refine ev_iadd dX12_text_72 rfl ?_
          refine ev_aload_n dX12_text_73 rfl rfl ?_
          refine em_getI dX12_text_74 zf_NineHeapsModel_153 rfl (hS.has 81 (by decide) (by decide) rfl) rfl ?_
          obtain ⟨g9, h⟩ := zgd h
          obtain ⟨J10, e11, h⟩ := zld h
          refine em_iast dX12_text_77 hS (by decide) (by decide) (N := 24) rfl g9 e11 ?_
          refine ev_iload_n dX12_text_78 rfl rfl ?_
          refine ev_if_eq dX12_text_79 (tgt := 93) (by decide) (fun c12 => ?_) (fun c12 => ?_)
          · replace h := zit c12 h
            exact EV.mask [true, false, true] rfl (e12_text_B93 hw hS hd (fun l1' l2' I' h' => ih l1' l2' I' h') l2 J10 h)
          · replace h := zif c12 h
            refine ev_aload_n dX12_text_82 rfl rfl ?_
            obtain ⟨p13, e14, h⟩ := zbd h
            refine ev_callV0 dX12_text_83 zm12_eRead zl_NineHeapsModel_189 zi12_eRead zv12_eRead (zrcM hS) (As := []) (rest := []) rfl rfl (Nat.le_of_ble_eq_true rfl) rfl (Nat.le_of_ble_eq_true rfl) (d' := 4) (by omega) (e12_eRead hw hS (Nat.le_refl _) e14) (fun v μ1 q => ?_)
            obtain ⟨rfl, rfl⟩ := q
            refine ev_if_eq dX12_text_86 (tgt := 93) (by decide) (fun c15 => ?_) (fun c15 => ?_)
            · replace h := zit c15 h
              exact EV.mask [true, false, true] rfl (e12_text_B93 hw hS hd (fun l1' l2' I' h' => ih l1' l2' I' h') l2 p13.2 h)
            · replace h := zif c15 h
              refine ev_iconst dX12_text_89 (v := (1 : Int32)) zci_1 ?_
              refine ev_goto dX12_text_90 (tgt := 94) (by decide) ?_
              exact EV.mask [true, false, true] rfl (e12_text_B94 hw hS hd (fun l1' l2' I' h' => ih l1' l2' I' h') l2 (1 : Int32) p13.2 h)
        clear h
        have h := e8
        clear e8
        refine ev_icmp_ne dX12_text_44 (tgt := 59) (by decide) (fun c5 => ?_) (fun c5 => ?_)
        · replace h := zif c5 h
          refine ev_iconst dX12_text_59 (v := (0 : Int32)) zci_0 ?_
          obtain rfl := h
          exact k16
        · replace h := zit c5 h
          refine ev_aload_n dX12_text_47 rfl rfl ?_
          refine em_getI dX12_text_48 zf_NineHeapsModel_146 rfl (hS.has 81 (by decide) (by decide) rfl) rfl ?_
          refine ev_iload_n dX12_text_51 rfl rfl ?_
          refine ev_icmp_ne dX12_text_52 (tgt := 59) (by decide) (fun c6 => ?_) (fun c6 => ?_)
          · replace h := zif c6 h
            refine ev_iconst dX12_text_59 (v := (0 : Int32)) zci_0 ?_
            obtain rfl := h
            exact k16
          · replace h := zit c6 h
            refine ev_iconst dX12_text_55 (v := (1 : Int32)) zci_1 ?_
            refine ev_goto dX12_text_56 (tgt := 60) (by decide) ?_
            obtain rfl := h
            exact k16
set_option maxHeartbeats 4000000 in
set_option maxRecDepth 100000 in
theorem e12_text_B122 {w : zW} {d : Nat} {n : Nat} {kd : zMK} {R : zMR} {r : Int32 × zMI}  (hw : zst w = zSt0) (hS : zSh n kd) (hd : 5 ≤ d)   : ∀ (l1 : Int32) (I : zMI), f12_text_B122 l1 I = some r → EV w d 0 0 Y12_text 122 [some (.ref 81), some (.int l1), none] [] (n, kd, I, R) (q12_text n kd R r) := by
  intro l1 I h
  unfold f12_text_B122 at h
  refine ev_aload_n dX12_text_122 rfl rfl ?_
  refine em_getA dX12_text_123 zf_NineHeapsModel_35 rfl (hS.has 81 (by decide) (by decide) rfl) hw rfl ?_
  refine ev_iconst dX12_text_126 (v := (4 : Int32)) zci_4 ?_
  refine ev_aload_n dX12_text_127 rfl rfl ?_
  refine em_getI dX12_text_128 zf_NineHeapsModel_124 rfl (hS.has 81 (by decide) (by decide) rfl) rfl ?_
  refine ev_imul dX12_text_131 rfl ?_
  refine ev_iconst dX12_text_132 (v := (3 : Int32)) zci_3 ?_
  refine ev_iadd dX12_text_133 rfl ?_
  refine ev_aload_n dX12_text_134 rfl rfl ?_
  refine em_getI dX12_text_135 zf_NineHeapsModel_153 rfl (hS.has 81 (by decide) (by decide) rfl) rfl ?_
  obtain ⟨g17, h⟩ := zgd h
  obtain ⟨J18, e19, h⟩ := zld h
  refine em_iast dX12_text_138 hS (by decide) (by decide) (N := 24) rfl g17 e19 ?_
  refine ev_aload_n dX12_text_139 rfl rfl ?_
  refine ev_iconst dX12_text_140 (v := (0 : Int32)) zci_0 ?_
  obtain ⟨J20, e21, h⟩ := zld h
  refine em_putI dX12_text_141 zf_NineHeapsModel_110 (Or.inl rfl) rfl rfl rfl (hS.has 81 (by decide) (by decide) rfl) e21 ?_
  refine ev_iload_n dX12_text_144 rfl rfl ?_
  refine ev_if_ne dX12_text_145 (tgt := 156) (by decide) (fun c22 => ?_) (fun c22 => ?_)
  · replace h := zif c22 h
    refine ev_aload_n dX12_text_156 rfl rfl ?_
    refine ev_dup dX12_text_157 rfl ?_
    refine em_getI dX12_text_158 zf_NineHeapsModel_124 rfl (hS.has 81 (by decide) (by decide) rfl) rfl ?_
    refine ev_iconst dX12_text_161 (v := (1 : Int32)) zci_1 ?_
    refine ev_iadd dX12_text_162 rfl ?_
    obtain ⟨J23, e24, h⟩ := zld h
    refine em_putI dX12_text_163 zf_NineHeapsModel_124 (Or.inl rfl) rfl rfl rfl (hS.has 81 (by decide) (by decide) rfl) e24 ?_
    refine ev_aload_n dX12_text_166 rfl rfl ?_
    refine em_getI dX12_text_167 zf_NineHeapsModel_124 rfl (hS.has 81 (by decide) (by decide) rfl) rfl ?_
    refine ev_iconst dX12_text_170 (v := (1 : Int32)) zci_1 ?_
    refine ev_isub dX12_text_171 rfl ?_
    obtain rfl := Option.some.inj h
    exact ev_end_i dX12_text_172 rfl rfl ⟨rfl, rfl⟩
  · replace h := zit c22 h
    refine ev_bipush dX12_text_148 (v := (-100 : Int32)) zcb_m100 ?_
    refine ev_aload_n dX12_text_150 rfl rfl ?_
    refine em_getI dX12_text_151 zf_NineHeapsModel_140 rfl (hS.has 81 (by decide) (by decide) rfl) rfl ?_
    refine ev_isub dX12_text_154 rfl ?_
    obtain rfl := Option.some.inj h
    exact ev_end_i dX12_text_155 rfl rfl ⟨rfl, rfl⟩
set_option maxHeartbeats 4000000 in
set_option maxRecDepth 100000 in
theorem e12_text_B101 {w : zW} {d : Nat} {n : Nat} {kd : zMK} {R : zMR} {r : Int32 × zMI}  (hw : zst w = zSt0) (hS : zSh n kd) (hd : 5 ≤ d)   : ∀ (l1 : Int32) (I : zMI), f12_text_B101 l1 I = some r → EV w d 0 0 Y12_text 101 [some (.ref 81), some (.int l1), none] [] (n, kd, I, R) (q12_text n kd R r) := by
  intro l1 I h
  unfold f12_text_B101 at h
  refine ev_iload_n dX12_text_101 rfl rfl ?_
  refine ev_if_eq dX12_text_102 (tgt := 122) (by decide) (fun c25 => ?_) (fun c25 => ?_)
  · replace h := zit c25 h
    exact EV.mask [true, true, false] rfl (e12_text_B122 hw hS hd l1 I h)
  · replace h := zif c25 h
    refine ev_aload_n dX12_text_105 rfl rfl ?_
    obtain ⟨p26, e27, h⟩ := zbd h
    refine ev_callV0 dX12_text_106 zm12_next zl_NineHeapsModel_176 zi12_next zv12_next (zrcM hS) (As := []) (rest := []) rfl rfl (Nat.le_of_ble_eq_true rfl) rfl (Nat.le_of_ble_eq_true rfl) (d' := 2) (by omega) (e12_next hw hS (Nat.le_refl _) e27) (fun v μ1 q => ?_)
    obtain ⟨rfl, rfl⟩ := q
    refine ev_aload_n dX12_text_109 rfl rfl ?_
    refine em_getI dX12_text_110 zf_NineHeapsModel_143 rfl (hS.has 81 (by decide) (by decide) rfl) rfl ?_
    obtain ⟨x29, e30, h⟩ := zld h
    have k31 : EV w d 0 0 Y12_text 121 [some (.ref 81), some (.int l1), none] [.int x29] (n, kd, p26, R) (q12_text n kd R r) := by
      refine ev_istore_n dX12_text_121 rfl (by decide) rfl ?_
      exact EV.mask [true, true, false] rfl (e12_text_B122 hw hS hd x29 p26 h)
    clear h
    have h := e30
    clear e30
    refine ev_if_ne dX12_text_113 (tgt := 120) (by decide) (fun c28 => ?_) (fun c28 => ?_)
    · replace h := zif c28 h
      refine ev_iconst dX12_text_120 (v := (0 : Int32)) zci_0 ?_
      obtain rfl := h
      exact k31
    · replace h := zit c28 h
      refine ev_iconst dX12_text_116 (v := (1 : Int32)) zci_1 ?_
      refine ev_goto dX12_text_117 (tgt := 121) (by decide) ?_
      obtain rfl := h
      exact k31
set_option maxHeartbeats 4000000 in
set_option maxRecDepth 100000 in
theorem e12_text {w : zW} {d : Nat} {n : Nat} {kd : zMK} {I : zMI} {R : zMR} {r : Int32 × zMI}  (hw : zst w = zSt0) (hS : zSh n kd) (hd : 5 ≤ d)  (h : f12_text I = some r) : EV w d 0 0 Y12_text 0 [some (.ref 81), none, none] [] (n, kd, I, R) (q12_text n kd R r) := by
  unfold f12_text at h
  refine ev_aload_n dX12_text_0 rfl rfl ?_
  refine em_getI dX12_text_1 zf_NineHeapsModel_124 rfl (hS.has 81 (by decide) (by decide) rfl) rfl ?_
  refine ev_bipush dX12_text_4 (v := (6 : Int32)) zcb_6 ?_
  refine ev_icmp_ne dX12_text_6 (tgt := 12) (by decide) (fun c32 => ?_) (fun c32 => ?_)
  · replace h := zif c32 h
    refine ev_aload_n dX12_text_12 rfl rfl ?_
    refine ev_iconst dX12_text_13 (v := (0 : Int32)) zci_0 ?_
    obtain ⟨J33, e34, h⟩ := zld h
    refine em_putI dX12_text_14 zf_NineHeapsModel_137 (Or.inl rfl) rfl rfl rfl (hS.has 81 (by decide) (by decide) rfl) e34 ?_
    refine ev_aload_n dX12_text_17 rfl rfl ?_
    refine ev_iconst dX12_text_18 (v := (0 : Int32)) zci_0 ?_
    obtain ⟨J35, e36, h⟩ := zld h
    refine em_putI dX12_text_19 zf_NineHeapsModel_153 (Or.inl rfl) rfl rfl rfl (hS.has 81 (by decide) (by decide) rfl) e36 ?_
    refine ev_iconst dX12_text_22 (v := (1 : Int32)) zci_1 ?_
    refine ev_istore_n dX12_text_23 rfl (by decide) rfl ?_
    refine ev_iconst dX12_text_24 (v := (0 : Int32)) zci_0 ?_
    refine ev_istore_n dX12_text_25 rfl (by decide) rfl ?_
    exact EV.mask [true, true, true] rfl (e12_text_L26 hw hS hd (fun l1' I' h' => e12_text_B101 hw hS hd l1' I' h') zF (1 : Int32) (0 : Int32) J35 h)
  · replace h := zit c32 h
    refine ev_bipush dX12_text_9 (v := (-4 : Int32)) zcb_m4 ?_
    obtain rfl := Option.some.inj h
    exact ev_end_i dX12_text_11 rfl rfl ⟨rfl, rfl⟩
abbrev q12_two (n : Nat) (kd : zMK) (I : zMI) (R : zMR) (r : Int32) : Option Value → zM → Prop := fun v μ1 => v = some (.int r) ∧ μ1 = (n, kd, I, R)
set_option maxHeartbeats 4000000 in
set_option maxRecDepth 100000 in
theorem e12_two {w : zW} {d : Nat} {n : Nat} {kd : zMK} {I : zMI} {R : zMR} {r : Int32} {l0 : Int32} {l1 : Int32} {l2 : Int32} (hw : zst w = zSt0) (hS : zSh n kd) (hd : 1 ≤ d)  (h : f12_two l0 l1 l2 = some r) : EV w d 0 0 Y12_two 0 [some (.int l0), some (.int l1), some (.int l2)] [] (n, kd, I, R) (q12_two n kd I R r) := by
  unfold f12_two at h
  refine ev_iload_n dX12_two_0 rfl rfl ?_
  by_cases c1 : l0 = (11 : Int32)
  · replace h := zit c1 h
    refine ev_tableIn dX12_two_1 (by rw [c1]; decide) (by rw [c1]; decide) (off := 43) (by rw [c1]; rfl) (tgt := 44) (by decide) ?_
    refine ev_iload_n dX12_two_44 rfl rfl ?_
    obtain ⟨x4, e5, h⟩ := zld h
    have k6 : EV w d 0 0 Y12_two 57 [some (.int l0), some (.int l1), some (.int l2)] [.int x4] (n, kd, I, R) (q12_two n kd I R r) := by
      obtain rfl := Option.some.inj h
      exact ev_end_i dX12_two_57 rfl rfl ⟨rfl, rfl⟩
    clear h
    have h := e5
    clear e5
    refine ev_if_ne dX12_two_45 (tgt := 52) (by decide) (fun c2 => ?_) (fun c2 => ?_)
    · replace h := zif c2 h
      refine ev_iconst dX12_two_52 (v := (1 : Int32)) zci_1 ?_
      refine ev_goto dX12_two_53 (tgt := 57) (by decide) ?_
      obtain rfl := h
      exact k6
    · replace h := zit c2 h
      refine ev_iload_n dX12_two_48 rfl rfl ?_
      refine ev_if_eq dX12_two_49 (tgt := 56) (by decide) (fun c3 => ?_) (fun c3 => ?_)
      · replace h := zit c3 h
        refine ev_iconst dX12_two_56 (v := (0 : Int32)) zci_0 ?_
        obtain rfl := h
        exact k6
      · replace h := zif c3 h
        refine ev_iconst dX12_two_52 (v := (1 : Int32)) zci_1 ?_
        refine ev_goto dX12_two_53 (tgt := 57) (by decide) ?_
        obtain rfl := h
        exact k6
  · replace h := zif c1 h
    by_cases c7 : l0 = (12 : Int32)
    · replace h := zit c7 h
      refine ev_tableIn dX12_two_1 (by rw [c7]; decide) (by rw [c7]; decide) (off := 57) (by rw [c7]; rfl) (tgt := 58) (by decide) ?_
      refine ev_iload_n dX12_two_58 rfl rfl ?_
      obtain ⟨x10, e11, h⟩ := zld h
      have k12 : EV w d 0 0 Y12_two 71 [some (.int l0), some (.int l1), some (.int l2)] [.int x10] (n, kd, I, R) (q12_two n kd I R r) := by
        obtain rfl := Option.some.inj h
        exact ev_end_i dX12_two_71 rfl rfl ⟨rfl, rfl⟩
      clear h
      have h := e11
      clear e11
      refine ev_if_eq dX12_two_59 (tgt := 70) (by decide) (fun c8 => ?_) (fun c8 => ?_)
      · replace h := zit c8 h
        refine ev_iconst dX12_two_70 (v := (0 : Int32)) zci_0 ?_
        obtain rfl := h
        exact k12
      · replace h := zif c8 h
        refine ev_iload_n dX12_two_62 rfl rfl ?_
        refine ev_if_eq dX12_two_63 (tgt := 70) (by decide) (fun c9 => ?_) (fun c9 => ?_)
        · replace h := zit c9 h
          refine ev_iconst dX12_two_70 (v := (0 : Int32)) zci_0 ?_
          obtain rfl := h
          exact k12
        · replace h := zif c9 h
          refine ev_iconst dX12_two_66 (v := (1 : Int32)) zci_1 ?_
          refine ev_goto dX12_two_67 (tgt := 71) (by decide) ?_
          obtain rfl := h
          exact k12
    · replace h := zif c7 h
      by_cases c13 : l0 = (14 : Int32)
      · replace h := zit c13 h
        refine ev_tableIn dX12_two_1 (by rw [c13]; decide) (by rw [c13]; decide) (off := 71) (by rw [c13]; rfl) (tgt := 72) (by decide) ?_
        refine ev_iload_n dX12_two_72 rfl rfl ?_
        refine ev_iload_n dX12_two_73 rfl rfl ?_
        obtain ⟨x15, e16, h⟩ := zld h
        have k17 : EV w d 0 0 Y12_two 82 [some (.int l0), some (.int l1), some (.int l2)] [.int x15] (n, kd, I, R) (q12_two n kd I R r) := by
          obtain rfl := Option.some.inj h
          exact ev_end_i dX12_two_82 rfl rfl ⟨rfl, rfl⟩
        clear h
        have h := e16
        clear e16
        refine ev_icmp_ge dX12_two_74 (tgt := 81) (by decide) (fun c14 => ?_) (fun c14 => ?_)
        · replace h := zit c14 h
          refine ev_iconst dX12_two_81 (v := (0 : Int32)) zci_0 ?_
          obtain rfl := h
          exact k17
        · replace h := zif c14 h
          refine ev_iconst dX12_two_77 (v := (1 : Int32)) zci_1 ?_
          refine ev_goto dX12_two_78 (tgt := 82) (by decide) ?_
          obtain rfl := h
          exact k17
      · replace h := zif c13 h
        by_cases c18 : l0 = (15 : Int32)
        · replace h := zit c18 h
          refine ev_tableIn dX12_two_1 (by rw [c18]; decide) (by rw [c18]; decide) (off := 82) (by rw [c18]; rfl) (tgt := 83) (by decide) ?_
          refine ev_iload_n dX12_two_83 rfl rfl ?_
          refine ev_iload_n dX12_two_84 rfl rfl ?_
          obtain ⟨x20, e21, h⟩ := zld h
          have k22 : EV w d 0 0 Y12_two 93 [some (.int l0), some (.int l1), some (.int l2)] [.int x20] (n, kd, I, R) (q12_two n kd I R r) := by
            obtain rfl := Option.some.inj h
            exact ev_end_i dX12_two_93 rfl rfl ⟨rfl, rfl⟩
          clear h
          have h := e21
          clear e21
          refine ev_icmp_ne dX12_two_85 (tgt := 92) (by decide) (fun c19 => ?_) (fun c19 => ?_)
          · replace h := zif c19 h
            refine ev_iconst dX12_two_92 (v := (0 : Int32)) zci_0 ?_
            obtain rfl := h
            exact k22
          · replace h := zit c19 h
            refine ev_iconst dX12_two_88 (v := (1 : Int32)) zci_1 ?_
            refine ev_goto dX12_two_89 (tgt := 93) (by decide) ?_
            obtain rfl := h
            exact k22
        · replace h := zif c18 h
          by_cases c23 : l0 = (16 : Int32)
          · replace h := zit c23 h
            refine ev_tableIn dX12_two_1 (by rw [c23]; decide) (by rw [c23]; decide) (off := 93) (by rw [c23]; rfl) (tgt := 94) (by decide) ?_
            refine ev_iload_n dX12_two_94 rfl rfl ?_
            refine ev_iload_n dX12_two_95 rfl rfl ?_
            refine ev_iadd dX12_two_96 rfl ?_
            obtain rfl := Option.some.inj h
            exact ev_end_i dX12_two_97 rfl rfl ⟨rfl, rfl⟩
          · replace h := zif c23 h
            by_cases c24 : l0 = (17 : Int32)
            · replace h := zit c24 h
              refine ev_tableIn dX12_two_1 (by rw [c24]; decide) (by rw [c24]; decide) (off := 97) (by rw [c24]; rfl) (tgt := 98) (by decide) ?_
              refine ev_iload_n dX12_two_98 rfl rfl ?_
              refine ev_iload_n dX12_two_99 rfl rfl ?_
              refine ev_isub dX12_two_100 rfl ?_
              obtain rfl := Option.some.inj h
              exact ev_end_i dX12_two_101 rfl rfl ⟨rfl, rfl⟩
            · replace h := zif c24 h
              refine ev_tableD dX12_two_1 ?_ (tgt := 102) (by decide) ?_
              · have q0 := lv_neT c1 (a := 11) (by decide)
                have q1 := lv_neT c7 (a := 12) (by decide)
                have q2 := lv_neT c13 (a := 14) (by decide)
                have q3 := lv_neT c18 (a := 15) (by decide)
                have q4 := lv_neT c23 (a := 16) (by decide)
                have q5 := lv_neT c24 (a := 17) (by decide)
                rcases (show l0.toInt < 11 ∨ 17 < l0.toInt ∨ l0.toInt = 13 by omega) with q | q | q
                · exact Or.inl q
                · exact Or.inr (Or.inl q)
                · rw [q]; exact Or.inr (Or.inr rfl)
              refine ev_iload_n dX12_two_102 rfl rfl ?_
              refine ev_iload_n dX12_two_103 rfl rfl ?_
              refine ev_imul dX12_two_104 rfl ?_
              obtain rfl := Option.some.inj h
              exact ev_end_i dX12_two_105 rfl rfl ⟨rfl, rfl⟩
abbrev q12_says (n : Nat) (kd : zMK) (R : zMR) (r : Int32 × zMI) : Option Value → zM → Prop := fun v μ1 => v = some (.int r.1) ∧ μ1 = (n, kd, r.2, R)
set_option maxHeartbeats 4000000 in
set_option maxRecDepth 100000 in
theorem e12_says_B191 {w : zW} {d : Nat} {n : Nat} {kd : zMK} {R : zMR} {r : Int32 × zMI} {k16 : Int32 → Int32 → Int32 → zMI → Option (Int32 × zMI)} (hw : zst w = zSt0) (hS : zSh n kd) (hd : 2 ≤ d)  (hk16 : ∀ (l1 : Int32) (l2 : Int32) (l3 : Int32) (I : zMI), k16 l1 l2 l3 I = some r → EV w d 0 0 Y12_says 16 [some (.ref 81), some (.int l1), some (.int l2), some (.int l3), none] [] (n, kd, I, R) (q12_says n kd R r)) : ∀ (l1 : Int32) (l2 : Int32) (l3 : Int32) (I : zMI), f12_says_B191 k16 l1 l2 l3 I = some r → EV w d 0 0 Y12_says 191 [some (.ref 81), some (.int l1), some (.int l2), some (.int l3), none] [] (n, kd, I, R) (q12_says n kd R r) := by
  intro l1 l2 l3 I h
  unfold f12_says_B191 at h
  refine ev_iinc dX12_says_191 (v := l3 + (1 : Int32)) rfl rfl (by decide) rfl ?_
  refine ev_goto dX12_says_194 (tgt := 16) (by decide) ?_
  exact EV.mask [true, true, true, true, false] rfl (hk16 l1 l2 (l3 + (1 : Int32)) I h)
set_option maxHeartbeats 4000000 in
set_option maxRecDepth 100000 in
theorem e12_says_B93 {w : zW} {d : Nat} {n : Nat} {kd : zMK} {R : zMR} {r : Int32 × zMI} {k16 : Int32 → Int32 → Int32 → zMI → Option (Int32 × zMI)} (hw : zst w = zSt0) (hS : zSh n kd) (hd : 2 ≤ d)  (hk16 : ∀ (l1 : Int32) (l2 : Int32) (l3 : Int32) (I : zMI), k16 l1 l2 l3 I = some r → EV w d 0 0 Y12_says 16 [some (.ref 81), some (.int l1), some (.int l2), some (.int l3), none] [] (n, kd, I, R) (q12_says n kd R r)) : ∀ (l1 : Int32) (l2 : Int32) (l3 : Int32) (s1 : Int32) (s2 : Int32) (I : zMI), f12_says_B93 k16 l1 l2 l3 s1 s2 I = some r → EV w d 0 0 Y12_says 93 [some (.ref 81), some (.int l1), some (.int l2), some (.int l3), none] [.int s2, .int s1, .ref 97] (n, kd, I, R) (q12_says n kd R r) := by
  intro l1 l2 l3 s1 s2 I h
  unfold f12_says_B93 at h
  obtain ⟨g1, h⟩ := zgd h
  obtain ⟨J2, e3, h⟩ := zld h
  refine em_iast dX12_says_93 hS (by decide) (by decide) (N := 200) rfl g1 e3 ?_
  refine ev_iinc dX12_says_94 (v := l2 + (1 : Int32)) rfl rfl (by decide) rfl ?_
  refine ev_goto dX12_says_97 (tgt := 191) (by decide) ?_
  exact EV.mask [true, true, true, true, false] rfl (e12_says_B191 hw hS hd hk16 l1 (l2 + (1 : Int32)) l3 J2 h)
set_option maxHeartbeats 4000000 in
set_option maxRecDepth 100000 in
theorem e12_says_B66 {w : zW} {d : Nat} {n : Nat} {kd : zMK} {R : zMR} {r : Int32 × zMI} {k16 : Int32 → Int32 → Int32 → zMI → Option (Int32 × zMI)} (hw : zst w = zSt0) (hS : zSh n kd) (hd : 2 ≤ d)  (hk16 : ∀ (l1 : Int32) (l2 : Int32) (l3 : Int32) (I : zMI), k16 l1 l2 l3 I = some r → EV w d 0 0 Y12_says 16 [some (.ref 81), some (.int l1), some (.int l2), some (.int l3), none] [] (n, kd, I, R) (q12_says n kd R r)) : ∀ (l1 : Int32) (l2 : Int32) (l3 : Int32) (l4 : Int32) (I : zMI), f12_says_B66 k16 l1 l2 l3 l4 I = some r → EV w d 0 0 Y12_says 66 [some (.ref 81), some (.int l1), some (.int l2), some (.int l3), some (.int l4)] [] (n, kd, I, R) (q12_says n kd R r) := by
  intro l1 l2 l3 l4 I h
  unfold f12_says_B66 at h
  refine ev_aload_n dX12_says_66 rfl rfl ?_
  refine em_getA dX12_says_67 zf_NineHeapsModel_59 rfl (hS.has 81 (by decide) (by decide) rfl) hw rfl ?_
  refine ev_iload_n dX12_says_70 rfl rfl ?_
  refine ev_iload dX12_says_71 rfl ?_
  refine ev_bipush dX12_says_73 (v := (11 : Int32)) zcb_11 ?_
  refine ev_icmp_ge dX12_says_75 (tgt := 88) (by decide) (fun c4 => ?_) (fun c4 => ?_)
  · replace h := zit c4 h
    refine ev_iload dX12_says_88 rfl ?_
    refine ev_ldc dX12_says_90 zk_NineHeapsModel_179 ?_
    refine ev_isub dX12_says_92 rfl ?_
    exact EV.mask [true, true, true, true, false] rfl (e12_says_B93 hw hS hd hk16 l1 l2 l3 l2 (l4 - (100000 : Int32)) I h)
  · replace h := zif c4 h
    refine ev_aload_n dX12_says_78 rfl rfl ?_
    refine em_getA dX12_says_79 zf_NineHeapsModel_62 rfl (hS.has 81 (by decide) (by decide) rfl) hw rfl ?_
    refine ev_iload dX12_says_82 rfl ?_
    obtain ⟨g5, h⟩ := zgd h
    refine em_iald dX12_says_84 hS (by decide) (by decide) (N := 6) rfl g5 rfl ?_
    refine ev_goto dX12_says_85 (tgt := 93) (by decide) ?_
    exact EV.mask [true, true, true, true, false] rfl (e12_says_B93 hw hS hd hk16 l1 l2 l3 l2 (I 98 l4.toNatClampNeg) I h)
set_option maxHeartbeats 4000000 in
set_option maxRecDepth 100000 in
theorem e12_says_L16 {w : zW} {d : Nat} {n : Nat} {kd : zMK} {R : zMR} {r : Int32 × zMI}  (hw : zst w = zSt0) (hS : zSh n kd) (hd : 2 ≤ d)   : ∀ (q : Nat) (l1 : Int32) (l2 : Int32) (l3 : Int32) (I : zMI), f12_says_L16  q l1 l2 l3 I = some r → EV w d 0 0 Y12_says 16 [some (.ref 81), some (.int l1), some (.int l2), some (.int l3), none] [] (n, kd, I, R) (q12_says n kd R r) := by
  intro q
  induction q with
  | zero =>
    intro l1 l2 l3 I h
    cases h
  | succ q ih =>
    intro l1 l2 l3 I h
    unfold f12_says_L16 at h
    refine ev_iload_n dX12_says_16 rfl rfl ?_
    refine ev_aload_n dX12_says_17 rfl rfl ?_
    refine em_getA dX12_says_18 zf_NineHeapsModel_35 rfl (hS.has 81 (by decide) (by decide) rfl) hw rfl ?_
    refine ev_iconst dX12_says_21 (v := (4 : Int32)) zci_4 ?_
    refine ev_aload_n dX12_says_22 rfl rfl ?_
    refine em_getI dX12_says_23 zf_NineHeapsModel_127 rfl (hS.has 81 (by decide) (by decide) rfl) rfl ?_
    refine ev_imul dX12_says_26 rfl ?_
    refine ev_iload_n dX12_says_27 rfl rfl ?_
    refine ev_iadd dX12_says_28 rfl ?_
    refine ev_iconst dX12_says_29 (v := (1 : Int32)) zci_1 ?_
    refine ev_iadd dX12_says_30 rfl ?_
    obtain ⟨g6, h⟩ := zgd h
    refine em_iald dX12_says_31 hS (by decide) (by decide) (N := 24) rfl g6 rfl ?_
    refine ev_icmp_ge dX12_says_32 (tgt := 197) (by decide) (fun c7 => ?_) (fun c7 => ?_)
    · replace h := zit c7 h
      refine ev_aload_n dX12_says_197 rfl rfl ?_
      refine em_getA dX12_says_198 zf_NineHeapsModel_59 rfl (hS.has 81 (by decide) (by decide) rfl) hw rfl ?_
      refine ev_iconst dX12_says_201 (v := (0 : Int32)) zci_0 ?_
      obtain ⟨g8, h⟩ := zgd h
      refine em_iald dX12_says_202 hS (by decide) (by decide) (N := 200) rfl g8 rfl ?_
      obtain rfl := Option.some.inj h
      exact ev_end_i dX12_says_203 rfl rfl ⟨rfl, rfl⟩
    · replace h := zif c7 h
      refine ev_aload_n dX12_says_35 rfl rfl ?_
      refine em_getA dX12_says_36 zf_NineHeapsModel_32 rfl (hS.has 81 (by decide) (by decide) rfl) hw rfl ?_
      refine ev_sipush dX12_says_39 (v := (200 : Int32)) zcs_200 ?_
      refine ev_aload_n dX12_says_42 rfl rfl ?_
      refine em_getI dX12_says_43 zf_NineHeapsModel_127 rfl (hS.has 81 (by decide) (by decide) rfl) rfl ?_
      refine ev_imul dX12_says_46 rfl ?_
      refine ev_iload_n dX12_says_47 rfl rfl ?_
      refine ev_iadd dX12_says_48 rfl ?_
      obtain ⟨g9, h⟩ := zgd h
      refine em_iald dX12_says_49 hS (by decide) (by decide) (N := 1200) rfl g9 rfl ?_
      obtain ⟨x10, e11, h⟩ := zld h
      refine ev_nm e11 ?_
      refine ev_istore dX12_says_50 (by decide) rfl ?_
      refine ev_iload dX12_says_52 rfl ?_
      refine ev_ldc dX12_says_54 zk_NineHeapsModel_179 ?_
      refine ev_icmp_ge dX12_says_56 (tgt := 66) (by decide) (fun c12 => ?_) (fun c12 => ?_)
      · replace h := zit c12 h
        exact EV.mask [true, true, true, true, true] rfl (e12_says_B66 hw hS hd (fun l1' l2' l3' I' h' => ih l1' l2' l3' I' h') l1 l2 l3 x10 I h)
      · replace h := zif c12 h
        refine ev_iload dX12_says_59 rfl ?_
        refine ev_bipush dX12_says_61 (v := (11 : Int32)) zcb_11 ?_
        refine ev_icmp_ge dX12_says_63 (tgt := 100) (by decide) (fun c13 => ?_) (fun c13 => ?_)
        · replace h := zit c13 h
          refine ev_iload dX12_says_100 rfl ?_
          refine ev_bipush dX12_says_102 (v := (13 : Int32)) zcb_13 ?_
          refine ev_icmp_ne dX12_says_104 (tgt := 134) (by decide) (fun c14 => ?_) (fun c14 => ?_)
          · replace h := zif c14 h
            refine ev_iload dX12_says_134 rfl ?_
            refine ev_bipush dX12_says_136 (v := (19 : Int32)) zcb_19 ?_
            refine ev_icmp_ne dX12_says_138 (tgt := 161) (by decide) (fun c15 => ?_) (fun c15 => ?_)
            · replace h := zif c15 h
              refine ev_iinc dX12_says_161 (v := l2 + (-1 : Int32)) rfl rfl (by decide) rfl ?_
              refine ev_aload_n dX12_says_164 rfl rfl ?_
              refine em_getA dX12_says_165 zf_NineHeapsModel_59 rfl (hS.has 81 (by decide) (by decide) rfl) hw rfl ?_
              refine ev_iload_n dX12_says_168 rfl rfl ?_
              refine ev_iconst dX12_says_169 (v := (1 : Int32)) zci_1 ?_
              refine ev_isub dX12_says_170 rfl ?_
              refine ev_iload dX12_says_171 rfl ?_
              refine ev_aload_n dX12_says_173 rfl rfl ?_
              refine em_getA dX12_says_174 zf_NineHeapsModel_59 rfl (hS.has 81 (by decide) (by decide) rfl) hw rfl ?_
              refine ev_iload_n dX12_says_177 rfl rfl ?_
              refine ev_iconst dX12_says_178 (v := (1 : Int32)) zci_1 ?_
              refine ev_isub dX12_says_179 rfl ?_
              obtain ⟨g16, h⟩ := zgd h
              refine em_iald dX12_says_180 hS (by decide) (by decide) (N := 200) rfl g16 rfl ?_
              refine ev_aload_n dX12_says_181 rfl rfl ?_
              refine em_getA dX12_says_182 zf_NineHeapsModel_59 rfl (hS.has 81 (by decide) (by decide) rfl) hw rfl ?_
              refine ev_iload_n dX12_says_185 rfl rfl ?_
              obtain ⟨g17, h⟩ := zgd h
              refine em_iald dX12_says_186 hS (by decide) (by decide) (N := 200) rfl g17 rfl ?_
              obtain ⟨p18, e19, h⟩ := zbd h
              refine ev_callS0 dX12_says_187 zm12_two zl_NineHeapsModel_193 zs12_two (As := [.int x10, .int (I 97 ((l2 + (-1 : Int32)) - (1 : Int32)).toNatClampNeg), .int (I 97 (l2 + (-1 : Int32)).toNatClampNeg)]) (rest := [.int ((l2 + (-1 : Int32)) - (1 : Int32)), .ref 97]) rfl rfl (Nat.le_of_ble_eq_true rfl) rfl (Nat.le_of_ble_eq_true rfl) (d' := 1) (by omega) (e12_two hw hS (Nat.le_refl _) e19) (fun v μ1 q => ?_)
              obtain ⟨rfl, rfl⟩ := q
              obtain ⟨J20, e21, h⟩ := zld h
              refine em_iast dX12_says_190 hS (by decide) (by decide) (N := 200) rfl g16 e21 ?_
              exact EV.mask [true, true, true, true, false] rfl (e12_says_B191 hw hS hd (fun l1' l2' l3' I' h' => ih l1' l2' l3' I' h') l1 (l2 + (-1 : Int32)) l3 J20 h)
            · replace h := zit c15 h
              refine ev_aload_n dX12_says_141 rfl rfl ?_
              refine em_getA dX12_says_142 zf_NineHeapsModel_59 rfl (hS.has 81 (by decide) (by decide) rfl) hw rfl ?_
              refine ev_iload_n dX12_says_145 rfl rfl ?_
              refine ev_iconst dX12_says_146 (v := (1 : Int32)) zci_1 ?_
              refine ev_isub dX12_says_147 rfl ?_
              refine ev_aload_n dX12_says_148 rfl rfl ?_
              refine em_getA dX12_says_149 zf_NineHeapsModel_59 rfl (hS.has 81 (by decide) (by decide) rfl) hw rfl ?_
              refine ev_iload_n dX12_says_152 rfl rfl ?_
              refine ev_iconst dX12_says_153 (v := (1 : Int32)) zci_1 ?_
              refine ev_isub dX12_says_154 rfl ?_
              obtain ⟨g22, h⟩ := zgd h
              refine em_iald dX12_says_155 hS (by decide) (by decide) (N := 200) rfl g22 rfl ?_
              refine ev_ineg dX12_says_156 rfl ?_
              obtain ⟨J23, e24, h⟩ := zld h
              refine em_iast dX12_says_157 hS (by decide) (by decide) (N := 200) rfl g22 e24 ?_
              refine ev_goto dX12_says_158 (tgt := 191) (by decide) ?_
              exact EV.mask [true, true, true, true, false] rfl (e12_says_B191 hw hS hd (fun l1' l2' l3' I' h' => ih l1' l2' l3' I' h') l1 l2 l3 J23 h)
          · replace h := zit c14 h
            refine ev_aload_n dX12_says_107 rfl rfl ?_
            refine em_getA dX12_says_108 zf_NineHeapsModel_59 rfl (hS.has 81 (by decide) (by decide) rfl) hw rfl ?_
            refine ev_iload_n dX12_says_111 rfl rfl ?_
            refine ev_iconst dX12_says_112 (v := (1 : Int32)) zci_1 ?_
            refine ev_isub dX12_says_113 rfl ?_
            refine ev_aload_n dX12_says_114 rfl rfl ?_
            refine em_getA dX12_says_115 zf_NineHeapsModel_59 rfl (hS.has 81 (by decide) (by decide) rfl) hw rfl ?_
            refine ev_iload_n dX12_says_118 rfl rfl ?_
            refine ev_iconst dX12_says_119 (v := (1 : Int32)) zci_1 ?_
            refine ev_isub dX12_says_120 rfl ?_
            obtain ⟨g25, h⟩ := zgd h
            refine em_iald dX12_says_121 hS (by decide) (by decide) (N := 200) rfl g25 rfl ?_
            obtain ⟨x27, e28, h⟩ := zld h
            have k31 : EV w d 0 0 Y12_says 130 [some (.ref 81), some (.int l1), some (.int l2), some (.int l3), some (.int x10)] [.int x27, .int (l2 - (1 : Int32)), .ref 97] (n, kd, I, R) (q12_says n kd R r) := by
              obtain ⟨J29, e30, h⟩ := zld h
              refine em_iast dX12_says_130 hS (by decide) (by decide) (N := 200) rfl g25 e30 ?_
              refine ev_goto dX12_says_131 (tgt := 191) (by decide) ?_
              exact EV.mask [true, true, true, true, false] rfl (e12_says_B191 hw hS hd (fun l1' l2' l3' I' h' => ih l1' l2' l3' I' h') l1 l2 l3 J29 h)
            clear h
            have h := e28
            clear e28
            refine ev_if_ne dX12_says_122 (tgt := 129) (by decide) (fun c26 => ?_) (fun c26 => ?_)
            · replace h := zif c26 h
              refine ev_iconst dX12_says_129 (v := (0 : Int32)) zci_0 ?_
              obtain rfl := h
              exact k31
            · replace h := zit c26 h
              refine ev_iconst dX12_says_125 (v := (1 : Int32)) zci_1 ?_
              refine ev_goto dX12_says_126 (tgt := 130) (by decide) ?_
              obtain rfl := h
              exact k31
        · replace h := zif c13 h
          exact EV.mask [true, true, true, true, true] rfl (e12_says_B66 hw hS hd (fun l1' l2' l3' I' h' => ih l1' l2' l3' I' h') l1 l2 l3 x10 I h)
set_option maxHeartbeats 4000000 in
set_option maxRecDepth 100000 in
theorem e12_says {w : zW} {d : Nat} {n : Nat} {kd : zMK} {I : zMI} {R : zMR} {r : Int32 × zMI} {l1 : Int32} (hw : zst w = zSt0) (hS : zSh n kd) (hd : 2 ≤ d)  (h : f12_says l1 I = some r) : EV w d 0 0 Y12_says 0 [some (.ref 81), some (.int l1), none, none, none] [] (n, kd, I, R) (q12_says n kd R r) := by
  unfold f12_says at h
  refine ev_iconst dX12_says_0 (v := (0 : Int32)) zci_0 ?_
  refine ev_istore_n dX12_says_1 rfl (by decide) rfl ?_
  refine ev_aload_n dX12_says_2 rfl rfl ?_
  refine em_getA dX12_says_3 zf_NineHeapsModel_35 rfl (hS.has 81 (by decide) (by decide) rfl) hw rfl ?_
  refine ev_iconst dX12_says_6 (v := (4 : Int32)) zci_4 ?_
  refine ev_aload_n dX12_says_7 rfl rfl ?_
  refine em_getI dX12_says_8 zf_NineHeapsModel_127 rfl (hS.has 81 (by decide) (by decide) rfl) rfl ?_
  refine ev_imul dX12_says_11 rfl ?_
  refine ev_iload_n dX12_says_12 rfl rfl ?_
  refine ev_iadd dX12_says_13 rfl ?_
  obtain ⟨g32, h⟩ := zgd h
  refine em_iald dX12_says_14 hS (by decide) (by decide) (N := 24) rfl g32 rfl ?_
  obtain ⟨x33, e34, h⟩ := zld h
  refine ev_nm e34 ?_
  refine ev_istore_n dX12_says_15 rfl (by decide) rfl ?_
  exact EV.mask [true, true, true, true, false] rfl (e12_says_L16 hw hS hd zF l1 (0 : Int32) x33 I h)
abbrev q12_force (n : Nat) (kd : zMK) (R : zMR) (r : Int32 × zMI) : Option Value → zM → Prop := fun v μ1 => v = some (.int r.1) ∧ μ1 = (n, kd, r.2, R)
set_option maxHeartbeats 4000000 in
set_option maxRecDepth 100000 in
theorem e12_force {w : zW} {d : Nat} {n : Nat} {kd : zMK} {I : zMI} {R : zMR} {r : Int32 × zMI} {l1 : Int32} (hw : zst w = zSt0) (hS : zSh n kd) (hd : 2 ≤ d)  (h : f12_force l1 I = some r) : EV w d 0 0 Y12_force 0 [some (.ref 81), some (.int l1), none] [] (n, kd, I, R) (q12_force n kd R r) := by
  unfold f12_force at h
  refine ev_iload_n dX12_force_0 rfl rfl ?_
  refine ev_iconst dX12_force_1 (v := (0 : Int32)) zci_0 ?_
  refine ev_aload_n dX12_force_2 rfl rfl ?_
  refine em_getI dX12_force_3 zf_NineHeapsModel_124 rfl (hS.has 81 (by decide) (by decide) rfl) rfl ?_
  refine ev_iconst dX12_force_6 (v := (1 : Int32)) zci_1 ?_
  refine ev_isub dX12_force_7 rfl ?_
  obtain ⟨p1, e2, h⟩ := zbd h
  refine ev_callS0 dX12_force_8 zm12_in zl_NineHeapsModel_120 zs12_in (As := [.int l1, .int (0 : Int32), .int ((I 81 11) - (1 : Int32))]) (rest := []) rfl rfl (Nat.le_of_ble_eq_true rfl) rfl (Nat.le_of_ble_eq_true rfl) (d' := 1) (by omega) (e12_in hw hS (Nat.le_refl _) e2) (fun v μ1 q => ?_)
  obtain ⟨rfl, rfl⟩ := q
  refine ev_if_ne dX12_force_11 (tgt := 17) (by decide) (fun c3 => ?_) (fun c3 => ?_)
  · replace h := zif c3 h
    refine ev_aload_n dX12_force_17 rfl rfl ?_
    refine em_getI dX12_force_18 zf_NineHeapsModel_127 rfl (hS.has 81 (by decide) (by decide) rfl) rfl ?_
    refine ev_istore_n dX12_force_21 rfl (by decide) rfl ?_
    refine ev_aload_n dX12_force_22 rfl rfl ?_
    refine ev_iload_n dX12_force_23 rfl rfl ?_
    obtain ⟨J4, e5, h⟩ := zld h
    refine em_putI dX12_force_24 zf_NineHeapsModel_127 (Or.inl rfl) rfl rfl rfl (hS.has 81 (by decide) (by decide) rfl) e5 ?_
    refine ev_iload_n dX12_force_27 rfl rfl ?_
    obtain rfl := Option.some.inj h
    exact ev_end_i dX12_force_28 rfl rfl ⟨rfl, rfl⟩
  · replace h := zit c3 h
    refine ev_bipush dX12_force_14 (v := (-2 : Int32)) zcb_m2 ?_
    obtain rfl := Option.some.inj h
    exact ev_end_i dX12_force_16 rfl rfl ⟨rfl, rfl⟩
abbrev q12_asksOf (n : Nat) (kd : zMK) (R : zMR) (r : Int32 × zMI) : Option Value → zM → Prop := fun v μ1 => v = some (.int r.1) ∧ μ1 = (n, kd, r.2, R)
set_option maxHeartbeats 4000000 in
set_option maxRecDepth 100000 in
theorem e12_asksOf {w : zW} {d : Nat} {n : Nat} {kd : zMK} {I : zMI} {R : zMR} {r : Int32 × zMI} {l1 : Int32} {l2 : Int32} {l3 : Int32} {l4 : Int32} {l5 : Int32} (hw : zst w = zSt0) (hS : zSh n kd) (hd : 3 ≤ d)  (h : f12_asksOf l1 l2 l3 l4 l5 I = some r) : EV w d 0 0 Y12_asksOf 0 [some (.ref 81), some (.int l1), some (.int l2), some (.int l3), some (.int l4), some (.int l5)] [] (n, kd, I, R) (q12_asksOf n kd R r) := by
  unfold f12_asksOf at h
  refine ev_aload_n dX12_asksOf_0 rfl rfl ?_
  refine em_getA dX12_asksOf_1 zf_NineHeapsModel_62 rfl (hS.has 81 (by decide) (by decide) rfl) hw rfl ?_
  refine ev_iconst dX12_asksOf_4 (v := (0 : Int32)) zci_0 ?_
  refine ev_iload_n dX12_asksOf_5 rfl rfl ?_
  obtain ⟨g1, h⟩ := zgd h
  obtain ⟨J2, e3, h⟩ := zld h
  refine em_iast dX12_asksOf_6 hS (by decide) (by decide) (N := 6) rfl g1 e3 ?_
  refine ev_aload_n dX12_asksOf_7 rfl rfl ?_
  refine em_getA dX12_asksOf_8 zf_NineHeapsModel_62 rfl (hS.has 81 (by decide) (by decide) rfl) hw rfl ?_
  refine ev_iconst dX12_asksOf_11 (v := (1 : Int32)) zci_1 ?_
  refine ev_iload dX12_asksOf_12 rfl ?_
  obtain ⟨g4, h⟩ := zgd h
  obtain ⟨J5, e6, h⟩ := zld h
  refine em_iast dX12_asksOf_14 hS (by decide) (by decide) (N := 6) rfl g4 e6 ?_
  refine ev_aload_n dX12_asksOf_15 rfl rfl ?_
  refine em_getA dX12_asksOf_16 zf_NineHeapsModel_62 rfl (hS.has 81 (by decide) (by decide) rfl) hw rfl ?_
  refine ev_iconst dX12_asksOf_19 (v := (2 : Int32)) zci_2 ?_
  refine ev_aload_n dX12_asksOf_20 rfl rfl ?_
  refine em_getA dX12_asksOf_21 zf_NineHeapsModel_23 rfl (hS.has 81 (by decide) (by decide) rfl) hw rfl ?_
  refine ev_iload dX12_asksOf_24 rfl ?_
  obtain ⟨g7, h⟩ := zgd h
  refine em_iald dX12_asksOf_26 hS (by decide) (by decide) (N := 5) rfl g7 rfl ?_
  obtain ⟨g8, h⟩ := zgd h
  obtain ⟨J9, e10, h⟩ := zld h
  refine em_iast dX12_asksOf_27 hS (by decide) (by decide) (N := 6) rfl g8 e10 ?_
  refine ev_aload_n dX12_asksOf_28 rfl rfl ?_
  refine em_getA dX12_asksOf_29 zf_NineHeapsModel_62 rfl (hS.has 81 (by decide) (by decide) rfl) hw rfl ?_
  refine ev_iconst dX12_asksOf_32 (v := (3 : Int32)) zci_3 ?_
  refine ev_iload_n dX12_asksOf_33 rfl rfl ?_
  obtain ⟨g11, h⟩ := zgd h
  obtain ⟨J12, e13, h⟩ := zld h
  refine em_iast dX12_asksOf_34 hS (by decide) (by decide) (N := 6) rfl g11 e13 ?_
  refine ev_aload_n dX12_asksOf_35 rfl rfl ?_
  refine em_getA dX12_asksOf_36 zf_NineHeapsModel_62 rfl (hS.has 81 (by decide) (by decide) rfl) hw rfl ?_
  refine ev_iconst dX12_asksOf_39 (v := (4 : Int32)) zci_4 ?_
  refine ev_iload dX12_asksOf_40 rfl ?_
  obtain ⟨g14, h⟩ := zgd h
  obtain ⟨J15, e16, h⟩ := zld h
  refine em_iast dX12_asksOf_42 hS (by decide) (by decide) (N := 6) rfl g14 e16 ?_
  refine ev_aload_n dX12_asksOf_43 rfl rfl ?_
  refine em_getA dX12_asksOf_44 zf_NineHeapsModel_62 rfl (hS.has 81 (by decide) (by decide) rfl) hw rfl ?_
  refine ev_iconst dX12_asksOf_47 (v := (5 : Int32)) zci_5 ?_
  refine ev_aload_n dX12_asksOf_48 rfl rfl ?_
  refine em_getI dX12_asksOf_49 zf_NineHeapsModel_117 rfl (hS.has 81 (by decide) (by decide) rfl) rfl ?_
  obtain ⟨g17, h⟩ := zgd h
  obtain ⟨J18, e19, h⟩ := zld h
  refine em_iast dX12_asksOf_52 hS (by decide) (by decide) (N := 6) rfl g17 e19 ?_
  refine ev_aload_n dX12_asksOf_53 rfl rfl ?_
  refine ev_iload_n dX12_asksOf_54 rfl rfl ?_
  obtain ⟨p20, e21, h⟩ := zbd h
  refine ev_callV0 dX12_asksOf_55 zm12_says zl_NineHeapsModel_197 zi12_says zv12_says (zrcM hS) (As := [.int l1]) (rest := []) rfl rfl (Nat.le_of_ble_eq_true rfl) rfl (Nat.le_of_ble_eq_true rfl) (d' := 2) (by omega) (e12_says hw hS (Nat.le_refl _) e21) (fun v μ1 q => ?_)
  obtain ⟨rfl, rfl⟩ := q
  refine ev_iload_n dX12_asksOf_58 rfl rfl ?_
  refine ev_iconst dX12_asksOf_59 (v := (2 : Int32)) zci_2 ?_
  obtain ⟨x23, e24, h⟩ := zld h
  have k31 : EV w d 0 0 Y12_asksOf 68 [some (.ref 81), some (.int l1), some (.int l2), some (.int l3), some (.int l4), some (.int l5)] [.int x23, .int p20.1] (n, kd, p20.2, R) (q12_asksOf n kd R r) := by
    refine ev_iload_n dX12_asksOf_68 rfl rfl ?_
    refine ev_iconst dX12_asksOf_69 (v := (2 : Int32)) zci_2 ?_
    obtain ⟨x26, e27, h⟩ := zld h
    have k30 : EV w d 0 0 Y12_asksOf 80 [some (.ref 81), some (.int l1), some (.int l2), some (.int l3), some (.int l4), some (.int l5)] [.int x26, .int x23, .int p20.1] (n, kd, p20.2, R) (q12_asksOf n kd R r) := by
      obtain ⟨p28, e29, h⟩ := zbd h
      refine ev_callS0 dX12_asksOf_80 zm12_within zl_NineHeapsModel_200 zs12_within (As := [.int p20.1, .int x23, .int x26]) (rest := []) rfl rfl (Nat.le_of_ble_eq_true rfl) rfl (Nat.le_of_ble_eq_true rfl) (d' := 1) (by omega) (e12_within hw hS (Nat.le_refl _) e29) (fun v μ1 q => ?_)
      obtain ⟨rfl, rfl⟩ := q
      obtain rfl := Option.some.inj h
      exact ev_end_i dX12_asksOf_83 rfl rfl ⟨rfl, rfl⟩
    clear h
    have h := e27
    clear e27
    refine ev_icmp_ne dX12_asksOf_70 (tgt := 78) (by decide) (fun c25 => ?_) (fun c25 => ?_)
    · replace h := zif c25 h
      refine ev_bipush dX12_asksOf_78 (v := (20 : Int32)) zcb_20 ?_
      obtain rfl := h
      exact k30
    · replace h := zit c25 h
      refine ev_bipush dX12_asksOf_73 (v := (99 : Int32)) zcb_99 ?_
      refine ev_goto dX12_asksOf_75 (tgt := 80) (by decide) ?_
      obtain rfl := h
      exact k30
  clear h
  have h := e24
  clear e24
  refine ev_icmp_ne dX12_asksOf_60 (tgt := 67) (by decide) (fun c22 => ?_) (fun c22 => ?_)
  · replace h := zif c22 h
    refine ev_iconst dX12_asksOf_67 (v := (1 : Int32)) zci_1 ?_
    obtain rfl := h
    exact k31
  · replace h := zit c22 h
    refine ev_iconst dX12_asksOf_63 (v := (0 : Int32)) zci_0 ?_
    refine ev_goto dX12_asksOf_64 (tgt := 68) (by decide) ?_
    obtain rfl := h
    exact k31
abbrev q12_asks (n : Nat) (kd : zMK) (R : zMR) (r : Int32 × zMI) : Option Value → zM → Prop := fun v μ1 => v = some (.int r.1) ∧ μ1 = (n, kd, r.2, R)
set_option maxHeartbeats 4000000 in
set_option maxRecDepth 100000 in
theorem e12_asks_B52 {w : zW} {d : Nat} {n : Nat} {kd : zMK} {R : zMR} {r : Int32 × zMI}  (hw : zst w = zSt0) (hS : zSh n kd) (hd : 4 ≤ d)   : ∀ (l1 : Int32) (l2 : Int32) (l3 : Int32) (s0 : Int32) (I : zMI), f12_asks_B52 l1 l2 l3 s0 I = some r → EV w d 0 0 Y12_asks 52 [some (.ref 81), some (.int l1), some (.int l2), some (.int l3), none] [.int s0] (n, kd, I, R) (q12_asks n kd R r) := by
  intro l1 l2 l3 s0 I h
  unfold f12_asks_B52 at h
  refine ev_istore dX12_asks_52 (by decide) rfl ?_
  refine ev_iload dX12_asks_54 rfl ?_
  refine ev_if_eq dX12_asks_56 (tgt := 87) (by decide) (fun c1 => ?_) (fun c1 => ?_)
  · replace h := zit c1 h
    refine ev_bipush dX12_asks_87 (v := (-2 : Int32)) zcb_m2 ?_
    obtain rfl := Option.some.inj h
    exact ev_end_i dX12_asks_89 rfl rfl ⟨rfl, rfl⟩
  · replace h := zif c1 h
    refine ev_aload_n dX12_asks_59 rfl rfl ?_
    refine ev_iload_n dX12_asks_60 rfl rfl ?_
    refine ev_iload_n dX12_asks_61 rfl rfl ?_
    refine ev_sipush dX12_asks_62 (v := (1000 : Int32)) zcs_1000 ?_
    refine ev_idiv dX12_asks_65 (by decide) rfl ?_
    refine ev_iload_n dX12_asks_66 rfl rfl ?_
    refine ev_sipush dX12_asks_67 (v := (1000 : Int32)) zcs_1000 ?_
    refine ev_irem dX12_asks_70 (by decide) rfl ?_
    refine ev_iload_n dX12_asks_71 rfl rfl ?_
    refine ev_sipush dX12_asks_72 (v := (1000 : Int32)) zcs_1000 ?_
    refine ev_idiv dX12_asks_75 (by decide) rfl ?_
    refine ev_iload_n dX12_asks_76 rfl rfl ?_
    refine ev_sipush dX12_asks_77 (v := (1000 : Int32)) zcs_1000 ?_
    refine ev_irem dX12_asks_80 (by decide) rfl ?_
    obtain ⟨p2, e3, h⟩ := zbd h
    refine ev_callV0 dX12_asks_81 zm12_asksOf zl_NineHeapsModel_206 zi12_asksOf zv12_asksOf (zrcM hS) (As := [.int l1, .int (l2 / (1000 : Int32)), .int (l2 - l2 / (1000 : Int32) * (1000 : Int32)), .int (l3 / (1000 : Int32)), .int (l3 - l3 / (1000 : Int32) * (1000 : Int32))]) (rest := []) rfl rfl (Nat.le_of_ble_eq_true rfl) rfl (Nat.le_of_ble_eq_true rfl) (d' := 3) (by omega) (e12_asksOf hw hS (Nat.le_refl _) e3) (fun v μ1 q => ?_)
    obtain ⟨rfl, rfl⟩ := q
    refine ev_goto dX12_asks_84 (tgt := 89) (by decide) ?_
    obtain rfl := Option.some.inj h
    exact ev_end_i dX12_asks_89 rfl rfl ⟨rfl, rfl⟩
set_option maxHeartbeats 4000000 in
set_option maxRecDepth 100000 in
theorem e12_asks_B51 {w : zW} {d : Nat} {n : Nat} {kd : zMK} {R : zMR} {r : Int32 × zMI}  (hw : zst w = zSt0) (hS : zSh n kd) (hd : 4 ≤ d)   : ∀ (l1 : Int32) (l2 : Int32) (l3 : Int32) (I : zMI), f12_asks_B51 l1 l2 l3 I = some r → EV w d 0 0 Y12_asks 51 [some (.ref 81), some (.int l1), some (.int l2), some (.int l3), none] [] (n, kd, I, R) (q12_asks n kd R r) := by
  intro l1 l2 l3 I h
  unfold f12_asks_B51 at h
  refine ev_iconst dX12_asks_51 (v := (0 : Int32)) zci_0 ?_
  exact EV.mask [true, true, true, true, false] rfl (e12_asks_B52 hw hS hd l1 l2 l3 (0 : Int32) I h)
set_option maxHeartbeats 4000000 in
set_option maxRecDepth 100000 in
theorem e12_asks {w : zW} {d : Nat} {n : Nat} {kd : zMK} {I : zMI} {R : zMR} {r : Int32 × zMI} {l1 : Int32} {l2 : Int32} {l3 : Int32} (hw : zst w = zSt0) (hS : zSh n kd) (hd : 4 ≤ d)  (h : f12_asks l1 l2 l3 I = some r) : EV w d 0 0 Y12_asks 0 [some (.ref 81), some (.int l1), some (.int l2), some (.int l3), none] [] (n, kd, I, R) (q12_asks n kd R r) := by
  unfold f12_asks at h
  refine ev_iload_n dX12_asks_0 rfl rfl ?_
  refine ev_iconst dX12_asks_1 (v := (0 : Int32)) zci_0 ?_
  refine ev_iconst dX12_asks_2 (v := (2 : Int32)) zci_2 ?_
  obtain ⟨p4, e5, h⟩ := zbd h
  refine ev_callS0 dX12_asks_3 zm12_in zl_NineHeapsModel_120 zs12_in (As := [.int l1, .int (0 : Int32), .int (2 : Int32)]) (rest := []) rfl rfl (Nat.le_of_ble_eq_true rfl) rfl (Nat.le_of_ble_eq_true rfl) (d' := 1) (by omega) (e12_in hw hS (Nat.le_refl _) e5) (fun v μ1 q => ?_)
  obtain ⟨rfl, rfl⟩ := q
  refine ev_if_eq dX12_asks_6 (tgt := 51) (by decide) (fun c6 => ?_) (fun c6 => ?_)
  · replace h := zit c6 h
    exact EV.mask [true, true, true, true, false] rfl (e12_asks_B51 hw hS hd l1 l2 l3 I h)
  · replace h := zif c6 h
    refine ev_iload_n dX12_asks_9 rfl rfl ?_
    refine ev_iconst dX12_asks_10 (v := (0 : Int32)) zci_0 ?_
    refine ev_sipush dX12_asks_11 (v := (8200 : Int32)) zcs_8200 ?_
    obtain ⟨p7, e8, h⟩ := zbd h
    refine ev_callS0 dX12_asks_14 zm12_in zl_NineHeapsModel_120 zs12_in (As := [.int l2, .int (0 : Int32), .int (8200 : Int32)]) (rest := []) rfl rfl (Nat.le_of_ble_eq_true rfl) rfl (Nat.le_of_ble_eq_true rfl) (d' := 1) (by omega) (e12_in hw hS (Nat.le_refl _) e8) (fun v μ1 q => ?_)
    obtain ⟨rfl, rfl⟩ := q
    refine ev_if_eq dX12_asks_17 (tgt := 51) (by decide) (fun c9 => ?_) (fun c9 => ?_)
    · replace h := zit c9 h
      exact EV.mask [true, true, true, true, false] rfl (e12_asks_B51 hw hS hd l1 l2 l3 I h)
    · replace h := zif c9 h
      refine ev_iload_n dX12_asks_20 rfl rfl ?_
      refine ev_sipush dX12_asks_21 (v := (1000 : Int32)) zcs_1000 ?_
      refine ev_irem dX12_asks_24 (by decide) rfl ?_
      refine ev_sipush dX12_asks_25 (v := (200 : Int32)) zcs_200 ?_
      refine ev_icmp_gt dX12_asks_28 (tgt := 51) (by decide) (fun c10 => ?_) (fun c10 => ?_)
      · replace h := zit c10 h
        exact EV.mask [true, true, true, true, false] rfl (e12_asks_B51 hw hS hd l1 l2 l3 I h)
      · replace h := zif c10 h
        refine ev_iload_n dX12_asks_31 rfl rfl ?_
        refine ev_if_lt dX12_asks_32 (tgt := 51) (by decide) (fun c11 => ?_) (fun c11 => ?_)
        · replace h := zit c11 h
          exact EV.mask [true, true, true, true, false] rfl (e12_asks_B51 hw hS hd l1 l2 l3 I h)
        · replace h := zif c11 h
          refine ev_aload_n dX12_asks_35 rfl rfl ?_
          refine ev_iload_n dX12_asks_36 rfl rfl ?_
          refine ev_sipush dX12_asks_37 (v := (1000 : Int32)) zcs_1000 ?_
          refine ev_idiv dX12_asks_40 (by decide) rfl ?_
          obtain ⟨p12, e13, h⟩ := zbd h
          refine ev_callV0 dX12_asks_41 zm12_isWalker zl_NineHeapsModel_203 zi12_isWalker zv12_isWalker (zrcM hS) (As := [.int (l3 / (1000 : Int32))]) (rest := []) rfl rfl (Nat.le_of_ble_eq_true rfl) rfl (Nat.le_of_ble_eq_true rfl) (d' := 2) (by omega) (e12_isWalker hw hS (Nat.le_refl _) e13) (fun v μ1 q => ?_)
          obtain ⟨rfl, rfl⟩ := q
          refine ev_if_eq dX12_asks_44 (tgt := 51) (by decide) (fun c14 => ?_) (fun c14 => ?_)
          · replace h := zit c14 h
            exact EV.mask [true, true, true, true, false] rfl (e12_asks_B51 hw hS hd l1 l2 l3 I h)
          · replace h := zif c14 h
            refine ev_iconst dX12_asks_47 (v := (1 : Int32)) zci_1 ?_
            refine ev_goto dX12_asks_48 (tgt := 52) (by decide) ?_
            exact EV.mask [true, true, true, true, false] rfl (e12_asks_B52 hw hS hd l1 l2 l3 (1 : Int32) I h)
abbrev q12_walker (n : Nat) (kd : zMK) (R : zMR) (r : Int32 × zMI) : Option Value → zM → Prop := fun v μ1 => v = some (.int r.1) ∧ μ1 = (n, kd, r.2, R)
set_option maxHeartbeats 4000000 in
set_option maxRecDepth 100000 in
theorem e12_walker {w : zW} {d : Nat} {n : Nat} {kd : zMK} {I : zMI} {R : zMR} {r : Int32 × zMI} {l1 : Int32} {l2 : Int32} {l3 : Int32} (hw : zst w = zSt0) (hS : zSh n kd) (hd : 3 ≤ d)  (h : f12_walker l1 l2 l3 I = some r) : EV w d 0 0 Y12_walker 0 [some (.ref 81), some (.int l1), some (.int l2), some (.int l3)] [] (n, kd, I, R) (q12_walker n kd R r) := by
  unfold f12_walker at h
  refine ev_iload_n dX12_walker_0 rfl rfl ?_
  refine ev_iconst dX12_walker_1 (v := (0 : Int32)) zci_0 ?_
  refine ev_iconst dX12_walker_2 (v := (5 : Int32)) zci_5 ?_
  obtain ⟨p1, e2, h⟩ := zbd h
  refine ev_callS0 dX12_walker_3 zm12_in zl_NineHeapsModel_120 zs12_in (As := [.int l1, .int (0 : Int32), .int (5 : Int32)]) (rest := []) rfl rfl (Nat.le_of_ble_eq_true rfl) rfl (Nat.le_of_ble_eq_true rfl) (d' := 1) (by omega) (e12_in hw hS (Nat.le_refl _) e2) (fun v μ1 q => ?_)
  obtain ⟨rfl, rfl⟩ := q
  refine ev_if_eq dX12_walker_6 (tgt := 26) (by decide) (fun c3 => ?_) (fun c3 => ?_)
  · replace h := zit c3 h
    refine ev_bipush dX12_walker_26 (v := (-2 : Int32)) zcb_m2 ?_
    obtain rfl := Option.some.inj h
    exact ev_end_i dX12_walker_28 rfl rfl ⟨rfl, rfl⟩
  · replace h := zif c3 h
    refine ev_iload_n dX12_walker_9 rfl rfl ?_
    refine ev_iconst dX12_walker_10 (v := (0 : Int32)) zci_0 ?_
    refine ev_bipush dX12_walker_11 (v := (9 : Int32)) zcb_9 ?_
    obtain ⟨p4, e5, h⟩ := zbd h
    refine ev_callS0 dX12_walker_13 zm12_in zl_NineHeapsModel_120 zs12_in (As := [.int l2, .int (0 : Int32), .int (9 : Int32)]) (rest := []) rfl rfl (Nat.le_of_ble_eq_true rfl) rfl (Nat.le_of_ble_eq_true rfl) (d' := 1) (by omega) (e12_in hw hS (Nat.le_refl _) e5) (fun v μ1 q => ?_)
    obtain ⟨rfl, rfl⟩ := q
    refine ev_if_eq dX12_walker_16 (tgt := 26) (by decide) (fun c6 => ?_) (fun c6 => ?_)
    · replace h := zit c6 h
      refine ev_bipush dX12_walker_26 (v := (-2 : Int32)) zcb_m2 ?_
      obtain rfl := Option.some.inj h
      exact ev_end_i dX12_walker_28 rfl rfl ⟨rfl, rfl⟩
    · replace h := zif c6 h
      refine ev_iload_n dX12_walker_19 rfl rfl ?_
      obtain ⟨p7, e8, h⟩ := zbd h
      refine ev_callS0 dX12_walker_20 zm12_isHeap zl_NineHeapsModel_130 zs12_isHeap (As := [.int l3]) (rest := []) rfl rfl (Nat.le_of_ble_eq_true rfl) rfl (Nat.le_of_ble_eq_true rfl) (d' := 2) (by omega) (e12_isHeap hw hS (Nat.le_refl _) e8) (fun v μ1 q => ?_)
      obtain ⟨rfl, rfl⟩ := q
      refine ev_if_ne dX12_walker_23 (tgt := 29) (by decide) (fun c9 => ?_) (fun c9 => ?_)
      · replace h := zif c9 h
        refine ev_aload_n dX12_walker_29 rfl rfl ?_
        refine em_getI dX12_walker_30 zf_NineHeapsModel_117 rfl (hS.has 81 (by decide) (by decide) rfl) rfl ?_
        refine ev_iconst dX12_walker_33 (v := (5 : Int32)) zci_5 ?_
        refine ev_icmp_ne dX12_walker_34 (tgt := 40) (by decide) (fun c10 => ?_) (fun c10 => ?_)
        · replace h := zif c10 h
          refine ev_aload_n dX12_walker_40 rfl rfl ?_
          refine em_getA dX12_walker_41 zf_NineHeapsModel_20 rfl (hS.has 81 (by decide) (by decide) rfl) hw rfl ?_
          refine ev_aload_n dX12_walker_44 rfl rfl ?_
          refine em_getI dX12_walker_45 zf_NineHeapsModel_117 rfl (hS.has 81 (by decide) (by decide) rfl) rfl ?_
          refine ev_iload_n dX12_walker_48 rfl rfl ?_
          obtain ⟨g11, h⟩ := zgd h
          obtain ⟨J12, e13, h⟩ := zld h
          refine em_iast dX12_walker_49 hS (by decide) (by decide) (N := 5) rfl g11 e13 ?_
          refine ev_aload_n dX12_walker_50 rfl rfl ?_
          refine em_getA dX12_walker_51 zf_NineHeapsModel_23 rfl (hS.has 81 (by decide) (by decide) rfl) hw rfl ?_
          refine ev_aload_n dX12_walker_54 rfl rfl ?_
          refine em_getI dX12_walker_55 zf_NineHeapsModel_117 rfl (hS.has 81 (by decide) (by decide) rfl) rfl ?_
          refine ev_iload_n dX12_walker_58 rfl rfl ?_
          obtain ⟨g14, h⟩ := zgd h
          obtain ⟨J15, e16, h⟩ := zld h
          refine em_iast dX12_walker_59 hS (by decide) (by decide) (N := 5) rfl g14 e16 ?_
          refine ev_aload_n dX12_walker_60 rfl rfl ?_
          refine em_getA dX12_walker_61 zf_NineHeapsModel_26 rfl (hS.has 81 (by decide) (by decide) rfl) hw rfl ?_
          refine ev_aload_n dX12_walker_64 rfl rfl ?_
          refine em_getI dX12_walker_65 zf_NineHeapsModel_117 rfl (hS.has 81 (by decide) (by decide) rfl) rfl ?_
          refine ev_iload_n dX12_walker_68 rfl rfl ?_
          obtain ⟨g17, h⟩ := zgd h
          obtain ⟨J18, e19, h⟩ := zld h
          refine em_iast dX12_walker_69 hS (by decide) (by decide) (N := 5) rfl g17 e19 ?_
          refine ev_aload_n dX12_walker_70 rfl rfl ?_
          refine ev_dup dX12_walker_71 rfl ?_
          refine em_getI dX12_walker_72 zf_NineHeapsModel_117 rfl (hS.has 81 (by decide) (by decide) rfl) rfl ?_
          refine ev_iconst dX12_walker_75 (v := (1 : Int32)) zci_1 ?_
          refine ev_iadd dX12_walker_76 rfl ?_
          obtain ⟨J20, e21, h⟩ := zld h
          refine em_putI dX12_walker_77 zf_NineHeapsModel_117 (Or.inl rfl) rfl rfl rfl (hS.has 81 (by decide) (by decide) rfl) e21 ?_
          refine ev_aload_n dX12_walker_80 rfl rfl ?_
          refine em_getI dX12_walker_81 zf_NineHeapsModel_117 rfl (hS.has 81 (by decide) (by decide) rfl) rfl ?_
          refine ev_iconst dX12_walker_84 (v := (1 : Int32)) zci_1 ?_
          refine ev_isub dX12_walker_85 rfl ?_
          obtain rfl := Option.some.inj h
          exact ev_end_i dX12_walker_86 rfl rfl ⟨rfl, rfl⟩
        · replace h := zit c10 h
          refine ev_bipush dX12_walker_37 (v := (-4 : Int32)) zcb_m4 ?_
          obtain rfl := Option.some.inj h
          exact ev_end_i dX12_walker_39 rfl rfl ⟨rfl, rfl⟩
      · replace h := zit c9 h
        refine ev_bipush dX12_walker_26 (v := (-2 : Int32)) zcb_m2 ?_
        obtain rfl := Option.some.inj h
        exact ev_end_i dX12_walker_28 rfl rfl ⟨rfl, rfl⟩
abbrev q12_begin (n : Nat) (kd : zMK) (R : zMR) (r : Int32 × zMI) : Option Value → zM → Prop := fun v μ1 => v = some (.int r.1) ∧ μ1 = (n, kd, r.2, R)
set_option maxHeartbeats 4000000 in
set_option maxRecDepth 100000 in
theorem e12_begin {w : zW} {d : Nat} {n : Nat} {kd : zMK} {I : zMI} {R : zMR} {r : Int32 × zMI} {l1 : Int32} {l2 : Int32} (hw : zst w = zSt0) (hS : zSh n kd) (hd : 3 ≤ d)  (h : f12_begin l1 l2 I = some r) : EV w d 0 0 Y12_begin 0 [some (.ref 81), some (.int l1), some (.int l2), none] [] (n, kd, I, R) (q12_begin n kd R r) := by
  unfold f12_begin at h
  refine ev_aload_n dX12_begin_0 rfl rfl ?_
  refine ev_iload_n dX12_begin_1 rfl rfl ?_
  obtain ⟨p1, e2, h⟩ := zbd h
  refine ev_callV0 dX12_begin_2 zm12_isWalker zl_NineHeapsModel_203 zi12_isWalker zv12_isWalker (zrcM hS) (As := [.int l1]) (rest := []) rfl rfl (Nat.le_of_ble_eq_true rfl) rfl (Nat.le_of_ble_eq_true rfl) (d' := 2) (by omega) (e12_isWalker hw hS (Nat.le_refl _) e2) (fun v μ1 q => ?_)
  obtain ⟨rfl, rfl⟩ := q
  refine ev_if_ne dX12_begin_5 (tgt := 11) (by decide) (fun c3 => ?_) (fun c3 => ?_)
  · replace h := zif c3 h
    refine ev_iload_n dX12_begin_11 rfl rfl ?_
    obtain ⟨p4, e5, h⟩ := zbd h
    refine ev_callS0 dX12_begin_12 zm12_isHeap zl_NineHeapsModel_130 zs12_isHeap (As := [.int l2]) (rest := []) rfl rfl (Nat.le_of_ble_eq_true rfl) rfl (Nat.le_of_ble_eq_true rfl) (d' := 2) (by omega) (e12_isHeap hw hS (Nat.le_refl _) e5) (fun v μ1 q => ?_)
    obtain ⟨rfl, rfl⟩ := q
    refine ev_if_ne dX12_begin_15 (tgt := 21) (by decide) (fun c6 => ?_) (fun c6 => ?_)
    · replace h := zif c6 h
      refine ev_aload_n dX12_begin_21 rfl rfl ?_
      refine em_getA dX12_begin_22 zf_NineHeapsModel_26 rfl (hS.has 81 (by decide) (by decide) rfl) hw rfl ?_
      refine ev_iload_n dX12_begin_25 rfl rfl ?_
      obtain ⟨g7, h⟩ := zgd h
      refine em_iald dX12_begin_26 hS (by decide) (by decide) (N := 5) rfl g7 rfl ?_
      refine ev_istore_n dX12_begin_27 rfl (by decide) rfl ?_
      refine ev_aload_n dX12_begin_28 rfl rfl ?_
      refine em_getA dX12_begin_29 zf_NineHeapsModel_26 rfl (hS.has 81 (by decide) (by decide) rfl) hw rfl ?_
      refine ev_iload_n dX12_begin_32 rfl rfl ?_
      refine ev_iload_n dX12_begin_33 rfl rfl ?_
      obtain ⟨J8, e9, h⟩ := zld h
      refine em_iast dX12_begin_34 hS (by decide) (by decide) (N := 5) rfl g7 e9 ?_
      refine ev_iload_n dX12_begin_35 rfl rfl ?_
      obtain rfl := Option.some.inj h
      exact ev_end_i dX12_begin_36 rfl rfl ⟨rfl, rfl⟩
    · replace h := zit c6 h
      refine ev_bipush dX12_begin_18 (v := (-7 : Int32)) zcb_m7 ?_
      obtain rfl := Option.some.inj h
      exact ev_end_i dX12_begin_20 rfl rfl ⟨rfl, rfl⟩
  · replace h := zit c3 h
    refine ev_bipush dX12_begin_8 (v := (-5 : Int32)) zcb_m5 ?_
    obtain rfl := Option.some.inj h
    exact ev_end_i dX12_begin_10 rfl rfl ⟨rfl, rfl⟩
abbrev q12_told (n : Nat) (kd : zMK) (I : zMI) (R : zMR) (r : Int32) : Option Value → zM → Prop := fun v μ1 => v = some (.int r) ∧ μ1 = (n, kd, I, R)
set_option maxHeartbeats 4000000 in
set_option maxRecDepth 100000 in
theorem e12_told {w : zW} {d : Nat} {n : Nat} {kd : zMK} {I : zMI} {R : zMR} {r : Int32} {l1 : Int32} {l2 : Int32} (hw : zst w = zSt0) (hS : zSh n kd) (hd : 3 ≤ d)  (h : f12_told I l1 l2 = some r) : EV w d 0 0 Y12_told 0 [some (.ref 81), some (.int l1), some (.int l2)] [] (n, kd, I, R) (q12_told n kd I R r) := by
  unfold f12_told at h
  refine ev_aload_n dX12_told_0 rfl rfl ?_
  refine ev_iload_n dX12_told_1 rfl rfl ?_
  obtain ⟨p1, e2, h⟩ := zbd h
  refine ev_callV0 dX12_told_2 zm12_isWalker zl_NineHeapsModel_203 zi12_isWalker zv12_isWalker (zrcM hS) (As := [.int l1]) (rest := []) rfl rfl (Nat.le_of_ble_eq_true rfl) rfl (Nat.le_of_ble_eq_true rfl) (d' := 2) (by omega) (e12_isWalker hw hS (Nat.le_refl _) e2) (fun v μ1 q => ?_)
  obtain ⟨rfl, rfl⟩ := q
  refine ev_if_ne dX12_told_5 (tgt := 11) (by decide) (fun c3 => ?_) (fun c3 => ?_)
  · replace h := zif c3 h
    refine ev_iload_n dX12_told_11 rfl rfl ?_
    by_cases c4 : l2 = (0 : Int32)
    · replace h := zit c4 h
      refine ev_tableIn dX12_told_12 (by rw [c4]; decide) (by rw [c4]; decide) (off := 32) (by rw [c4]; rfl) (tgt := 44) (by decide) ?_
      refine ev_aload_n dX12_told_44 rfl rfl ?_
      refine em_getA dX12_told_45 zf_NineHeapsModel_20 rfl (hS.has 81 (by decide) (by decide) rfl) hw rfl ?_
      refine ev_iload_n dX12_told_48 rfl rfl ?_
      obtain ⟨g5, h⟩ := zgd h
      refine em_iald dX12_told_49 hS (by decide) (by decide) (N := 5) rfl g5 rfl ?_
      obtain rfl := Option.some.inj h
      exact ev_end_i dX12_told_50 rfl rfl ⟨rfl, rfl⟩
    · replace h := zif c4 h
      by_cases c6 : l2 = (1 : Int32)
      · replace h := zit c6 h
        refine ev_tableIn dX12_told_12 (by rw [c6]; decide) (by rw [c6]; decide) (off := 39) (by rw [c6]; rfl) (tgt := 51) (by decide) ?_
        refine ev_aload_n dX12_told_51 rfl rfl ?_
        refine em_getA dX12_told_52 zf_NineHeapsModel_23 rfl (hS.has 81 (by decide) (by decide) rfl) hw rfl ?_
        refine ev_iload_n dX12_told_55 rfl rfl ?_
        obtain ⟨g7, h⟩ := zgd h
        refine em_iald dX12_told_56 hS (by decide) (by decide) (N := 5) rfl g7 rfl ?_
        obtain rfl := Option.some.inj h
        exact ev_end_i dX12_told_57 rfl rfl ⟨rfl, rfl⟩
      · replace h := zif c6 h
        by_cases c8 : l2 = (2 : Int32)
        · replace h := zit c8 h
          refine ev_tableIn dX12_told_12 (by rw [c8]; decide) (by rw [c8]; decide) (off := 46) (by rw [c8]; rfl) (tgt := 58) (by decide) ?_
          refine ev_aload_n dX12_told_58 rfl rfl ?_
          refine em_getA dX12_told_59 zf_NineHeapsModel_26 rfl (hS.has 81 (by decide) (by decide) rfl) hw rfl ?_
          refine ev_iload_n dX12_told_62 rfl rfl ?_
          obtain ⟨g9, h⟩ := zgd h
          refine em_iald dX12_told_63 hS (by decide) (by decide) (N := 5) rfl g9 rfl ?_
          obtain rfl := Option.some.inj h
          exact ev_end_i dX12_told_64 rfl rfl ⟨rfl, rfl⟩
        · replace h := zif c8 h
          by_cases c10 : l2 = (3 : Int32)
          · replace h := zit c10 h
            refine ev_tableIn dX12_told_12 (by rw [c10]; decide) (by rw [c10]; decide) (off := 53) (by rw [c10]; rfl) (tgt := 65) (by decide) ?_
            refine ev_aload_n dX12_told_65 rfl rfl ?_
            refine em_getA dX12_told_66 zf_NineHeapsModel_20 rfl (hS.has 81 (by decide) (by decide) rfl) hw rfl ?_
            refine ev_iload_n dX12_told_69 rfl rfl ?_
            obtain ⟨g11, h⟩ := zgd h
            refine em_iald dX12_told_70 hS (by decide) (by decide) (N := 5) rfl g11 rfl ?_
            refine ev_iconst dX12_told_71 (v := (3 : Int32)) zci_3 ?_
            obtain ⟨x13, e14, h⟩ := zld h
            have k15 : EV w d 0 0 Y12_told 80 [some (.ref 81), some (.int l1), some (.int l2)] [.int x13] (n, kd, I, R) (q12_told n kd I R r) := by
              obtain rfl := Option.some.inj h
              exact ev_end_i dX12_told_80 rfl rfl ⟨rfl, rfl⟩
            clear h
            have h := e14
            clear e14
            refine ev_icmp_ne dX12_told_72 (tgt := 79) (by decide) (fun c12 => ?_) (fun c12 => ?_)
            · replace h := zif c12 h
              refine ev_iconst dX12_told_79 (v := (1 : Int32)) zci_1 ?_
              obtain rfl := h
              exact k15
            · replace h := zit c12 h
              refine ev_iconst dX12_told_75 (v := (0 : Int32)) zci_0 ?_
              refine ev_goto dX12_told_76 (tgt := 80) (by decide) ?_
              obtain rfl := h
              exact k15
          · replace h := zif c10 h
            refine ev_tableD dX12_told_12 ?_ (tgt := 81) (by decide) ?_
            · have q0 := lv_neT c4 (a := 0) (by decide)
              have q1 := lv_neT c6 (a := 1) (by decide)
              have q2 := lv_neT c8 (a := 2) (by decide)
              have q3 := lv_neT c10 (a := 3) (by decide)
              rcases (show l2.toInt < 0 ∨ 3 < l2.toInt by omega) with q | q
              · exact Or.inl q
              · exact Or.inr (Or.inl q)
            refine ev_bipush dX12_told_81 (v := (-7 : Int32)) zcb_m7 ?_
            obtain rfl := Option.some.inj h
            exact ev_end_i dX12_told_83 rfl rfl ⟨rfl, rfl⟩
  · replace h := zit c3 h
    refine ev_bipush dX12_told_8 (v := (-5 : Int32)) zcb_m5 ?_
    obtain rfl := Option.some.inj h
    exact ev_end_i dX12_told_10 rfl rfl ⟨rfl, rfl⟩
abbrev q12_takesOf (n : Nat) (kd : zMK) (R : zMR) (r : Int32 × zMI) : Option Value → zM → Prop := fun v μ1 => v = some (.int r.1) ∧ μ1 = (n, kd, r.2, R)
set_option maxHeartbeats 4000000 in
set_option maxRecDepth 100000 in
theorem e12_takesOf_B120 {w : zW} {d : Nat} {n : Nat} {kd : zMK} {R : zMR} {r : Int32 × zMI}  (hw : zst w = zSt0) (hS : zSh n kd) (hd : 4 ≤ d)   : ∀ (l5 : Int32) (I : zMI), f12_takesOf_B120 l5 I = some r → EV w d 0 0 Y12_takesOf 120 [none, none, none, none, none, some (.int l5), none] [] (n, kd, I, R) (q12_takesOf n kd R r) := by
  intro l5 I h
  unfold f12_takesOf_B120 at h
  refine ev_iload dX12_takesOf_120 rfl ?_
  refine ev_iconst dX12_takesOf_122 (v := (1 : Int32)) zci_1 ?_
  obtain ⟨x2, e3, h⟩ := zld h
  have k4 : EV w d 0 0 Y12_takesOf 132 [none, none, none, none, none, some (.int l5), none] [.int x2] (n, kd, I, R) (q12_takesOf n kd R r) := by
    obtain rfl := Option.some.inj h
    exact ev_end_i dX12_takesOf_132 rfl rfl ⟨rfl, rfl⟩
  clear h
  have h := e3
  clear e3
  refine ev_icmp_ge dX12_takesOf_123 (tgt := 130) (by decide) (fun c1 => ?_) (fun c1 => ?_)
  · replace h := zit c1 h
    refine ev_iload dX12_takesOf_130 rfl ?_
    obtain rfl := h
    exact k4
  · replace h := zif c1 h
    refine ev_iconst dX12_takesOf_126 (v := (1 : Int32)) zci_1 ?_
    refine ev_goto dX12_takesOf_127 (tgt := 132) (by decide) ?_
    obtain rfl := h
    exact k4
set_option maxHeartbeats 4000000 in
set_option maxRecDepth 100000 in
theorem e12_takesOf {w : zW} {d : Nat} {n : Nat} {kd : zMK} {I : zMI} {R : zMR} {r : Int32 × zMI} {l1 : Int32} {l2 : Int32} {l3 : Int32} {l4 : Int32} (hw : zst w = zSt0) (hS : zSh n kd) (hd : 4 ≤ d)  (h : f12_takesOf l1 l2 l3 l4 I = some r) : EV w d 0 0 Y12_takesOf 0 [some (.ref 81), some (.int l1), some (.int l2), some (.int l3), some (.int l4), none, none] [] (n, kd, I, R) (q12_takesOf n kd R r) := by
  unfold f12_takesOf at h
  refine ev_aload_n dX12_takesOf_0 rfl rfl ?_
  refine ev_iconst dX12_takesOf_1 (v := (0 : Int32)) zci_0 ?_
  refine ev_iload_n dX12_takesOf_2 rfl rfl ?_
  refine ev_iload_n dX12_takesOf_3 rfl rfl ?_
  refine ev_iload_n dX12_takesOf_4 rfl rfl ?_
  refine ev_iload dX12_takesOf_5 rfl ?_
  obtain ⟨p5, e6, h⟩ := zbd h
  refine ev_callV0 dX12_takesOf_7 zm12_asksOf zl_NineHeapsModel_206 zi12_asksOf zv12_asksOf (zrcM hS) (As := [.int (0 : Int32), .int l2, .int l3, .int l1, .int l4]) (rest := []) rfl rfl (Nat.le_of_ble_eq_true rfl) rfl (Nat.le_of_ble_eq_true rfl) (d' := 3) (by omega) (e12_asksOf hw hS (Nat.le_refl _) e6) (fun v μ1 q => ?_)
  obtain ⟨rfl, rfl⟩ := q
  refine ev_istore dX12_takesOf_10 (by decide) rfl ?_
  refine ev_aload_n dX12_takesOf_12 rfl rfl ?_
  refine em_getA dX12_takesOf_13 zf_NineHeapsModel_23 rfl (hS.has 81 (by decide) (by decide) rfl) hw rfl ?_
  refine ev_iload_n dX12_takesOf_16 rfl rfl ?_
  obtain ⟨g7, h⟩ := zgd h
  refine em_iald dX12_takesOf_17 hS (by decide) (by decide) (N := 5) rfl g7 rfl ?_
  obtain ⟨x8, e9, h⟩ := zld h
  refine ev_nm e9 ?_
  refine ev_istore dX12_takesOf_18 (by decide) rfl ?_
  refine ev_aload_n dX12_takesOf_20 rfl rfl ?_
  refine em_getA dX12_takesOf_21 zf_NineHeapsModel_20 rfl (hS.has 81 (by decide) (by decide) rfl) hw rfl ?_
  refine ev_iload_n dX12_takesOf_24 rfl rfl ?_
  refine em_iald dX12_takesOf_25 hS (by decide) (by decide) (N := 5) rfl g7 rfl ?_
  by_cases c10 : (p5.2 84 l1.toNatClampNeg) = (2 : Int32)
  · replace h := zit c10 h
    refine ev_tableIn dX12_takesOf_26 (by rw [c10]; decide) (by rw [c10]; decide) (off := 30) (by rw [c10]; rfl) (tgt := 56) (by decide) ?_
    refine ev_iload dX12_takesOf_56 rfl ?_
    refine ev_iload dX12_takesOf_58 rfl ?_
    refine ev_iconst dX12_takesOf_60 (v := (2 : Int32)) zci_2 ?_
    refine ev_idiv dX12_takesOf_61 (by decide) rfl ?_
    refine ev_iadd dX12_takesOf_62 rfl ?_
    obtain ⟨x11, e12, h⟩ := zld h
    refine ev_nm e12 ?_
    refine ev_istore dX12_takesOf_63 (by decide) rfl ?_
    refine ev_goto dX12_takesOf_65 (tgt := 120) (by decide) ?_
    exact EV.mask [false, false, false, false, false, true, false] rfl (e12_takesOf_B120 hw hS hd x11 p5.2 h)
  · replace h := zif c10 h
    by_cases c13 : (p5.2 84 l1.toNatClampNeg) = (3 : Int32)
    · replace h := zit c13 h
      refine ev_tableIn dX12_takesOf_26 (by rw [c13]; decide) (by rw [c13]; decide) (off := 42) (by rw [c13]; rfl) (tgt := 68) (by decide) ?_
      refine ev_iinc dX12_takesOf_68 (v := p5.1 + (1 : Int32)) rfl rfl (by decide) rfl ?_
      refine ev_goto dX12_takesOf_71 (tgt := 120) (by decide) ?_
      exact EV.mask [false, false, false, false, false, true, false] rfl (e12_takesOf_B120 hw hS hd (p5.1 + (1 : Int32)) p5.2 h)
    · replace h := zif c13 h
      by_cases c14 : (p5.2 84 l1.toNatClampNeg) = (4 : Int32)
      · replace h := zit c14 h
        refine ev_tableIn dX12_takesOf_26 (by rw [c14]; decide) (by rw [c14]; decide) (off := 48) (by rw [c14]; rfl) (tgt := 74) (by decide) ?_
        refine ev_iload dX12_takesOf_74 rfl ?_
        refine ev_iload dX12_takesOf_76 rfl ?_
        refine ev_iconst dX12_takesOf_78 (v := (2 : Int32)) zci_2 ?_
        refine ev_idiv dX12_takesOf_79 (by decide) rfl ?_
        refine ev_iload dX12_takesOf_80 rfl ?_
        refine ev_iload dX12_takesOf_82 rfl ?_
        obtain ⟨x16, e17, h⟩ := zld h
        have k20 : EV w d 0 0 Y12_takesOf 92 [some (.ref 81), some (.int l1), some (.int l2), some (.int l3), some (.int l4), some (.int p5.1), some (.int x8)] [.int x16, .int (x8 / (2 : Int32)), .int p5.1] (n, kd, p5.2, R) (q12_takesOf n kd R r) := by
          refine ev_iadd dX12_takesOf_92 rfl ?_
          refine ev_iadd dX12_takesOf_93 rfl ?_
          obtain ⟨x18, e19, h⟩ := zld h
          refine ev_nm e19 ?_
          refine ev_istore dX12_takesOf_94 (by decide) rfl ?_
          refine ev_goto dX12_takesOf_96 (tgt := 120) (by decide) ?_
          exact EV.mask [false, false, false, false, false, true, false] rfl (e12_takesOf_B120 hw hS hd x18 p5.2 h)
        clear h
        have h := e17
        clear e17
        refine ev_icmp_le dX12_takesOf_84 (tgt := 91) (by decide) (fun c15 => ?_) (fun c15 => ?_)
        · replace h := zit c15 h
          refine ev_iconst dX12_takesOf_91 (v := (1 : Int32)) zci_1 ?_
          obtain rfl := h
          exact k20
        · replace h := zif c15 h
          refine ev_iconst dX12_takesOf_87 (v := (2 : Int32)) zci_2 ?_
          refine ev_goto dX12_takesOf_88 (tgt := 92) (by decide) ?_
          obtain rfl := h
          exact k20
      · replace h := zif c14 h
        by_cases c21 : (p5.2 84 l1.toNatClampNeg) = (5 : Int32)
        · replace h := zit c21 h
          refine ev_tableIn dX12_takesOf_26 (by rw [c21]; decide) (by rw [c21]; decide) (off := 73) (by rw [c21]; rfl) (tgt := 99) (by decide) ?_
          refine ev_iload dX12_takesOf_99 rfl ?_
          refine ev_iload dX12_takesOf_101 rfl ?_
          obtain ⟨x23, e24, h⟩ := zld h
          have k25 : EV w d 0 0 Y12_takesOf 115 [some (.ref 81), some (.int l1), some (.int l2), some (.int l3), some (.int l4), some (.int p5.1), some (.int x8)] [.int x23] (n, kd, p5.2, R) (q12_takesOf n kd R r) := by
            refine ev_istore dX12_takesOf_115 (by decide) rfl ?_
            refine ev_goto dX12_takesOf_117 (tgt := 120) (by decide) ?_
            exact EV.mask [false, false, false, false, false, true, false] rfl (e12_takesOf_B120 hw hS hd x23 p5.2 h)
          clear h
          have h := e24
          clear e24
          refine ev_icmp_lt dX12_takesOf_103 (tgt := 113) (by decide) (fun c22 => ?_) (fun c22 => ?_)
          · replace h := zit c22 h
            refine ev_iload dX12_takesOf_113 rfl ?_
            obtain rfl := h
            exact k25
          · replace h := zif c22 h
            refine ev_iload dX12_takesOf_106 rfl ?_
            refine ev_iconst dX12_takesOf_108 (v := (2 : Int32)) zci_2 ?_
            refine ev_idiv dX12_takesOf_109 (by decide) rfl ?_
            refine ev_goto dX12_takesOf_110 (tgt := 115) (by decide) ?_
            obtain rfl := h
            exact k25
        · replace h := zif c21 h
          refine ev_tableD dX12_takesOf_26 ?_ (tgt := 120) (by decide) ?_
          · have q0 := lv_neT c10 (a := 2) (by decide)
            have q1 := lv_neT c13 (a := 3) (by decide)
            have q2 := lv_neT c14 (a := 4) (by decide)
            have q3 := lv_neT c21 (a := 5) (by decide)
            rcases (show (p5.2 84 l1.toNatClampNeg).toInt < 2 ∨ 5 < (p5.2 84 l1.toNatClampNeg).toInt by omega) with q | q
            · exact Or.inl q
            · exact Or.inr (Or.inl q)
          exact EV.mask [false, false, false, false, false, true, false] rfl (e12_takesOf_B120 hw hS hd p5.1 p5.2 h)
abbrev q12_stepsOf (n : Nat) (kd : zMK) (R : zMR) (r : Int32 × zMI) : Option Value → zM → Prop := fun v μ1 => v = some (.int r.1) ∧ μ1 = (n, kd, r.2, R)
set_option maxHeartbeats 4000000 in
set_option maxRecDepth 100000 in
theorem e12_stepsOf {w : zW} {d : Nat} {n : Nat} {kd : zMK} {I : zMI} {R : zMR} {r : Int32 × zMI} {l1 : Int32} {l2 : Int32} {l3 : Int32} {l4 : Int32} (hw : zst w = zSt0) (hS : zSh n kd) (hd : 4 ≤ d)  (h : f12_stepsOf l1 l2 l3 l4 I = some r) : EV w d 0 0 Y12_stepsOf 0 [some (.ref 81), some (.int l1), some (.int l2), some (.int l3), some (.int l4), none] [] (n, kd, I, R) (q12_stepsOf n kd R r) := by
  unfold f12_stepsOf at h
  refine ev_aload_n dX12_stepsOf_0 rfl rfl ?_
  refine ev_iconst dX12_stepsOf_1 (v := (1 : Int32)) zci_1 ?_
  refine ev_iload_n dX12_stepsOf_2 rfl rfl ?_
  refine ev_iload_n dX12_stepsOf_3 rfl rfl ?_
  refine ev_iload_n dX12_stepsOf_4 rfl rfl ?_
  refine ev_iload dX12_stepsOf_5 rfl ?_
  obtain ⟨p1, e2, h⟩ := zbd h
  refine ev_callV0 dX12_stepsOf_7 zm12_asksOf zl_NineHeapsModel_206 zi12_asksOf zv12_asksOf (zrcM hS) (As := [.int (1 : Int32), .int l2, .int l3, .int l1, .int l4]) (rest := []) rfl rfl (Nat.le_of_ble_eq_true rfl) rfl (Nat.le_of_ble_eq_true rfl) (d' := 3) (by omega) (e12_asksOf hw hS (Nat.le_refl _) e2) (fun v μ1 q => ?_)
  obtain ⟨rfl, rfl⟩ := q
  refine ev_istore dX12_stepsOf_10 (by decide) rfl ?_
  refine ev_aload_n dX12_stepsOf_12 rfl rfl ?_
  refine em_getA dX12_stepsOf_13 zf_NineHeapsModel_20 rfl (hS.has 81 (by decide) (by decide) rfl) hw rfl ?_
  refine ev_iload_n dX12_stepsOf_16 rfl rfl ?_
  obtain ⟨g3, h⟩ := zgd h
  refine em_iald dX12_stepsOf_17 hS (by decide) (by decide) (N := 5) rfl g3 rfl ?_
  refine ev_iconst dX12_stepsOf_18 (v := (1 : Int32)) zci_1 ?_
  obtain ⟨x7, e8, h⟩ := zld h
  have k13 : EV w d 0 0 Y12_stepsOf 65 [some (.ref 81), some (.int l1), some (.int l2), some (.int l3), some (.int l4), some (.int p1.1)] [.int x7] (n, kd, p1.2, R) (q12_stepsOf n kd R r) := by
    refine ev_istore dX12_stepsOf_65 (by decide) rfl ?_
    refine ev_iload dX12_stepsOf_67 rfl ?_
    refine ev_iconst dX12_stepsOf_69 (v := (1 : Int32)) zci_1 ?_
    obtain ⟨x10, e11, h⟩ := zld h
    have k12 : EV w d 0 0 Y12_stepsOf 79 [some (.ref 81), some (.int l1), some (.int l2), some (.int l3), some (.int l4), some (.int x7)] [.int x10] (n, kd, p1.2, R) (q12_stepsOf n kd R r) := by
      obtain rfl := Option.some.inj h
      exact ev_end_i dX12_stepsOf_79 rfl rfl ⟨rfl, rfl⟩
    clear h
    have h := e11
    clear e11
    refine ev_icmp_ge dX12_stepsOf_70 (tgt := 77) (by decide) (fun c9 => ?_) (fun c9 => ?_)
    · replace h := zit c9 h
      refine ev_iload dX12_stepsOf_77 rfl ?_
      obtain rfl := h
      exact k12
    · replace h := zif c9 h
      refine ev_iconst dX12_stepsOf_73 (v := (1 : Int32)) zci_1 ?_
      refine ev_goto dX12_stepsOf_74 (tgt := 79) (by decide) ?_
      obtain rfl := h
      exact k12
  clear h
  have h := e8
  clear e8
  refine ev_icmp_eq dX12_stepsOf_19 (tgt := 32) (by decide) (fun c4 => ?_) (fun c4 => ?_)
  · replace h := zit c4 h
    refine ev_iload dX12_stepsOf_32 rfl ?_
    refine ev_aload_n dX12_stepsOf_34 rfl rfl ?_
    refine em_getA dX12_stepsOf_35 zf_NineHeapsModel_23 rfl (hS.has 81 (by decide) (by decide) rfl) hw rfl ?_
    refine ev_iload_n dX12_stepsOf_38 rfl rfl ?_
    refine em_iald dX12_stepsOf_39 hS (by decide) (by decide) (N := 5) rfl g3 rfl ?_
    refine ev_iconst dX12_stepsOf_40 (v := (3 : Int32)) zci_3 ?_
    refine ev_idiv dX12_stepsOf_41 (by decide) rfl ?_
    refine ev_isub dX12_stepsOf_42 rfl ?_
    refine ev_goto dX12_stepsOf_43 (tgt := 65) (by decide) ?_
    obtain rfl := h
    exact k13
  · replace h := zif c4 h
    refine ev_aload_n dX12_stepsOf_22 rfl rfl ?_
    refine em_getA dX12_stepsOf_23 zf_NineHeapsModel_20 rfl (hS.has 81 (by decide) (by decide) rfl) hw rfl ?_
    refine ev_iload_n dX12_stepsOf_26 rfl rfl ?_
    refine em_iald dX12_stepsOf_27 hS (by decide) (by decide) (N := 5) rfl g3 rfl ?_
    refine ev_iconst dX12_stepsOf_28 (v := (3 : Int32)) zci_3 ?_
    refine ev_icmp_ne dX12_stepsOf_29 (tgt := 46) (by decide) (fun c5 => ?_) (fun c5 => ?_)
    · replace h := zif c5 h
      refine ev_aload_n dX12_stepsOf_46 rfl rfl ?_
      refine em_getA dX12_stepsOf_47 zf_NineHeapsModel_20 rfl (hS.has 81 (by decide) (by decide) rfl) hw rfl ?_
      refine ev_iload_n dX12_stepsOf_50 rfl rfl ?_
      refine em_iald dX12_stepsOf_51 hS (by decide) (by decide) (N := 5) rfl g3 rfl ?_
      refine ev_iconst dX12_stepsOf_52 (v := (4 : Int32)) zci_4 ?_
      refine ev_icmp_ne dX12_stepsOf_53 (tgt := 63) (by decide) (fun c6 => ?_) (fun c6 => ?_)
      · replace h := zif c6 h
        refine ev_iload dX12_stepsOf_63 rfl ?_
        obtain rfl := h
        exact k13
      · replace h := zit c6 h
        refine ev_iconst dX12_stepsOf_56 (v := (2 : Int32)) zci_2 ?_
        refine ev_iload dX12_stepsOf_57 rfl ?_
        refine ev_imul dX12_stepsOf_59 rfl ?_
        refine ev_goto dX12_stepsOf_60 (tgt := 65) (by decide) ?_
        obtain rfl := h
        exact k13
    · replace h := zit c5 h
      refine ev_iload dX12_stepsOf_32 rfl ?_
      refine ev_aload_n dX12_stepsOf_34 rfl rfl ?_
      refine em_getA dX12_stepsOf_35 zf_NineHeapsModel_23 rfl (hS.has 81 (by decide) (by decide) rfl) hw rfl ?_
      refine ev_iload_n dX12_stepsOf_38 rfl rfl ?_
      refine em_iald dX12_stepsOf_39 hS (by decide) (by decide) (N := 5) rfl g3 rfl ?_
      refine ev_iconst dX12_stepsOf_40 (v := (3 : Int32)) zci_3 ?_
      refine ev_idiv dX12_stepsOf_41 (by decide) rfl ?_
      refine ev_isub dX12_stepsOf_42 rfl ?_
      refine ev_goto dX12_stepsOf_43 (tgt := 65) (by decide) ?_
      obtain rfl := h
      exact k13
abbrev q12_begins (n : Nat) (kd : zMK) (R : zMR) (r : zMI) : Option Value → zM → Prop := fun v μ1 => v = none ∧ μ1 = (n, kd, r, R)
set_option maxHeartbeats 4000000 in
set_option maxRecDepth 100000 in
theorem e12_begins_L2 {w : zW} {d : Nat} {n : Nat} {kd : zMK} {R : zMR} {r : zMI} {k67 : zMI → Option (zMI)} (hw : zst w = zSt0) (hS : zSh n kd) (hd : 1 ≤ d)  (hk67 : ∀  (I : zMI), k67 I = some r → EV w d 0 0 Y12_begins 67 [some (.ref 81), none] [] (n, kd, I, R) (q12_begins n kd R r)) : ∀ (q : Nat) (l1 : Int32) (I : zMI), f12_begins_L2 k67 q l1 I = some r → EV w d 0 0 Y12_begins 2 [some (.ref 81), some (.int l1)] [] (n, kd, I, R) (q12_begins n kd R r) := by
  intro q
  induction q with
  | zero =>
    intro l1 I h
    cases h
  | succ q ih =>
    intro l1 I h
    unfold f12_begins_L2 at h
    refine ev_iload_n dX12_begins_2 rfl rfl ?_
    refine ev_iconst dX12_begins_3 (v := (5 : Int32)) zci_5 ?_
    refine ev_icmp_ge dX12_begins_4 (tgt := 67) (by decide) (fun c1 => ?_) (fun c1 => ?_)
    · replace h := zit c1 h
      exact EV.mask [true, false] rfl (hk67 I h)
    · replace h := zif c1 h
      refine ev_aload_n dX12_begins_7 rfl rfl ?_
      refine em_getA dX12_begins_8 zf_NineHeapsModel_68 rfl (hS.has 81 (by decide) (by decide) rfl) hw rfl ?_
      refine ev_iload_n dX12_begins_11 rfl rfl ?_
      refine ev_aload_n dX12_begins_12 rfl rfl ?_
      refine em_getA dX12_begins_13 zf_NineHeapsModel_26 rfl (hS.has 81 (by decide) (by decide) rfl) hw rfl ?_
      refine ev_iload_n dX12_begins_16 rfl rfl ?_
      obtain ⟨g2, h⟩ := zgd h
      refine em_iald dX12_begins_17 hS (by decide) (by decide) (N := 5) rfl g2 rfl ?_
      obtain ⟨J3, e4, h⟩ := zld h
      refine em_iast dX12_begins_18 hS (by decide) (by decide) (N := 5) rfl g2 e4 ?_
      refine ev_aload_n dX12_begins_19 rfl rfl ?_
      refine em_getA dX12_begins_20 zf_NineHeapsModel_71 rfl (hS.has 81 (by decide) (by decide) rfl) hw rfl ?_
      refine ev_iload_n dX12_begins_23 rfl rfl ?_
      refine ev_iconst dX12_begins_24 (v := (1 : Int32)) zci_1 ?_
      obtain ⟨J5, e6, h⟩ := zld h
      refine em_iast dX12_begins_25 hS (by decide) (by decide) (N := 5) rfl g2 e6 ?_
      refine ev_aload_n dX12_begins_26 rfl rfl ?_
      refine em_getA dX12_begins_27 zf_NineHeapsModel_74 rfl (hS.has 81 (by decide) (by decide) rfl) hw rfl ?_
      refine ev_iload_n dX12_begins_30 rfl rfl ?_
      refine ev_iconst dX12_begins_31 (v := (0 : Int32)) zci_0 ?_
      obtain ⟨J7, e8, h⟩ := zld h
      refine em_iast dX12_begins_32 hS (by decide) (by decide) (N := 5) rfl g2 e8 ?_
      refine ev_aload_n dX12_begins_33 rfl rfl ?_
      refine em_getA dX12_begins_34 zf_NineHeapsModel_77 rfl (hS.has 81 (by decide) (by decide) rfl) hw rfl ?_
      refine ev_iload_n dX12_begins_37 rfl rfl ?_
      refine ev_iconst dX12_begins_38 (v := (0 : Int32)) zci_0 ?_
      obtain ⟨J9, e10, h⟩ := zld h
      refine em_iast dX12_begins_39 hS (by decide) (by decide) (N := 5) rfl g2 e10 ?_
      refine ev_aload_n dX12_begins_40 rfl rfl ?_
      refine em_getA dX12_begins_41 zf_NineHeapsModel_80 rfl (hS.has 81 (by decide) (by decide) rfl) hw rfl ?_
      refine ev_iload_n dX12_begins_44 rfl rfl ?_
      refine ev_iconst dX12_begins_45 (v := (0 : Int32)) zci_0 ?_
      obtain ⟨J11, e12, h⟩ := zld h
      refine em_iast dX12_begins_46 hS (by decide) (by decide) (N := 5) rfl g2 e12 ?_
      refine ev_aload_n dX12_begins_47 rfl rfl ?_
      refine em_getA dX12_begins_48 zf_NineHeapsModel_83 rfl (hS.has 81 (by decide) (by decide) rfl) hw rfl ?_
      refine ev_iload_n dX12_begins_51 rfl rfl ?_
      refine ev_iconst dX12_begins_52 (v := (0 : Int32)) zci_0 ?_
      obtain ⟨J13, e14, h⟩ := zld h
      refine em_iast dX12_begins_53 hS (by decide) (by decide) (N := 5) rfl g2 e14 ?_
      refine ev_aload_n dX12_begins_54 rfl rfl ?_
      refine em_getA dX12_begins_55 zf_NineHeapsModel_86 rfl (hS.has 81 (by decide) (by decide) rfl) hw rfl ?_
      refine ev_iload_n dX12_begins_58 rfl rfl ?_
      refine ev_iconst dX12_begins_59 (v := (0 : Int32)) zci_0 ?_
      obtain ⟨J15, e16, h⟩ := zld h
      refine em_iast dX12_begins_60 hS (by decide) (by decide) (N := 5) rfl g2 e16 ?_
      refine ev_iinc dX12_begins_61 (v := l1 + (1 : Int32)) rfl rfl (by decide) rfl ?_
      refine ev_goto dX12_begins_64 (tgt := 2) (by decide) ?_
      exact EV.mask [true, true] rfl (ih (l1 + (1 : Int32)) J15 h)
set_option maxHeartbeats 4000000 in
set_option maxRecDepth 100000 in
theorem e12_begins_L69 {w : zW} {d : Nat} {n : Nat} {kd : zMK} {R : zMR} {r : zMI} {k107 : zMI → Option (zMI)} (hw : zst w = zSt0) (hS : zSh n kd) (hd : 1 ≤ d)  (hk107 : ∀  (I : zMI), k107 I = some r → EV w d 0 0 Y12_begins 107 [some (.ref 81), none] [] (n, kd, I, R) (q12_begins n kd R r)) : ∀ (q : Nat) (l1 : Int32) (I : zMI), f12_begins_L69 k107 q l1 I = some r → EV w d 0 0 Y12_begins 69 [some (.ref 81), some (.int l1)] [] (n, kd, I, R) (q12_begins n kd R r) := by
  intro q
  induction q with
  | zero =>
    intro l1 I h
    cases h
  | succ q ih =>
    intro l1 I h
    unfold f12_begins_L69 at h
    refine ev_iload_n dX12_begins_69 rfl rfl ?_
    refine ev_bipush dX12_begins_70 (v := (9 : Int32)) zcb_9 ?_
    refine ev_icmp_ge dX12_begins_72 (tgt := 107) (by decide) (fun c17 => ?_) (fun c17 => ?_)
    · replace h := zit c17 h
      exact EV.mask [true, false] rfl (hk107 I h)
    · replace h := zif c17 h
      refine ev_aload_n dX12_begins_75 rfl rfl ?_
      refine em_getA dX12_begins_76 zf_NineHeapsModel_89 rfl (hS.has 81 (by decide) (by decide) rfl) hw rfl ?_
      refine ev_iload_n dX12_begins_79 rfl rfl ?_
      refine ev_aload_n dX12_begins_80 rfl rfl ?_
      refine em_getA dX12_begins_81 zf_NineHeapsModel_7 rfl (hS.has 81 (by decide) (by decide) rfl) hw rfl ?_
      refine ev_iload_n dX12_begins_84 rfl rfl ?_
      obtain ⟨g18, h⟩ := zgd h
      refine em_iald dX12_begins_85 hS (by decide) (by decide) (N := 9) rfl g18 rfl ?_
      obtain ⟨J19, e20, h⟩ := zld h
      refine em_iast dX12_begins_86 hS (by decide) (by decide) (N := 9) rfl g18 e20 ?_
      refine ev_aload_n dX12_begins_87 rfl rfl ?_
      refine em_getA dX12_begins_88 zf_NineHeapsModel_92 rfl (hS.has 81 (by decide) (by decide) rfl) hw rfl ?_
      refine ev_iload_n dX12_begins_91 rfl rfl ?_
      refine ev_iconst dX12_begins_92 (v := (0 : Int32)) zci_0 ?_
      obtain ⟨J21, e22, h⟩ := zld h
      refine em_iast dX12_begins_93 hS (by decide) (by decide) (N := 9) rfl g18 e22 ?_
      refine ev_aload_n dX12_begins_94 rfl rfl ?_
      refine em_getA dX12_begins_95 zf_NineHeapsModel_95 rfl (hS.has 81 (by decide) (by decide) rfl) hw rfl ?_
      refine ev_iload_n dX12_begins_98 rfl rfl ?_
      refine ev_iconst dX12_begins_99 (v := (-1 : Int32)) zci_m1 ?_
      obtain ⟨J23, e24, h⟩ := zld h
      refine em_iast dX12_begins_100 hS (by decide) (by decide) (N := 9) rfl g18 e24 ?_
      refine ev_iinc dX12_begins_101 (v := l1 + (1 : Int32)) rfl rfl (by decide) rfl ?_
      refine ev_goto dX12_begins_104 (tgt := 69) (by decide) ?_
      exact EV.mask [true, true] rfl (ih (l1 + (1 : Int32)) J23 h)
set_option maxHeartbeats 4000000 in
set_option maxRecDepth 100000 in
theorem e12_begins_B107 {w : zW} {d : Nat} {n : Nat} {kd : zMK} {R : zMR} {r : zMI}  (hw : zst w = zSt0) (hS : zSh n kd) (hd : 1 ≤ d)   : ∀  (I : zMI), f12_begins_B107 I = some r → EV w d 0 0 Y12_begins 107 [some (.ref 81), none] [] (n, kd, I, R) (q12_begins n kd R r) := by
  intro I h
  unfold f12_begins_B107 at h
  refine ev_aload_n dX12_begins_107 rfl rfl ?_
  refine ev_iconst dX12_begins_108 (v := (0 : Int32)) zci_0 ?_
  obtain ⟨J25, e26, h⟩ := zld h
  refine em_putI dX12_begins_109 zf_NineHeapsModel_210 (Or.inl rfl) rfl rfl rfl (hS.has 81 (by decide) (by decide) rfl) e26 ?_
  refine ev_aload_n dX12_begins_112 rfl rfl ?_
  refine ev_iconst dX12_begins_113 (v := (0 : Int32)) zci_0 ?_
  obtain ⟨J27, e28, h⟩ := zld h
  refine em_putI dX12_begins_114 zf_NineHeapsModel_213 (Or.inl rfl) rfl rfl rfl (hS.has 81 (by decide) (by decide) rfl) e28 ?_
  refine ev_aload_n dX12_begins_117 rfl rfl ?_
  refine ev_iconst dX12_begins_118 (v := (-1 : Int32)) zci_m1 ?_
  obtain ⟨J29, e30, h⟩ := zld h
  refine em_putI dX12_begins_119 zf_NineHeapsModel_216 (Or.inl rfl) rfl rfl rfl (hS.has 81 (by decide) (by decide) rfl) e30 ?_
  obtain rfl := Option.some.inj h
  exact ev_end_v dX12_begins_122 rfl ⟨rfl, rfl⟩
set_option maxHeartbeats 4000000 in
set_option maxRecDepth 100000 in
theorem e12_begins_B67 {w : zW} {d : Nat} {n : Nat} {kd : zMK} {R : zMR} {r : zMI}  (hw : zst w = zSt0) (hS : zSh n kd) (hd : 1 ≤ d)   : ∀  (I : zMI), f12_begins_B67 I = some r → EV w d 0 0 Y12_begins 67 [some (.ref 81), none] [] (n, kd, I, R) (q12_begins n kd R r) := by
  intro I h
  unfold f12_begins_B67 at h
  refine ev_iconst dX12_begins_67 (v := (0 : Int32)) zci_0 ?_
  refine ev_istore_n dX12_begins_68 rfl (by decide) rfl ?_
  exact EV.mask [true, true] rfl (e12_begins_L69 hw hS hd (fun I' h' => e12_begins_B107 hw hS hd I' h') zF (0 : Int32) I h)
set_option maxHeartbeats 4000000 in
set_option maxRecDepth 100000 in
theorem e12_begins {w : zW} {d : Nat} {n : Nat} {kd : zMK} {I : zMI} {R : zMR} {r : zMI}  (hw : zst w = zSt0) (hS : zSh n kd) (hd : 1 ≤ d)  (h : f12_begins I = some r) : EV w d 0 0 Y12_begins 0 [some (.ref 81), none] [] (n, kd, I, R) (q12_begins n kd R r) := by
  unfold f12_begins at h
  refine ev_iconst dX12_begins_0 (v := (0 : Int32)) zci_0 ?_
  refine ev_istore_n dX12_begins_1 rfl (by decide) rfl ?_
  exact EV.mask [true, true] rfl (e12_begins_L2 hw hS hd (fun I' h' => e12_begins_B67 hw hS hd I' h') zF (0 : Int32) I h)
abbrev q12_lifts (n : Nat) (kd : zMK) (R : zMR) (r : zMI) : Option Value → zM → Prop := fun v μ1 => v = none ∧ μ1 = (n, kd, r, R)
set_option maxHeartbeats 4000000 in
set_option maxRecDepth 100000 in
theorem e12_lifts_B102 {w : zW} {d : Nat} {n : Nat} {kd : zMK} {R : zMR} {r : zMI}  (hw : zst w = zSt0) (hS : zSh n kd) (hd : 2 ≤ d)   : ∀ (l1 : Int32) (l2 : Int32) (l3 : Int32) (s0 : Int32) (I : zMI), f12_lifts_B102 l1 l2 l3 s0 I = some r → EV w d 0 0 Y12_lifts 102 [some (.ref 81), some (.int l1), some (.int l2), some (.int l3), none] [.int s0] (n, kd, I, R) (q12_lifts n kd R r) := by
  intro l1 l2 l3 s0 I h
  unfold f12_lifts_B102 at h
  refine ev_istore dX12_lifts_102 (by decide) rfl ?_
  refine ev_aload_n dX12_lifts_104 rfl rfl ?_
  refine em_getA dX12_lifts_105 zf_NineHeapsModel_89 rfl (hS.has 81 (by decide) (by decide) rfl) hw rfl ?_
  refine ev_iload_n dX12_lifts_108 rfl rfl ?_
  refine ev_dup2 dX12_lifts_109 rfl rfl ?_
  obtain ⟨g1, h⟩ := zgd h
  refine em_iald dX12_lifts_110 hS (by decide) (by decide) (N := 9) rfl g1 rfl ?_
  refine ev_iload dX12_lifts_111 rfl ?_
  obtain ⟨x3, e4, h⟩ := zld h
  have k23 : EV w d 0 0 Y12_lifts 121 [some (.ref 81), some (.int l1), some (.int l2), some (.int l3), some (.int s0)] [.int x3, .int (I 107 l3.toNatClampNeg), .int l3, .ref 107] (n, kd, I, R) (q12_lifts n kd R r) := by
    refine ev_isub dX12_lifts_121 rfl ?_
    obtain ⟨J5, e6, h⟩ := zld h
    refine em_iast dX12_lifts_122 hS (by decide) (by decide) (N := 9) rfl g1 e6 ?_
    refine ev_aload_n dX12_lifts_123 rfl rfl ?_
    refine em_getA dX12_lifts_124 zf_NineHeapsModel_86 rfl (hS.has 81 (by decide) (by decide) rfl) hw rfl ?_
    refine ev_iload_n dX12_lifts_127 rfl rfl ?_
    refine ev_iload dX12_lifts_128 rfl ?_
    obtain ⟨x11, e12, h⟩ := zbd h
    have k22 : EV w d 0 0 Y12_lifts 152 [some (.ref 81), some (.int l1), some (.int l2), some (.int l3), some (.int s0)] [.int x11, .int l1, .ref 106] (n, kd, J5, R) (q12_lifts n kd R r) := by
      obtain ⟨g13, h⟩ := zgd h
      obtain ⟨J14, e15, h⟩ := zld h
      refine em_iast dX12_lifts_152 hS (by decide) (by decide) (N := 5) rfl g13 e15 ?_
      refine ev_aload_n dX12_lifts_153 rfl rfl ?_
      refine em_getA dX12_lifts_154 zf_NineHeapsModel_95 rfl (hS.has 81 (by decide) (by decide) rfl) hw rfl ?_
      refine ev_iload_n dX12_lifts_157 rfl rfl ?_
      refine ev_aload_n dX12_lifts_158 rfl rfl ?_
      refine em_getA dX12_lifts_159 zf_NineHeapsModel_89 rfl (hS.has 81 (by decide) (by decide) rfl) hw rfl ?_
      refine ev_iload_n dX12_lifts_162 rfl rfl ?_
      refine em_iald dX12_lifts_163 hS (by decide) (by decide) (N := 9) rfl g1 rfl ?_
      obtain ⟨x17, e18, h⟩ := zld h
      have k21 : EV w d 0 0 Y12_lifts 177 [some (.ref 81), some (.int l1), some (.int l2), some (.int l3), some (.int s0)] [.int x17, .int l3, .ref 109] (n, kd, J14, R) (q12_lifts n kd R r) := by
        obtain ⟨J19, e20, h⟩ := zld h
        refine em_iast dX12_lifts_177 hS (by decide) (by decide) (N := 9) rfl g1 e20 ?_
        obtain rfl := Option.some.inj h
        exact ev_end_v dX12_lifts_178 rfl ⟨rfl, rfl⟩
      clear h
      have h := e18
      clear e18
      refine ev_if_ne dX12_lifts_164 (tgt := 171) (by decide) (fun c16 => ?_) (fun c16 => ?_)
      · replace h := zif c16 h
        refine ev_aload_n dX12_lifts_171 rfl rfl ?_
        refine em_getA dX12_lifts_172 zf_NineHeapsModel_95 rfl (hS.has 81 (by decide) (by decide) rfl) hw rfl ?_
        refine ev_iload_n dX12_lifts_175 rfl rfl ?_
        refine em_iald dX12_lifts_176 hS (by decide) (by decide) (N := 9) rfl g1 rfl ?_
        obtain rfl := h
        exact k21
      · replace h := zit c16 h
        refine ev_iload_n dX12_lifts_167 rfl rfl ?_
        refine ev_goto dX12_lifts_168 (tgt := 177) (by decide) ?_
        obtain rfl := h
        exact k21
    clear h
    have h := e12
    clear e12
    refine ev_if_eq dX12_lifts_130 (tgt := 146) (by decide) (fun c7 => ?_) (fun c7 => ?_)
    · replace h := zit c7 h
      refine ev_aload_n dX12_lifts_146 rfl rfl ?_
      refine em_getA dX12_lifts_147 zf_NineHeapsModel_86 rfl (hS.has 81 (by decide) (by decide) rfl) hw rfl ?_
      refine ev_iload_n dX12_lifts_150 rfl rfl ?_
      obtain ⟨g8, h⟩ := zgd h
      refine em_iald dX12_lifts_151 hS (by decide) (by decide) (N := 5) rfl g8 rfl ?_
      obtain rfl := Option.some.inj h
      exact k22
    · replace h := zif c7 h
      refine ev_aload_n dX12_lifts_133 rfl rfl ?_
      refine em_getA dX12_lifts_134 zf_NineHeapsModel_86 rfl (hS.has 81 (by decide) (by decide) rfl) hw rfl ?_
      refine ev_iload_n dX12_lifts_137 rfl rfl ?_
      obtain ⟨g9, h⟩ := zgd h
      refine em_iald dX12_lifts_138 hS (by decide) (by decide) (N := 5) rfl g9 rfl ?_
      refine ev_if_ne dX12_lifts_139 (tgt := 146) (by decide) (fun c10 => ?_) (fun c10 => ?_)
      · replace h := zif c10 h
        refine ev_aload_n dX12_lifts_146 rfl rfl ?_
        refine em_getA dX12_lifts_147 zf_NineHeapsModel_86 rfl (hS.has 81 (by decide) (by decide) rfl) hw rfl ?_
        refine ev_iload_n dX12_lifts_150 rfl rfl ?_
        refine em_iald dX12_lifts_151 hS (by decide) (by decide) (N := 5) rfl g9 rfl ?_
        obtain rfl := Option.some.inj h
        exact k22
      · replace h := zit c10 h
        refine ev_iconst dX12_lifts_142 (v := (1 : Int32)) zci_1 ?_
        refine ev_goto dX12_lifts_143 (tgt := 152) (by decide) ?_
        obtain rfl := Option.some.inj h
        exact k22
  clear h
  have h := e4
  clear e4
  refine ev_if_eq dX12_lifts_113 (tgt := 120) (by decide) (fun c2 => ?_) (fun c2 => ?_)
  · replace h := zit c2 h
    refine ev_iconst dX12_lifts_120 (v := (1 : Int32)) zci_1 ?_
    obtain rfl := h
    exact k23
  · replace h := zif c2 h
    refine ev_iconst dX12_lifts_116 (v := (2 : Int32)) zci_2 ?_
    refine ev_goto dX12_lifts_117 (tgt := 121) (by decide) ?_
    obtain rfl := h
    exact k23
set_option maxHeartbeats 4000000 in
set_option maxRecDepth 100000 in
theorem e12_lifts_B101 {w : zW} {d : Nat} {n : Nat} {kd : zMK} {R : zMR} {r : zMI}  (hw : zst w = zSt0) (hS : zSh n kd) (hd : 2 ≤ d)   : ∀ (l1 : Int32) (l2 : Int32) (l3 : Int32) (I : zMI), f12_lifts_B101 l1 l2 l3 I = some r → EV w d 0 0 Y12_lifts 101 [some (.ref 81), some (.int l1), some (.int l2), some (.int l3), none] [] (n, kd, I, R) (q12_lifts n kd R r) := by
  intro l1 l2 l3 I h
  unfold f12_lifts_B101 at h
  refine ev_iconst dX12_lifts_101 (v := (0 : Int32)) zci_0 ?_
  exact EV.mask [true, true, true, true, false] rfl (e12_lifts_B102 hw hS hd l1 l2 l3 (0 : Int32) I h)
set_option maxHeartbeats 4000000 in
set_option maxRecDepth 100000 in
theorem e12_lifts {w : zW} {d : Nat} {n : Nat} {kd : zMK} {I : zMI} {R : zMR} {r : zMI} {l1 : Int32} {l2 : Int32} (hw : zst w = zSt0) (hS : zSh n kd) (hd : 2 ≤ d)  (h : f12_lifts l1 l2 I = some r) : EV w d 0 0 Y12_lifts 0 [some (.ref 81), some (.int l1), some (.int l2), none, none] [] (n, kd, I, R) (q12_lifts n kd R r) := by
  unfold f12_lifts at h
  refine ev_aload_n dX12_lifts_0 rfl rfl ?_
  refine em_getA dX12_lifts_1 zf_NineHeapsModel_68 rfl (hS.has 81 (by decide) (by decide) rfl) hw rfl ?_
  refine ev_iload_n dX12_lifts_4 rfl rfl ?_
  obtain ⟨g24, h⟩ := zgd h
  refine em_iald dX12_lifts_5 hS (by decide) (by decide) (N := 5) rfl g24 rfl ?_
  refine ev_istore_n dX12_lifts_6 rfl (by decide) rfl ?_
  refine ev_aload_n dX12_lifts_7 rfl rfl ?_
  refine em_getA dX12_lifts_8 zf_NineHeapsModel_77 rfl (hS.has 81 (by decide) (by decide) rfl) hw rfl ?_
  refine ev_iload_n dX12_lifts_11 rfl rfl ?_
  refine ev_dup2 dX12_lifts_12 rfl rfl ?_
  refine em_iald dX12_lifts_13 hS (by decide) (by decide) (N := 5) rfl g24 rfl ?_
  refine ev_iconst dX12_lifts_14 (v := (1 : Int32)) zci_1 ?_
  refine ev_iadd dX12_lifts_15 rfl ?_
  obtain ⟨J25, e26, h⟩ := zld h
  refine em_iast dX12_lifts_16 hS (by decide) (by decide) (N := 5) rfl g24 e26 ?_
  refine ev_aload_n dX12_lifts_17 rfl rfl ?_
  refine em_getA dX12_lifts_18 zf_NineHeapsModel_89 rfl (hS.has 81 (by decide) (by decide) rfl) hw rfl ?_
  refine ev_iload_n dX12_lifts_21 rfl rfl ?_
  obtain ⟨g27, h⟩ := zgd h
  refine em_iald dX12_lifts_22 hS (by decide) (by decide) (N := 9) rfl g27 rfl ?_
  refine ev_if_ne dX12_lifts_23 (tgt := 46) (by decide) (fun c28 => ?_) (fun c28 => ?_)
  · replace h := zif c28 h
    refine ev_aload_n dX12_lifts_46 rfl rfl ?_
    refine em_getA dX12_lifts_47 zf_NineHeapsModel_92 rfl (hS.has 81 (by decide) (by decide) rfl) hw rfl ?_
    refine ev_iload_n dX12_lifts_50 rfl rfl ?_
    refine ev_dup2 dX12_lifts_51 rfl rfl ?_
    refine em_iald dX12_lifts_52 hS (by decide) (by decide) (N := 9) rfl g27 rfl ?_
    refine ev_iconst dX12_lifts_53 (v := (1 : Int32)) zci_1 ?_
    refine ev_iadd dX12_lifts_54 rfl ?_
    obtain ⟨J29, e30, h⟩ := zld h
    refine em_iast dX12_lifts_55 hS (by decide) (by decide) (N := 9) rfl g27 e30 ?_
    refine ev_aload_n dX12_lifts_56 rfl rfl ?_
    refine em_getA dX12_lifts_57 zf_NineHeapsModel_13 rfl (hS.has 81 (by decide) (by decide) rfl) hw rfl ?_
    refine ev_iload_n dX12_lifts_60 rfl rfl ?_
    refine em_iald dX12_lifts_61 hS (by decide) (by decide) (N := 9) rfl g27 rfl ?_
    refine ev_if_eq dX12_lifts_62 (tgt := 101) (by decide) (fun c31 => ?_) (fun c31 => ?_)
    · replace h := zit c31 h
      exact EV.mask [true, true, true, true, false] rfl (e12_lifts_B101 hw hS hd l1 l2 (I 100 l1.toNatClampNeg) J29 h)
    · replace h := zif c31 h
      refine ev_aload_n dX12_lifts_65 rfl rfl ?_
      refine em_getA dX12_lifts_66 zf_NineHeapsModel_89 rfl (hS.has 81 (by decide) (by decide) rfl) hw rfl ?_
      refine ev_iload_n dX12_lifts_69 rfl rfl ?_
      refine em_iald dX12_lifts_70 hS (by decide) (by decide) (N := 9) rfl g27 rfl ?_
      refine ev_iconst dX12_lifts_71 (v := (2 : Int32)) zci_2 ?_
      refine ev_icmp_lt dX12_lifts_72 (tgt := 101) (by decide) (fun c32 => ?_) (fun c32 => ?_)
      · replace h := zit c32 h
        exact EV.mask [true, true, true, true, false] rfl (e12_lifts_B101 hw hS hd l1 l2 (I 100 l1.toNatClampNeg) J29 h)
      · replace h := zif c32 h
        refine ev_aload_n dX12_lifts_75 rfl rfl ?_
        refine em_getA dX12_lifts_76 zf_NineHeapsModel_92 rfl (hS.has 81 (by decide) (by decide) rfl) hw rfl ?_
        refine ev_iload_n dX12_lifts_79 rfl rfl ?_
        refine em_iald dX12_lifts_80 hS (by decide) (by decide) (N := 9) rfl g27 rfl ?_
        refine ev_aload_n dX12_lifts_81 rfl rfl ?_
        refine em_getA dX12_lifts_82 zf_NineHeapsModel_13 rfl (hS.has 81 (by decide) (by decide) rfl) hw rfl ?_
        refine ev_iload_n dX12_lifts_85 rfl rfl ?_
        refine em_iald dX12_lifts_86 hS (by decide) (by decide) (N := 9) rfl g27 rfl ?_
        refine ev_iconst dX12_lifts_87 (v := (1 : Int32)) zci_1 ?_
        refine ev_bipush dX12_lifts_88 (v := (9 : Int32)) zcb_9 ?_
        obtain ⟨p33, e34, h⟩ := zbd h
        refine ev_callS0 dX12_lifts_90 zm12_within zl_NineHeapsModel_200 zs12_within (As := [.int (J29 83 (I 100 l1.toNatClampNeg).toNatClampNeg), .int (1 : Int32), .int (9 : Int32)]) (rest := [.int (J29 108 (I 100 l1.toNatClampNeg).toNatClampNeg)]) rfl rfl (Nat.le_of_ble_eq_true rfl) rfl (Nat.le_of_ble_eq_true rfl) (d' := 1) (by omega) (e12_within hw hS (Nat.le_refl _) e34) (fun v μ1 q => ?_)
        obtain ⟨rfl, rfl⟩ := q
        obtain ⟨g35, h⟩ := zgd h
        refine ev_irem dX12_lifts_93 g35 rfl ?_
        refine ev_if_ne dX12_lifts_94 (tgt := 101) (by decide) (fun c36 => ?_) (fun c36 => ?_)
        · replace h := zif c36 h
          exact EV.mask [true, true, true, true, false] rfl (e12_lifts_B101 hw hS hd l1 l2 (I 100 l1.toNatClampNeg) J29 h)
        · replace h := zit c36 h
          refine ev_iconst dX12_lifts_97 (v := (1 : Int32)) zci_1 ?_
          refine ev_goto dX12_lifts_98 (tgt := 102) (by decide) ?_
          exact EV.mask [true, true, true, true, false] rfl (e12_lifts_B102 hw hS hd l1 l2 (I 100 l1.toNatClampNeg) (1 : Int32) J29 h)
  · replace h := zit c28 h
    refine ev_aload_n dX12_lifts_26 rfl rfl ?_
    refine ev_dup dX12_lifts_27 rfl ?_
    refine em_getI dX12_lifts_28 zf_NineHeapsModel_210 rfl (hS.has 81 (by decide) (by decide) rfl) rfl ?_
    refine ev_iconst dX12_lifts_31 (v := (1 : Int32)) zci_1 ?_
    refine ev_iload_n dX12_lifts_32 rfl rfl ?_
    refine ev_ishl dX12_lifts_33 rfl ?_
    refine ev_ior dX12_lifts_34 rfl ?_
    obtain ⟨J37, e38, h⟩ := zld h
    refine em_putI dX12_lifts_35 zf_NineHeapsModel_210 (Or.inl rfl) rfl rfl rfl (hS.has 81 (by decide) (by decide) rfl) e38 ?_
    refine ev_aload_n dX12_lifts_38 rfl rfl ?_
    refine em_getA dX12_lifts_39 zf_NineHeapsModel_86 rfl (hS.has 81 (by decide) (by decide) rfl) hw rfl ?_
    refine ev_iload_n dX12_lifts_42 rfl rfl ?_
    refine ev_iconst dX12_lifts_43 (v := (2 : Int32)) zci_2 ?_
    obtain ⟨J39, e40, h⟩ := zld h
    refine em_iast dX12_lifts_44 hS (by decide) (by decide) (N := 5) rfl g24 e40 ?_
    obtain rfl := Option.some.inj h
    exact ev_end_v dX12_lifts_45 rfl ⟨rfl, rfl⟩
abbrev q12_makes (n : Nat) (kd : zMK) (R : zMR) (r : zMI) : Option Value → zM → Prop := fun v μ1 => v = none ∧ μ1 = (n, kd, r, R)
set_option maxHeartbeats 4000000 in
set_option maxRecDepth 100000 in
theorem e12_makes {w : zW} {d : Nat} {n : Nat} {kd : zMK} {I : zMI} {R : zMR} {r : zMI} {l1 : Int32} {l2 : Int32} (hw : zst w = zSt0) (hS : zSh n kd) (hd : 1 ≤ d)  (h : f12_makes l1 l2 I = some r) : EV w d 0 0 Y12_makes 0 [some (.ref 81), some (.int l1), some (.int l2)] [] (n, kd, I, R) (q12_makes n kd R r) := by
  unfold f12_makes at h
  refine ev_aload_n dX12_makes_0 rfl rfl ?_
  refine em_getA dX12_makes_1 zf_NineHeapsModel_98 rfl (hS.has 81 (by decide) (by decide) rfl) hw rfl ?_
  refine ev_aload_n dX12_makes_4 rfl rfl ?_
  refine em_getI dX12_makes_5 zf_NineHeapsModel_213 rfl (hS.has 81 (by decide) (by decide) rfl) rfl ?_
  refine ev_aload_n dX12_makes_8 rfl rfl ?_
  refine em_getA dX12_makes_9 zf_NineHeapsModel_86 rfl (hS.has 81 (by decide) (by decide) rfl) hw rfl ?_
  refine ev_iload_n dX12_makes_12 rfl rfl ?_
  obtain ⟨g1, h⟩ := zgd h
  refine em_iald dX12_makes_13 hS (by decide) (by decide) (N := 5) rfl g1 rfl ?_
  obtain ⟨g2, h⟩ := zgd h
  obtain ⟨J3, e4, h⟩ := zld h
  refine em_iast dX12_makes_14 hS (by decide) (by decide) (N := 400) rfl g2 e4 ?_
  refine ev_aload_n dX12_makes_15 rfl rfl ?_
  refine ev_dup dX12_makes_16 rfl ?_
  refine em_getI dX12_makes_17 zf_NineHeapsModel_213 rfl (hS.has 81 (by decide) (by decide) rfl) rfl ?_
  refine ev_iconst dX12_makes_20 (v := (1 : Int32)) zci_1 ?_
  refine ev_iadd dX12_makes_21 rfl ?_
  obtain ⟨J5, e6, h⟩ := zld h
  refine em_putI dX12_makes_22 zf_NineHeapsModel_213 (Or.inl rfl) rfl rfl rfl (hS.has 81 (by decide) (by decide) rfl) e6 ?_
  refine ev_aload_n dX12_makes_25 rfl rfl ?_
  refine ev_aload_n dX12_makes_26 rfl rfl ?_
  refine em_getI dX12_makes_27 zf_NineHeapsModel_213 rfl (hS.has 81 (by decide) (by decide) rfl) rfl ?_
  refine ev_aload_n dX12_makes_30 rfl rfl ?_
  refine em_getI dX12_makes_31 zf_NineHeapsModel_16 rfl (hS.has 81 (by decide) (by decide) rfl) rfl ?_
  obtain ⟨x8, e9, h⟩ := zld h
  have k18 : EV w d 0 0 Y12_makes 45 [some (.ref 81), some (.int l1), some (.int l2)] [.int x8, .ref 81] (n, kd, J5, R) (q12_makes n kd R r) := by
    obtain ⟨J10, e11, h⟩ := zld h
    refine em_putI dX12_makes_45 zf_NineHeapsModel_216 (Or.inl rfl) rfl rfl rfl (hS.has 81 (by decide) (by decide) rfl) e11 ?_
    refine ev_aload_n dX12_makes_48 rfl rfl ?_
    refine em_getA dX12_makes_49 zf_NineHeapsModel_80 rfl (hS.has 81 (by decide) (by decide) rfl) hw rfl ?_
    refine ev_iload_n dX12_makes_52 rfl rfl ?_
    refine ev_dup2 dX12_makes_53 rfl rfl ?_
    refine em_iald dX12_makes_54 hS (by decide) (by decide) (N := 5) rfl g1 rfl ?_
    refine ev_iconst dX12_makes_55 (v := (1 : Int32)) zci_1 ?_
    refine ev_iadd dX12_makes_56 rfl ?_
    obtain ⟨J12, e13, h⟩ := zld h
    refine em_iast dX12_makes_57 hS (by decide) (by decide) (N := 5) rfl g1 e13 ?_
    refine ev_aload_n dX12_makes_58 rfl rfl ?_
    refine em_getA dX12_makes_59 zf_NineHeapsModel_77 rfl (hS.has 81 (by decide) (by decide) rfl) hw rfl ?_
    refine ev_iload_n dX12_makes_62 rfl rfl ?_
    refine ev_iconst dX12_makes_63 (v := (0 : Int32)) zci_0 ?_
    obtain ⟨J14, e15, h⟩ := zld h
    refine em_iast dX12_makes_64 hS (by decide) (by decide) (N := 5) rfl g1 e15 ?_
    refine ev_aload_n dX12_makes_65 rfl rfl ?_
    refine em_getA dX12_makes_66 zf_NineHeapsModel_86 rfl (hS.has 81 (by decide) (by decide) rfl) hw rfl ?_
    refine ev_iload_n dX12_makes_69 rfl rfl ?_
    refine ev_iconst dX12_makes_70 (v := (0 : Int32)) zci_0 ?_
    obtain ⟨J16, e17, h⟩ := zld h
    refine em_iast dX12_makes_71 hS (by decide) (by decide) (N := 5) rfl g1 e17 ?_
    obtain rfl := Option.some.inj h
    exact ev_end_v dX12_makes_72 rfl ⟨rfl, rfl⟩
  clear h
  have h := e9
  clear e9
  refine ev_icmp_ne dX12_makes_34 (tgt := 41) (by decide) (fun c7 => ?_) (fun c7 => ?_)
  · replace h := zif c7 h
    refine ev_aload_n dX12_makes_41 rfl rfl ?_
    refine em_getI dX12_makes_42 zf_NineHeapsModel_216 rfl (hS.has 81 (by decide) (by decide) rfl) rfl ?_
    obtain rfl := h
    exact k18
  · replace h := zit c7 h
    refine ev_iload_n dX12_makes_37 rfl rfl ?_
    refine ev_goto dX12_makes_38 (tgt := 45) (by decide) ?_
    obtain rfl := h
    exact k18
abbrev q12_mustWait (n : Nat) (kd : zMK) (I : zMI) (R : zMR) (r : Int32) : Option Value → zM → Prop := fun v μ1 => v = some (.int r) ∧ μ1 = (n, kd, I, R)
set_option maxHeartbeats 4000000 in
set_option maxRecDepth 100000 in
theorem e12_mustWait_B61 {w : zW} {d : Nat} {n : Nat} {kd : zMK} {I : zMI} {R : zMR} {r : Int32} {k14 : Int32 → Int32 → Option (Int32)} (hw : zst w = zSt0) (hS : zSh n kd) (hd : 1 ≤ d)  (hk14 : ∀ (l1 : Int32) (l2 : Int32) , k14 l1 l2 = some r → EV w d 0 0 Y12_mustWait 14 [some (.ref 81), some (.int l1), some (.int l2), none] [] (n, kd, I, R) (q12_mustWait n kd I R r)) : ∀ (l1 : Int32) (l2 : Int32) , f12_mustWait_B61 I k14 l1 l2 = some r → EV w d 0 0 Y12_mustWait 61 [some (.ref 81), some (.int l1), some (.int l2), none] [] (n, kd, I, R) (q12_mustWait n kd I R r) := by
  intro l1 l2 h
  unfold f12_mustWait_B61 at h
  refine ev_iinc dX12_mustWait_61 (v := l2 + (1 : Int32)) rfl rfl (by decide) rfl ?_
  refine ev_goto dX12_mustWait_64 (tgt := 14) (by decide) ?_
  exact EV.mask [true, true, true, false] rfl (hk14 l1 (l2 + (1 : Int32)) h)
set_option maxHeartbeats 4000000 in
set_option maxRecDepth 100000 in
theorem e12_mustWait_L14 {w : zW} {d : Nat} {n : Nat} {kd : zMK} {I : zMI} {R : zMR} {r : Int32}  (hw : zst w = zSt0) (hS : zSh n kd) (hd : 1 ≤ d)   : ∀ (q : Nat) (l1 : Int32) (l2 : Int32) , f12_mustWait_L14 I q l1 l2 = some r → EV w d 0 0 Y12_mustWait 14 [some (.ref 81), some (.int l1), some (.int l2), none] [] (n, kd, I, R) (q12_mustWait n kd I R r) := by
  intro q
  induction q with
  | zero =>
    intro l1 l2 h
    cases h
  | succ q ih =>
    intro l1 l2 h
    unfold f12_mustWait_L14 at h
    refine ev_iload_n dX12_mustWait_14 rfl rfl ?_
    refine ev_aload_n dX12_mustWait_15 rfl rfl ?_
    refine em_getI dX12_mustWait_16 zf_NineHeapsModel_219 rfl (hS.has 81 (by decide) (by decide) rfl) rfl ?_
    refine ev_icmp_ge dX12_mustWait_19 (tgt := 67) (by decide) (fun c1 => ?_) (fun c1 => ?_)
    · replace h := zit c1 h
      refine ev_iconst dX12_mustWait_67 (v := (0 : Int32)) zci_0 ?_
      obtain rfl := Option.some.inj h
      exact ev_end_i dX12_mustWait_68 rfl rfl ⟨rfl, rfl⟩
    · replace h := zif c1 h
      refine ev_aload_n dX12_mustWait_22 rfl rfl ?_
      refine em_getA dX12_mustWait_23 zf_NineHeapsModel_65 rfl (hS.has 81 (by decide) (by decide) rfl) hw rfl ?_
      refine ev_iload_n dX12_mustWait_26 rfl rfl ?_
      obtain ⟨g2, h⟩ := zgd h
      refine em_iald dX12_mustWait_27 hS (by decide) (by decide) (N := 5) rfl g2 rfl ?_
      refine ev_istore_n dX12_mustWait_28 rfl (by decide) rfl ?_
      refine ev_iload_n dX12_mustWait_29 rfl rfl ?_
      refine ev_iload_n dX12_mustWait_30 rfl rfl ?_
      refine ev_icmp_eq dX12_mustWait_31 (tgt := 61) (by decide) (fun c3 => ?_) (fun c3 => ?_)
      · replace h := zit c3 h
        exact EV.mask [true, true, true, false] rfl (e12_mustWait_B61 hw hS hd (fun l1' l2' h' => ih l1' l2' h') l1 l2 h)
      · replace h := zif c3 h
        refine ev_aload_n dX12_mustWait_34 rfl rfl ?_
        refine em_getA dX12_mustWait_35 zf_NineHeapsModel_71 rfl (hS.has 81 (by decide) (by decide) rfl) hw rfl ?_
        refine ev_iload_n dX12_mustWait_38 rfl rfl ?_
        obtain ⟨g4, h⟩ := zgd h
        refine em_iald dX12_mustWait_39 hS (by decide) (by decide) (N := 5) rfl g4 rfl ?_
        refine ev_iconst dX12_mustWait_40 (v := (2 : Int32)) zci_2 ?_
        refine ev_icmp_ne dX12_mustWait_41 (tgt := 61) (by decide) (fun c5 => ?_) (fun c5 => ?_)
        · replace h := zif c5 h
          exact EV.mask [true, true, true, false] rfl (e12_mustWait_B61 hw hS hd (fun l1' l2' h' => ih l1' l2' h') l1 l2 h)
        · replace h := zit c5 h
          refine ev_aload_n dX12_mustWait_44 rfl rfl ?_
          refine em_getA dX12_mustWait_45 zf_NineHeapsModel_68 rfl (hS.has 81 (by decide) (by decide) rfl) hw rfl ?_
          refine ev_iload_n dX12_mustWait_48 rfl rfl ?_
          refine em_iald dX12_mustWait_49 hS (by decide) (by decide) (N := 5) rfl g4 rfl ?_
          refine ev_aload_n dX12_mustWait_50 rfl rfl ?_
          refine em_getA dX12_mustWait_51 zf_NineHeapsModel_68 rfl (hS.has 81 (by decide) (by decide) rfl) hw rfl ?_
          refine ev_iload_n dX12_mustWait_54 rfl rfl ?_
          obtain ⟨g6, h⟩ := zgd h
          refine em_iald dX12_mustWait_55 hS (by decide) (by decide) (N := 5) rfl g6 rfl ?_
          refine ev_icmp_ne dX12_mustWait_56 (tgt := 61) (by decide) (fun c7 => ?_) (fun c7 => ?_)
          · replace h := zif c7 h
            exact EV.mask [true, true, true, false] rfl (e12_mustWait_B61 hw hS hd (fun l1' l2' h' => ih l1' l2' h') l1 l2 h)
          · replace h := zit c7 h
            refine ev_iconst dX12_mustWait_59 (v := (1 : Int32)) zci_1 ?_
            obtain rfl := Option.some.inj h
            exact ev_end_i dX12_mustWait_60 rfl rfl ⟨rfl, rfl⟩
set_option maxHeartbeats 4000000 in
set_option maxRecDepth 100000 in
theorem e12_mustWait {w : zW} {d : Nat} {n : Nat} {kd : zMK} {I : zMI} {R : zMR} {r : Int32} {l1 : Int32} (hw : zst w = zSt0) (hS : zSh n kd) (hd : 1 ≤ d)  (h : f12_mustWait I l1 = some r) : EV w d 0 0 Y12_mustWait 0 [some (.ref 81), some (.int l1), none, none] [] (n, kd, I, R) (q12_mustWait n kd I R r) := by
  unfold f12_mustWait at h
  refine ev_aload_n dX12_mustWait_0 rfl rfl ?_
  refine em_getA dX12_mustWait_1 zf_NineHeapsModel_20 rfl (hS.has 81 (by decide) (by decide) rfl) hw rfl ?_
  refine ev_iload_n dX12_mustWait_4 rfl rfl ?_
  obtain ⟨g8, h⟩ := zgd h
  refine em_iald dX12_mustWait_5 hS (by decide) (by decide) (N := 5) rfl g8 rfl ?_
  refine ev_iconst dX12_mustWait_6 (v := (3 : Int32)) zci_3 ?_
  refine ev_icmp_ne dX12_mustWait_7 (tgt := 12) (by decide) (fun c9 => ?_) (fun c9 => ?_)
  · replace h := zif c9 h
    refine ev_iconst dX12_mustWait_12 (v := (0 : Int32)) zci_0 ?_
    refine ev_istore_n dX12_mustWait_13 rfl (by decide) rfl ?_
    exact EV.mask [true, true, true, false] rfl (e12_mustWait_L14 hw hS hd zF l1 (0 : Int32) h)
  · replace h := zit c9 h
    refine ev_iconst dX12_mustWait_10 (v := (0 : Int32)) zci_0 ?_
    obtain rfl := Option.some.inj h
    exact ev_end_i dX12_mustWait_11 rfl rfl ⟨rfl, rfl⟩
abbrev q12_takesOn (n : Nat) (kd : zMK) (R : zMR) (r : zMI) : Option Value → zM → Prop := fun v μ1 => v = none ∧ μ1 = (n, kd, r, R)
set_option maxHeartbeats 4000000 in
set_option maxRecDepth 100000 in
theorem e12_takesOn_B43 {w : zW} {d : Nat} {n : Nat} {kd : zMK} {R : zMR} {r : zMI}  (hw : zst w = zSt0) (hS : zSh n kd) (hd : 5 ≤ d)   : ∀ (l1 : Int32) (I : zMI), f12_takesOn_B43 l1 I = some r → EV w d 0 0 Y12_takesOn 43 [some (.ref 81), some (.int l1), none, none] [] (n, kd, I, R) (q12_takesOn n kd R r) := by
  intro l1 I h
  unfold f12_takesOn_B43 at h
  refine ev_aload_n dX12_takesOn_43 rfl rfl ?_
  refine em_getA dX12_takesOn_44 zf_NineHeapsModel_68 rfl (hS.has 81 (by decide) (by decide) rfl) hw rfl ?_
  refine ev_iload_n dX12_takesOn_47 rfl rfl ?_
  obtain ⟨g1, h⟩ := zgd h
  refine em_iald dX12_takesOn_48 hS (by decide) (by decide) (N := 5) rfl g1 rfl ?_
  refine ev_istore_n dX12_takesOn_49 rfl (by decide) rfl ?_
  refine ev_aload_n dX12_takesOn_50 rfl rfl ?_
  refine em_getA dX12_takesOn_51 zf_NineHeapsModel_74 rfl (hS.has 81 (by decide) (by decide) rfl) hw rfl ?_
  refine ev_iload_n dX12_takesOn_54 rfl rfl ?_
  refine ev_aload_n dX12_takesOn_55 rfl rfl ?_
  refine ev_iload_n dX12_takesOn_56 rfl rfl ?_
  refine ev_iload_n dX12_takesOn_57 rfl rfl ?_
  refine ev_aload_n dX12_takesOn_58 rfl rfl ?_
  refine em_getA dX12_takesOn_59 zf_NineHeapsModel_89 rfl (hS.has 81 (by decide) (by decide) rfl) hw rfl ?_
  refine ev_iload_n dX12_takesOn_62 rfl rfl ?_
  obtain ⟨g2, h⟩ := zgd h
  refine em_iald dX12_takesOn_63 hS (by decide) (by decide) (N := 9) rfl g2 rfl ?_
  refine ev_aload_n dX12_takesOn_64 rfl rfl ?_
  refine em_getA dX12_takesOn_65 zf_NineHeapsModel_80 rfl (hS.has 81 (by decide) (by decide) rfl) hw rfl ?_
  refine ev_iload_n dX12_takesOn_68 rfl rfl ?_
  refine em_iald dX12_takesOn_69 hS (by decide) (by decide) (N := 5) rfl g1 rfl ?_
  obtain ⟨p3, e4, h⟩ := zbd h
  refine ev_callV0 dX12_takesOn_70 zm12_stepsOf zl_NineHeapsModel_229 zi12_stepsOf zv12_stepsOf (zrcM hS) (As := [.int l1, .int (I 100 l1.toNatClampNeg), .int (I 107 (I 100 l1.toNatClampNeg).toNatClampNeg), .int (I 104 l1.toNatClampNeg)]) (rest := [.int l1, .ref 102]) rfl rfl (Nat.le_of_ble_eq_true rfl) rfl (Nat.le_of_ble_eq_true rfl) (d' := 4) (by omega) (e12_stepsOf hw hS (Nat.le_refl _) e4) (fun v μ1 q => ?_)
  obtain ⟨rfl, rfl⟩ := q
  obtain ⟨J5, e6, h⟩ := zld h
  refine em_iast dX12_takesOn_73 hS (by decide) (by decide) (N := 5) rfl g1 e6 ?_
  refine ev_aload_n dX12_takesOn_74 rfl rfl ?_
  refine em_getA dX12_takesOn_75 zf_NineHeapsModel_68 rfl (hS.has 81 (by decide) (by decide) rfl) hw rfl ?_
  refine ev_iload_n dX12_takesOn_78 rfl rfl ?_
  refine ev_iload_n dX12_takesOn_79 rfl rfl ?_
  refine ev_iconst dX12_takesOn_80 (v := (1 : Int32)) zci_1 ?_
  refine ev_iadd dX12_takesOn_81 rfl ?_
  refine ev_bipush dX12_takesOn_82 (v := (9 : Int32)) zcb_9 ?_
  refine ev_irem dX12_takesOn_84 (by decide) rfl ?_
  obtain ⟨J7, e8, h⟩ := zld h
  refine em_iast dX12_takesOn_85 hS (by decide) (by decide) (N := 5) rfl g1 e8 ?_
  refine ev_aload_n dX12_takesOn_86 rfl rfl ?_
  refine em_getA dX12_takesOn_87 zf_NineHeapsModel_71 rfl (hS.has 81 (by decide) (by decide) rfl) hw rfl ?_
  refine ev_iload_n dX12_takesOn_90 rfl rfl ?_
  refine ev_iconst dX12_takesOn_91 (v := (0 : Int32)) zci_0 ?_
  obtain ⟨J9, e10, h⟩ := zld h
  refine em_iast dX12_takesOn_92 hS (by decide) (by decide) (N := 5) rfl g1 e10 ?_
  obtain rfl := Option.some.inj h
  exact ev_end_v dX12_takesOn_93 rfl ⟨rfl, rfl⟩
set_option maxHeartbeats 4000000 in
set_option maxRecDepth 100000 in
theorem e12_takesOn {w : zW} {d : Nat} {n : Nat} {kd : zMK} {I : zMI} {R : zMR} {r : zMI} {l1 : Int32} {l2 : Int32} (hw : zst w = zSt0) (hS : zSh n kd) (hd : 5 ≤ d)  (h : f12_takesOn l1 l2 I = some r) : EV w d 0 0 Y12_takesOn 0 [some (.ref 81), some (.int l1), some (.int l2), none] [] (n, kd, I, R) (q12_takesOn n kd R r) := by
  unfold f12_takesOn at h
  refine ev_aload_n dX12_takesOn_0 rfl rfl ?_
  refine em_getA dX12_takesOn_1 zf_NineHeapsModel_74 rfl (hS.has 81 (by decide) (by decide) rfl) hw rfl ?_
  refine ev_iload_n dX12_takesOn_4 rfl rfl ?_
  refine ev_dup2 dX12_takesOn_5 rfl rfl ?_
  obtain ⟨g11, h⟩ := zgd h
  refine em_iald dX12_takesOn_6 hS (by decide) (by decide) (N := 5) rfl g11 rfl ?_
  refine ev_iconst dX12_takesOn_7 (v := (1 : Int32)) zci_1 ?_
  refine ev_isub dX12_takesOn_8 rfl ?_
  obtain ⟨J12, e13, h⟩ := zld h
  refine em_iast dX12_takesOn_9 hS (by decide) (by decide) (N := 5) rfl g11 e13 ?_
  refine ev_aload_n dX12_takesOn_10 rfl rfl ?_
  refine em_getA dX12_takesOn_11 zf_NineHeapsModel_74 rfl (hS.has 81 (by decide) (by decide) rfl) hw rfl ?_
  refine ev_iload_n dX12_takesOn_14 rfl rfl ?_
  refine em_iald dX12_takesOn_15 hS (by decide) (by decide) (N := 5) rfl g11 rfl ?_
  refine ev_if_le dX12_takesOn_16 (tgt := 20) (by decide) (fun c14 => ?_) (fun c14 => ?_)
  · replace h := zit c14 h
    refine ev_aload_n dX12_takesOn_20 rfl rfl ?_
    refine ev_iload_n dX12_takesOn_21 rfl rfl ?_
    refine ev_iload_n dX12_takesOn_22 rfl rfl ?_
    obtain ⟨p15, e16, h⟩ := zbd h
    refine ev_callV0 dX12_takesOn_23 zm12_lifts zl_NineHeapsModel_222 zi12_lifts zv12_lifts (zrcM hS) (As := [.int l1, .int l2]) (rest := []) rfl rfl (Nat.le_of_ble_eq_true rfl) rfl (Nat.le_of_ble_eq_true rfl) (d' := 2) (by omega) (e12_lifts hw hS (Nat.le_refl _) e16) (fun v μ1 q => ?_)
    obtain ⟨rfl, rfl⟩ := q
    refine ev_aload_n dX12_takesOn_26 rfl rfl ?_
    refine em_getA dX12_takesOn_27 zf_NineHeapsModel_77 rfl (hS.has 81 (by decide) (by decide) rfl) hw rfl ?_
    refine ev_iload_n dX12_takesOn_30 rfl rfl ?_
    refine em_iald dX12_takesOn_31 hS (by decide) (by decide) (N := 5) rfl g11 rfl ?_
    refine ev_bipush dX12_takesOn_32 (v := (9 : Int32)) zcb_9 ?_
    refine ev_icmp_ne dX12_takesOn_34 (tgt := 43) (by decide) (fun c17 => ?_) (fun c17 => ?_)
    · replace h := zif c17 h
      exact EV.mask [true, true, false, false] rfl (e12_takesOn_B43 hw hS hd l1 p15 h)
    · replace h := zit c17 h
      refine ev_aload_n dX12_takesOn_37 rfl rfl ?_
      refine ev_iload_n dX12_takesOn_38 rfl rfl ?_
      refine ev_iload_n dX12_takesOn_39 rfl rfl ?_
      obtain ⟨p18, e19, h⟩ := zbd h
      refine ev_callV0 dX12_takesOn_40 zm12_makes zl_NineHeapsModel_226 zi12_makes zv12_makes (zrcM hS) (As := [.int l1, .int l2]) (rest := []) rfl rfl (Nat.le_of_ble_eq_true rfl) rfl (Nat.le_of_ble_eq_true rfl) (d' := 1) (by omega) (e12_makes hw hS (Nat.le_refl _) e19) (fun v μ1 q => ?_)
      obtain ⟨rfl, rfl⟩ := q
      exact EV.mask [true, true, false, false] rfl (e12_takesOn_B43 hw hS hd l1 p18 h)
  · replace h := zif c14 h
    obtain rfl := Option.some.inj h
    exact ev_end_v dX12_takesOn_19 rfl ⟨rfl, rfl⟩
abbrev q12_waitsOn (n : Nat) (kd : zMK) (R : zMR) (r : zMI) : Option Value → zM → Prop := fun v μ1 => v = none ∧ μ1 = (n, kd, r, R)
set_option maxHeartbeats 4000000 in
set_option maxRecDepth 100000 in
theorem e12_waitsOn {w : zW} {d : Nat} {n : Nat} {kd : zMK} {I : zMI} {R : zMR} {r : zMI} {l1 : Int32} (hw : zst w = zSt0) (hS : zSh n kd) (hd : 5 ≤ d)  (h : f12_waitsOn l1 I = some r) : EV w d 0 0 Y12_waitsOn 0 [some (.ref 81), some (.int l1)] [] (n, kd, I, R) (q12_waitsOn n kd R r) := by
  unfold f12_waitsOn at h
  refine ev_aload_n dX12_waitsOn_0 rfl rfl ?_
  refine ev_iload_n dX12_waitsOn_1 rfl rfl ?_
  obtain ⟨p1, e2, h⟩ := zbd h
  refine ev_callV0 dX12_waitsOn_2 zm12_mustWait zl_NineHeapsModel_233 zi12_mustWait zv12_mustWait (zrcM hS) (As := [.int l1]) (rest := []) rfl rfl (Nat.le_of_ble_eq_true rfl) rfl (Nat.le_of_ble_eq_true rfl) (d' := 1) (by omega) (e12_mustWait hw hS (Nat.le_refl _) e2) (fun v μ1 q => ?_)
  obtain ⟨rfl, rfl⟩ := q
  refine ev_if_eq dX12_waitsOn_5 (tgt := 19) (by decide) (fun c3 => ?_) (fun c3 => ?_)
  · replace h := zit c3 h
    refine ev_aload_n dX12_waitsOn_19 rfl rfl ?_
    refine em_getA dX12_waitsOn_20 zf_NineHeapsModel_71 rfl (hS.has 81 (by decide) (by decide) rfl) hw rfl ?_
    refine ev_iload_n dX12_waitsOn_23 rfl rfl ?_
    refine ev_iconst dX12_waitsOn_24 (v := (2 : Int32)) zci_2 ?_
    obtain ⟨g4, h⟩ := zgd h
    obtain ⟨J5, e6, h⟩ := zld h
    refine em_iast dX12_waitsOn_25 hS (by decide) (by decide) (N := 5) rfl g4 e6 ?_
    refine ev_aload_n dX12_waitsOn_26 rfl rfl ?_
    refine em_getA dX12_waitsOn_27 zf_NineHeapsModel_74 rfl (hS.has 81 (by decide) (by decide) rfl) hw rfl ?_
    refine ev_iload_n dX12_waitsOn_30 rfl rfl ?_
    refine ev_aload_n dX12_waitsOn_31 rfl rfl ?_
    refine ev_iload_n dX12_waitsOn_32 rfl rfl ?_
    refine ev_aload_n dX12_waitsOn_33 rfl rfl ?_
    refine em_getA dX12_waitsOn_34 zf_NineHeapsModel_68 rfl (hS.has 81 (by decide) (by decide) rfl) hw rfl ?_
    refine ev_iload_n dX12_waitsOn_37 rfl rfl ?_
    refine em_iald dX12_waitsOn_38 hS (by decide) (by decide) (N := 5) rfl g4 rfl ?_
    refine ev_aload_n dX12_waitsOn_39 rfl rfl ?_
    refine em_getA dX12_waitsOn_40 zf_NineHeapsModel_89 rfl (hS.has 81 (by decide) (by decide) rfl) hw rfl ?_
    refine ev_aload_n dX12_waitsOn_43 rfl rfl ?_
    refine em_getA dX12_waitsOn_44 zf_NineHeapsModel_68 rfl (hS.has 81 (by decide) (by decide) rfl) hw rfl ?_
    refine ev_iload_n dX12_waitsOn_47 rfl rfl ?_
    refine em_iald dX12_waitsOn_48 hS (by decide) (by decide) (N := 5) rfl g4 rfl ?_
    obtain ⟨g7, h⟩ := zgd h
    refine em_iald dX12_waitsOn_49 hS (by decide) (by decide) (N := 9) rfl g7 rfl ?_
    refine ev_aload_n dX12_waitsOn_50 rfl rfl ?_
    refine em_getA dX12_waitsOn_51 zf_NineHeapsModel_80 rfl (hS.has 81 (by decide) (by decide) rfl) hw rfl ?_
    refine ev_iload_n dX12_waitsOn_54 rfl rfl ?_
    refine em_iald dX12_waitsOn_55 hS (by decide) (by decide) (N := 5) rfl g4 rfl ?_
    obtain ⟨p8, e9, h⟩ := zbd h
    refine ev_callV0 dX12_waitsOn_56 zm12_takesOf zl_NineHeapsModel_236 zi12_takesOf zv12_takesOf (zrcM hS) (As := [.int l1, .int (J5 100 l1.toNatClampNeg), .int (J5 107 (J5 100 l1.toNatClampNeg).toNatClampNeg), .int (J5 104 l1.toNatClampNeg)]) (rest := [.int l1, .ref 102]) rfl rfl (Nat.le_of_ble_eq_true rfl) rfl (Nat.le_of_ble_eq_true rfl) (d' := 4) (by omega) (e12_takesOf hw hS (Nat.le_refl _) e9) (fun v μ1 q => ?_)
    obtain ⟨rfl, rfl⟩ := q
    obtain ⟨J10, e11, h⟩ := zld h
    refine em_iast dX12_waitsOn_59 hS (by decide) (by decide) (N := 5) rfl g4 e11 ?_
    obtain rfl := Option.some.inj h
    exact ev_end_v dX12_waitsOn_60 rfl ⟨rfl, rfl⟩
  · replace h := zif c3 h
    refine ev_aload_n dX12_waitsOn_8 rfl rfl ?_
    refine em_getA dX12_waitsOn_9 zf_NineHeapsModel_83 rfl (hS.has 81 (by decide) (by decide) rfl) hw rfl ?_
    refine ev_iload_n dX12_waitsOn_12 rfl rfl ?_
    refine ev_dup2 dX12_waitsOn_13 rfl rfl ?_
    obtain ⟨g12, h⟩ := zgd h
    refine em_iald dX12_waitsOn_14 hS (by decide) (by decide) (N := 5) rfl g12 rfl ?_
    refine ev_iconst dX12_waitsOn_15 (v := (1 : Int32)) zci_1 ?_
    refine ev_iadd dX12_waitsOn_16 rfl ?_
    obtain ⟨J13, e14, h⟩ := zld h
    refine em_iast dX12_waitsOn_17 hS (by decide) (by decide) (N := 5) rfl g12 e14 ?_
    obtain rfl := Option.some.inj h
    exact ev_end_v dX12_waitsOn_18 rfl ⟨rfl, rfl⟩
abbrev q12_second (n : Nat) (kd : zMK) (R : zMR) (r : zMI) : Option Value → zM → Prop := fun v μ1 => v = none ∧ μ1 = (n, kd, r, R)
set_option maxHeartbeats 4000000 in
set_option maxRecDepth 100000 in
theorem e12_second_B90 {w : zW} {d : Nat} {n : Nat} {kd : zMK} {R : zMR} {r : zMI} {k2 : Int32 → Int32 → zMI → Option (zMI)} (hw : zst w = zSt0) (hS : zSh n kd) (hd : 6 ≤ d)  (hk2 : ∀ (l1 : Int32) (l2 : Int32) (I : zMI), k2 l1 l2 I = some r → EV w d 0 0 Y12_second 2 [some (.ref 81), some (.int l1), some (.int l2), none] [] (n, kd, I, R) (q12_second n kd R r)) : ∀ (l1 : Int32) (l2 : Int32) (I : zMI), f12_second_B90 k2 l1 l2 I = some r → EV w d 0 0 Y12_second 90 [some (.ref 81), some (.int l1), some (.int l2), none] [] (n, kd, I, R) (q12_second n kd R r) := by
  intro l1 l2 I h
  unfold f12_second_B90 at h
  refine ev_iinc dX12_second_90 (v := l2 + (1 : Int32)) rfl rfl (by decide) rfl ?_
  refine ev_goto dX12_second_93 (tgt := 2) (by decide) ?_
  exact EV.mask [true, true, true, false] rfl (hk2 l1 (l2 + (1 : Int32)) I h)
set_option maxHeartbeats 4000000 in
set_option maxRecDepth 100000 in
theorem e12_second_B78 {w : zW} {d : Nat} {n : Nat} {kd : zMK} {R : zMR} {r : zMI} {k2 : Int32 → Int32 → zMI → Option (zMI)} (hw : zst w = zSt0) (hS : zSh n kd) (hd : 6 ≤ d)  (hk2 : ∀ (l1 : Int32) (l2 : Int32) (I : zMI), k2 l1 l2 I = some r → EV w d 0 0 Y12_second 2 [some (.ref 81), some (.int l1), some (.int l2), none] [] (n, kd, I, R) (q12_second n kd R r)) : ∀ (l1 : Int32) (l2 : Int32) (l3 : Int32) (I : zMI), f12_second_B78 k2 l1 l2 l3 I = some r → EV w d 0 0 Y12_second 78 [some (.ref 81), some (.int l1), some (.int l2), some (.int l3)] [] (n, kd, I, R) (q12_second n kd R r) := by
  intro l1 l2 l3 I h
  unfold f12_second_B78 at h
  refine ev_aload_n dX12_second_78 rfl rfl ?_
  refine em_getA dX12_second_79 zf_NineHeapsModel_71 rfl (hS.has 81 (by decide) (by decide) rfl) hw rfl ?_
  refine ev_iload_n dX12_second_82 rfl rfl ?_
  refine ev_iconst dX12_second_83 (v := (1 : Int32)) zci_1 ?_
  obtain ⟨g1, h⟩ := zgd h
  obtain ⟨J2, e3, h⟩ := zld h
  refine em_iast dX12_second_84 hS (by decide) (by decide) (N := 5) rfl g1 e3 ?_
  refine ev_aload_n dX12_second_85 rfl rfl ?_
  refine ev_iload_n dX12_second_86 rfl rfl ?_
  obtain ⟨p4, e5, h⟩ := zbd h
  refine ev_callV0 dX12_second_87 zm12_waitsOn zl_NineHeapsModel_242 zi12_waitsOn zv12_waitsOn (zrcM hS) (As := [.int l3]) (rest := []) rfl rfl (Nat.le_of_ble_eq_true rfl) rfl (Nat.le_of_ble_eq_true rfl) (d' := 5) (by omega) (e12_waitsOn hw hS (Nat.le_refl _) e5) (fun v μ1 q => ?_)
  obtain ⟨rfl, rfl⟩ := q
  exact EV.mask [true, true, true, false] rfl (e12_second_B90 hw hS hd hk2 l1 l2 p4 h)
set_option maxHeartbeats 4000000 in
set_option maxRecDepth 100000 in
theorem e12_second_L2 {w : zW} {d : Nat} {n : Nat} {kd : zMK} {R : zMR} {r : zMI}  (hw : zst w = zSt0) (hS : zSh n kd) (hd : 6 ≤ d)   : ∀ (q : Nat) (l1 : Int32) (l2 : Int32) (I : zMI), f12_second_L2  q l1 l2 I = some r → EV w d 0 0 Y12_second 2 [some (.ref 81), some (.int l1), some (.int l2), none] [] (n, kd, I, R) (q12_second n kd R r) := by
  intro q
  induction q with
  | zero =>
    intro l1 l2 I h
    cases h
  | succ q ih =>
    intro l1 l2 I h
    unfold f12_second_L2 at h
    refine ev_iload_n dX12_second_2 rfl rfl ?_
    refine ev_aload_n dX12_second_3 rfl rfl ?_
    refine em_getI dX12_second_4 zf_NineHeapsModel_219 rfl (hS.has 81 (by decide) (by decide) rfl) rfl ?_
    refine ev_icmp_ge dX12_second_7 (tgt := 96) (by decide) (fun c6 => ?_) (fun c6 => ?_)
    · replace h := zit c6 h
      obtain rfl := Option.some.inj h
      exact ev_end_v dX12_second_96 rfl ⟨rfl, rfl⟩
    · replace h := zif c6 h
      refine ev_aload_n dX12_second_10 rfl rfl ?_
      refine em_getA dX12_second_11 zf_NineHeapsModel_65 rfl (hS.has 81 (by decide) (by decide) rfl) hw rfl ?_
      refine ev_iload_n dX12_second_14 rfl rfl ?_
      obtain ⟨g7, h⟩ := zgd h
      refine em_iald dX12_second_15 hS (by decide) (by decide) (N := 5) rfl g7 rfl ?_
      refine ev_istore_n dX12_second_16 rfl (by decide) rfl ?_
      refine ev_aload_n dX12_second_17 rfl rfl ?_
      refine em_getA dX12_second_18 zf_NineHeapsModel_71 rfl (hS.has 81 (by decide) (by decide) rfl) hw rfl ?_
      refine ev_iload_n dX12_second_21 rfl rfl ?_
      obtain ⟨g8, h⟩ := zgd h
      refine em_iald dX12_second_22 hS (by decide) (by decide) (N := 5) rfl g8 rfl ?_
      refine ev_iconst dX12_second_23 (v := (2 : Int32)) zci_2 ?_
      refine ev_icmp_ne dX12_second_24 (tgt := 36) (by decide) (fun c9 => ?_) (fun c9 => ?_)
      · replace h := zif c9 h
        refine ev_aload_n dX12_second_36 rfl rfl ?_
        refine em_getA dX12_second_37 zf_NineHeapsModel_74 rfl (hS.has 81 (by decide) (by decide) rfl) hw rfl ?_
        refine ev_iload_n dX12_second_40 rfl rfl ?_
        refine ev_dup2 dX12_second_41 rfl rfl ?_
        refine em_iald dX12_second_42 hS (by decide) (by decide) (N := 5) rfl g8 rfl ?_
        refine ev_aload_n dX12_second_43 rfl rfl ?_
        refine em_getA dX12_second_44 zf_NineHeapsModel_71 rfl (hS.has 81 (by decide) (by decide) rfl) hw rfl ?_
        refine ev_iload_n dX12_second_47 rfl rfl ?_
        refine em_iald dX12_second_48 hS (by decide) (by decide) (N := 5) rfl g8 rfl ?_
        obtain ⟨x11, e12, h⟩ := zld h
        have k17 : EV w d 0 0 Y12_second 57 [some (.ref 81), some (.int l1), some (.int l2), some (.int (I 99 l2.toNatClampNeg))] [.int x11, .int (I 102 (I 99 l2.toNatClampNeg).toNatClampNeg), .int (I 99 l2.toNatClampNeg), .ref 102] (n, kd, I, R) (q12_second n kd R r) := by
          refine ev_isub dX12_second_57 rfl ?_
          obtain ⟨J13, e14, h⟩ := zld h
          refine em_iast dX12_second_58 hS (by decide) (by decide) (N := 5) rfl g8 e14 ?_
          refine ev_aload_n dX12_second_59 rfl rfl ?_
          refine em_getA dX12_second_60 zf_NineHeapsModel_71 rfl (hS.has 81 (by decide) (by decide) rfl) hw rfl ?_
          refine ev_iload_n dX12_second_63 rfl rfl ?_
          refine em_iald dX12_second_64 hS (by decide) (by decide) (N := 5) rfl g8 rfl ?_
          refine ev_iconst dX12_second_65 (v := (1 : Int32)) zci_1 ?_
          refine ev_icmp_eq dX12_second_66 (tgt := 78) (by decide) (fun c15 => ?_) (fun c15 => ?_)
          · replace h := zit c15 h
            exact EV.mask [true, true, true, true] rfl (e12_second_B78 hw hS hd (fun l1' l2' I' h' => ih l1' l2' I' h') l1 l2 (I 99 l2.toNatClampNeg) J13 h)
          · replace h := zif c15 h
            refine ev_aload_n dX12_second_69 rfl rfl ?_
            refine em_getA dX12_second_70 zf_NineHeapsModel_74 rfl (hS.has 81 (by decide) (by decide) rfl) hw rfl ?_
            refine ev_iload_n dX12_second_73 rfl rfl ?_
            refine em_iald dX12_second_74 hS (by decide) (by decide) (N := 5) rfl g8 rfl ?_
            refine ev_if_ne dX12_second_75 (tgt := 90) (by decide) (fun c16 => ?_) (fun c16 => ?_)
            · replace h := zif c16 h
              exact EV.mask [true, true, true, false] rfl (e12_second_B90 hw hS hd (fun l1' l2' I' h' => ih l1' l2' I' h') l1 l2 J13 h)
            · replace h := zit c16 h
              exact EV.mask [true, true, true, true] rfl (e12_second_B78 hw hS hd (fun l1' l2' I' h' => ih l1' l2' I' h') l1 l2 (I 99 l2.toNatClampNeg) J13 h)
        clear h
        have h := e12
        clear e12
        refine ev_if_ne dX12_second_49 (tgt := 56) (by decide) (fun c10 => ?_) (fun c10 => ?_)
        · replace h := zif c10 h
          refine ev_iconst dX12_second_56 (v := (0 : Int32)) zci_0 ?_
          obtain rfl := h
          exact k17
        · replace h := zit c10 h
          refine ev_iconst dX12_second_52 (v := (1 : Int32)) zci_1 ?_
          refine ev_goto dX12_second_53 (tgt := 57) (by decide) ?_
          obtain rfl := h
          exact k17
      · replace h := zit c9 h
        refine ev_aload_n dX12_second_27 rfl rfl ?_
        refine ev_iload_n dX12_second_28 rfl rfl ?_
        refine ev_iload_n dX12_second_29 rfl rfl ?_
        obtain ⟨p18, e19, h⟩ := zbd h
        refine ev_callV0 dX12_second_30 zm12_takesOn zl_NineHeapsModel_239 zi12_takesOn zv12_takesOn (zrcM hS) (As := [.int (I 99 l2.toNatClampNeg), .int l1]) (rest := []) rfl rfl (Nat.le_of_ble_eq_true rfl) rfl (Nat.le_of_ble_eq_true rfl) (d' := 5) (by omega) (e12_takesOn hw hS (Nat.le_refl _) e19) (fun v μ1 q => ?_)
        obtain ⟨rfl, rfl⟩ := q
        refine ev_goto dX12_second_33 (tgt := 90) (by decide) ?_
        exact EV.mask [true, true, true, false] rfl (e12_second_B90 hw hS hd (fun l1' l2' I' h' => ih l1' l2' I' h') l1 l2 p18 h)
set_option maxHeartbeats 4000000 in
set_option maxRecDepth 100000 in
theorem e12_second {w : zW} {d : Nat} {n : Nat} {kd : zMK} {I : zMI} {R : zMR} {r : zMI} {l1 : Int32} (hw : zst w = zSt0) (hS : zSh n kd) (hd : 6 ≤ d)  (h : f12_second l1 I = some r) : EV w d 0 0 Y12_second 0 [some (.ref 81), some (.int l1), none, none] [] (n, kd, I, R) (q12_second n kd R r) := by
  unfold f12_second at h
  refine ev_iconst dX12_second_0 (v := (0 : Int32)) zci_0 ?_
  refine ev_istore_n dX12_second_1 rfl (by decide) rfl ?_
  exact EV.mask [true, true, true, false] rfl (e12_second_L2 hw hS hd zF l1 (0 : Int32) I h)
abbrev q12_goesFor (n : Nat) (kd : zMK) (R : zMR) (r : zMI) : Option Value → zM → Prop := fun v μ1 => v = none ∧ μ1 = (n, kd, r, R)
set_option maxHeartbeats 4000000 in
set_option maxRecDepth 100000 in
theorem e12_goesFor_L6 {w : zW} {d : Nat} {n : Nat} {kd : zMK} {R : zMR} {r : zMI}  (hw : zst w = zSt0) (hS : zSh n kd) (hd : 7 ≤ d)   : ∀ (q : Nat) (l1 : Int32) (l2 : Int32) (I : zMI), f12_goesFor_L6  q l1 l2 I = some r → EV w d 0 0 Y12_goesFor 6 [some (.ref 81), some (.int l1), some (.int l2)] [] (n, kd, I, R) (q12_goesFor n kd R r) := by
  intro q
  induction q with
  | zero =>
    intro l1 l2 I h
    cases h
  | succ q ih =>
    intro l1 l2 I h
    unfold f12_goesFor_L6 at h
    refine ev_iload_n dX12_goesFor_6 rfl rfl ?_
    refine ev_iload_n dX12_goesFor_7 rfl rfl ?_
    refine ev_icmp_ge dX12_goesFor_8 (tgt := 22) (by decide) (fun c1 => ?_) (fun c1 => ?_)
    · replace h := zit c1 h
      obtain rfl := Option.some.inj h
      exact ev_end_v dX12_goesFor_22 rfl ⟨rfl, rfl⟩
    · replace h := zif c1 h
      refine ev_aload_n dX12_goesFor_11 rfl rfl ?_
      refine ev_iload_n dX12_goesFor_12 rfl rfl ?_
      obtain ⟨p2, e3, h⟩ := zbd h
      refine ev_callV0 dX12_goesFor_13 zm12_second zl_NineHeapsModel_248 zi12_second zv12_second (zrcM hS) (As := [.int l2]) (rest := []) rfl rfl (Nat.le_of_ble_eq_true rfl) rfl (Nat.le_of_ble_eq_true rfl) (d' := 6) (by omega) (e12_second hw hS (Nat.le_refl _) e3) (fun v μ1 q => ?_)
      obtain ⟨rfl, rfl⟩ := q
      refine ev_iinc dX12_goesFor_16 (v := l2 + (1 : Int32)) rfl rfl (by decide) rfl ?_
      refine ev_goto dX12_goesFor_19 (tgt := 6) (by decide) ?_
      exact EV.mask [true, true, true] rfl (ih l1 (l2 + (1 : Int32)) p2 h)
set_option maxHeartbeats 4000000 in
set_option maxRecDepth 100000 in
theorem e12_goesFor {w : zW} {d : Nat} {n : Nat} {kd : zMK} {I : zMI} {R : zMR} {r : zMI} {l1 : Int32} (hw : zst w = zSt0) (hS : zSh n kd) (hd : 7 ≤ d)  (h : f12_goesFor l1 I = some r) : EV w d 0 0 Y12_goesFor 0 [some (.ref 81), some (.int l1), none] [] (n, kd, I, R) (q12_goesFor n kd R r) := by
  unfold f12_goesFor at h
  refine ev_aload_n dX12_goesFor_0 rfl rfl ?_
  obtain ⟨p4, e5, h⟩ := zbd h
  refine ev_callV0 dX12_goesFor_1 zm12_begins zl_NineHeapsModel_245 zi12_begins zv12_begins (zrcM hS) (As := []) (rest := []) rfl rfl (Nat.le_of_ble_eq_true rfl) rfl (Nat.le_of_ble_eq_true rfl) (d' := 1) (by omega) (e12_begins hw hS (Nat.le_refl _) e5) (fun v μ1 q => ?_)
  obtain ⟨rfl, rfl⟩ := q
  refine ev_iconst dX12_goesFor_4 (v := (0 : Int32)) zci_0 ?_
  refine ev_istore_n dX12_goesFor_5 rfl (by decide) rfl ?_
  exact EV.mask [true, true, true] rfl (e12_goesFor_L6 hw hS hd zF l1 (0 : Int32) p4 h)
abbrev q12_orders (n : Nat) (kd : zMK) (R : zMR) (r : zMI) : Option Value → zM → Prop := fun v μ1 => v = none ∧ μ1 = (n, kd, r, R)
set_option maxHeartbeats 4000000 in
set_option maxRecDepth 100000 in
theorem e12_orders_B40 {w : zW} {d : Nat} {n : Nat} {kd : zMK} {R : zMR} {r : zMI} {k7 : Int32 → Int32 → zMI → Option (zMI)} (hw : zst w = zSt0) (hS : zSh n kd) (hd : 1 ≤ d)  (hk7 : ∀ (l1 : Int32) (l2 : Int32) (I : zMI), k7 l1 l2 I = some r → EV w d 0 0 Y12_orders 7 [some (.ref 81), some (.int l1), some (.int l2)] [] (n, kd, I, R) (q12_orders n kd R r)) : ∀ (l1 : Int32) (l2 : Int32) (I : zMI), f12_orders_B40 k7 l1 l2 I = some r → EV w d 0 0 Y12_orders 40 [some (.ref 81), some (.int l1), some (.int l2)] [] (n, kd, I, R) (q12_orders n kd R r) := by
  intro l1 l2 I h
  unfold f12_orders_B40 at h
  refine ev_iinc dX12_orders_40 (v := l2 + (1 : Int32)) rfl rfl (by decide) rfl ?_
  refine ev_goto dX12_orders_43 (tgt := 7) (by decide) ?_
  exact EV.mask [true, true, true] rfl (hk7 l1 (l2 + (1 : Int32)) I h)
set_option maxHeartbeats 4000000 in
set_option maxRecDepth 100000 in
theorem e12_orders_L7 {w : zW} {d : Nat} {n : Nat} {kd : zMK} {R : zMR} {r : zMI}  (hw : zst w = zSt0) (hS : zSh n kd) (hd : 1 ≤ d)   : ∀ (q : Nat) (l1 : Int32) (l2 : Int32) (I : zMI), f12_orders_L7  q l1 l2 I = some r → EV w d 0 0 Y12_orders 7 [some (.ref 81), some (.int l1), some (.int l2)] [] (n, kd, I, R) (q12_orders n kd R r) := by
  intro q
  induction q with
  | zero =>
    intro l1 l2 I h
    cases h
  | succ q ih =>
    intro l1 l2 I h
    unfold f12_orders_L7 at h
    refine ev_iload_n dX12_orders_7 rfl rfl ?_
    refine ev_aload_n dX12_orders_8 rfl rfl ?_
    refine em_getI dX12_orders_9 zf_NineHeapsModel_117 rfl (hS.has 81 (by decide) (by decide) rfl) rfl ?_
    refine ev_icmp_ge dX12_orders_12 (tgt := 46) (by decide) (fun c1 => ?_) (fun c1 => ?_)
    · replace h := zit c1 h
      obtain rfl := Option.some.inj h
      exact ev_end_v dX12_orders_46 rfl ⟨rfl, rfl⟩
    · replace h := zif c1 h
      refine ev_iload_n dX12_orders_15 rfl rfl ?_
      refine ev_iload_n dX12_orders_16 rfl rfl ?_
      refine ev_icmp_eq dX12_orders_17 (tgt := 40) (by decide) (fun c2 => ?_) (fun c2 => ?_)
      · replace h := zit c2 h
        exact EV.mask [true, true, true] rfl (e12_orders_B40 hw hS hd (fun l1' l2' I' h' => ih l1' l2' I' h') l1 l2 I h)
      · replace h := zif c2 h
        refine ev_aload_n dX12_orders_20 rfl rfl ?_
        refine em_getA dX12_orders_21 zf_NineHeapsModel_65 rfl (hS.has 81 (by decide) (by decide) rfl) hw rfl ?_
        refine ev_aload_n dX12_orders_24 rfl rfl ?_
        refine em_getI dX12_orders_25 zf_NineHeapsModel_219 rfl (hS.has 81 (by decide) (by decide) rfl) rfl ?_
        refine ev_iload_n dX12_orders_28 rfl rfl ?_
        obtain ⟨g3, h⟩ := zgd h
        obtain ⟨J4, e5, h⟩ := zld h
        refine em_iast dX12_orders_29 hS (by decide) (by decide) (N := 5) rfl g3 e5 ?_
        refine ev_aload_n dX12_orders_30 rfl rfl ?_
        refine ev_dup dX12_orders_31 rfl ?_
        refine em_getI dX12_orders_32 zf_NineHeapsModel_219 rfl (hS.has 81 (by decide) (by decide) rfl) rfl ?_
        refine ev_iconst dX12_orders_35 (v := (1 : Int32)) zci_1 ?_
        refine ev_iadd dX12_orders_36 rfl ?_
        obtain ⟨J6, e7, h⟩ := zld h
        refine em_putI dX12_orders_37 zf_NineHeapsModel_219 (Or.inl rfl) rfl rfl rfl (hS.has 81 (by decide) (by decide) rfl) e7 ?_
        exact EV.mask [true, true, true] rfl (e12_orders_B40 hw hS hd (fun l1' l2' I' h' => ih l1' l2' I' h') l1 l2 J6 h)
set_option maxHeartbeats 4000000 in
set_option maxRecDepth 100000 in
theorem e12_orders {w : zW} {d : Nat} {n : Nat} {kd : zMK} {I : zMI} {R : zMR} {r : zMI} {l1 : Int32} (hw : zst w = zSt0) (hS : zSh n kd) (hd : 1 ≤ d)  (h : f12_orders l1 I = some r) : EV w d 0 0 Y12_orders 0 [some (.ref 81), some (.int l1), none] [] (n, kd, I, R) (q12_orders n kd R r) := by
  unfold f12_orders at h
  refine ev_aload_n dX12_orders_0 rfl rfl ?_
  refine ev_iconst dX12_orders_1 (v := (0 : Int32)) zci_0 ?_
  obtain ⟨J8, e9, h⟩ := zld h
  refine em_putI dX12_orders_2 zf_NineHeapsModel_219 (Or.inl rfl) rfl rfl rfl (hS.has 81 (by decide) (by decide) rfl) e9 ?_
  refine ev_iconst dX12_orders_5 (v := (0 : Int32)) zci_0 ?_
  refine ev_istore_n dX12_orders_6 rfl (by decide) rfl ?_
  exact EV.mask [true, true, true] rfl (e12_orders_L7 hw hS hd zF l1 (0 : Int32) J8 h)
