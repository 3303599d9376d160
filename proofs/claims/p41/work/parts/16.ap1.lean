/-! the machine does as the functions say: laid by program -/
theorem zib_new {x : Int32} (h : zib x 161 = true) : ¬ x < 0 ∧ x.toNatClampNeg ≤ 160 := by
  unfold zib at h
  simp only [Bool.and_eq_true, decide_eq_true_eq] at h
  exact ⟨Int32.not_lt.mpr h.1, Nat.le_of_lt_succ h.2⟩
abbrev q10_init (n : Nat) (kd : zMK) (R : zMR) (r : zMI) : Option Value → zM → Prop := fun v μ1 => v = none ∧ μ1 = (n, kd, r, R)
set_option maxHeartbeats 4000000 in
set_option maxRecDepth 100000 in
theorem e10_init {w : zW} {d : Nat} {n : Nat} {kd : zMK} {I : zMI} {R : zMR} {r : zMI} {l0 : Nat} {l1 : Int32} {l2 : Int32} {l3 : Int32} (hw : zst w = zSt0) (hS : zSh n kd) (hd : 2 ≤ d)  (h : f10_init n kd l0 l1 l2 l3 I = some r) : EV w d 0 0 Y10_init 0 [some (.ref l0), some (.int l1), some (.int l2), some (.int l3)] [] (n, kd, I, R) (q10_init n kd R r) := by
  unfold f10_init at h
  refine ev_aload_n dX10_init_0 rfl rfl ?_
  refine ev_objInit dX10_init_1 zl_NineHeaps_Walker_1 ziO_init zOco (by omega) (Nat.le_of_ble_eq_true rfl) ?_
  refine ev_aload_n dX10_init_4 rfl rfl ?_
  refine ev_iload_n dX10_init_5 rfl rfl ?_
  obtain ⟨g1, h⟩ := zgd h
  obtain ⟨cg1, wg1, yg1⟩ := zWkB_hasR hS g1
  obtain ⟨J2, e3, h⟩ := zld h
  refine em_putI dX10_init_6 (zf_NineHeaps_Walker_7 wg1)  (by rcases wg1 with rfl | rfl | rfl | rfl | rfl | rfl <;> exact Or.inr ⟨rfl, rfl, rfl⟩)  (by rcases wg1 with rfl | rfl | rfl | rfl | rfl | rfl <;> rfl)  (by rcases wg1 with rfl | rfl | rfl | rfl | rfl | rfl <;> rfl) (by rcases wg1 with rfl | rfl | rfl | rfl | rfl | rfl <;> rfl) yg1 e3 ?_
  refine ev_aload_n dX10_init_9 rfl rfl ?_
  refine ev_iload_n dX10_init_10 rfl rfl ?_
  obtain ⟨J4, e5, h⟩ := zld h
  refine em_putI dX10_init_11 (zf_NineHeaps_Walker_13 wg1)  (by rcases wg1 with rfl | rfl | rfl | rfl | rfl | rfl <;> exact Or.inr ⟨rfl, rfl, rfl⟩)  (by rcases wg1 with rfl | rfl | rfl | rfl | rfl | rfl <;> rfl)  (by rcases wg1 with rfl | rfl | rfl | rfl | rfl | rfl <;> rfl) (by rcases wg1 with rfl | rfl | rfl | rfl | rfl | rfl <;> rfl) yg1 e5 ?_
  refine ev_aload_n dX10_init_14 rfl rfl ?_
  refine ev_iload_n dX10_init_15 rfl rfl ?_
  obtain ⟨J6, e7, h⟩ := zld h
  refine em_putI dX10_init_16 (zf_NineHeaps_Walker_16 wg1)  (by rcases wg1 with rfl | rfl | rfl | rfl | rfl | rfl <;> exact Or.inl rfl)  (by rcases wg1 with rfl | rfl | rfl | rfl | rfl | rfl <;> rfl)  (by rcases wg1 with rfl | rfl | rfl | rfl | rfl | rfl <;> rfl) (by rcases wg1 with rfl | rfl | rfl | rfl | rfl | rfl <;> rfl) yg1 e7 ?_
  obtain rfl := Option.some.inj h
  exact ev_end_v dX10_init_19 rfl ⟨rfl, rfl⟩
abbrev q5_init (n : Nat) (kd : zMK) (R : zMR) (r : zMI) : Option Value → zM → Prop := fun v μ1 => v = none ∧ μ1 = (n, kd, r, R)
set_option maxHeartbeats 4000000 in
set_option maxRecDepth 100000 in
theorem e5_init {w : zW} {d : Nat} {n : Nat} {kd : zMK} {I : zMI} {R : zMR} {r : zMI} {l0 : Nat} {l1 : Int32} {l2 : Int32} {l3 : Int32} (hw : zst w = zSt0) (hS : zSh n kd) (hd : 3 ≤ d)  (h : f5_init n kd l0 l1 l2 l3 I = some r) : EV w d 0 0 Y5_init 0 [some (.ref l0), some (.int l1), some (.int l2), some (.int l3)] [] (n, kd, I, R) (q5_init n kd R r) := by
  unfold f5_init at h
  refine ev_aload_n dX5_init_0 rfl rfl ?_
  refine ev_iload_n dX5_init_1 rfl rfl ?_
  refine ev_iload_n dX5_init_2 rfl rfl ?_
  refine ev_iload_n dX5_init_3 rfl rfl ?_
  obtain ⟨p1, e2, h⟩ := zbd h
  refine ev_callIK (k2 := 0) (z2 := 0) dX5_init_4 zm10_init zl_NineHeaps_Quick_1 zi10_init rfl rfl (As := [.int l1, .int l2, .int l3]) (rest := []) rfl rfl (Nat.le_of_ble_eq_true rfl) rfl (Nat.le_of_ble_eq_true rfl) (d' := 2) (by omega) (e10_init hw hS (Nat.le_refl _) e2) (by omega) (by omega) (fun v μ1 q => ?_)
  obtain ⟨rfl, rfl⟩ := q
  obtain rfl := Option.some.inj h
  exact ev_end_v dX5_init_7 rfl ⟨rfl, rfl⟩
abbrev q8_init (n : Nat) (kd : zMK) (R : zMR) (r : zMI) : Option Value → zM → Prop := fun v μ1 => v = none ∧ μ1 = (n, kd, r, R)
set_option maxHeartbeats 4000000 in
set_option maxRecDepth 100000 in
theorem e8_init {w : zW} {d : Nat} {n : Nat} {kd : zMK} {I : zMI} {R : zMR} {r : zMI} {l0 : Nat} {l1 : Int32} {l2 : Int32} {l3 : Int32} (hw : zst w = zSt0) (hS : zSh n kd) (hd : 3 ≤ d)  (h : f8_init n kd l0 l1 l2 l3 I = some r) : EV w d 0 0 Y8_init 0 [some (.ref l0), some (.int l1), some (.int l2), some (.int l3)] [] (n, kd, I, R) (q8_init n kd R r) := by
  unfold f8_init at h
  refine ev_aload_n dX8_init_0 rfl rfl ?_
  refine ev_iload_n dX8_init_1 rfl rfl ?_
  refine ev_iload_n dX8_init_2 rfl rfl ?_
  refine ev_iload_n dX8_init_3 rfl rfl ?_
  obtain ⟨p1, e2, h⟩ := zbd h
  refine ev_callIK (k2 := 0) (z2 := 0) dX8_init_4 zm10_init zl_NineHeaps_Thumbed_1 zi10_init rfl rfl (As := [.int l1, .int l2, .int l3]) (rest := []) rfl rfl (Nat.le_of_ble_eq_true rfl) rfl (Nat.le_of_ble_eq_true rfl) (d' := 2) (by omega) (e10_init hw hS (Nat.le_refl _) e2) (by omega) (by omega) (fun v μ1 q => ?_)
  obtain ⟨rfl, rfl⟩ := q
  obtain rfl := Option.some.inj h
  exact ev_end_v dX8_init_7 rfl ⟨rfl, rfl⟩
abbrev q4_init (n : Nat) (kd : zMK) (R : zMR) (r : zMI) : Option Value → zM → Prop := fun v μ1 => v = none ∧ μ1 = (n, kd, r, R)
set_option maxHeartbeats 4000000 in
set_option maxRecDepth 100000 in
theorem e4_init {w : zW} {d : Nat} {n : Nat} {kd : zMK} {I : zMI} {R : zMR} {r : zMI} {l0 : Nat} {l1 : Int32} {l2 : Int32} {l3 : Int32} (hw : zst w = zSt0) (hS : zSh n kd) (hd : 4 ≤ d)  (h : f4_init n kd l0 l1 l2 l3 I = some r) : EV w d 0 0 Y4_init 0 [some (.ref l0), some (.int l1), some (.int l2), some (.int l3)] [] (n, kd, I, R) (q4_init n kd R r) := by
  unfold f4_init at h
  refine ev_aload_n dX4_init_0 rfl rfl ?_
  refine ev_iload_n dX4_init_1 rfl rfl ?_
  refine ev_iload_n dX4_init_2 rfl rfl ?_
  refine ev_iload_n dX4_init_3 rfl rfl ?_
  obtain ⟨p1, e2, h⟩ := zbd h
  refine ev_callIK (k2 := 0) (z2 := 0) dX4_init_4 zm5_init zl_NineHeaps_Passing_1 zi5_init rfl rfl (As := [.int l1, .int l2, .int l3]) (rest := []) rfl rfl (Nat.le_of_ble_eq_true rfl) rfl (Nat.le_of_ble_eq_true rfl) (d' := 3) (by omega) (e5_init hw hS (Nat.le_refl _) e2) (by omega) (by omega) (fun v μ1 q => ?_)
  obtain ⟨rfl, rfl⟩ := q
  obtain rfl := Option.some.inj h
  exact ev_end_v dX4_init_7 rfl ⟨rfl, rfl⟩
abbrev q1_init (n : Nat) (kd : zMK) (R : zMR) (r : zMI) : Option Value → zM → Prop := fun v μ1 => v = none ∧ μ1 = (n, kd, r, R)
set_option maxHeartbeats 4000000 in
set_option maxRecDepth 100000 in
theorem e1_init {w : zW} {d : Nat} {n : Nat} {kd : zMK} {I : zMI} {R : zMR} {r : zMI} {l0 : Nat} {l1 : Int32} {l2 : Int32} {l3 : Int32} (hw : zst w = zSt0) (hS : zSh n kd) (hd : 4 ≤ d)  (h : f1_init n kd l0 l1 l2 l3 I = some r) : EV w d 0 0 Y1_init 0 [some (.ref l0), some (.int l1), some (.int l2), some (.int l3)] [] (n, kd, I, R) (q1_init n kd R r) := by
  unfold f1_init at h
  refine ev_aload_n dX1_init_0 rfl rfl ?_
  refine ev_iload_n dX1_init_1 rfl rfl ?_
  refine ev_iload_n dX1_init_2 rfl rfl ?_
  refine ev_iload_n dX1_init_3 rfl rfl ?_
  obtain ⟨p1, e2, h⟩ := zbd h
  refine ev_callIK (k2 := 0) (z2 := 0) dX1_init_4 zm8_init zl_NineHeaps_Grandfather_1 zi8_init rfl rfl (As := [.int l1, .int l2, .int l3]) (rest := []) rfl rfl (Nat.le_of_ble_eq_true rfl) rfl (Nat.le_of_ble_eq_true rfl) (d' := 3) (by omega) (e8_init hw hS (Nat.le_refl _) e2) (by omega) (by omega) (fun v μ1 q => ?_)
  obtain ⟨rfl, rfl⟩ := q
  obtain rfl := Option.some.inj h
  exact ev_end_v dX1_init_7 rfl ⟨rfl, rfl⟩
abbrev q9_init (n : Nat) (kd : zMK) (R : zMR) (r : zMI) : Option Value → zM → Prop := fun v μ1 => v = none ∧ μ1 = (n, kd, r, R)
set_option maxHeartbeats 4000000 in
set_option maxRecDepth 100000 in
theorem e9_init {w : zW} {d : Nat} {n : Nat} {kd : zMK} {I : zMI} {R : zMR} {r : zMI} {l0 : Nat} {l1 : Int32} {l2 : Int32} {l3 : Int32} (hw : zst w = zSt0) (hS : zSh n kd) (hd : 3 ≤ d)  (h : f9_init n kd l0 l1 l2 l3 I = some r) : EV w d 0 0 Y9_init 0 [some (.ref l0), some (.int l1), some (.int l2), some (.int l3)] [] (n, kd, I, R) (q9_init n kd R r) := by
  unfold f9_init at h
  refine ev_aload_n dX9_init_0 rfl rfl ?_
  refine ev_iload_n dX9_init_1 rfl rfl ?_
  refine ev_iload_n dX9_init_2 rfl rfl ?_
  refine ev_iload_n dX9_init_3 rfl rfl ?_
  obtain ⟨p1, e2, h⟩ := zbd h
  refine ev_callIK (k2 := 0) (z2 := 0) dX9_init_4 zm10_init zl_NineHeaps_Two_1 zi10_init rfl rfl (As := [.int l1, .int l2, .int l3]) (rest := []) rfl rfl (Nat.le_of_ble_eq_true rfl) rfl (Nat.le_of_ble_eq_true rfl) (d' := 2) (by omega) (e10_init hw hS (Nat.le_refl _) e2) (by omega) (by omega) (fun v μ1 q => ?_)
  obtain ⟨rfl, rfl⟩ := q
  obtain rfl := Option.some.inj h
  exact ev_end_v dX9_init_7 rfl ⟨rfl, rfl⟩
abbrev q11_newWalker  (r : Nat × (Nat × zMK) × zMI × zMR) : Option Value → zM → Prop := fun v μ1 => v = some (.ref r.1) ∧ μ1 = ((r.2.1).1, (r.2.1).2, r.2.2.1, r.2.2.2)
set_option maxHeartbeats 4000000 in
set_option maxRecDepth 100000 in
theorem e11_newWalker {w : zW} {d : Nat} {n : Nat} {kd : zMK} {I : zMI} {R : zMR} {r : Nat × (Nat × zMK) × zMI × zMR} {l0 : Int32} {l1 : Int32} {l2 : Int32} {l3 : Int32} (hw : zst w = zSt0) (hS : zSh n kd) (hd : 5 ≤ d) (h : f11_newWalker l0 l1 l2 l3 n kd I R = some r) : EV w d 1 11 Y11_newWalker 0 [some (.int l0), some (.int l1), some (.int l2), some (.int l3)] [] (n, kd, I, R) (q11_newWalker  r) := by
  unfold f11_newWalker at h
  refine ev_iload_n dX11_newWalker_0 rfl rfl ?_
  by_cases c1 : l0 = (1 : Int32)
  · replace h := zit c1 h
    refine ev_tableIn dX11_newWalker_1 (by rw [c1]; decide) (by rw [c1]; decide) (off := 35) (by rw [c1]; rfl) (tgt := 36) (by decide) ?_
    obtain ⟨D4, e5, h⟩ := zld h
    obtain ⟨J6, e7, h⟩ := zld h
    obtain ⟨T8, e9, h⟩ := zld h
    refine em_newK (kc' := 0) (ks' := 0) dX11_newWalker_36 (c := 5) (N := 11) (by decide) zc_NineHeaps_364 zj5 zn_NineHeaps_Quick rfl (fun k => by rw [hw]; exact zSt0_big (Nat.le_trans hS.1 (by omega)) k) hS.top (by omega) (by omega) ?_
    rw [e5, e7, e9]
    obtain ⟨g10, h⟩ := zgd h
    have hS := zShB_sh g10
    refine ev_dup dX11_newWalker_39 rfl ?_
    refine ev_iload_n dX11_newWalker_40 rfl rfl ?_
    refine ev_iload_n dX11_newWalker_41 rfl rfl ?_
    refine ev_iload_n dX11_newWalker_42 rfl rfl ?_
    obtain ⟨p11, e12, h⟩ := zbd h
    refine ev_callIK (k2 := 0) (z2 := 0) dX11_newWalker_43 zm5_init zl_NineHeaps_366 zi5_init rfl rfl (As := [.int l1, .int l2, .int l3]) (rest := [.ref n]) rfl rfl (Nat.le_of_ble_eq_true rfl) rfl (Nat.le_of_ble_eq_true rfl) (d' := 3) (by omega) (e5_init hw hS (Nat.le_refl _) e12) (by omega) (by omega) (fun v μ1 q => ?_)
    obtain ⟨rfl, rfl⟩ := q
    obtain rfl := Option.some.inj h
    exact ev_end_r dX11_newWalker_46 rfl (Or.inl ⟨_, rfl⟩) ⟨rfl, rfl⟩
  · replace h := zif c1 h
    by_cases c13 : l0 = (2 : Int32)
    · replace h := zit c13 h
      refine ev_tableIn dX11_newWalker_1 (by rw [c13]; decide) (by rw [c13]; decide) (off := 46) (by rw [c13]; rfl) (tgt := 47) (by decide) ?_
      obtain ⟨D16, e17, h⟩ := zld h
      obtain ⟨J18, e19, h⟩ := zld h
      obtain ⟨T20, e21, h⟩ := zld h
      refine em_newK (kc' := 0) (ks' := 0) dX11_newWalker_47 (c := 8) (N := 11) (by decide) zc_NineHeaps_369 zj8 zn_NineHeaps_Thumbed rfl (fun k => by rw [hw]; exact zSt0_big (Nat.le_trans hS.1 (by omega)) k) hS.top (by omega) (by omega) ?_
      rw [e17, e19, e21]
      obtain ⟨g22, h⟩ := zgd h
      have hS := zShB_sh g22
      refine ev_dup dX11_newWalker_50 rfl ?_
      refine ev_iload_n dX11_newWalker_51 rfl rfl ?_
      refine ev_iload_n dX11_newWalker_52 rfl rfl ?_
      refine ev_iload_n dX11_newWalker_53 rfl rfl ?_
      obtain ⟨p23, e24, h⟩ := zbd h
      refine ev_callIK (k2 := 0) (z2 := 0) dX11_newWalker_54 zm8_init zl_NineHeaps_371 zi8_init rfl rfl (As := [.int l1, .int l2, .int l3]) (rest := [.ref n]) rfl rfl (Nat.le_of_ble_eq_true rfl) rfl (Nat.le_of_ble_eq_true rfl) (d' := 3) (by omega) (e8_init hw hS (Nat.le_refl _) e24) (by omega) (by omega) (fun v μ1 q => ?_)
      obtain ⟨rfl, rfl⟩ := q
      obtain rfl := Option.some.inj h
      exact ev_end_r dX11_newWalker_57 rfl (Or.inl ⟨_, rfl⟩) ⟨rfl, rfl⟩
    · replace h := zif c13 h
      by_cases c25 : l0 = (3 : Int32)
      · replace h := zit c25 h
        refine ev_tableIn dX11_newWalker_1 (by rw [c25]; decide) (by rw [c25]; decide) (off := 57) (by rw [c25]; rfl) (tgt := 58) (by decide) ?_
        obtain ⟨D28, e29, h⟩ := zld h
        obtain ⟨J30, e31, h⟩ := zld h
        obtain ⟨T32, e33, h⟩ := zld h
        refine em_newK (kc' := 0) (ks' := 0) dX11_newWalker_58 (c := 4) (N := 11) (by decide) zc_NineHeaps_372 zj4 zn_NineHeaps_Passing rfl (fun k => by rw [hw]; exact zSt0_big (Nat.le_trans hS.1 (by omega)) k) hS.top (by omega) (by omega) ?_
        rw [e29, e31, e33]
        obtain ⟨g34, h⟩ := zgd h
        have hS := zShB_sh g34
        refine ev_dup dX11_newWalker_61 rfl ?_
        refine ev_iload_n dX11_newWalker_62 rfl rfl ?_
        refine ev_iload_n dX11_newWalker_63 rfl rfl ?_
        refine ev_iload_n dX11_newWalker_64 rfl rfl ?_
        obtain ⟨p35, e36, h⟩ := zbd h
        refine ev_callIK (k2 := 0) (z2 := 0) dX11_newWalker_65 zm4_init zl_NineHeaps_374 zi4_init rfl rfl (As := [.int l1, .int l2, .int l3]) (rest := [.ref n]) rfl rfl (Nat.le_of_ble_eq_true rfl) rfl (Nat.le_of_ble_eq_true rfl) (d' := 4) (by omega) (e4_init hw hS (Nat.le_refl _) e36) (by omega) (by omega) (fun v μ1 q => ?_)
        obtain ⟨rfl, rfl⟩ := q
        obtain rfl := Option.some.inj h
        exact ev_end_r dX11_newWalker_68 rfl (Or.inl ⟨_, rfl⟩) ⟨rfl, rfl⟩
      · replace h := zif c25 h
        by_cases c37 : l0 = (4 : Int32)
        · replace h := zit c37 h
          refine ev_tableIn dX11_newWalker_1 (by rw [c37]; decide) (by rw [c37]; decide) (off := 68) (by rw [c37]; rfl) (tgt := 69) (by decide) ?_
          obtain ⟨D40, e41, h⟩ := zld h
          obtain ⟨J42, e43, h⟩ := zld h
          obtain ⟨T44, e45, h⟩ := zld h
          refine em_newK (kc' := 0) (ks' := 0) dX11_newWalker_69 (c := 1) (N := 11) (by decide) zc_NineHeaps_375 zj1 zn_NineHeaps_Grandfather rfl (fun k => by rw [hw]; exact zSt0_big (Nat.le_trans hS.1 (by omega)) k) hS.top (by omega) (by omega) ?_
          rw [e41, e43, e45]
          obtain ⟨g46, h⟩ := zgd h
          have hS := zShB_sh g46
          refine ev_dup dX11_newWalker_72 rfl ?_
          refine ev_iload_n dX11_newWalker_73 rfl rfl ?_
          refine ev_iload_n dX11_newWalker_74 rfl rfl ?_
          refine ev_iload_n dX11_newWalker_75 rfl rfl ?_
          obtain ⟨p47, e48, h⟩ := zbd h
          refine ev_callIK (k2 := 0) (z2 := 0) dX11_newWalker_76 zm1_init zl_NineHeaps_377 zi1_init rfl rfl (As := [.int l1, .int l2, .int l3]) (rest := [.ref n]) rfl rfl (Nat.le_of_ble_eq_true rfl) rfl (Nat.le_of_ble_eq_true rfl) (d' := 4) (by omega) (e1_init hw hS (Nat.le_refl _) e48) (by omega) (by omega) (fun v μ1 q => ?_)
          obtain ⟨rfl, rfl⟩ := q
          obtain rfl := Option.some.inj h
          exact ev_end_r dX11_newWalker_79 rfl (Or.inl ⟨_, rfl⟩) ⟨rfl, rfl⟩
        · replace h := zif c37 h
          by_cases c49 : l0 = (5 : Int32)
          · replace h := zit c49 h
            refine ev_tableIn dX11_newWalker_1 (by rw [c49]; decide) (by rw [c49]; decide) (off := 79) (by rw [c49]; rfl) (tgt := 80) (by decide) ?_
            obtain ⟨D52, e53, h⟩ := zld h
            obtain ⟨J54, e55, h⟩ := zld h
            obtain ⟨T56, e57, h⟩ := zld h
            refine em_newK (kc' := 0) (ks' := 0) dX11_newWalker_80 (c := 9) (N := 11) (by decide) zc_NineHeaps_378 zj9 zn_NineHeaps_Two rfl (fun k => by rw [hw]; exact zSt0_big (Nat.le_trans hS.1 (by omega)) k) hS.top (by omega) (by omega) ?_
            rw [e53, e55, e57]
            obtain ⟨g58, h⟩ := zgd h
            have hS := zShB_sh g58
            refine ev_dup dX11_newWalker_83 rfl ?_
            refine ev_iload_n dX11_newWalker_84 rfl rfl ?_
            refine ev_iload_n dX11_newWalker_85 rfl rfl ?_
            refine ev_iload_n dX11_newWalker_86 rfl rfl ?_
            obtain ⟨p59, e60, h⟩ := zbd h
            refine ev_callIK (k2 := 0) (z2 := 0) dX11_newWalker_87 zm9_init zl_NineHeaps_380 zi9_init rfl rfl (As := [.int l1, .int l2, .int l3]) (rest := [.ref n]) rfl rfl (Nat.le_of_ble_eq_true rfl) rfl (Nat.le_of_ble_eq_true rfl) (d' := 3) (by omega) (e9_init hw hS (Nat.le_refl _) e60) (by omega) (by omega) (fun v μ1 q => ?_)
            obtain ⟨rfl, rfl⟩ := q
            obtain rfl := Option.some.inj h
            exact ev_end_r dX11_newWalker_90 rfl (Or.inl ⟨_, rfl⟩) ⟨rfl, rfl⟩
          · replace h := zif c49 h
            refine ev_tableD dX11_newWalker_1 ?_ (tgt := 91) (by decide) ?_
            · have q0 := lv_neT c1 (a := 1) (by decide)
              have q1 := lv_neT c13 (a := 2) (by decide)
              have q2 := lv_neT c25 (a := 3) (by decide)
              have q3 := lv_neT c37 (a := 4) (by decide)
              have q4 := lv_neT c49 (a := 5) (by decide)
              rcases (show l0.toInt < 1 ∨ 5 < l0.toInt by omega) with q | q
              · exact Or.inl q
              · exact Or.inr (Or.inl q)
            obtain ⟨D63, e64, h⟩ := zld h
            obtain ⟨J65, e66, h⟩ := zld h
            obtain ⟨T67, e68, h⟩ := zld h
            refine em_newK (kc' := 0) (ks' := 0) dX11_newWalker_91 (c := 10) (N := 11) (by decide) zc_NineHeaps_20 zj10 zn_NineHeaps_Walker rfl (fun k => by rw [hw]; exact zSt0_big (Nat.le_trans hS.1 (by omega)) k) hS.top (by omega) (by omega) ?_
            rw [e64, e66, e68]
            obtain ⟨g69, h⟩ := zgd h
            have hS := zShB_sh g69
            refine ev_dup dX11_newWalker_94 rfl ?_
            refine ev_iload_n dX11_newWalker_95 rfl rfl ?_
            refine ev_iload_n dX11_newWalker_96 rfl rfl ?_
            refine ev_iload_n dX11_newWalker_97 rfl rfl ?_
            obtain ⟨p70, e71, h⟩ := zbd h
            refine ev_callIK (k2 := 0) (z2 := 0) dX11_newWalker_98 zm10_init zl_NineHeaps_381 zi10_init rfl rfl (As := [.int l1, .int l2, .int l3]) (rest := [.ref n]) rfl rfl (Nat.le_of_ble_eq_true rfl) rfl (Nat.le_of_ble_eq_true rfl) (d' := 2) (by omega) (e10_init hw hS (Nat.le_refl _) e71) (by omega) (by omega) (fun v μ1 q => ?_)
            obtain ⟨rfl, rfl⟩ := q
            obtain rfl := Option.some.inj h
            exact ev_end_r dX11_newWalker_101 rfl (Or.inl ⟨_, rfl⟩) ⟨rfl, rfl⟩
abbrev q11_walker  (r : Int32 × (Nat × zMK) × zMI × zMR) : Option Value → zM → Prop := fun v μ1 => v = some (.int r.1) ∧ μ1 = ((r.2.1).1, (r.2.1).2, r.2.2.1, r.2.2.2)
set_option maxHeartbeats 4000000 in
set_option maxRecDepth 100000 in
theorem e11_walker {w : zW} {d : Nat} {n : Nat} {kd : zMK} {I : zMI} {R : zMR} {r : Int32 × (Nat × zMK) × zMI × zMR} {l1 : Int32} {l2 : Int32} {l3 : Int32} (hw : zst w = zSt0) (hS : zSh n kd) (hd : 6 ≤ d) (h : f11_walker l1 l2 l3 n kd I R = some r) : EV w d 1 11 Y11_walker 0 [some (.ref 32), some (.int l1), some (.int l2), some (.int l3)] [] (n, kd, I, R) (q11_walker  r) := by
  unfold f11_walker at h
  refine ev_iload_n dX11_walker_0 rfl rfl ?_
  refine ev_if_lt dX11_walker_1 (tgt := 27) (by decide) (fun c1 => ?_) (fun c1 => ?_)
  · replace h := zit c1 h
    refine ev_bipush dX11_walker_27 (v := (-2 : Int32)) zcb_m2 ?_
    obtain rfl := Option.some.inj h
    exact ev_end_i dX11_walker_29 rfl rfl ⟨rfl, rfl⟩
  · replace h := zif c1 h
    refine ev_iload_n dX11_walker_4 rfl rfl ?_
    refine ev_bipush dX11_walker_5 (v := (6 : Int32)) zcb_6 ?_
    refine ev_icmp_ge dX11_walker_7 (tgt := 27) (by decide) (fun c2 => ?_) (fun c2 => ?_)
    · replace h := zit c2 h
      refine ev_bipush dX11_walker_27 (v := (-2 : Int32)) zcb_m2 ?_
      obtain rfl := Option.some.inj h
      exact ev_end_i dX11_walker_29 rfl rfl ⟨rfl, rfl⟩
    · replace h := zif c2 h
      refine ev_iload_n dX11_walker_10 rfl rfl ?_
      refine ev_if_lt dX11_walker_11 (tgt := 27) (by decide) (fun c3 => ?_) (fun c3 => ?_)
      · replace h := zit c3 h
        refine ev_bipush dX11_walker_27 (v := (-2 : Int32)) zcb_m2 ?_
        obtain rfl := Option.some.inj h
        exact ev_end_i dX11_walker_29 rfl rfl ⟨rfl, rfl⟩
      · replace h := zif c3 h
        refine ev_iload_n dX11_walker_14 rfl rfl ?_
        refine ev_bipush dX11_walker_15 (v := (9 : Int32)) zcb_9 ?_
        refine ev_icmp_gt dX11_walker_17 (tgt := 27) (by decide) (fun c4 => ?_) (fun c4 => ?_)
        · replace h := zit c4 h
          refine ev_bipush dX11_walker_27 (v := (-2 : Int32)) zcb_m2 ?_
          obtain rfl := Option.some.inj h
          exact ev_end_i dX11_walker_29 rfl rfl ⟨rfl, rfl⟩
        · replace h := zif c4 h
          refine ev_iload_n dX11_walker_20 rfl rfl ?_
          obtain ⟨p5, e6, h⟩ := zbd h
          refine ev_callS0 dX11_walker_21 zm11_noHeap zl_NineHeaps_107 zs11_noHeap (As := [.int l3]) (rest := []) rfl rfl (Nat.le_of_ble_eq_true rfl) rfl (Nat.le_of_ble_eq_true rfl) (d' := 1) (by omega) (e11_noHeap hw hS (Nat.le_refl _) e6) (fun v μ1 q => ?_)
          obtain ⟨rfl, rfl⟩ := q
          refine ev_if_eq dX11_walker_24 (tgt := 30) (by decide) (fun c7 => ?_) (fun c7 => ?_)
          · replace h := zit c7 h
            refine ev_aload_n dX11_walker_30 rfl rfl ?_
            refine em_getI dX11_walker_31 zf_NineHeaps_94 rfl (hS.has 32 (by decide) (by decide) rfl) rfl ?_
            refine ev_if_lt dX11_walker_34 (tgt := 45) (by decide) (fun c8 => ?_) (fun c8 => ?_)
            · replace h := zit c8 h
              refine ev_bipush dX11_walker_45 (v := (-4 : Int32)) zcb_m4 ?_
              obtain rfl := Option.some.inj h
              exact ev_end_i dX11_walker_47 rfl rfl ⟨rfl, rfl⟩
            · replace h := zif c8 h
              refine ev_aload_n dX11_walker_37 rfl rfl ?_
              refine em_getI dX11_walker_38 zf_NineHeaps_94 rfl (hS.has 32 (by decide) (by decide) rfl) rfl ?_
              refine ev_iconst dX11_walker_41 (v := (5 : Int32)) zci_5 ?_
              refine ev_icmp_lt dX11_walker_42 (tgt := 48) (by decide) (fun c9 => ?_) (fun c9 => ?_)
              · replace h := zit c9 h
                refine ev_aload_n dX11_walker_48 rfl rfl ?_
                refine em_getA dX11_walker_49 zf_NineHeaps_22 rfl (hS.has 32 (by decide) (by decide) rfl) hw rfl ?_
                refine ev_aload_n dX11_walker_52 rfl rfl ?_
                refine em_getI dX11_walker_53 zf_NineHeaps_94 rfl (hS.has 32 (by decide) (by decide) rfl) rfl ?_
                refine ev_iload_n dX11_walker_56 rfl rfl ?_
                refine ev_aload_n dX11_walker_57 rfl rfl ?_
                refine em_getI dX11_walker_58 zf_NineHeaps_94 rfl (hS.has 32 (by decide) (by decide) rfl) rfl ?_
                refine ev_iload_n dX11_walker_61 rfl rfl ?_
                refine ev_iload_n dX11_walker_62 rfl rfl ?_
                obtain ⟨p10, e11, h⟩ := zbd h
                refine ev_callSK (k2 := 0) (z2 := 0) dX11_walker_63 zm11_newWalker zl_NineHeaps_147 zs11_newWalker (As := [.int l1, .int (I 32 4), .int l2, .int l3]) (rest := [.int (I 32 4), .ref 35]) rfl rfl (Nat.le_of_ble_eq_true rfl) rfl (Nat.le_of_ble_eq_true rfl) (d' := 5) (by omega) (e11_newWalker hw hS (Nat.le_refl _) e11) (by omega) (by omega) (fun v μ1 q => ?_)
                obtain ⟨rfl, rfl⟩ := q
                obtain ⟨g12, h⟩ := zgd h
                have hS := zShB_sh g12
                obtain ⟨g13, h⟩ := zgd h
                obtain ⟨cg13, wg13, yg13⟩ := zWkB_hasR hS g13
                obtain ⟨g14, h⟩ := zgd h
                obtain ⟨T15, e16, h⟩ := zld h
                refine em_aastR dX11_walker_66 hS (by decide) (by decide) (N := 5) rfl (by decide) (by decide) yg13 (zWc_lt wg13) (c2 := 10) (by decide) (fun _ => rfl) (zWc_cast wg13) hw (fun _ => rfl) g14 e16 ?_
                refine ev_aload_n dX11_walker_67 rfl rfl ?_
                refine ev_dup dX11_walker_68 rfl ?_
                refine em_getI dX11_walker_69 zf_NineHeaps_94 rfl (hS.has 32 (by decide) (by decide) rfl) rfl ?_
                refine ev_iconst dX11_walker_72 (v := (1 : Int32)) zci_1 ?_
                refine ev_iadd dX11_walker_73 rfl ?_
                obtain ⟨J17, e18, h⟩ := zld h
                refine em_putI dX11_walker_74 zf_NineHeaps_94 (Or.inl rfl) rfl rfl rfl (hS.has 32 (by decide) (by decide) rfl) e18 ?_
                refine ev_aload_n dX11_walker_77 rfl rfl ?_
                refine em_getI dX11_walker_78 zf_NineHeaps_94 rfl (hS.has 32 (by decide) (by decide) rfl) rfl ?_
                refine ev_iconst dX11_walker_81 (v := (1 : Int32)) zci_1 ?_
                refine ev_isub dX11_walker_82 rfl ?_
                obtain rfl := Option.some.inj h
                exact ev_end_i dX11_walker_83 rfl rfl ⟨rfl, rfl⟩
              · replace h := zif c9 h
                refine ev_bipush dX11_walker_45 (v := (-4 : Int32)) zcb_m4 ?_
                obtain rfl := Option.some.inj h
                exact ev_end_i dX11_walker_47 rfl rfl ⟨rfl, rfl⟩
          · replace h := zif c7 h
            refine ev_bipush dX11_walker_27 (v := (-2 : Int32)) zcb_m2 ?_
            obtain rfl := Option.some.inj h
            exact ev_end_i dX11_walker_29 rfl rfl ⟨rfl, rfl⟩
abbrev qJ7_copyOf_59c91  (r : Nat × (Nat × zMK) × zMI × zMR) : Option Value → zM → Prop := fun v μ1 => v = some (.ref r.1) ∧ μ1 = ((r.2.1).1, (r.2.1).2, r.2.2.1, r.2.2.2)
set_option maxHeartbeats 4000000 in
set_option maxRecDepth 100000 in
theorem eJ7_copyOf_59c91 {w : zW} {d : Nat} {n : Nat} {kd : zMK} {I : zMI} {R : zMR} {r : Nat × (Nat × zMK) × zMI × zMR} {l0 : Nat} {l1 : Int32} (hw : zst w = zSt0) (hS : zSh n kd) (hd : 2 ≤ d) (h : fJ7_copyOf_59c91 l0 l1 n kd I R = some r) : EV w d 1 160 YJ7_copyOf_59c91 0 [some (.ref l0), some (.int l1), none] [] (n, kd, I, R) (qJ7_copyOf_59c91  r) := by
  unfold fJ7_copyOf_59c91 at h
  refine ev_iload_n dJ7_copyOf_59c91_0 rfl rfl ?_
  refine ev_aload_n dJ7_copyOf_59c91_1 rfl rfl ?_
  obtain ⟨g1, h⟩ := zgd h
  refine em_alen dJ7_copyOf_59c91_2 (zKdB_hasR hS (by decide) g1) (by decide) rfl rfl ?_
  refine ev_icmp_ne dJ7_copyOf_59c91_3 (tgt := 14) (by decide) (fun c2 => ?_) (fun c2 => ?_)
  · replace h := zif c2 h
    refine ev_iload_n dJ7_copyOf_59c91_14 rfl rfl ?_
    obtain ⟨g3, h⟩ := zgd h
    obtain ⟨D6, e7, h⟩ := zld h
    obtain ⟨J8, e9, h⟩ := zld h
    obtain ⟨T10, e11, h⟩ := zld h
    refine em_newIK (kc' := 0) (ks' := 0) dJ7_copyOf_59c91_15 (zib_new g3).1 rfl (Nat.le_trans (zib_new g3).2 (by decide)) hS.top (by omega) (by have := (zib_new g3).2; omega) ?_
    rw [e7, e9, e11]
    obtain ⟨g12, h⟩ := zgd h
    have hS := zShB_sh g12
    refine ev_astore_n dJ7_copyOf_59c91_17 rfl (by decide) rfl ?_
    refine ev_aload_n dJ7_copyOf_59c91_18 rfl rfl ?_
    refine ev_iconst dJ7_copyOf_59c91_19 (v := (0 : Int32)) zci_0 ?_
    refine ev_aload_n dJ7_copyOf_59c91_20 rfl rfl ?_
    refine ev_iconst dJ7_copyOf_59c91_21 (v := (0 : Int32)) zci_0 ?_
    refine ev_aload_n dJ7_copyOf_59c91_22 rfl rfl ?_
    obtain ⟨g13, h⟩ := zgd h
    refine em_alen dJ7_copyOf_59c91_23 (zKdB_hasR hS (by decide) g13) (by decide) rfl rfl ?_
    refine ev_iload_n dJ7_copyOf_59c91_24 rfl rfl ?_
    obtain ⟨x14, e15, h⟩ := zld h
    refine ev_min dJ7_copyOf_59c91_25 zl_java_util_Arrays_304 zmm_min_s zn_java_lang_Math zmm_min_c (by omega) (Nat.le_of_ble_eq_true rfl) e15 ?_
    obtain ⟨g16, h⟩ := zgd h
    obtain ⟨g17, h⟩ := zgd h
    obtain ⟨J18, e19, h⟩ := zld h
    refine em_copy dJ7_copyOf_59c91_28 zl_java_util_Arrays_150 (zKdB_hasR hS (by decide) g13) (zKdB_hasR hS (by decide) g16) rfl rfl g17 (by omega) (Nat.le_of_ble_eq_true rfl) e19 ?_
    refine ev_aload_n dJ7_copyOf_59c91_31 rfl rfl ?_
    obtain rfl := Option.some.inj h
    exact ev_end_r dJ7_copyOf_59c91_32 rfl (Or.inr ⟨_, rfl⟩) ⟨rfl, rfl⟩
  · replace h := zit c2 h
    refine ev_aload_n dJ7_copyOf_59c91_6 rfl rfl ?_
    obtain ⟨g20, h⟩ := zgd h
    obtain ⟨D23, e24, h⟩ := zld h
    obtain ⟨J25, e26, h⟩ := zld h
    obtain ⟨T27, e28, h⟩ := zld h
    refine em_cloneK (kc' := 0) (ks' := 0) dJ7_copyOf_59c91_7 zl_java_util_Arrays_316 (zKdB_hasR hS (by decide) g1) (N := (kd l0).2) rfl hS.top (by omega) (Nat.le_of_ble_eq_true rfl) (by omega) (by have := of_decide_eq_true g20; omega) ?_
    rw [e24, e26, e28]
    obtain ⟨g29, h⟩ := zgd h
    have hS := zShB_sh g29
    obtain ⟨g30, h⟩ := zgd h
    refine ev_castI dJ7_copyOf_59c91_10 zc_java_util_Arrays_317 (zKdB_hasR hS (by decide) g30) ?_
    obtain rfl := Option.some.inj h
    exact ev_end_r dJ7_copyOf_59c91_13 rfl (Or.inr ⟨_, rfl⟩) ⟨rfl, rfl⟩
abbrev q3_init  (r : (Nat × zMK) × zMI × zMR) : Option Value → zM → Prop := fun v μ1 => v = none ∧ μ1 = ((r.1).1, (r.1).2, r.2.1, r.2.2)
set_option maxHeartbeats 4000000 in
set_option maxRecDepth 100000 in
theorem e3_init_B126 {w : zW} {d : Nat}  {r : (Nat × zMK) × zMI × zMR} {k51 : Nat → Nat → Nat → Int32 → Nat → zMK → zMI → zMR → Option ((Nat × zMK) × zMI × zMR)} (hw : zst w = zSt0) (hd : 3 ≤ d) (hk51 : ∀ (l0 : Nat) (l1 : Nat) (l2 : Nat) (l3 : Int32) (n : Nat) (kd : zMK) (I : zMI) (R : zMR), k51 l0 l1 l2 l3 n kd I R = some r → EV w d 0 0 Y3_init 51 [some (.ref l0), some (.ref l1), some (.ref l2), some (.int l3), none] [] (n, kd, I, R) (q3_init  r)) : ∀ (l0 : Nat) (l1 : Nat) (l2 : Nat) (l3 : Int32) (n : Nat) (kd : zMK) (I : zMI) (R : zMR), f3_init_B126 k51 l0 l1 l2 l3 n kd I R = some r → EV w d 0 0 Y3_init 126 [some (.ref l0), some (.ref l1), some (.ref l2), some (.int l3), none] [] (n, kd, I, R) (q3_init  r) := by
  intro l0 l1 l2 l3 n kd I R h
  unfold f3_init_B126 at h
  obtain ⟨g1, h⟩ := zgd h
  have hS := zShB_sh g1
  refine ev_iinc dX3_init_126 (v := l3 + (1 : Int32)) rfl rfl (by decide) rfl ?_
  refine ev_goto dX3_init_129 (tgt := 51) (by decide) ?_
  exact EV.mask [true, true, true, true, false] rfl (EV.more (hk51 l0 l1 l2 (l3 + (1 : Int32)) n kd I R h) (Nat.le_refl _) (by omega) (by omega))
set_option maxHeartbeats 4000000 in
set_option maxRecDepth 100000 in
theorem e3_init_B125 {w : zW} {d : Nat}  {r : (Nat × zMK) × zMI × zMR} {k51 : Nat → Nat → Nat → Int32 → Nat → zMK → zMI → zMR → Option ((Nat × zMK) × zMI × zMR)} (hw : zst w = zSt0) (hd : 3 ≤ d) (hk51 : ∀ (l0 : Nat) (l1 : Nat) (l2 : Nat) (l3 : Int32) (n : Nat) (kd : zMK) (I : zMI) (R : zMR), k51 l0 l1 l2 l3 n kd I R = some r → EV w d 0 0 Y3_init 51 [some (.ref l0), some (.ref l1), some (.ref l2), some (.int l3), none] [] (n, kd, I, R) (q3_init  r)) : ∀ (l0 : Nat) (l1 : Nat) (l2 : Nat) (l3 : Int32) (s0 : Nat) (s1 : Int32) (s2 : Int32) (n : Nat) (kd : zMK) (I : zMI) (R : zMR), f3_init_B125 k51 l0 l1 l2 l3 s0 s1 s2 n kd I R = some r → EV w d 0 0 Y3_init 125 [some (.ref l0), some (.ref l1), some (.ref l2), some (.int l3), none] [.int s2, .int s1, .ref s0] (n, kd, I, R) (q3_init  r) := by
  intro l0 l1 l2 l3 s0 s1 s2 n kd I R h
  unfold f3_init_B125 at h
  obtain ⟨g2, h⟩ := zgd h
  have hS := zShB_sh g2
  obtain ⟨g3, h⟩ := zgd h
  obtain ⟨g4, h⟩ := zgd h
  obtain ⟨J5, e6, h⟩ := zld h
  refine em_iastG dX3_init_125 (zKdB_hasR hS (by decide) g3) (N := (kd s0).2) rfl g4 e6 ?_
  exact EV.mask [true, true, true, true, false] rfl (EV.more (e3_init_B126 hw hd hk51 l0 l1 l2 l3 n kd J5 R h) (Nat.le_refl _) (by omega) (by omega))
set_option maxHeartbeats 4000000 in
set_option maxRecDepth 100000 in
theorem e3_init_B124 {w : zW} {d : Nat}  {r : (Nat × zMK) × zMI × zMR} {k51 : Nat → Nat → Nat → Int32 → Nat → zMK → zMI → zMR → Option ((Nat × zMK) × zMI × zMR)} (hw : zst w = zSt0) (hd : 3 ≤ d) (hk51 : ∀ (l0 : Nat) (l1 : Nat) (l2 : Nat) (l3 : Int32) (n : Nat) (kd : zMK) (I : zMI) (R : zMR), k51 l0 l1 l2 l3 n kd I R = some r → EV w d 0 0 Y3_init 51 [some (.ref l0), some (.ref l1), some (.ref l2), some (.int l3), none] [] (n, kd, I, R) (q3_init  r)) : ∀ (l0 : Nat) (l1 : Nat) (l2 : Nat) (l3 : Int32) (s0 : Nat) (s1 : Int32) (n : Nat) (kd : zMK) (I : zMI) (R : zMR), f3_init_B124 k51 l0 l1 l2 l3 s0 s1 n kd I R = some r → EV w d 0 0 Y3_init 124 [some (.ref l0), some (.ref l1), some (.ref l2), some (.int l3), none] [.int s1, .ref s0] (n, kd, I, R) (q3_init  r) := by
  intro l0 l1 l2 l3 s0 s1 n kd I R h
  unfold f3_init_B124 at h
  obtain ⟨g7, h⟩ := zgd h
  have hS := zShB_sh g7
  refine ev_iconst dX3_init_124 (v := (-1 : Int32)) zci_m1 ?_
  exact EV.mask [true, true, true, true, false] rfl (EV.more (e3_init_B125 hw hd hk51 l0 l1 l2 l3 s0 s1 (-1 : Int32) n kd I R h) (Nat.le_refl _) (by omega) (by omega))
set_option maxHeartbeats 4000000 in
set_option maxRecDepth 100000 in
theorem e3_init_L51 {w : zW} {d : Nat}  {r : (Nat × zMK) × zMI × zMR}  (hw : zst w = zSt0) (hd : 3 ≤ d)  : ∀ (q : Nat) (l0 : Nat) (l1 : Nat) (l2 : Nat) (l3 : Int32) (n : Nat) (kd : zMK) (I : zMI) (R : zMR), f3_init_L51  q l0 l1 l2 l3 n kd I R = some r → EV w d 0 0 Y3_init 51 [some (.ref l0), some (.ref l1), some (.ref l2), some (.int l3), none] [] (n, kd, I, R) (q3_init  r) := by
  intro q
  induction q with
  | zero =>
    intro l0 l1 l2 l3 n kd I R h
    cases h
  | succ q ih =>
    intro l0 l1 l2 l3 n kd I R h
    unfold f3_init_L51 at h
    obtain ⟨g8, h⟩ := zgd h
    have hS := zShB_sh g8
    refine ev_iload_n dX3_init_51 rfl rfl ?_
    refine ev_iconst dX3_init_52 (v := (3 : Int32)) zci_3 ?_
    refine ev_icmp_ge dX3_init_53 (tgt := 132) (by decide) (fun c9 => ?_) (fun c9 => ?_)
    · replace h := zit c9 h
      obtain rfl := Option.some.inj h
      exact ev_end_v dX3_init_132 rfl ⟨rfl, rfl⟩
    · replace h := zif c9 h
      refine ev_aload_n dX3_init_56 rfl rfl ?_
      obtain ⟨g10, h⟩ := zgd h
      rcases zopt (R l0 4) with o12 | ⟨a11, o12⟩
      · have h9 := zmn o12 h
        cases h9
      replace h := zms o12 h
      refine em_getO dX3_init_57 zf_NineHeaps_Law_18 rfl (zKdB_hasR hS (by decide) g10) hw (hS.st (zKdB_hasR hS (by decide) g10) (by decide +kernel) _) o12 ?_
      refine ev_iload_n dX3_init_60 rfl rfl ?_
      refine ev_iconst dX3_init_61 (v := (-1 : Int32)) zci_m1 ?_
      obtain ⟨g13, h⟩ := zgd h
      obtain ⟨g14, h⟩ := zgd h
      obtain ⟨J15, e16, h⟩ := zld h
      refine em_iastG dX3_init_62 (zKdB_hasR hS (by decide) g13) (N := (kd a11).2) rfl g14 e16 ?_
      refine ev_iload_n dX3_init_63 rfl rfl ?_
      refine ev_iconst dX3_init_64 (v := (1 : Int32)) zci_1 ?_
      refine ev_iadd dX3_init_65 rfl ?_
      refine ev_aload_n dX3_init_66 rfl rfl ?_
      obtain ⟨g17, h⟩ := zgd h
      refine em_alen dX3_init_67 (zKdB_hasR hS (by decide) g17) (by decide) rfl rfl ?_
      refine ev_icmp_ge dX3_init_68 (tgt := 126) (by decide) (fun c18 => ?_) (fun c18 => ?_)
      · replace h := zit c18 h
        exact EV.mask [true, true, true, true, false] rfl (EV.more (e3_init_B126 hw hd (fun l0' l1' l2' l3' n' kd' I' R' h' => ih l0' l1' l2' l3' n' kd' I' R' h') l0 l1 l2 l3 n kd J15 R h) (Nat.le_refl _) (by omega) (by omega))
      · replace h := zif c18 h
        refine ev_aload_n dX3_init_71 rfl rfl ?_
        refine ev_iload_n dX3_init_72 rfl rfl ?_
        refine ev_iconst dX3_init_73 (v := (1 : Int32)) zci_1 ?_
        refine ev_iadd dX3_init_74 rfl ?_
        obtain ⟨g19, h⟩ := zgd h
        refine em_ialdG dX3_init_75 (zKdB_hasR hS (by decide) g17) (N := (kd l2).2) rfl g19 rfl ?_
        refine ev_aload_n dX3_init_76 rfl rfl ?_
        refine ev_iload_n dX3_init_77 rfl rfl ?_
        obtain ⟨g20, h⟩ := zgd h
        refine em_ialdG dX3_init_78 (zKdB_hasR hS (by decide) g17) (N := (kd l2).2) rfl g20 rfl ?_
        refine ev_iconst dX3_init_79 (v := (1 : Int32)) zci_1 ?_
        refine ev_iadd dX3_init_80 rfl ?_
        refine ev_icmp_ne dX3_init_81 (tgt := 126) (by decide) (fun c21 => ?_) (fun c21 => ?_)
        · replace h := zif c21 h
          exact EV.mask [true, true, true, true, false] rfl (EV.more (e3_init_B126 hw hd (fun l0' l1' l2' l3' n' kd' I' R' h' => ih l0' l1' l2' l3' n' kd' I' R' h') l0 l1 l2 l3 n kd J15 R h) (Nat.le_refl _) (by omega) (by omega))
        · replace h := zit c21 h
          refine ev_aload_n dX3_init_84 rfl rfl ?_
          refine ev_iload_n dX3_init_85 rfl rfl ?_
          refine em_ialdG dX3_init_86 (zKdB_hasR hS (by decide) g17) (N := (kd l2).2) rfl g20 rfl ?_
          obtain ⟨x22, e23, h⟩ := zld h
          refine ev_nm e23 ?_
          refine ev_istore dX3_init_87 (by decide) rfl ?_
          refine ev_aload_n dX3_init_89 rfl rfl ?_
          rcases zopt (R l0 4) with o25 | ⟨a24, o25⟩
          · have h9 := zmn o25 h
            cases h9
          replace h := zms o25 h
          refine em_getO dX3_init_90 zf_NineHeaps_Law_18 rfl (zKdB_hasR hS (by decide) g10) hw (hS.st (zKdB_hasR hS (by decide) g10) (by decide +kernel) _) o25 ?_
          refine ev_iload_n dX3_init_93 rfl rfl ?_
          refine ev_iload dX3_init_94 rfl ?_
          refine ev_if_lt dX3_init_96 (tgt := 124) (by decide) (fun c26 => ?_) (fun c26 => ?_)
          · replace h := zit c26 h
            exact EV.mask [true, true, true, true, false] rfl (EV.more (e3_init_B124 hw hd (fun l0' l1' l2' l3' n' kd' I' R' h' => ih l0' l1' l2' l3' n' kd' I' R' h') l0 l1 l2 l3 a24 l3 n kd J15 R h) (Nat.le_refl _) (by omega) (by omega))
          · replace h := zif c26 h
            refine ev_iload dX3_init_99 rfl ?_
            refine ev_aload_n dX3_init_101 rfl rfl ?_
            obtain ⟨g27, h⟩ := zgd h
            refine em_alen dX3_init_102 (zKdB_hasR hS (by decide) g27) (by decide) rfl rfl ?_
            refine ev_icmp_ge dX3_init_103 (tgt := 124) (by decide) (fun c28 => ?_) (fun c28 => ?_)
            · replace h := zit c28 h
              exact EV.mask [true, true, true, true, false] rfl (EV.more (e3_init_B124 hw hd (fun l0' l1' l2' l3' n' kd' I' R' h' => ih l0' l1' l2' l3' n' kd' I' R' h') l0 l1 l2 l3 a24 l3 n kd J15 R h) (Nat.le_refl _) (by omega) (by omega))
            · replace h := zif c28 h
              refine ev_aload_n dX3_init_106 rfl rfl ?_
              refine ev_iload dX3_init_107 rfl ?_
              obtain ⟨g29, h⟩ := zgd h
              refine em_ialdG dX3_init_109 (zKdB_hasR hS (by decide) g27) (N := (kd l1).2) rfl g29 rfl ?_
              refine ev_if_lt dX3_init_110 (tgt := 124) (by decide) (fun c30 => ?_) (fun c30 => ?_)
              · replace h := zit c30 h
                exact EV.mask [true, true, true, true, false] rfl (EV.more (e3_init_B124 hw hd (fun l0' l1' l2' l3' n' kd' I' R' h' => ih l0' l1' l2' l3' n' kd' I' R' h') l0 l1 l2 l3 a24 l3 n kd J15 R h) (Nat.le_refl _) (by omega) (by omega))
              · replace h := zif c30 h
                refine ev_iload_n dX3_init_113 rfl rfl ?_
                refine ev_aload_n dX3_init_114 rfl rfl ?_
                refine ev_iload dX3_init_115 rfl ?_
                refine em_ialdG dX3_init_117 (zKdB_hasR hS (by decide) g27) (N := (kd l1).2) rfl g29 rfl ?_
                obtain ⟨p31, e32, h⟩ := zbd h
                refine ev_callS0 dX3_init_118 zm3_bounded zl_NineHeaps_Law_32 zs3_bounded (As := [.int l3, .int (J15 l1 x22.toNatClampNeg)]) (rest := [.int l3, .ref a24]) rfl rfl (Nat.le_of_ble_eq_true rfl) rfl (Nat.le_of_ble_eq_true rfl) (d' := 2) (by omega) (e3_bounded hw hS (Nat.le_refl _) e32) (fun v μ1 q => ?_)
                obtain ⟨rfl, rfl⟩ := q
                refine ev_goto dX3_init_121 (tgt := 125) (by decide) ?_
                exact EV.mask [true, true, true, true, false] rfl (EV.more (e3_init_B125 hw hd (fun l0' l1' l2' l3' n' kd' I' R' h' => ih l0' l1' l2' l3' n' kd' I' R' h') l0 l1 l2 l3 a24 l3 p31 n kd J15 R h) (Nat.le_refl _) (by omega) (by omega))
set_option maxHeartbeats 4000000 in
set_option maxRecDepth 100000 in
theorem e3_init {w : zW} {d : Nat} {n : Nat} {kd : zMK} {I : zMI} {R : zMR} {r : (Nat × zMK) × zMI × zMR} {l0 : Nat} {l1 : Nat} {l2 : Nat} (hw : zst w = zSt0) (hS : zSh n kd) (hd : 3 ≤ d) (h : f3_init l0 l1 l2 n kd I R = some r) : EV w d 5 369 Y3_init 0 [some (.ref l0), some (.ref l1), some (.ref l2), none, none] [] (n, kd, I, R) (q3_init  r) := by
  unfold f3_init at h
  refine ev_aload_n dX3_init_0 rfl rfl ?_
  refine ev_objInit dX3_init_1 zl_NineHeaps_Law_3 ziO_init zOco (by omega) (Nat.le_of_ble_eq_true rfl) ?_
  refine ev_aload_n dX3_init_4 rfl rfl ?_
  refine ev_bipush dX3_init_5 (v := (40 : Int32)) zcb_40 ?_
  obtain ⟨D35, e36, h⟩ := zld h
  obtain ⟨J37, e38, h⟩ := zld h
  obtain ⟨T39, e40, h⟩ := zld h
  refine em_newIK (kc' := 4) (ks' := 329) dX3_init_7 (N := 40) (by decide) (by decide) (by decide) hS.top (by omega) (by omega) ?_
  rw [e36, e38, e40]
  obtain ⟨g41, h⟩ := zgd h
  have hS := zShB_sh g41
  obtain ⟨g42, h⟩ := zgd h
  obtain ⟨T43, e44, h⟩ := zld h
  refine em_putO (o := some n) dX3_init_9 zf_NineHeaps_Law_11 (Or.inr ⟨rfl, rfl, rfl⟩) rfl hw (hS.st (zKdB_hasR hS (by decide) g42) (by decide +kernel) _) (fun _ => rfl) (fun _ => rfl) rfl rfl (zKdB_hasR hS (by decide) g42) e44 ?_
  refine ev_aload_n dX3_init_12 rfl rfl ?_
  refine ev_bipush dX3_init_13 (v := (6 : Int32)) zcb_6 ?_
  obtain ⟨D47, e48, h⟩ := zld h
  obtain ⟨J49, e50, h⟩ := zld h
  obtain ⟨T51, e52, h⟩ := zld h
  refine em_newIK (kc' := 3) (ks' := 323) dX3_init_15 (N := 6) (by decide) (by decide) (by decide) hS.top (by omega) (by omega) ?_
  rw [e48, e50, e52]
  obtain ⟨g53, h⟩ := zgd h
  have hS := zShB_sh g53
  obtain ⟨g54, h⟩ := zgd h
  obtain ⟨T55, e56, h⟩ := zld h
  refine em_putO (o := some (n + 1)) dX3_init_17 zf_NineHeaps_Law_15 (Or.inr ⟨rfl, rfl, rfl⟩) rfl hw (hS.st (zKdB_hasR hS (by decide) g54) (by decide +kernel) _) (fun _ => rfl) (fun _ => rfl) rfl rfl (zKdB_hasR hS (by decide) g54) e56 ?_
  refine ev_aload_n dX3_init_20 rfl rfl ?_
  refine ev_iconst dX3_init_21 (v := (3 : Int32)) zci_3 ?_
  obtain ⟨D59, e60, h⟩ := zld h
  obtain ⟨J61, e62, h⟩ := zld h
  obtain ⟨T63, e64, h⟩ := zld h
  refine em_newIK (kc' := 2) (ks' := 320) dX3_init_22 (N := 3) (by decide) (by decide) (by decide) hS.top (by omega) (by omega) ?_
  rw [e60, e62, e64]
  obtain ⟨g65, h⟩ := zgd h
  have hS := zShB_sh g65
  obtain ⟨g66, h⟩ := zgd h
  obtain ⟨T67, e68, h⟩ := zld h
  refine em_putO (o := some ((n + 1) + 1)) dX3_init_24 zf_NineHeaps_Law_18 (Or.inr ⟨rfl, rfl, rfl⟩) rfl hw (hS.st (zKdB_hasR hS (by decide) g66) (by decide +kernel) _) (fun _ => rfl) (fun _ => rfl) rfl rfl (zKdB_hasR hS (by decide) g66) e68 ?_
  refine ev_aload_n dX3_init_27 rfl rfl ?_
  refine ev_aload_n dX3_init_28 rfl rfl ?_
  obtain ⟨g69, h⟩ := zgd h
  obtain ⟨g70, h⟩ := zgd h
  obtain ⟨D73, e74, h⟩ := zld h
  obtain ⟨J75, e76, h⟩ := zld h
  obtain ⟨T77, e78, h⟩ := zld h
  refine em_cloneK (kc' := 1) (ks' := 160) dX3_init_29 zl_NineHeaps_Law_21 (zKdB_hasR hS (by decide) g69) (N := (D59 l1).2) rfl hS.top (by omega) (Nat.le_of_ble_eq_true rfl) (by omega) (by have := of_decide_eq_true g70; omega) ?_
  rw [e74, e76, e78]
  obtain ⟨g79, h⟩ := zgd h
  have hS := zShB_sh g79
  obtain ⟨g80, h⟩ := zgd h
  refine ev_castI dX3_init_32 zc_NineHeaps_Law_22 (zKdB_hasR hS (by decide) g80) ?_
  obtain ⟨g81, h⟩ := zgd h
  obtain ⟨T82, e83, h⟩ := zld h
  refine em_putO (o := some (((n + 1) + 1) + 1)) dX3_init_35 zf_NineHeaps_Law_26 (Or.inr ⟨rfl, rfl, rfl⟩) rfl hw (hS.st (zKdB_hasR hS (by decide) g81) (by decide +kernel) _) (fun _ => rfl) (fun _ => rfl) rfl rfl (zKdB_hasR hS (by decide) g81) e83 ?_
  refine ev_aload_n dX3_init_38 rfl rfl ?_
  refine ev_aload_n dX3_init_39 rfl rfl ?_
  obtain ⟨g84, h⟩ := zgd h
  obtain ⟨g85, h⟩ := zgd h
  obtain ⟨D88, e89, h⟩ := zld h
  obtain ⟨J90, e91, h⟩ := zld h
  obtain ⟨T92, e93, h⟩ := zld h
  refine em_cloneK (kc' := 0) (ks' := 0) dX3_init_40 zl_NineHeaps_Law_21 (zKdB_hasR hS (by decide) g84) (N := (D73 l2).2) rfl hS.top (by omega) (Nat.le_of_ble_eq_true rfl) (by omega) (by have := of_decide_eq_true g85; omega) ?_
  rw [e89, e91, e93]
  obtain ⟨g94, h⟩ := zgd h
  have hS := zShB_sh g94
  obtain ⟨g95, h⟩ := zgd h
  refine ev_castI dX3_init_43 zc_NineHeaps_Law_22 (zKdB_hasR hS (by decide) g95) ?_
  obtain ⟨g96, h⟩ := zgd h
  obtain ⟨T97, e98, h⟩ := zld h
  refine em_putO (o := some ((((n + 1) + 1) + 1) + 1)) dX3_init_46 zf_NineHeaps_Law_29 (Or.inr ⟨rfl, rfl, rfl⟩) rfl hw (hS.st (zKdB_hasR hS (by decide) g96) (by decide +kernel) _) (fun _ => rfl) (fun _ => rfl) rfl rfl (zKdB_hasR hS (by decide) g96) e98 ?_
  refine ev_iconst dX3_init_49 (v := (0 : Int32)) zci_0 ?_
  refine ev_istore_n dX3_init_50 rfl (by decide) rfl ?_
  exact EV.mask [true, true, true, true, false] rfl (EV.more (e3_init_L51 hw hd zF l0 l1 l2 (0 : Int32) (((((n + 1) + 1) + 1) + 1) + 1) D88 J90 T97 h) (Nat.le_refl _) (by omega) (by omega))
abbrev q7_lastRead  (r : Nat × (Nat × zMK) × zMI × zMR) : Option Value → zM → Prop := fun v μ1 => v = some (.ref r.1) ∧ μ1 = ((r.2.1).1, (r.2.1).2, r.2.2.1, r.2.2.2)
set_option maxHeartbeats 4000000 in
set_option maxRecDepth 100000 in
theorem e7_lastRead {w : zW} {d : Nat} {n : Nat} {kd : zMK} {I : zMI} {R : zMR} {r : Nat × (Nat × zMK) × zMI × zMR}  (hw : zst w = zSt0) (hS : zSh n kd) (hd : 4 ≤ d) (h : f7_lastRead n kd I R = some r) : EV w d 7 534 Y7_lastRead 0 [some (.ref 37), none] [] (n, kd, I, R) (q7_lastRead  r) := by
  unfold f7_lastRead at h
  refine ev_iconst dX7_lastRead_0 (v := (0 : Int32)) zci_0 ?_
  refine ev_aload_n dX7_lastRead_1 rfl rfl ?_
  refine em_getI dX7_lastRead_2 zf_NineHeaps_Tape_33 rfl (hS.has 37 (by decide) (by decide) rfl) rfl ?_
  refine ev_sipush dX7_lastRead_5 (v := (160 : Int32)) zcs_160 ?_
  obtain ⟨x1, e2, h⟩ := zld h
  refine ev_min dX7_lastRead_8 zl_NineHeaps_Tape_49 zmm_min_s zn_java_lang_Math zmm_min_c (by omega) (Nat.le_of_ble_eq_true rfl) e2 ?_
  obtain ⟨x3, e4, h⟩ := zld h
  refine ev_max dX7_lastRead_11 zl_NineHeaps_Tape_55 zmm_max_s zn_java_lang_Math zmm_max_c (by omega) (Nat.le_of_ble_eq_true rfl) e4 ?_
  refine ev_istore_n dX7_lastRead_14 rfl (by decide) rfl ?_
  obtain ⟨D7, e8, h⟩ := zld h
  obtain ⟨J9, e10, h⟩ := zld h
  obtain ⟨T11, e12, h⟩ := zld h
  refine em_newK (kc' := 6) (ks' := 529) dX7_lastRead_15 (c := 3) (N := 5) (by decide) zc_NineHeaps_Tape_18 zj3 zn_NineHeaps_Law rfl (fun k => by rw [hw]; exact zSt0_big (Nat.le_trans hS.1 (by omega)) k) hS.top (by omega) (by omega) ?_
  rw [e8, e10, e12]
  obtain ⟨g13, h⟩ := zgd h
  have hS := zShB_sh g13
  refine ev_dup dX7_lastRead_18 rfl ?_
  refine ev_aload_n dX7_lastRead_19 rfl rfl ?_
  refine em_getA dX7_lastRead_20 zf_NineHeaps_Tape_15 rfl (hS.has 37 (by decide) (by decide) rfl) hw rfl ?_
  refine ev_iload_n dX7_lastRead_23 rfl rfl ?_
  obtain ⟨p14, e15, h⟩ := zbd h
  refine ev_callSK (k2 := 5) (z2 := 369) dX7_lastRead_24 zmJ7_copyOf_59c91 zl_NineHeaps_Tape_58 zsJ7_copyOf_59c91 (As := [.ref 39, .int x3]) (rest := [.ref n, .ref n]) rfl rfl (Nat.le_of_ble_eq_true rfl) rfl (Nat.le_of_ble_eq_true rfl) (d' := 2) (by omega) (eJ7_copyOf_59c91 hw hS (Nat.le_refl _) e15) (by omega) (by omega) (fun v μ1 q => ?_)
  obtain ⟨rfl, rfl⟩ := q
  obtain ⟨g16, h⟩ := zgd h
  have hS := zShB_sh g16
  refine ev_aload_n dX7_lastRead_27 rfl rfl ?_
  refine em_getA dX7_lastRead_28 zf_NineHeaps_Tape_20 rfl (hS.has 37 (by decide) (by decide) rfl) hw rfl ?_
  obtain ⟨p17, e18, h⟩ := zbd h
  refine ev_callIK (k2 := 0) (z2 := 0) dX7_lastRead_31 zm3_init zl_NineHeaps_Tape_64 zi3_init rfl rfl (As := [.ref p14.1, .ref 40]) (rest := [.ref n]) rfl rfl (Nat.le_of_ble_eq_true rfl) rfl (Nat.le_of_ble_eq_true rfl) (d' := 3) (by omega) (e3_init hw hS (Nat.le_refl _) e18) (by omega) (by omega) (fun v μ1 q => ?_)
  obtain ⟨rfl, rfl⟩ := q
  obtain ⟨g19, h⟩ := zgd h
  have hS := zShB_sh g19
  obtain rfl := Option.some.inj h
  exact ev_end_r dX7_lastRead_34 rfl (Or.inl ⟨_, rfl⟩) ⟨rfl, rfl⟩
abbrev q11_text  (r : Int32 × (Nat × zMK) × zMI × zMR) : Option Value → zM → Prop := fun v μ1 => v = some (.int r.1) ∧ μ1 = ((r.2.1).1, (r.2.1).2, r.2.2.1, r.2.2.2)
set_option maxHeartbeats 4000000 in
set_option maxRecDepth 100000 in
theorem e11_text {w : zW} {d : Nat} {n : Nat} {kd : zMK} {I : zMI} {R : zMR} {r : Int32 × (Nat × zMK) × zMI × zMR}  (hw : zst w = zSt0) (hS : zSh n kd) (hd : 137 ≤ d) (h : f11_text n kd I R = some r) : EV w d 7 534 Y11_text 0 [some (.ref 32), none] [] (n, kd, I, R) (q11_text  r) := by
  unfold f11_text at h
  refine ev_aload_n dX11_text_0 rfl rfl ?_
  refine em_getI dX11_text_1 zf_NineHeaps_90 rfl (hS.has 32 (by decide) (by decide) rfl) rfl ?_
  refine ev_if_lt dX11_text_4 (tgt := 16) (by decide) (fun c1 => ?_) (fun c1 => ?_)
  · replace h := zit c1 h
    refine ev_bipush dX11_text_16 (v := (-4 : Int32)) zcb_m4 ?_
    obtain rfl := Option.some.inj h
    exact ev_end_i dX11_text_18 rfl rfl ⟨rfl, rfl⟩
  · replace h := zif c1 h
    refine ev_aload_n dX11_text_7 rfl rfl ?_
    refine em_getI dX11_text_8 zf_NineHeaps_90 rfl (hS.has 32 (by decide) (by decide) rfl) rfl ?_
    refine ev_bipush dX11_text_11 (v := (6 : Int32)) zcb_6 ?_
    refine ev_icmp_lt dX11_text_13 (tgt := 19) (by decide) (fun c2 => ?_) (fun c2 => ?_)
    · replace h := zit c2 h
      refine ev_aload_n dX11_text_19 rfl rfl ?_
      refine em_getA dX11_text_20 zf_NineHeaps_35 rfl (hS.has 32 (by decide) (by decide) rfl) hw rfl ?_
      obtain ⟨p3, e4, h⟩ := zbd h
      refine ev_callV0 dX11_text_23 zm7_read zl_NineHeaps_118 zi7_read zv7_read (zrcT hS) (As := []) (rest := []) rfl rfl (Nat.le_of_ble_eq_true rfl) rfl (Nat.le_of_ble_eq_true rfl) (d' := 136) (by omega) (e7_read hw hS (Nat.le_refl _) e4) (fun v μ1 q => ?_)
      obtain ⟨rfl, rfl⟩ := q
      refine ev_istore_n dX11_text_26 rfl (by decide) rfl ?_
      refine ev_aload_n dX11_text_27 rfl rfl ?_
      refine em_getA dX11_text_28 zf_NineHeaps_35 rfl (hS.has 32 (by decide) (by decide) rfl) hw rfl ?_
      refine ev_iconst dX11_text_31 (v := (0 : Int32)) zci_0 ?_
      obtain ⟨J5, e6, h⟩ := zld h
      refine em_putI dX11_text_32 zf_NineHeaps_100 (Or.inl rfl) rfl rfl rfl (hS.has 37 (by decide) (by decide) rfl) e6 ?_
      refine ev_iload_n dX11_text_35 rfl rfl ?_
      refine ev_iconst dX11_text_36 (v := (-1 : Int32)) zci_m1 ?_
      refine ev_icmp_eq dX11_text_37 (tgt := 45) (by decide) (fun c7 => ?_) (fun c7 => ?_)
      · replace h := zit c7 h
        refine ev_aload_n dX11_text_45 rfl rfl ?_
        refine em_getA dX11_text_46 zf_NineHeaps_28 rfl (hS.has 32 (by decide) (by decide) rfl) hw rfl ?_
        refine ev_aload_n dX11_text_49 rfl rfl ?_
        refine em_getI dX11_text_50 zf_NineHeaps_90 rfl (hS.has 32 (by decide) (by decide) rfl) rfl ?_
        refine ev_aload_n dX11_text_53 rfl rfl ?_
        refine em_getA dX11_text_54 zf_NineHeaps_35 rfl (hS.has 32 (by decide) (by decide) rfl) hw rfl ?_
        obtain ⟨p8, e9, h⟩ := zbd h
        refine ev_callVK (k2 := 0) (z2 := 0) dX11_text_57 zm7_lastRead zl_NineHeaps_122 zi7_lastRead zv7_lastRead (zrcT hS) (As := []) (rest := [.int (J5 32 6), .ref 36]) rfl rfl (Nat.le_of_ble_eq_true rfl) rfl (Nat.le_of_ble_eq_true rfl) (d' := 4) (by omega) (e7_lastRead hw hS (Nat.le_refl _) e9) (by omega) (by omega) (fun v μ1 q => ?_)
        obtain ⟨rfl, rfl⟩ := q
        obtain ⟨g10, h⟩ := zgd h
        have hS := zShB_sh g10
        obtain ⟨g11, h⟩ := zgd h
        obtain ⟨g12, h⟩ := zgd h
        obtain ⟨T13, e14, h⟩ := zld h
        refine em_aastR dX11_text_60 hS (by decide) (by decide) (N := 6) rfl (by decide) (by decide) (zKdB_hasR hS (by decide) g11) (by decide) (c2 := 3) (by decide) (fun _ => rfl) (Or.inl rfl) hw (fun _ => rfl) g12 e14 ?_
        refine ev_aload_n dX11_text_61 rfl rfl ?_
        refine ev_dup dX11_text_62 rfl ?_
        refine em_getI dX11_text_63 zf_NineHeaps_90 rfl (hS.has 32 (by decide) (by decide) rfl) rfl ?_
        refine ev_iconst dX11_text_66 (v := (1 : Int32)) zci_1 ?_
        refine ev_iadd dX11_text_67 rfl ?_
        obtain ⟨J15, e16, h⟩ := zld h
        refine em_putI dX11_text_68 zf_NineHeaps_90 (Or.inl rfl) rfl rfl rfl (hS.has 32 (by decide) (by decide) rfl) e16 ?_
        refine ev_aload_n dX11_text_71 rfl rfl ?_
        refine em_getI dX11_text_72 zf_NineHeaps_90 rfl (hS.has 32 (by decide) (by decide) rfl) rfl ?_
        refine ev_iconst dX11_text_75 (v := (1 : Int32)) zci_1 ?_
        refine ev_isub dX11_text_76 rfl ?_
        obtain rfl := Option.some.inj h
        exact ev_end_i dX11_text_77 rfl rfl ⟨rfl, rfl⟩
      · replace h := zif c7 h
        refine ev_bipush dX11_text_40 (v := (-100 : Int32)) zcb_m100 ?_
        refine ev_iload_n dX11_text_42 rfl rfl ?_
        refine ev_isub dX11_text_43 rfl ?_
        obtain rfl := Option.some.inj h
        exact ev_end_i dX11_text_44 rfl rfl ⟨rfl, rfl⟩
    · replace h := zif c2 h
      refine ev_bipush dX11_text_16 (v := (-4 : Int32)) zcb_m4 ?_
      obtain rfl := Option.some.inj h
      exact ev_end_i dX11_text_18 rfl rfl ⟨rfl, rfl⟩
