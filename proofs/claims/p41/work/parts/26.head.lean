/-! the law from its first instruction -/
theorem ev_build {w : zW} {d : Nat} {J : zMI} {r : Nat × (Nat × zMK) × zMI × zMR} (hw : ∀ a k, zst w a k = none) (hd : 138 ≤ d) (h : fL_build (zxl w) (zxs w) 114 zB1k (zB1I J) zB1R = some r) :
    EV w d 75 3249 YL_build 0 [some (.ref 26), none, none] [] (32, zD0, zI0, zR0) (fun v μ1 => v = some (.ref r.1) ∧ μ1 = (r.2.1.1, r.2.1.2, r.2.2.1, zfx r.2.2.2)) := by
  refine em_newK (kc' := 74) (ks' := 3229) dL_build_0 (c := 11) (N := 20) (by decide) zc_NineHeapsLaw_18 zj11 zn_NineHeaps rfl (fun k => hw _ _) ⟨by omega, Or.inl (by omega)⟩ (by omega) (by omega) ?_
  refine ev_dup dL_build_3 rfl ?_
  refine ev_callIK (k2 := 23) (z2 := 2037) dL_build_4 zm11_init zl_NineHeapsLaw_23 zi11_init rfl rfl (As := []) (rest := [.ref 32]) rfl rfl (Nat.le_of_ble_eq_true rfl) rfl (Nat.le_of_ble_eq_true rfl) (d' := 4) (by omega) (e11_initc hw (Nat.le_refl _) zMX_some.1) (by omega) (by omega) (fun v μ1 q => ?_)
  obtain ⟨rfl, q2⟩ := q
  rw [q2]
  clear q2
  refine ev_astore_n dL_build_7 rfl (by decide) rfl ?_
  rw [zX1_n]
  refine EV.gap (kd' := zB1k) (I' := zB1I J) (R' := zB1R) (fun b hb => by unfold zB1k; rw [if_pos hb]) (fun b hb => by unfold zB1I; rw [if_pos hb]) (fun b hb => by funext k; unfold zB1R; rw [if_pos hb]) ?_
  have h4 := EV.mode hw (eL_build (w := zto w) rfl rfl (zto_st w) zB1_sh hd h)
  rw [zB1_fx] at h4
  refine EV.mono h4 fun v μ1 q => ?_
  obtain ⟨μ2, ⟨q1, q2⟩, q3⟩ := q
  rw [q2] at q3
  exact ⟨q1, q3⟩
theorem eL_all {w : zW} {d : Nat} {J : zMI} {n : Nat} {kd : zMK} {I I' : zMI} {R : zMR} {h1 : zML} {m a8 t : Int32} {pl : Int32 × zML} {vv : Int32} {gh : zGh} (hw : ∀ a k, zst w a k = none) (hm : zhm w = none) (hd : 139 ≤ d) (hge : zGhe gh)
    (hb : fL_build (zxl w) (zxs w) 114 zB1k (zB1I J) zB1R = some (32, (n, kd), I, R)) (hS : zSh n kd) (hI : zGE I I') (hs : fL_start (zxl w) (zxs w) (fun _ => 0) = some h1) (hmy : fL_many (zxl w) (zxs w) = some m) (ha : fL_at (zxl w) (zxs w) 8 = some a8)
    (ht : ((a8 &&& (1023 : Int32)) - (a8 &&& (1023 : Int32)) / (601 : Int32) * (601 : Int32)) = t) (hp : fL_plainly (zxl w) (zxs w) 9 t h1 = some pl)
    (h : fL_law (n + 1) (uK kd n (14, 130)) (zxl w) (zxs w) n pl.2 gh m t (uA I' n (fun _ => 0)) (uRA R n) = some vv) :
    EV w d 136 4679 YL_law 0 [some (.ref 26), none, none, none, none, none, none, none, none, none, none] [] (32, zD0, zI0, zR0) (fun v' _ => v' = some (.int vv)) := by
  refine ev_aload_n dL_law_0 rfl rfl ?_
  refine ev_callSK (k2 := 61) (z2 := 1430) dL_law_1 zmL_build zl_NineHeapsLaw_143 zsL_build (As := [.ref 26]) (rest := []) rfl rfl (Nat.le_of_ble_eq_true rfl) rfl (Nat.le_of_ble_eq_true rfl) (d' := 138) (by omega) (ev_build hw (Nat.le_refl _) hb) (by omega) (by omega) (fun v μ1 q => ?_)
  obtain ⟨rfl, q2⟩ := q
  rw [q2]
  clear q2
  refine EV.mono (EV.mode hw (Q := fun v1 _ => v1 = some (.int vv)) ?_) (fun v1 μ1 q => q.elim fun _ q => q.1)
  refine EV.ghost hI ?_
  refine ev_astore_n dL_law_4 rfl (by decide) rfl ?_
  refine ev_sipush dL_law_5 (v := (130 : Int32)) (by decide) ?_
  have hh : zhm (zto w) = none := hm
  refine ev_newL (kc := 60) (ks := 1300) (N := 130) hh dL_law_8 zarr_long (by decide) (by decide) (by decide) hS.top ?_
  refine ev_astore_n dL_law_10 rfl (by decide) rfl ?_
  have hS2 := zSh_new hS (14, 130)
  have kn : uK kd n (14, 130) n = (14, 130) := if_pos rfl
  have hA : zHas (n + 1) (uK kd n (14, 130)) n 14 := ⟨hS.top, Nat.lt_succ_self n, by rw [kn]⟩
  have hN : (uK kd n (14, 130) n).2 = 130 := by rw [kn]
  refine ev_aload_n dL_law_11 rfl rfl ?_
  refine ev_aload_n dL_law_12 rfl rfl ?_
  refine ev_callS0 dL_law_13 zmL_start zl_NineHeapsLaw_147 zsL_start (As := [.ref 26, .ref n]) (rest := []) rfl rfl (Nat.le_of_ble_eq_true rfl) rfl (Nat.le_of_ble_eq_true rfl) (d' := 3) (by omega) (eL_start (n := n + 1) (kd := uK kd n (14, 130)) (J0 := uA I' n (fun _ => 0)) (R := uRA R n) (w := zto w) rfl rfl hh hA hN (Nat.le_refl _) hs) (fun v μ1 q => ?_)
  obtain ⟨rfl, q2⟩ := q
  rw [q2]
  clear q2
  refine ev_aload_n dL_law_16 rfl rfl ?_
  refine ev_callS0 dL_law_17 zmL_many zl_NineHeapsLaw_41 zsL_many (As := [.ref 26]) (rest := []) rfl rfl (Nat.le_of_ble_eq_true rfl) rfl (Nat.le_of_ble_eq_true rfl) (d' := 2) (by omega) (eL_many (w := zto w) rfl rfl (Nat.le_refl _) hmy) (fun v μ1 q => ?_)
  obtain ⟨rfl, q2⟩ := q
  rw [q2]
  clear q2
  refine ev_istore_n dL_law_20 rfl (by decide) rfl ?_
  refine ev_aload_n dL_law_21 rfl rfl ?_
  refine ev_bipush dL_law_22 (v := (8 : Int32)) (by decide) ?_
  refine ev_callS0 dL_law_24 zmL_at zl_NineHeapsLaw_69 zsL_at (As := [.ref 26, .int 8]) (rest := []) rfl rfl (Nat.le_of_ble_eq_true rfl) rfl (Nat.le_of_ble_eq_true rfl) (d' := 1) (by omega) (eL_at (w := zto w) rfl rfl (Nat.le_refl _) ha) (fun v μ1 q => ?_)
  obtain ⟨rfl, q2⟩ := q
  rw [q2]
  clear q2
  refine ev_sipush dL_law_27 (v := (1023 : Int32)) (by decide) ?_
  refine ev_iand dL_law_30 rfl ?_
  refine ev_sipush dL_law_31 (v := (601 : Int32)) (by decide) ?_
  refine ev_irem dL_law_34 (by decide) ht ?_
  refine ev_istore dL_law_35 (by decide) rfl ?_
  refine ev_aload_n dL_law_37 rfl rfl ?_
  refine ev_aload_n dL_law_38 rfl rfl ?_
  refine ev_bipush dL_law_39 (v := (9 : Int32)) (by decide) ?_
  refine ev_iload dL_law_41 rfl ?_
  refine ev_callS0 dL_law_43 zmL_plainly zl_NineHeapsLaw_151 zsL_plainly (As := [.ref 26, .ref n, .int 9, .int t]) (rest := []) rfl rfl (Nat.le_of_ble_eq_true rfl) rfl (Nat.le_of_ble_eq_true rfl) (d' := 6) (by omega) (eL_plainly (w := zto w) rfl rfl hh hA hN (Nat.le_refl _) hp) (fun v μ1 q => ?_)
  obtain ⟨rfl, q2⟩ := q
  rw [q2]
  clear q2
  refine ev_pop dL_law_46 rfl ?_
  refine EV.frz hh (by rw [kn]) ?_
  exact eL_law (w := zfz (zto w) n pl.2) rfl rfl rfl hge rfl hS2 hA hN hd h
