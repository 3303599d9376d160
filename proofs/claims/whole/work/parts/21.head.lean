/-! the law from its first instruction -/
def zX1 : (Nat × zMK) × zMI × zMR := zMX.getD ((0, zD0), zI0, zR0)
def zM1 : (Nat × zMK) × zMI × zMR := zMM.getD ((0, zD0), zI0, zR0)
theorem zMX_eq : f11_initc 32 33 (uK zD0 32 (27, 0)) (uA zI0 32 (fun _ => 0)) (uRA zR0 32) = some zX1 := by
  have h := zMX_1
  unfold zX1
  generalize e : zMX = o at h ⊢
  cases o with
  | none => cases h
  | some r => exact e
theorem zX1_n : zX1.1.1 = 81 := by
  have h := zMX_1
  unfold zX1
  generalize zMX = o at h ⊢
  cases o with
  | none => cases h
  | some r => exact Option.some.inj h
theorem zMM_eq : f12_initc 81 82 (uK zX1.1.2 81 (28, 0)) (uA zX1.2.1 81 (fun _ => 0)) (uRA zX1.2.2 81) = some zM1 := by
  have h := zMM_sh
  have e : zMM = f12_initc 81 82 (uK zX1.1.2 81 (28, 0)) (uA zX1.2.1 81 (fun _ => 0)) (uRA zX1.2.2 81) := by
    unfold zMM
    rw [show zMX = some zX1 from zMX_eq, Option.bind_some]
  unfold zM1
  generalize zMM = o at h e ⊢
  cases o with
  | none => cases h
  | some r => exact e.symm
theorem zM1_all : zM1.1.1 = 114 ∧ zSh zM1.1.1 zM1.1.2 ∧ zfx zM1.2.2 = zM1.2.2 := by
  have h := zMM_sh
  unfold zM1
  generalize zMM = o at h ⊢
  cases o with
  | none => cases h
  | some r =>
    simp only [Bool.and_eq_true, beq_iff_eq] at h
    exact ⟨h.1.1, zShB_sh h.1.2, zfxB_eq h.2⟩
theorem eL_all {w : zW} {d : Nat} {r : Int32 × (Nat × zMK) × zMI × zMR} (hw : ∀ a k, zst w a k = none) (hd : 138 ≤ d) (h : fL_law (zxl w) (zxs w) zM1.1.1 zM1.1.2 zM1.2.1 zM1.2.2 = some r) :
    EV w d 5215 277832 YL_law 0 [some (.ref 26), none, none, none] [] (32, zD0, zI0, zR0) (fun v _ => v = some (.int r.1)) := by
  refine em_newK (kc' := 5214) (ks' := 277812) dL_law_0 (c := 11) (N := 20) (by decide) zc_NineHeapsLaw_7 zj11 zn_NineHeaps rfl (fun k => hw _ _) (by omega) (by omega) ?_
  refine ev_dup dL_law_3 rfl ?_
  refine ev_callIK (k2 := 5163) (z2 := 276620) dL_law_4 zm11_init zl_NineHeapsLaw_9 zi11_init rfl rfl (As := []) (rest := [.ref 32]) rfl rfl (Nat.le_of_ble_eq_true rfl) rfl (Nat.le_of_ble_eq_true rfl) (d' := 4) (by omega) (e11_initc hw (Nat.le_refl _) zMX_eq) (by omega) (by omega) (fun v μ1 q => ?_)
  obtain ⟨rfl, rfl⟩ := q
  refine ev_astore_n dL_law_7 rfl (by decide) rfl ?_
  rw [zX1_n]
  refine em_newK (kc' := 5162) (ks' := 276567) dL_law_8 (c := 12) (N := 53) (by decide) zc_NineHeapsLaw_10 zj12 zn_NineHeapsModel rfl (fun k => hw _ _) (by omega) (by omega) ?_
  refine ev_dup dL_law_11 rfl ?_
  refine ev_callIK (k2 := 5130) (z2 := 273942) dL_law_12 zm12_init zl_NineHeapsLaw_12 zi12_init rfl rfl (As := []) (rest := [.ref 81]) rfl rfl (Nat.le_of_ble_eq_true rfl) rfl (Nat.le_of_ble_eq_true rfl) (d' := 6) (by omega) (e12_initc hw (Nat.le_refl _) zMM_eq) (by omega) (by omega) (fun v μ1 q => ?_)
  obtain ⟨rfl, rfl⟩ := q
  refine ev_astore_n dL_law_15 rfl (by decide) rfl ?_
  obtain ⟨h1, h2, h3⟩ := zM1_all
  have h4 := EV.mode hw (eL_law (w := zto w) rfl rfl (zto_st w) h2 hd h)
  rw [h3] at h4
  refine EV.mask [true, true, true, false] rfl (EV.mono h4 fun v μ1 q => ?_)
  obtain ⟨μ2, q1, -⟩ := q
  exact q1.1
