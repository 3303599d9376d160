/-! pure part: what is kept between the law's calls -/
theorem xGE {J M : zMI} (h : zFM J M) : zGE J M := fun b hb => h.1 b (by omega) (by omega)
theorem xGE_tr {J M N : zMI} (h1 : zGE J M) (h2 : zGE M N) : zGE J N := fun b hb => by rw [h2 b hb, h1 b hb]
/-- a choice of ghosts -/
def xGh (sl : Nat) (sf : Nat → Int32) (gh : zGh) : Prop := zGhe gh ∧ ∀ (n : Nat) (kd : zMK) (I M : zMI) (R : zMR), zGE I M → zC zT0 n kd M R → zC zT0 n kd (gh n kd I R) R ∧ (zDef sl sf M → zDef sl sf (gh n kd I R))
theorem x_gh (sl : Nat) (sf : Nat → Int32) : ∃ gh : zGh, xGh sl sf gh := by
  have key : ∀ (n : Nat) (kd : zMK) (I : zMI) (R : zMR), ∃ G : zMI, zGE I G ∧ ∀ M, zGE I M → zC zT0 n kd M R → zC zT0 n kd G R ∧ (zDef sl sf M → zDef sl sf G) := fun n kd I R => by
    by_cases c : ∃ M, zGE I M ∧ zC zT0 n kd M R ∧ zDef sl sf M
    · obtain ⟨M, h1, h2, h3⟩ := c
      exact ⟨M, h1, fun _ _ _ => ⟨h2, fun _ => h3⟩⟩
    · by_cases c2 : ∃ M, zGE I M ∧ zC zT0 n kd M R
      · obtain ⟨M, h1, h2⟩ := c2
        exact ⟨M, h1, fun N g1 g2 => ⟨h2, fun g3 => absurd ⟨N, g1, g2, g3⟩ c⟩⟩
      · exact ⟨I, fun _ _ => rfl, fun N g1 g2 => absurd ⟨N, g1, g2⟩ c2⟩
  exact ⟨fun n kd I R => Classical.choose (key n kd I R), fun n kd I R => (Classical.choose_spec (key n kd I R)).1, fun n kd I M R h1 h2 => (Classical.choose_spec (key n kd I R)).2 M h1 h2⟩
section
variable {sl : Nat} {sf : Nat → Int32} {n : Nat} {kd : zMK} {I J M : zMI} {R : zMR}
theorem zDef_w (h : zDef sl sf J) (w : zFw J M) : zDef sl sf M := zDef_fr h (fun b x1 x2 => w.1 b (by omega) (by omega)) (w.2 2 (by decide)) (w.2 3 (by decide)) (w.2 12 (by decide))
/-- what holds between the law's calls -/
def xQ (sl : Nat) (sf : Nat → Int32) (n : Nat) (kd : zMK) (I : zMI) (R : zMR) : Prop := zC zT0 n kd I R ∧ zDef sl sf I
theorem xQ_gh {gh : zGh} (hg : xGh sl sf gh) (h1 : zGE I M) (h2 : zC zT0 n kd M R) (h3 : zDef sl sf M) : xQ sl sf n kd (gh n kd I R) R := ⟨(hg.2 n kd I M R h1 h2).1, (hg.2 n kd I M R h1 h2).2 h3⟩
/-- the law's row is tied to every plain going -/
theorem x_tie (hL : sl ≤ 260) {h : zML} (hD : yD sl sf h) {T : Nat} (hT : T ≤ 600) {pl : Int32 × zML} (hp : fL_plainly sl sf 9 (Int32.ofNat T) h = some pl) (hJ : zDef sl sf J) (hM : f12_goesPlain (Int32.ofNat T) J = some M) : yRel sl sf 3600 (sMany sl sf).toInt.toNat M pl.2 := by
  obtain ⟨pl', p1, p2⟩ := y_tie hL hD hT hJ hM
  rw [hp] at p1
  cases p1
  exact p2
/-- one plain going of the class, with all that the law needs -/
theorem x_plain (hQ : xQ sl sf n kd I R) {T : Nat} (hT : T ≤ 600) : ∃ I1 R1 I2 M L s, f11_layPlain n kd I R = some (I1, R1) ∧ f0_pass n kd R1 (Int32.ofNat T) I1 = some I2 ∧ f12_goesPlain (Int32.ofNat T) I2 = some M ∧ zG n kd R1 L s (I 81 12).toInt.toNat (zAd (I 81 3).toInt.toNat R) I2 M (5 * (Int32.ofNat T).toInt) (Int32.ofNat T).toInt ∧ zB0 n kd R L s (I 81 12).toInt.toNat (zAd (I 81 3).toInt.toNat R) I I ∧ zFX (zAd (I 81 3).toInt.toNat R) s I I2 ∧ zFM I2 M ∧ (∀ b', b' ≠ 42 → b' ≠ 44 → R1 b' = R b') ∧ (∀ w, zgo M w ↔ (w : Int) < (I 81 3).toInt) ∧ zC zT0 n kd M R1 ∧ zDef sl sf I2 ∧ zDef sl sf M := by
  have eT := zofn_i (m := T) (by omega)
  obtain ⟨I1, R1, I2, M, L, s, x1, x2, x3, x4, x5, x6, x7, x8, x9, x10⟩ := zplain hQ.1 (sec := Int32.ofNat T) (by omega)
  have d2 := zDef_w hQ.2 (zFw_X x5 x6)
  exact ⟨I1, R1, I2, M, L, s, x1, x2, x3, x4, x5, x6, x7, x8, x9, x10, d2, zDef_w d2 (zFw_M x7)⟩
theorem x_many (hQ : xQ sl sf n kd I R) : (I 81 3).toInt = ((sMany sl sf).toInt.toNat : Int) := hQ.2.2.2.1.1
def xOne (M : zMI) (what : Int32) (w : Nat) : Int32 := if what = 0 then M 100 w else if what = 1 then M 101 w else if what = 2 then M 104 w else if what = 3 then M 105 w else M 103 w
theorem x_one (hQ : xQ sl sf n kd I R) {T : Nat} (hT : T ≤ 600) {w : Nat} (hw : w < (sMany sl sf).toInt.toNat) {what : Int32} (c4 : 0 ≤ what.toInt ∧ what.toInt ≤ 4) : ∃ I2 R1 M, f11_one n kd (Int32.ofNat w) (Int32.ofNat T) what I R = some (xOne M what w, I2, R1) ∧ zFM I2 M ∧ zC zT0 n kd M R1 ∧ zDef sl sf M ∧ zDef sl sf I2 ∧ f12_goesPlain (Int32.ofNat T) I2 = some M := by
  have hC := hQ.1
  have r3 := hC.2.1.2.2.2.2.2.1
  have e3 := x_many hQ
  have ew := zofn_i (m := w) (by omega)
  have nw := zofn_n (m := w) (by omega)
  have eT := zofn_i (m := T) (by omega)
  have cw : 0 ≤ (Int32.ofNat w).toInt ∧ (Int32.ofNat w).toInt < (I 81 3).toInt := by omega
  have cs : 0 ≤ (Int32.ofNat T).toInt ∧ (Int32.ofNat T).toInt ≤ 600 := by omega
  obtain ⟨a, q1, q2, q3, q4, q5, -⟩ := hC.2.2.2.2.2.2.1 w (by omega)
  have hW := zW_ok q2 q3 q4 (zkc_w q5.1 q5.2)
  obtain ⟨I1, R1, I2, M, L, s, x1, x2, x3, x4, x5, x6, x7, x8, x9, x10, d2, dM⟩ := x_plain hQ hT
  have gw := zG_w (w := w) x4 (by omega) ((x9 _).mpr (by omega))
  have eA : zAd (I 81 3).toInt.toNat R w = a := by
    unfold zAd
    rw [if_pos (by omega), q1]
    rfl
  rw [eA] at gw
  obtain ⟨g1, g2, g3, g4, g5, g6, -⟩ := gw
  refine ⟨I2, R1, M, ?_, x7, x10, dM, d2, x3⟩
  unfold f11_one xOne
  rw [g11_walkerOf hC, zb_some, if_pos cw, nw, q1, zm_some, g11_noSeconds, zb_some, ← g1, ← g2, ← g4, ← g5, ← g6]
  simp only [zB_0]
  rw [if_pos (not_not_intro cs), if_neg (by rw [zlt_iff, z0]; omega), if_pos (by rw [zle_iff, zn4i]; omega), x1, zb_some, x2, zb_some]
  simp only [hW, if_true]
  by_cases k0 : what = 0
  · rw [if_pos k0, if_pos k0]
  by_cases k1 : what = 1
  · rw [if_neg k0, if_pos k1, if_neg k0, if_pos k1]
  by_cases k2 : what = 2
  · rw [if_neg k0, if_neg k1, if_pos k2, if_neg k0, if_neg k1, if_pos k2]
  by_cases k3 : what = 3
  · rw [if_neg k0, if_neg k1, if_neg k2, if_pos k3, if_neg k0, if_neg k1, if_neg k2, if_pos k3]
  · rw [if_neg k0, if_neg k1, if_neg k2, if_neg k3, if_neg k0, if_neg k1, if_neg k2, if_neg k3]
theorem x_height (hQ : xQ sl sf n kd I R) {T : Nat} (hT : T ≤ 600) {h : Nat} (hh : h < 9) {what : Int32} (c1 : 0 ≤ what.toInt ∧ what.toInt ≤ 1) : ∃ I2 R1 M, f11_height n kd (Int32.ofNat h) (Int32.ofNat T) what I R = some (if what = 0 then M 107 h else M 109 h, I2, R1) ∧ zFM I2 M ∧ zC zT0 n kd M R1 ∧ zDef sl sf M ∧ zDef sl sf I2 ∧ f12_goesPlain (Int32.ofNat T) I2 = some M := by
  have hC := hQ.1
  have eh := zofn_i (m := h) (by omega)
  have eT := zofn_i (m := T) (by omega)
  have ch : 0 ≤ (Int32.ofNat h).toInt ∧ (Int32.ofNat h).toInt ≤ 8 := by omega
  have cs : 0 ≤ (Int32.ofNat T).toInt ∧ (Int32.ofNat T).toInt ≤ 600 := by omega
  obtain ⟨I1, R1, I2, M, L, s, x1, x2, x3, x4, x5, x6, x7, x8, x9, x10, d2, dM⟩ := x_plain hQ hT
  have gh := x4.2.2.2.1 h hh
  have at' := zhpAt (x := Int32.ofNat h) (h := h) (by omega) (by omega)
  have hp := zHp_ok (h := h) (by omega)
  refine ⟨I2, R1, M, ?_, x7, x10, dM, d2, x3⟩
  unfold f11_height
  rw [g11_noHeap, zb_some, g11_noSeconds, zb_some]
  simp only [zB_0]
  rw [if_pos (not_not_intro ch), if_pos (not_not_intro cs), if_neg (by rw [zlt_iff, z0]; omega), if_pos (by rw [zle_iff, z1]; omega), x1, zb_some, x2, zb_some, at', zb_some, zb_some, if_pos hp, if_pos hp, ← gh.2.1, ← gh.2.2.2.2.1]
  split <;> rfl
theorem x_run (hQ : xQ sl sf n kd I R) {T : Nat} (hT : T ≤ 600) : ∃ I2 R1 M, zFM I2 M ∧ zC zT0 n kd M R1 ∧ zDef sl sf M ∧ zDef sl sf I2 ∧ f12_goesPlain (Int32.ofNat T) I2 = some M ∧
    f11_run n kd (Int32.ofNat T) 0 I R = some (M 81 47, I2, R1) ∧ (∃ v : Int32, f11_run n kd (Int32.ofNat T) 1 I R = some (v, I2, R1) ∧ v.toInt = (zcnt (M 110) 1 (M 81 47).toInt.toNat : Nat)) ∧ (∃ v : Int32, f11_run n kd (Int32.ofNat T) 2 I R = some (v, I2, R1) ∧ v.toInt = (zcnt (M 110) 2 (M 81 47).toInt.toNat : Nat)) ∧ f11_run n kd (Int32.ofNat T) 4 I R = some (M 81 48, I2, R1) := by
  have eT := zofn_i (m := T) (by omega)
  have cs : 0 ≤ (Int32.ofNat T).toInt ∧ (Int32.ofNat T).toInt ≤ 600 := by omega
  obtain ⟨I1, R1, I2, M, L, s, x1, x2, x3, x4, x5, x6, x7, x8, x9, x10, d2, dM⟩ := x_plain hQ hT
  obtain ⟨q1, q2, q3, q4, q5, q6, q7, -⟩ := id x4.2.2.2.2.2
  have F : ∀ what : Int32, 0 ≤ what.toInt ∧ what.toInt ≤ 4 → f11_run n kd (Int32.ofNat T) what I R = if what = (0 : Int32) then some ((I2 42 9), I2, R1) else if what = (1 : Int32) then some ((I2 42 10), I2, R1) else if what = (2 : Int32) then some ((I2 42 11), I2, R1) else if what = (3 : Int32) then zb (f0_badness n kd R1 I2) fun p14 => some (p14.1, p14.2, R1) else some ((I2 42 12), I2, R1) := fun what c4 => by
    unfold f11_run
    rw [g11_noSeconds, zb_some]
    simp only [zB_0]
    rw [if_pos (not_not_intro cs), if_neg (by rw [zlt_iff, z0]; omega), if_pos (by rw [zle_iff, zn4i]; omega), x1, zb_some, x2, zb_some]
  refine ⟨I2, R1, M, x7, x10, dM, d2, x3, ?_, ⟨I2 42 10, ?_, q5⟩, ⟨I2 42 11, ?_, q6⟩, ?_⟩
  · rw [F 0 (by decide), if_pos rfl, q2]
  · rw [F 1 (by decide), if_neg (by decide), if_pos rfl]
  · rw [F 2 (by decide), if_neg (by decide), if_neg (by decide), if_pos rfl]
  · rw [F 4 (by decide), if_neg (by decide), if_neg (by decide), if_neg (by decide), if_neg (by decide), q3]
end
