/-! pure part: the object gets its heaps, its walkers -/
section
variable {sl : Nat} {sf : Nat → Int32} {n : Nat} {kd : zMK} {I : zMI} {R : zMR}
theorem b_set0 (hC : zC zT0 n kd I R) {h : Nat} {v : Int32} (hh : h < 9) (hv : 0 ≤ v.toInt ∧ v.toInt ≤ 200) : ∃ p, f11_set n kd 0 (Int32.ofNat h) v I = some p ∧ ∃ q, f12_set 0 (Int32.ofNat h) v p.2 = some q ∧ zGE p.2 q.2 ∧ zC zT0 n kd q.2 R ∧ (∀ b, 81 ≤ b → b ≠ 82 → q.2 b = I b) ∧ (∀ k, k ≠ h → q.2 82 k = I 82 k) ∧ q.2 82 h = v := by
  have eh := zofn_i (m := h) (by omega)
  have nh := zofn_n (m := h) (by omega)
  obtain ⟨p, x1, q, x2, -, x4⟩ := zH1_ok zT0_q n kd I R 0 (Int32.ofNat h) v hC
  have e : ∀ (ah ak wa wk : Nat) (J : zMI), zs_set ah ak wa wk 0 (Int32.ofNat h) v J = (J ah h, uI J ah h v) := fun ah ak wa wk J => by
    unfold zs_set
    rw [if_neg (by decide), if_neg (by decide), if_neg (by rw [eh]; omega), if_pos rfl, if_pos hv, nh]
  have x1' := x1
  rw [g11_set hC.1, e] at x1'
  have hp := (Option.some.inj x1').symm
  have x2' := x2
  rw [g12_set, e] at x2'
  have hq := (Option.some.inj x2').symm
  have hp2 : p.2 = uI I 33 h v := by rw [hp]
  have hq2 : q.2 = uI (uI I 33 h v) 82 h v := by rw [hq, hp2]
  refine ⟨p, x1, q, x2, fun b hb => ?_, x4, fun b h1 h2 => ?_, fun k hk => ?_, ?_⟩
  · rw [hq2, hp2, uI_ne (by omega)]
  · rw [hq2, uI_ne h2, uI_ne (by omega)]
  · rw [hq2, uI_off hk, uI_ne (by decide)]
  · rw [hq2, uI_at]
theorem b_set1 (hC : zC zT0 n kd I R) {h : Nat} {v : Int32} (hh : h < 9) (hv : 0 ≤ v.toInt ∧ v.toInt ≤ 9) : ∃ p, f11_set n kd 1 (Int32.ofNat h) v I = some p ∧ ∃ q, f12_set 1 (Int32.ofNat h) v p.2 = some q ∧ zGE p.2 q.2 ∧ zC zT0 n kd q.2 R ∧ (∀ b, 81 ≤ b → b ≠ 83 → q.2 b = I b) ∧ (∀ k, k ≠ h → q.2 83 k = I 83 k) ∧ q.2 83 h = v := by
  have eh := zofn_i (m := h) (by omega)
  have nh := zofn_n (m := h) (by omega)
  obtain ⟨p, x1, q, x2, -, x4⟩ := zH1_ok zT0_q n kd I R 1 (Int32.ofNat h) v hC
  have e : ∀ (ah ak wa wk : Nat) (J : zMI), zs_set ah ak wa wk 1 (Int32.ofNat h) v J = (J ak h, uI J ak h v) := fun ah ak wa wk J => by
    unfold zs_set
    rw [if_neg (by decide), if_neg (by decide), if_neg (by rw [eh]; omega), if_neg (by decide), if_pos hv, nh]
  have x1' := x1
  rw [g11_set hC.1, e] at x1'
  have hp := (Option.some.inj x1').symm
  have x2' := x2
  rw [g12_set, e] at x2'
  have hq := (Option.some.inj x2').symm
  have hp2 : p.2 = uI I 34 h v := by rw [hp]
  have hq2 : q.2 = uI (uI I 34 h v) 83 h v := by rw [hq, hp2]
  refine ⟨p, x1, q, x2, fun b hb => ?_, x4, fun b h1 h2 => ?_, fun k hk => ?_, ?_⟩
  · rw [hq2, hp2, uI_ne (by omega)]
  · rw [hq2, uI_ne h2, uI_ne (by omega)]
  · rw [hq2, uI_off hk, uI_ne (by decide)]
  · rw [hq2, uI_at]
theorem b_set2 (hC : zC zT0 n kd I R) {v : Int32} (hv : 1 ≤ v.toInt ∧ v.toInt ≤ 200) : ∃ p, f11_set n kd 2 0 v I = some p ∧ ∃ q, f12_set 2 0 v p.2 = some q ∧ zGE p.2 q.2 ∧ zC zT0 n kd q.2 R ∧ (∀ b, 81 < b → q.2 b = I b) ∧ (∀ k, k ≠ 2 → q.2 81 k = I 81 k) ∧ q.2 81 2 = v := by
  obtain ⟨p, x1, q, x2, -, x4⟩ := zH1_ok zT0_q n kd I R 2 0 v hC
  have e : ∀ (ah ak wa wk : Nat) (J : zMI), zs_set ah ak wa wk 2 0 v J = (J wa wk, uI J wa wk v) := fun ah ak wa wk J => by
    unfold zs_set
    rw [if_neg (by decide), if_pos rfl, if_pos hv]
  have x1' := x1
  rw [g11_set hC.1, e] at x1'
  have hp := (Option.some.inj x1').symm
  have x2' := x2
  rw [g12_set, e] at x2'
  have hq := (Option.some.inj x2').symm
  have hp2 : p.2 = uI I 32 2 v := by rw [hp]
  have hq2 : q.2 = uI (uI I 32 2 v) 81 2 v := by rw [hq, hp2]
  refine ⟨p, x1, q, x2, fun b hb => ?_, x4, fun b h1 => ?_, fun k hk => ?_, ?_⟩
  · rw [hq2, hp2, uI_ne (by omega)]
  · rw [hq2, uI_ne (by omega), uI_ne (by omega)]
  · rw [hq2, uI_off hk, uI_ne (by decide)]
  · rw [hq2, uI_at]
theorem zgp_i {α : Type} {c : Prop} {x y : Option α} (h : c) : @ite _ c (Classical.propDecidable _) x y = x := if_pos h
/-- nine heaps -/
theorem b_heapsL (hL : sl ≤ 260) {k : Nat → zMK → zMI → zMR → Option (Nat × (Nat × zMK) × zMI × zMR)} {I0 : zMI} : ∀ (d q i : Nat) (I : zMI), i + d = 9 → d < q → zC zT0 n kd I R → (∀ b, 81 ≤ b → b ≠ 82 → b ≠ 83 → I b = I0 b) → (∀ h, h < i → I 82 h = sHigh sl sf h ∧ I 83 h = sStick sl sf h) →
    ∃ J, fL_build_L10 sl sf k q (Int32.ofNat i) n kd I R = k n kd J R ∧ zC zT0 n kd J R ∧ (∀ b, 81 ≤ b → b ≠ 82 → b ≠ 83 → J b = I0 b) ∧ ∀ h, h < 9 → J 82 h = sHigh sl sf h ∧ J 83 h = sStick sl sf h := by
  intro d
  induction d with
  | zero =>
    intro q i I hi hq hC h1 h2
    obtain ⟨q, rfl⟩ : ∃ p, q = p + 1 := ⟨q - 1, by omega⟩
    have ei := zofn_i (m := i) (by omega)
    refine ⟨I, ?_, hC, h1, fun h hh => h2 h (by omega)⟩
    unfold fL_build_L10
    rw [if_pos (zSh_B hC.1), if_pos (by rw [zle_iff, z9]; omega)]
  | succ d ih =>
    intro q i I hi hq hC h1 h2
    obtain ⟨q, rfl⟩ : ∃ p, q = p + 1 := ⟨q - 1, by omega⟩
    have ei := zofn_i (m := i) (by omega)
    have vh := s_high (sf := sf) hL (h := i) (by omega)
    have vs := s_stick (sf := sf) hL (h := i) (by omega)
    obtain ⟨p, p1, q1, p2, p3, p4, p5, p6, p7⟩ := b_set0 hC (h := i) (v := sHigh sl sf i) (by omega) (by omega)
    obtain ⟨p', r1, q2, r2, r3, r4, r5, r6, r7⟩ := b_set1 p4 (h := i) (v := sStick sl sf i) (by omega) ⟨vs.2.1, vs.2.2⟩
    obtain ⟨J, j1, j2, j3, j4⟩ := ih q (i + 1) q2.2 (by omega) (by omega) r4 (fun b x y z => by rw [r5 b x z, p5 b x y, h1 b x y z]) (fun h hh => by
      rw [r5 82 (by decide) (by decide)]
      by_cases c : h = i
      · rw [c, p7, r7]
        exact ⟨rfl, rfl⟩
      · rw [p6 h c, r6 h c, p5 83 (by decide) (by decide)]
        exact h2 h (by omega))
    refine ⟨J, ?_, j2, j3, j4⟩
    unfold fL_build_L10
    rw [if_pos (zSh_B hC.1), if_neg (by rw [zle_iff, z9]; omega), vh.1, zb_some, p1, zb_some, p2, zb_some, zgp_i p3, vs.1, zb_some, r1, zb_some, r2, zb_some, zgp_i r3, zofs (by omega)]
    exact j1
theorem b_walker (hC : zC zT0 n kd I R) {k m h : Int32} {c : Nat} (hc : (I 81 3).toInt = (c : Int)) (h5 : c < 5) (hk : 0 ≤ k.toInt ∧ k.toInt ≤ 5) (hm : 0 ≤ m.toInt ∧ m.toInt ≤ 9) (hh : 0 ≤ h.toInt ∧ h.toInt ≤ 8) : ∃ p, f11_walker k m h n kd I R = some p ∧ zShB p.2.1.1 p.2.1.2 = true ∧ ∃ q, f12_walker k m h p.2.2.1 = some q ∧ zGE p.2.2.1 q.2 ∧ zC zT0 p.2.1.1 p.2.1.2 q.2 p.2.2.2 ∧ (∀ b, 81 < b → b < 114 → b ≠ 84 → b ≠ 85 → b ≠ 86 → q.2 b = I b) ∧ (∀ j, j ≠ 3 → q.2 81 j = I 81 j) ∧ (q.2 81 3).toInt = ((c + 1 : Nat) : Int) ∧ (q.2 84 c = k ∧ q.2 85 c = m ∧ q.2 86 c = h) ∧ ∀ j, j ≠ c → q.2 84 j = I 84 j ∧ q.2 85 j = I 85 j ∧ q.2 86 j = I 86 j := by
  have hn := hC.1.1
  have r3 := hC.2.1.2.2.2.2.2.1
  obtain ⟨p, x1, xs, q, x2, -, x4⟩ := zH7_ok zT0_q n kd I R k m h hC
  have x1' := x1
  rw [g11_walker hC, if_pos ⟨hk, hm, hh⟩, if_pos (by omega)] at x1'
  have hp := (Option.some.inj x1').symm
  have hp2 : p.2.2.1 = uI (uI (uI (uI (uA I n (fun _ => 0)) n 0 (I 81 3)) n 1 m) n 2 h) 32 4 (I 81 3 + 1) := by rw [hp]
  have nc : (I 81 3).toNatClampNeg = c := by rw [zcl_iff]; omega
  have x2' := x2
  have p81 : p.2.2.1 81 3 = I 81 3 := by rw [hp2, uI_ne (by decide), uI_ne (by omega), uI_ne (by omega), uI_ne (by omega), uA_ne (by omega)]
  rw [(g12_walkerI (I := p.2.2.1) (k := k) (m := m) (h := h) p81 r3).1 ⟨hk, hm, hh⟩ (by omega)] at x2'
  have hq := (Option.some.inj x2').symm
  have hq2 : q.2 = zM7 p.2.2.1 (I 81 3) k m h := by rw [hq]
  have e1 : (I 81 3 + 1).toInt = ((c + 1 : Nat) : Int) := by
    rw [zadd (by rw [z1]; omega) (by rw [z1]; omega), z1]
    omega
  unfold zM7 at hq2
  rw [nc] at hq2
  have pr : ∀ b, 81 ≤ b → b < 114 → p.2.2.1 b = I b := fun b h1 h2 => by rw [hp2, uI_ne (by omega), uI_ne (by omega), uI_ne (by omega), uI_ne (by omega), uA_ne (by omega)]
  refine ⟨p, x1, xs, q, x2, fun b hb => ?_, x4, fun b h1 h2 h3 h4 h5 => ?_, fun j hj => ?_, ?_, ⟨?_, ?_, ?_⟩, fun j hj => ⟨?_, ?_, ?_⟩⟩
  · rw [hq2, uI_ne (by omega), uI_ne (by omega), uI_ne (by omega), uI_ne (by omega)]
  · rw [hq2, uI_ne (by omega), uI_ne (by omega), uI_ne (by omega), uI_ne (by omega), pr b (by omega) h2]
  · rw [hq2, uI_off hj, uI_ne (by omega), uI_ne (by omega), uI_ne (by omega), pr 81 (by omega) (by omega)]
  · rw [hq2, uI_at]
    exact e1
  · rw [hq2, uI_ne (by omega), uI_ne (by omega), uI_ne (by omega), uI_at]
  · rw [hq2, uI_ne (by omega), uI_ne (by omega), uI_at]
  · rw [hq2, uI_ne (by omega), uI_at]
  · rw [hq2, uI_ne (by omega), uI_ne (by omega), uI_ne (by omega), uI_off hj, pr 84 (by omega) (by omega)]
  · rw [hq2, uI_ne (by omega), uI_ne (by omega), uI_off hj, uI_ne (by omega), pr 85 (by omega) (by omega)]
  · rw [hq2, uI_ne (by omega), uI_off hj, uI_ne (by omega), uI_ne (by omega), pr 86 (by omega) (by omega)]
end
