/-! pure part: drawn answers alike -/
theorem zC_rows {n : Nat} {kd : zMK} {I M : zMI} {R : zMR} (hC : zC zT0 n kd I R) (e : ∀ b, b < 111 ∨ 113 < b → b ≠ 81 → M b = I b) (e81 : ∀ j, j < 34 → M 81 j = I 81 j) : zC zT0 n kd M R := by
  have hC0 := hC
  obtain ⟨h1, h2, h3, h4, h5, h6, h7, -⟩ := hC
  have r : ∀ b, b < 81 → M b = I b := fun b hb => e b (by omega) (by omega)
  have r2 : ∀ b, 81 < b → b < 111 → M b = I b := fun b x y => e b (by omega) (by omega)
  refine zC_mk zT0_q hC0 ?_ (zCh_eq h3 (r 33 (by decide)) (r 34 (by decide)) (r2 82 (by decide) (by decide)) (r2 83 (by decide) (by decide))) (zCt_eq h4 (e81 8 (by decide)) (r 38 (by decide)) (r2 87 (by decide) (by decide))) (zCs_eq h5 (fun a _ x => r a (by omega)) (r2 91 (by decide) (by decide)) (r2 92 (by decide) (by decide)) (r2 93 (by decide) (by decide))) ?_ (zCw_eq h7 (e81 3 (by decide)) (fun a ha => e a (by omega) (by omega)) (r2 84 (by decide) (by decide)) (r2 85 (by decide) (by decide)) (r2 86 (by decide) (by decide))) (e81 11 (by decide)) (fun h hh => by rw [r (46 + h) (by omega)]) (fun a ha _ => ?_) (fun _ _ => rfl)
  · unfold zCn at h2 ⊢
    rw [r 32 (by decide), r 37 (by decide), e81 3 (by decide), e81 2 (by decide), e81 11 (by decide), e81 12 (by decide), e81 8 (by decide)]
    exact h2
  · unfold zCi at h6 ⊢
    rw [r 32 (by decide), e81 13 (by decide), e81 14 (by decide), e81 15 (by decide), e81 16 (by decide), e81 3 (by decide), e81 11 (by decide), r 64 (by decide), r 65 (by decide), r 66 (by decide), r2 90 (by decide) (by decide)]
    exact h6
  · unfold zTa at ha
    exact e a (by omega) (by omega)
def zlot (l : Int64) : Int64 := l * (48271 : Int64) - l * (48271 : Int64) / (2147483647 : Int64) * (2147483647 : Int64)
def zlotv (l : Int64) : Int32 := (zlot l - zlot l / (10 : Int64) * (10 : Int64)).toInt32
def zlotn (l : Int64) : Nat → Int64
  | 0 => l
  | h + 1 => zlot (zlotn l h)
theorem zlmul {a b : Int64} (h1 : -9223372036854775808 ≤ a.toInt * b.toInt) (h2 : a.toInt * b.toInt < 9223372036854775808) : (a * b).toInt = a.toInt * b.toInt := by
  rw [Int64.toInt_mul]
  exact Int.bmod_eq_of_le (by omega) (by omega)
theorem zlsub {a b : Int64} (h1 : -9223372036854775808 ≤ a.toInt - b.toInt) (h2 : a.toInt - b.toInt < 9223372036854775808) : (a - b).toInt = a.toInt - b.toInt := by
  rw [Int64.toInt_sub]
  exact Int.bmod_eq_of_le (by omega) (by omega)
theorem zladd {a b : Int64} (h1 : -9223372036854775808 ≤ a.toInt + b.toInt) (h2 : a.toInt + b.toInt < 9223372036854775808) : (a + b).toInt = a.toInt + b.toInt := by
  rw [Int64.toInt_add]
  exact Int.bmod_eq_of_le (by omega) (by omega)
theorem zlrng (a : Int64) : -9223372036854775808 ≤ a.toInt ∧ a.toInt < 9223372036854775808 := ⟨Int64.le_toInt a, Int64.toInt_lt a⟩
theorem zldiv {a b : Int64} (ha : 0 ≤ a.toInt) (hb : 0 < b.toInt) : (a / b).toInt = a.toInt / b.toInt := by
  have h1 := zlrng a
  have d0 : 0 ≤ a.toInt / b.toInt := Int.ediv_nonneg ha (by omega)
  have d1 : a.toInt / b.toInt ≤ a.toInt := Int.ediv_le_self _ ha
  rw [Int64.toInt_div, Int.tdiv_eq_ediv_of_nonneg ha]
  exact Int.bmod_eq_of_le (by omega) (by omega)
theorem zlrem {a b : Int64} (ha : 0 ≤ a.toInt) (hb : 0 < b.toInt) : (a - a / b * b).toInt = a.toInt % b.toInt := by
  have hra := zlrng a
  have e := zldiv ha hb
  have m1 : a.toInt / b.toInt * b.toInt ≤ a.toInt := Int.ediv_mul_le _ (by omega)
  have d0 : 0 ≤ a.toInt / b.toInt := Int.ediv_nonneg ha (by omega)
  have m0 : 0 ≤ a.toInt / b.toInt * b.toInt := Int.mul_nonneg d0 (by omega)
  have em : (a / b * b).toInt = a.toInt / b.toInt * b.toInt := by
    rw [zlmul (by rw [e]; omega) (by rw [e]; omega), e]
  rw [zlsub (by rw [em]; omega) (by rw [em]; omega), em]
  have := Int.mul_ediv_add_emod a.toInt b.toInt
  rw [Int.mul_comm] at this
  omega
theorem zc48 : (48271 : Int64).toInt = 48271 := by decide +kernel
theorem zc31 : (2147483647 : Int64).toInt = 2147483647 := by decide +kernel
theorem zc10 : (10 : Int64).toInt = 10 := by decide +kernel
theorem zlot_r {l : Int64} (h : 0 ≤ l.toInt ∧ l.toInt < 2147483647) : 0 ≤ (zlot l).toInt ∧ (zlot l).toInt < 2147483647 := by
  have e : (l * (48271 : Int64)).toInt = l.toInt * 48271 := by rw [zlmul (by rw [zc48]; omega) (by rw [zc48]; omega), zc48]
  unfold zlot
  rw [zlrem (by rw [e]; omega) (by rw [zc31]; decide), zc31]
  omega
theorem zlotv_r {l : Int64} (h : 0 ≤ l.toInt ∧ l.toInt < 2147483647) : 0 ≤ (zlotv l).toInt ∧ (zlotv l).toInt ≤ 9 := by
  have hz := zlot_r h
  have e : (zlot l - zlot l / (10 : Int64) * (10 : Int64)).toInt = (zlot l).toInt % 10 := by rw [zlrem hz.1 (by rw [zc10]; decide), zc10]
  unfold zlotv
  have h0 : 0 ≤ (zlot l).toInt % 10 ∧ (zlot l).toInt % 10 < 10 := by omega
  rw [Int64.toInt_toInt32, e, Int.bmod_eq_of_le (by omega) (by omega)]
  omega
theorem zlotn_r {l : Int64} (h : 0 ≤ l.toInt ∧ l.toInt < 2147483647) : ∀ k, 0 ≤ (zlotn l k).toInt ∧ (zlotn l k).toInt < 2147483647
  | 0 => h
  | k + 1 => zlot_r (zlotn_r h k)
theorem g0_drawL {l0 : Int64} : ∀ (d q : Nat) (i : Int32) (I : zMI), i.toInt + d = 9 → 0 ≤ i.toInt → d < q →
    ∃ J, f0_draw_L8 q (zlotn l0 i.toInt.toNat) i I = some J ∧ (∀ h, h < 9 → J (46 + h) 2 = if i.toInt.toNat ≤ h then zlotv (zlotn l0 h) else I (46 + h) 2) ∧ ∀ b j, ¬ (46 ≤ b ∧ b ≤ 54 ∧ j = 2) → J b j = I b j := by
  intro d
  induction d with
  | zero =>
    intro q i I e h0 hq
    obtain ⟨q, rfl⟩ : ∃ p, q = p + 1 := ⟨q - 1, by omega⟩
    refine ⟨I, ?_, fun h hh => by rw [if_neg (by omega)], fun _ _ _ => rfl⟩
    unfold f0_draw_L8
    rw [if_pos (by rw [zle_iff, z9]; omega)]
  | succ d ih =>
    intro q i I e h0 hq
    obtain ⟨q, rfl⟩ : ∃ p, q = p + 1 := ⟨q - 1, by omega⟩
    have e1 := zsucc (N := 9) (i := i) (d := d) (by rw [z9]; omega)
    have ni : i.toNatClampNeg = i.toInt.toNat := zcl_iff i
    obtain ⟨J, j1, j2, j3⟩ := ih q (i + 1) (uI I (46 + i.toInt.toNat) 2 (zlotv (zlotn l0 i.toInt.toNat))) (by omega) (by omega) (by omega)
    rw [show (i + 1).toInt.toNat = i.toInt.toNat + 1 by omega] at j1
    refine ⟨J, ?_, fun h hh => ?_, fun b j hb => ?_⟩
    · unfold f0_draw_L8
      rw [if_neg (by rw [zle_iff, z9]; omega), if_pos (zib_ok h0 (by omega)), ni, zl_eq]
      exact j1
    · rw [j2 h hh, e1]
      by_cases c : h = i.toInt.toNat
      · rw [if_neg (by omega), if_pos (by omega), c, uI_at]
      · rw [uI_ne (by omega)]
        by_cases c2 : i.toInt.toNat ≤ h
        · rw [if_pos (by omega), if_pos c2]
        · rw [if_neg (by omega), if_neg c2]
    · rw [j3 b j hb]
      by_cases c : b = 46 + i.toInt.toNat
      · rw [c, uI_off (by omega)]
      · rw [uI_ne c]
theorem g12_byL8 {l0 : Int64} {sec : Int32} (k58 : Int32 → zMI → Option zMI) : ∀ (d q : Nat) (i : Int32) (I : zMI), i.toInt + d = 9 → 0 ≤ i.toInt → d < q →
    ∃ J, f12_goesBy_L8 k58 q sec (zlotn l0 i.toInt.toNat) i I = k58 sec J ∧ (∀ h, h < 9 → J 83 h = (if i.toInt.toNat ≤ h then zlotv (zlotn l0 h) else I 83 h) ∧ J 113 h = if i.toInt.toNat ≤ h then I 83 h else I 113 h) ∧ (∀ h, 9 ≤ h → J 83 h = I 83 h) ∧ ∀ b, b ≠ 83 → b ≠ 113 → J b = I b := by
  intro d
  induction d with
  | zero =>
    intro q i I e h0 hq
    obtain ⟨q, rfl⟩ : ∃ p, q = p + 1 := ⟨q - 1, by omega⟩
    refine ⟨I, ?_, fun h hh => by rw [if_neg (by omega), if_neg (by omega)]; exact ⟨rfl, rfl⟩, fun _ _ => rfl, fun _ _ _ => rfl⟩
    unfold f12_goesBy_L8
    rw [if_pos (by rw [zle_iff, z9]; omega)]
  | succ d ih =>
    intro q i I e h0 hq
    obtain ⟨q, rfl⟩ : ∃ p, q = p + 1 := ⟨q - 1, by omega⟩
    have e1 := zsucc (N := 9) (i := i) (d := d) (by rw [z9]; omega)
    have ni : i.toNatClampNeg = i.toInt.toNat := zcl_iff i
    obtain ⟨J, j1, j2, j4, j3⟩ := ih q (i + 1) (uI (uI I 113 i.toInt.toNat (I 83 i.toInt.toNat)) 83 i.toInt.toNat (zlotv (zlotn l0 i.toInt.toNat))) (by omega) (by omega) (by omega)
    rw [show (i + 1).toInt.toNat = i.toInt.toNat + 1 by omega] at j1
    refine ⟨J, ?_, fun h hh => ?_, fun h hh => by rw [j4 h hh, uI_off (by omega), uI_ne (by decide)], fun b y z => by rw [j3 b y z, uI_ne y, uI_ne z]⟩
    · unfold f12_goesBy_L8
      rw [if_neg (by rw [zle_iff, z9]; omega), if_pos (zib_ok h0 (by omega)), ni, zl_eq, zl_eq]
      exact j1
    · obtain ⟨w1, w2⟩ := j2 h hh
      rw [w1, w2, e1, uI_ne (show 113 ≠ 83 by decide)]
      by_cases c : h = i.toInt.toNat
      · have c1 : ¬ (i.toInt + 1).toNat ≤ h := by omega
        have c2 : i.toInt.toNat ≤ h := by omega
        rw [if_neg c1, if_neg c1, if_pos c2, if_pos c2, c, uI_at, uI_at]
        exact ⟨rfl, rfl⟩
      · rw [uI_off c, uI_off c, uI_ne (show 83 ≠ 113 by decide)]
        by_cases c2 : i.toInt.toNat ≤ h
        · have c1 : (i.toInt + 1).toNat ≤ h := by omega
          rw [if_pos c1, if_pos c1, if_pos c2, if_pos c2]
          exact ⟨rfl, rfl⟩
        · have c1 : ¬ (i.toInt + 1).toNat ≤ h := by omega
          rw [if_neg c1, if_neg c1, if_neg c2, if_neg c2]
          exact ⟨rfl, rfl⟩
theorem g12_byL66 : ∀ (d q : Nat) (i : Int32) (I : zMI), i.toInt + d = 9 → 0 ≤ i.toInt → d < q →
    ∃ J, f12_goesBy_L66 q i I = some J ∧ (∀ h, h < 9 → J 83 h = if i.toInt.toNat ≤ h then I 113 h else I 83 h) ∧ (∀ h, 9 ≤ h → J 83 h = I 83 h) ∧ ∀ b, b ≠ 83 → J b = I b := by
  intro d
  induction d with
  | zero =>
    intro q i I e h0 hq
    obtain ⟨q, rfl⟩ : ∃ p, q = p + 1 := ⟨q - 1, by omega⟩
    refine ⟨I, ?_, fun h hh => by rw [if_neg (by omega)], fun _ _ => rfl, fun _ _ => rfl⟩
    unfold f12_goesBy_L66
    rw [if_pos (by rw [zle_iff, z9]; omega)]
  | succ d ih =>
    intro q i I e h0 hq
    obtain ⟨q, rfl⟩ : ∃ p, q = p + 1 := ⟨q - 1, by omega⟩
    have e1 := zsucc (N := 9) (i := i) (d := d) (by rw [z9]; omega)
    have ni : i.toNatClampNeg = i.toInt.toNat := zcl_iff i
    obtain ⟨J, j1, j2, j4, j3⟩ := ih q (i + 1) (uI I 83 i.toInt.toNat (I 113 i.toInt.toNat)) (by omega) (by omega) (by omega)
    refine ⟨J, ?_, fun h hh => ?_, fun h hh => by rw [j4 h hh, uI_off (by omega)], fun b y => by rw [j3 b y, uI_ne y]⟩
    · unfold f12_goesBy_L66
      rw [if_neg (by rw [zle_iff, z9]; omega), if_pos (zib_ok h0 (by omega)), ni, zl_eq]
      exact j1
    · rw [j2 h hh, e1, uI_ne (show 113 ≠ 83 by decide)]
      by_cases c : h = i.toInt.toNat
      · rw [if_neg (by omega), if_pos (by omega), c, uI_at]
      · rw [uI_off c]
        by_cases c2 : i.toInt.toNat ≤ h
        · rw [if_pos (by omega), if_pos c2]
        · rw [if_neg (by omega), if_neg c2]
/-- as before, but for the rows where sticks are kept -/
def zFN (J J' : zMI) : Prop := (∀ b, b ≠ 81 → (b ≤ 96 ∨ 114 ≤ b) → J' b = J b) ∧ ∀ j, j < 34 → J' 81 j = J 81 j
theorem zFN_tr {J J' J'' : zMI} (h1 : zFN J J') (h2 : zFN J' J'') : zFN J J'' := ⟨fun b x y => by rw [h2.1 b x y, h1.1 b x y], fun j x => by rw [h2.2 j x, h1.2 j x]⟩
theorem zFw_N {J J' : zMI} (h : zFN J J') : zFw J J' := ⟨fun b x y => h.1 b (by omega) (by omega), h.2⟩
theorem zC_goingN {n : Nat} {kd : zMK} {I I' M : zMI} {R R' : zMR} {L s t : Nat} {A : Nat → Nat} (hC : zC zT0 n kd I R) (hB : zB0 n kd R L s t A I I) (hA : ∀ w, (I 81 3).toInt.toNat ≤ w → A w = 0) (hI : zFX A s I I') (hM : zFN I' M) (hR : ∀ b, b ≠ 42 → b ≠ 44 → R' b = R b) : zC zT0 n kd M R' := by
  obtain ⟨X, hX⟩ : ∃ X : zMI, X = fun b => if 111 ≤ b ∧ b ≤ 113 then I' b else M b := ⟨_, rfl⟩
  have X_ne : ∀ b, ¬ (111 ≤ b ∧ b ≤ 113) → X b = M b := fun b y => by
    rw [hX]
    exact if_neg y
  have hXM : zFM I' X := ⟨fun b y1 y2 => by
    by_cases c : 111 ≤ b ∧ b ≤ 113
    · rw [hX]
      exact if_pos c
    · rw [X_ne b c, hM.1 b y1 (by omega)], fun j hj => by rw [X_ne 81 (by decide), hM.2 j hj]⟩
  exact zC_rows (zC_going hC hB hA hI hXM hR) (fun b y1 y2 => (X_ne b (by omega)).symm) (fun j _ => by rw [X_ne 81 (by decide)])
section
variable {n : Nat} {kd : zMK} {R : zMR} {L s t : Nat} {A : Nat → Nat} {I J : zMI}
/-- one going with heaps drawn -/
theorem zdrawn1 (hB : zB0 n kd R L s t A I J) {seed sec : Int32} (h0 : 0 ≤ seed.toInt ∧ seed.toInt ≤ 100010) (ct : 0 ≤ sec.toInt ∧ sec.toInt ≤ 600) : ∃ I1 R1 I1' I2, f11_layPlain n kd I R = some (I1, R1) ∧ f0_draw seed I1 = some I1' ∧ f0_pass n kd R1 sec I1' = some I2 ∧ zFX A s I I2 ∧ (∀ b', b' ≠ 42 → b' ≠ 44 → R1 b' = R b') ∧ ∀ K, zB0 n kd R L s t A I K → ∃ M N, f12_goesBy seed sec K = some N ∧ zG n kd R1 L s t A I2 M (5 * sec.toInt) sec.toInt ∧ zFN K N ∧ (∀ b, b ≠ 83 → N b = M b) := by
  obtain ⟨I1, R1, x1, x2⟩ := zlayP hB
  have hRf : ∀ b', b' ≠ 42 → b' ≠ 44 → R1 b' = R b' := by
    obtain ⟨g, hg, hX, hh, hF, hR⟩ := x2
    exact hR
  obtain ⟨l0, hl0⟩ : ∃ l0, seed.toInt64 + (1 : Int64) = l0 := ⟨_, rfl⟩
  have el0 : l0.toInt = seed.toInt + 1 := by
    have e1 : (1 : Int64).toInt = 1 := by decide
    have e2 : seed.toInt64.toInt = seed.toInt := Int32.toInt_toInt64 seed
    rw [← hl0, zladd (by rw [e1, e2]; omega) (by rw [e1, e2]; omega), e1, e2]
  have lr : 0 ≤ l0.toInt ∧ l0.toInt < 2147483647 := by omega
  obtain ⟨I1', d1, d2, d3⟩ := g0_drawL (l0 := l0) 9 zF 0 I1 (by rw [z0]; rfl) (by rw [z0]; omega) (by unfold zF; omega)
  have dr : f0_draw seed I1 = some I1' := by
    unfold f0_draw
    rw [hl0]
    exact d1
  have key : ∀ K, zB0 n kd R L s t A I K → ∃ I2 M N, f0_pass n kd R1 sec I1' = some I2 ∧ f12_goesBy seed sec K = some N ∧ zG n kd R1 L s t A I2 M (5 * sec.toInt) sec.toInt ∧ zFX A s I I2 ∧ zFN K N ∧ (∀ b, b ≠ 83 → N b = M b) := fun K hK => by
    have e3 : K 81 3 = J 81 3 := by rw [← hK.2.1.1, hB.2.1.1]
    have x2' : zlaid L s A I R (K 81 3).toInt I1 R1 := by rw [e3]; exact x2
    obtain ⟨p1, p2⟩ := zlaid_w hK x2'
    obtain ⟨K1, k1, k2, k3, k4⟩ := g12_byL8 (l0 := l0) (sec := sec) f12_goesBy_B58 9 zF 0 K (by rw [z0]; rfl) (by rw [z0]; omega) (by unfold zF; omega)
    obtain ⟨I2, M, y1, y2, y3, y4, y5⟩ := zgoV2 hK (I1' := I1') (J' := K1) x2' (fun b j _ q2 => d3 b j (by omega)) (fun w hw => by
      have big := (zB0_Wo hK w hw).2.2.1
      rw [k4 86 (by decide) (by decide), d3 (A w) 3 (by omega)]
      exact p1 w hw) (fun h h9 => by
      obtain ⟨v1, v2, v3, v4⟩ := p2 h h9
      rw [d3 (46 + h) 1 (by omega), k4 82 (by decide) (by decide), d2 h h9, (k2 h h9).1, if_pos (by rw [z0]; omega), if_pos (by rw [z0]; omega)]
      exact ⟨v1, rfl, v3, zlotv_r (zlotn_r lr h)⟩) (k4 84 (by decide) (by decide)) (k4 85 (by decide) (by decide)) (k4 88 (by decide) (by decide)) (k4 89 (by decide) (by decide)) (fun j _ => by rw [k4 81 (by decide) (by decide)]) ct
    obtain ⟨N, n1, n2, n3, n4⟩ := g12_byL66 9 zF 0 M (by rw [z0]; rfl) (by rw [z0]; omega) (by unfold zF; omega)
    refine ⟨I2, M, N, y1, ?_, y3, y4, ⟨fun b b1 b2 => ?_, fun j hj => by rw [n4 81 (by decide), y5.2 j hj, k4 81 (by decide) (by decide)]⟩, n4⟩
    · unfold f12_goesBy
      rw [hl0]
      refine Eq.trans k1 ?_
      unfold f12_goesBy_B58
      rw [y2, zb_some]
      exact n1
    · by_cases c : b = 83
      · subst c
        funext h
        by_cases h9 : h < 9
        · rw [n2 h h9, if_pos (by rw [z0]; omega), y5.1 113 (by decide) (by decide), (k2 h h9).2, if_pos (by rw [z0]; omega)]
        · rw [n3 h (by omega), y5.1 83 (by decide) (by decide), k3 h (by omega)]
      · rw [n4 b c, y5.1 b b1 (by omega), k4 b c (by omega)]
  obtain ⟨I2, M, N, a1, -, -, a4, -, -⟩ := key J hB
  refine ⟨I1, R1, I1', I2, x1, dr, a1, a4, hRf, fun K hK => ?_⟩
  obtain ⟨I2', M, N, b1, b2, b3, b4, b5, b6⟩ := key K hK
  rw [a1] at b1
  cases b1
  exact ⟨M, N, b2, b3, b5, b6⟩
end
theorem z99999 : (99999 : Int32).toInt = 99999 := by decide +kernel
theorem zH29_ok : zH29 (zC zT0) := fun n kd I R seed what hC => by
  by_cases cs : 0 ≤ seed.toInt ∧ seed.toInt ≤ 99999
  · by_cases c2 : 0 ≤ what.toInt ∧ what.toInt ≤ 2
    · obtain ⟨L, s, hB⟩ := zC_B0 hC
      obtain ⟨I1, R1, I1', I2, x1, x2, x3, x4, x5, x6⟩ := zdrawn1 hB (seed := seed) (sec := 600) ⟨cs.1, by omega⟩ z600r
      obtain ⟨M, N, y1, y2, y3, y4⟩ := x6 I2 (zB0_K hB (zFw_X hB x4))
      have hP := zG_P y2 (by decide)
      obtain ⟨q1, q2, q3, q4, q5, q6, -⟩ := id y2.2.2.2.2.2
      have N81 : N 81 = M 81 := y4 81 (by decide)
      have N110 : N 110 = M 110 := y4 110 (by decide)
      have hC2 := zC_goingN hC hB zAd_0 x4 y3 x5
      have F : f11_drawn n kd seed what I R = if what = (0 : Int32) then some ((I2 42 9), I2, R1) else if what = (1 : Int32) then some ((I2 42 10), I2, R1) else some ((I2 42 11), I2, R1) := by
        unfold f11_drawn
        rw [if_neg (by rw [zlt_iff, z0]; omega), if_neg (by rw [zlt_iff, z99999]; omega), if_neg (by rw [zlt_iff, z0]; omega), if_pos (by rw [zle_iff, z2]; omega), x1, zb_some, x2, zb_some, x3, zb_some]
      have G : f12_drawn seed what I2 = if what = (0 : Int32) then some ((N 81 47), N) else zb (f12_howMany N what) fun p10 => some (p10, N) := by
        unfold f12_drawn
        rw [g12_in, zb_some, z0, z99999, g12_in, zb_some, z0, z2, y1, zb_some]
        simp only [zB_0]
        rw [if_neg (not_not_intro cs), if_neg (not_not_intro c2)]
      have hPN : 0 ≤ (N 81 47).toInt ∧ (N 81 47).toInt < 400 := by rw [N81]; exact hP
      by_cases k0 : what = 0
      · exact ⟨(I2 42 9, I2, R1), by rw [F, if_pos k0], (N 81 47, N), by rw [G, if_pos k0], by rw [N81]; exact q2, hC2⟩
      by_cases k1 : what = 1
      · obtain ⟨y, w1, w2⟩ := g12_howMany (J := N) 1 hPN
        refine ⟨(I2 42 10, I2, R1), by rw [F, if_neg k0, if_pos k1], (y, N), by rw [G, if_neg k0, k1, w1, zb_some], ?_, hC2⟩
        show I2 42 10 = y
        rw [zeq_iff, q5, w2, N81, N110]
      · have k2 : what = 2 := by
          rw [zeq_iff, z0] at k0
          rw [zeq_iff, z1] at k1
          rw [zeq_iff, z2]
          omega
        obtain ⟨y, w1, w2⟩ := g12_howMany (J := N) 2 hPN
        refine ⟨(I2 42 11, I2, R1), by rw [F, if_neg k0, if_neg k1], (y, N), by rw [G, if_neg k0, k2, w1, zb_some], ?_, hC2⟩
        show I2 42 11 = y
        rw [zeq_iff, q6, w2, N81, N110]
    · refine ⟨(-2, I, R), ?_, (-2, I), ?_, rfl, hC⟩
      · unfold f11_drawn
        rw [if_neg (by rw [zlt_iff, z0]; omega), if_neg (by rw [zlt_iff, z99999]; omega)]
        by_cases k : what < 0
        · rw [if_pos k]
        · rw [if_neg k, if_neg (by rw [zlt_iff, z0] at k; rw [zle_iff, z2]; omega)]
      · unfold f12_drawn
        rw [g12_in, zb_some, z0, z99999, g12_in, zb_some, z0, z2]
        simp only [zB_0]
        rw [if_neg (not_not_intro cs), if_pos c2]
  · refine ⟨(-2, I, R), ?_, (-2, I), ?_, rfl, hC⟩
    · unfold f11_drawn
      by_cases k : seed < 0
      · rw [if_pos k]
      · rw [if_neg k, if_pos (by rw [zlt_iff, z0] at k; rw [zlt_iff, z99999]; omega)]
    · unfold f12_drawn
      rw [g12_in, zb_some, z0, z99999]
      simp only [zB_0]
      rw [if_pos cs]
