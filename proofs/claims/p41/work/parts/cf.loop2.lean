/-! pure part: the law's checks of counts and heaps -/
section
variable {sl : Nat} {sf : Nat → Int32} {n : Nat} {kd : zMK} {I J M M0 : zMI} {R : zMR} {h1 : zML} {gh : zGh} {T ah : Nat} {pl : Int32 × zML}
theorem x_cmpI {v : Int32} {x : Int64} (h : x.toInt = v.toInt) : lg_cmp v.toInt64 x = 0 := by
  rw [tl_cmp0, tl_32]
  exact h.symm
theorem x_run_c (hK : xK sl sf gh h1 T pl M0) (hQ : xQ sl sf n kd I R) {what : Int32} {x : Nat} (hx : what = 0 ∧ x = 101 ∨ what = 1 ∧ x = 102 ∨ what = 2 ∧ x = 103 ∨ what = 4 ∧ x = 104) : ∃ v I2 R1, f11_run n kd (Int32.ofNat T) what I R = some (v, I2, R1) ∧ xQ sl sf n kd (gh n kd I2 R1) R1 ∧ lg_cmp v.toInt64 (pl.2 x) = 0 := by
  obtain ⟨I2, R1, M, a2, a3, a4, a5, a6, r0, ⟨v1, r1, e1⟩, ⟨v2, r2, e2⟩, r4⟩ := x_run hQ hK.2.2.2.1
  obtain ⟨g1, g2, g3, g4⟩ := (x_rel hK a5 a6).2.2.1
  have q := xQ_gh hK.2.1 (xGE a2) a3 a4
  rcases hx with ⟨u, r⟩ | ⟨u, r⟩ | ⟨u, r⟩ | ⟨u, r⟩ <;> subst u <;> subst r
  · exact ⟨_, I2, R1, r0, q, x_cmp g1⟩
  · exact ⟨_, I2, R1, r1, q, x_cmpI (by rw [g3, e1])⟩
  · exact ⟨_, I2, R1, r2, q, x_cmpI (by rw [g4, e2])⟩
  · exact ⟨_, I2, R1, r4, q, x_cmp g2⟩
theorem x_height_c (hK : xK sl sf gh h1 T pl M0) (hQ : xQ sl sf n kd I R) {k : Nat} (hk : k < 9) {what : Int32} {x : Nat} (hx : what = 0 ∧ x = 70 ∨ what = 1 ∧ x = 90) : ∃ v I2 R1, f11_height n kd (Int32.ofNat k) (Int32.ofNat T) what I R = some (v, I2, R1) ∧ xQ sl sf n kd (gh n kd I2 R1) R1 ∧ lg_cmp v.toInt64 (pl.2 (x + k)) = 0 := by
  have c1 : 0 ≤ what.toInt ∧ what.toInt ≤ 1 := by
    rcases hx with ⟨q, -⟩ | ⟨q, -⟩ <;> rw [q] <;> decide
  obtain ⟨I2, R1, M, a1, a2, a3, a4, a5, a6⟩ := x_height hQ hK.2.2.2.1 hk c1
  obtain ⟨y1, y2, y3⟩ := (x_rel hK a5 a6).2.1 k hk
  refine ⟨_, I2, R1, a1, xQ_gh hK.2.1 (xGE a2) a3 a4, ?_⟩
  rcases hx with ⟨q, r⟩ | ⟨q, r⟩ <;> subst q <;> subst r
  · rw [if_pos rfl]
    exact x_cmp y1
  · rw [if_neg (by decide)]
    exact x_cmp y3
def xGn (h : zML) (k : Nat) : Int := ysum (fun k => (h k).toInt - (h (70 + k)).toInt) k
theorem x_goner (hR : yRel sl sf 3600 (sMany sl sf).toInt.toNat M0 pl.2) (hL : sl ≤ 260) : ∀ k : Nat, k ≤ 9 → -(1000 * (k : Int)) ≤ xGn pl.2 k ∧ xGn pl.2 k ≤ 1000 * (k : Int) := by
  intro k
  induction k with
  | zero =>
    intro _
    unfold xGn ysum
    omega
  | succ k ih =>
    intro hk
    have := ih (by omega)
    have y1 := (hR.2.1 k (by omega)).1
    have y2 := (hR.2.2.2.1.1 k (by omega)).1
    have hh := s_high (sf := sf) hL (h := k) (by omega)
    unfold yq at y1
    have e : xGn pl.2 (k + 1) = xGn pl.2 k + ((pl.2 k).toInt - (pl.2 (70 + k)).toInt) := rfl
    omega
theorem x_L415 (hK : xK sl sf gh h1 T pl M0) {k524 : Int32 → Int32 → Int64 → Int64 → zMI → zMR → Option (Int32)} {l3 : Int32} {l6 : Int64} (hk : ∀ (I : zMI) (R : zMR) (l8 : Int64), xQ sl sf n kd I R → l8.toInt = ygone pl.2 → k524 l3 (Int32.ofNat T) l6 l8 I R = some 1) :
    ∀ (d q k : Nat) (I : zMI) (R : zMR) (l8 : Int64), k + d = 9 → d < q → xQ sl sf n kd I R → l8.toInt = xGn pl.2 k → fL_law_L415 n kd sl sf ah pl.2 gh k524 q l3 (Int32.ofNat T) l6 l8 (Int32.ofNat k) I R = some 1 := by
  have hL := hK.1
  intro d
  induction d with
  | zero =>
    intro q k I R l8 hw hq hQ e8
    obtain ⟨q, rfl⟩ : ∃ p, q = p + 1 := ⟨q - 1, by omega⟩
    have ew := zofn_i (m := k) (by omega)
    have em : k = 9 := by omega
    subst em
    rw [fL_law_L415, if_pos (by decide)]
    exact hk I R l8 hQ e8
  | succ d ih =>
    intro q k I R l8 hw hq hQ e8
    obtain ⟨q, rfl⟩ : ∃ p, q = p + 1 := ⟨q - 1, by omega⟩
    have ew := zofn_i (m := k) (by omega)
    have hk9 : k < 9 := by omega
    have y1 := (hK.2.2.2.2.2.2.1 k hk9).1
    have y2 := (hK.2.2.2.2.2.2.2.2.1.1 k hk9).1
    have hh := s_high (sf := sf) hL hk9
    obtain ⟨v0, I0, R0, a0, b0, c0⟩ := x_height_c hK hQ hk9 (what := 0) (x := 70) (by simp)
    obtain ⟨v1, I1, R1, a1, b1, c1⟩ := x_height_c hK b0 hk9 (what := 1) (x := 90) (by simp)
    obtain ⟨p0, p1⟩ := x_heap b1 hk9
    have hr := x_goner hK.2.2.2.2.2 hL k (by omega)
    unfold yq at y1
    have ea : ((sHigh sl sf k).toInt64 - pl.2 (70 + k)).toInt = (sHigh sl sf k).toInt - (pl.2 (70 + k)).toInt := by rw [zlsub (by rw [tl_32]; omega) (by rw [tl_32]; omega), tl_32]
    have el : (l8 + ((sHigh sl sf k).toInt64 - pl.2 (70 + k))).toInt = xGn pl.2 (k + 1) := by
      have e : xGn pl.2 (k + 1) = xGn pl.2 k + ((pl.2 k).toInt - (pl.2 (70 + k)).toInt) := rfl
      rw [zladd (by omega) (by omega), e8, ea, e, y2]
    have nx := ih q (k + 1) (gh n kd I1 R1) R1 _ (by omega) (by omega) b1 el
    rw [fL_law_L415, if_neg (by rw [zle_iff, z9]; omega), show (70 : Int32) = Int32.ofNat 70 from rfl, show (90 : Int32) = Int32.ofNat 90 from rfl, tix 70 (by omega), tix 90 (by omega),
      a0, zb_some, zl_eq, if_pos (tib 70 (by omega)), if_pos c0, a1, zb_some, zl_eq, if_pos (tib 90 (by omega)), if_pos c1, p0, zb_some, hh.1, zb_some, if_pos rfl, p1, zb_some, (s_stick hL hk9).1, zb_some, if_pos rfl, zb_some, zofs (by omega)]
    exact nx
theorem x_B331 (hK : xK sl sf gh h1 T pl M0) (hb : ∀ (I : zMI) (R : zMR), xQ sl sf n kd I R → fL_law_B543 n kd sl sf ah pl.2 gh (sMany sl sf) (Int32.ofNat T) I R = some 1) (hQ : xQ sl sf n kd I R) {l6 : Int64} (e6 : l6.toInt = yheld pl.2 (sMany sl sf).toInt.toNat) :
    fL_law_B331 n kd sl sf ah pl.2 gh (sMany sl sf) (Int32.ofNat T) (xHs sl sf pl.2 (sMany sl sf).toInt.toNat) l6 I R = some 1 := by
  obtain ⟨v0, I0, R0, a0, b0, c0⟩ := x_run_c hK hQ (what := 0) (x := 101) (by simp)
  obtain ⟨v1, I1, R1, a1, b1, c1⟩ := x_run_c hK b0 (what := 1) (x := 102) (by simp)
  obtain ⟨v2, I2, R2, a2, b2, c2⟩ := x_run_c hK b1 (what := 2) (x := 103) (by simp)
  obtain ⟨I3, R3, M3, a3, g3, g4, g5⟩ := x_run3 hK.1 b2 hK.2.2.1 hK.2.2.2.1 hK.2.2.2.2.1
  have b3 := xQ_gh hK.2.1 g3 g4 g5
  obtain ⟨v4, I4, R4, a4, b4, c4⟩ := x_run_c hK b3 (what := 4) (x := 104) (by simp)
  unfold fL_law_B331
  rw [show (101 : Int32).toNatClampNeg = 101 from rfl, show (102 : Int32).toNatClampNeg = 102 from rfl, show (103 : Int32).toNatClampNeg = 103 from rfl, show (104 : Int32).toNatClampNeg = 104 from rfl,
    a0, zb_some, zl_eq, if_pos (by decide), if_pos c0, a1, zb_some, zl_eq, if_pos (by decide), if_pos c1, a2, zb_some, zl_eq, if_pos (by decide), if_pos c2, a3, zb_some, zl_eq, if_pos rfl, a4, zb_some, zl_eq, if_pos (by decide), if_pos c4]
  refine x_L415 (k524 := fL_law_B524 n kd sl sf ah pl.2 gh) hK (fun I R l8 hQ' e8 => ?_) 9 zF 0 _ R4 0 rfl (by unfold zF; omega) b4 rfl
  unfold fL_law_B524
  rw [if_pos (by decide), show (100 : Int32).toNatClampNeg = 100 from rfl]
  by_cases c : lg_cmp (pl.2 100) 0 = 0
  · rw [if_pos c]
    rw [tl_cmp0] at c
    have inv := hK.2.2.2.2.2.2.2.2.2.1 c
    rw [if_pos (by rw [tl_cmpge]; omega)]
    exact hb I R hQ'
  · rw [if_neg c]
    exact hb I R hQ'
end
