/-! pure part: the law's first loop: each walker -/
/-- what the law has before its checks -/
def xK (sl : Nat) (sf : Nat → Int32) (gh : zGh) (h1 : zML) (T : Nat) (pl : Int32 × zML) (M0 : zMI) : Prop := sl ≤ 260 ∧ xGh sl sf gh ∧ yD sl sf h1 ∧ T ≤ 600 ∧ fL_plainly sl sf 9 (Int32.ofNat T) h1 = some pl ∧ yRel sl sf 3600 (sMany sl sf).toInt.toNat M0 pl.2
section
variable {sl : Nat} {sf : Nat → Int32} {n : Nat} {kd : zMK} {I J M M0 : zMI} {R : zMR} {h1 : zML} {gh : zGh} {T ah : Nat} {pl : Int32 × zML}
theorem x_rel (hK : xK sl sf gh h1 T pl M0) (hJ : zDef sl sf J) (hM : f12_goesPlain (Int32.ofNat T) J = some M) : yRel sl sf 3600 (sMany sl sf).toInt.toNat M pl.2 := x_tie hK.1 hK.2.2.1 hK.2.2.2.1 hK.2.2.2.2.1 hJ hM
theorem x_cmp {v : Int32} {x : Int64} {lo hi : Int} (h : yq x v lo hi) : lg_cmp v.toInt64 x = 0 := by
  rw [tl_cmp0, tl_32]
  exact h.1.symm
theorem x_one_c (hK : xK sl sf gh h1 T pl M0) (hQ : xQ sl sf n kd I R) {w : Nat} (hw : w < (sMany sl sf).toInt.toNat) {what : Int32} {x : Nat} (hx : what = 0 ∧ x = 30 ∨ what = 1 ∧ x = 35 ∨ what = 2 ∧ x = 50 ∨ what = 3 ∧ x = 55 ∨ what = 4 ∧ x = 45) : ∃ v I2 R1, f11_one n kd (Int32.ofNat w) (Int32.ofNat T) what I R = some (v, I2, R1) ∧ xQ sl sf n kd (gh n kd I2 R1) R1 ∧ lg_cmp v.toInt64 (pl.2 (x + w)) = 0 := by
  have c4 : 0 ≤ what.toInt ∧ what.toInt ≤ 4 := by
    rcases hx with ⟨q, -⟩ | ⟨q, -⟩ | ⟨q, -⟩ | ⟨q, -⟩ | ⟨q, -⟩ <;> rw [q] <;> decide
  obtain ⟨I2, R1, M, a1, a2, a3, a4, a5, a6⟩ := x_one hQ hK.2.2.2.1 hw c4
  obtain ⟨y1, y2, y3, y4, y5, y6, y7, y8⟩ := (x_rel hK a5 a6).1 w hw
  refine ⟨_, I2, R1, a1, xQ_gh hK.2.1 (xGE a2) a3 a4, ?_⟩
  unfold xOne
  rcases hx with ⟨q, r⟩ | ⟨q, r⟩ | ⟨q, r⟩ | ⟨q, r⟩ | ⟨q, r⟩ <;> subst q <;> subst r
  · rw [if_pos rfl]
    exact x_cmp y1
  · rw [if_neg (by decide), if_pos rfl]
    exact x_cmp y2
  · rw [if_neg (by decide), if_neg (by decide), if_pos rfl]
    exact x_cmp y5
  · rw [if_neg (by decide), if_neg (by decide), if_neg (by decide), if_pos rfl]
    exact x_cmp y6
  · rw [if_neg (by decide), if_neg (by decide), if_neg (by decide), if_neg (by decide)]
    exact x_cmp y4
theorem x_heldr (hR : yRel sl sf 3600 (sMany sl sf).toInt.toNat M0 pl.2) : ∀ w, w ≤ (sMany sl sf).toInt.toNat → 0 ≤ yheld pl.2 w ∧ yheld pl.2 w ≤ 40000 * (w : Int) := by
  intro w
  induction w with
  | zero =>
    intro _
    unfold yheld ysum
    omega
  | succ w ih =>
    intro hw
    have := ih (by omega)
    obtain ⟨y1, y2, y3, y4, y5, y6, y7, y8⟩ := hR.1 w (by omega)
    unfold yq at y4 y5
    rw [if_neg (by omega)] at y4
    have e : yheld pl.2 (w + 1) = yheld pl.2 w + (9 * (pl.2 (50 + w)).toInt + (pl.2 (45 + w)).toInt) := rfl
    omega
theorem x_B222 (hK : xK sl sf gh h1 T pl M0) (hQ : xQ sl sf n kd I R) {w : Nat} (hw : w < (sMany sl sf).toInt.toNat) {k56 : Int32 → Int32 → Int32 → Int64 → Int32 → zMI → zMR → Option (Int32)} {l3 l4 s0 s1 s2 : Int32} {l6 : Int64} :
    fL_law_B222 n kd sl sf ah pl.2 gh k56 l3 l4 l6 (Int32.ofNat w) s0 s1 s2 I R = k56 l3 l4 (s0 + s1 * s2) (l6 + ((9 : Int64) * pl.2 (50 + w) + pl.2 (45 + w))) (Int32.ofNat (w + 1)) I R := by
  have hL := hK.1
  have my := s_many (sf := sf) hL
  obtain ⟨t0, t1, t2, t3⟩ := x_told hL hQ hw
  unfold fL_law_B222
  rw [show (50 : Int32) = Int32.ofNat 50 from rfl, show (45 : Int32) = Int32.ofNat 45 from rfl, if_pos (tib 50 (by omega)), if_pos (tib 45 (by omega)), tix 50 (by omega), tix 45 (by omega), t0, zb_some, (s_kind hL w).1, zb_some, if_pos rfl, t1, zb_some, (s_more hL w).1, zb_some, if_pos rfl, t2, zb_some, (s_from hL w).1, zb_some, if_pos rfl, t3, zb_some, zb_some, zl_eq, if_pos rfl, zofs (by omega)]
theorem x_L56 (hK : xK sl sf gh h1 T pl M0) {k331 : Int32 → Int32 → Int32 → Int64 → zMI → zMR → Option (Int32)} (hk : ∀ (I : zMI) (R : zMR) (l6 : Int64), xQ sl sf n kd I R → l6.toInt = yheld pl.2 (sMany sl sf).toInt.toNat → k331 (sMany sl sf) (Int32.ofNat T) (xHs sl sf pl.2 (sMany sl sf).toInt.toNat) l6 I R = some 1) :
    ∀ (d q w : Nat) (I : zMI) (R : zMR) (l6 : Int64), w + d = (sMany sl sf).toInt.toNat → d < q → xQ sl sf n kd I R → l6.toInt = yheld pl.2 w → fL_law_L56 n kd sl sf ah pl.2 gh k331 q (sMany sl sf) (Int32.ofNat T) (xHs sl sf pl.2 w) l6 (Int32.ofNat w) I R = some 1 := by
  have hL := hK.1
  have my := s_many (sf := sf) hL
  intro d
  induction d with
  | zero =>
    intro q w I R l6 hw hq hQ e6
    obtain ⟨q, rfl⟩ : ∃ p, q = p + 1 := ⟨q - 1, by omega⟩
    have ew := zofn_i (m := w) (by omega)
    have em : w = (sMany sl sf).toInt.toNat := by omega
    rw [fL_law_L56, if_pos (by rw [zle_iff]; omega), em]
    exact hk I R l6 hQ (by rw [e6, em])
  | succ d ih =>
    intro q w I R l6 hw hq hQ e6
    obtain ⟨q, rfl⟩ : ∃ p, q = p + 1 := ⟨q - 1, by omega⟩
    have ew := zofn_i (m := w) (by omega)
    have hw' : w < (sMany sl sf).toInt.toNat := by omega
    have at0 : fL_at sl sf 0 = some (sA sl sf 0) := s_at hL (k := 0) rfl (by decide)
    obtain ⟨y1, y2, y3, y4, y5, y6, y7, y8⟩ := hK.2.2.2.2.2.1 w hw'
    rw [if_neg (by omega)] at y4
    obtain ⟨v0, I0, R0, a0, b0, c0⟩ := x_one_c hK hQ hw' (what := 0) (x := 30) (by simp)
    obtain ⟨v1, I1, R1, a1, b1, c1⟩ := x_one_c hK b0 hw' (what := 1) (x := 35) (by simp)
    obtain ⟨v2, I2, R2, a2, b2, c2⟩ := x_one_c hK b1 hw' (what := 2) (x := 50) (by simp)
    obtain ⟨v3, I3, R3, a3, b3, c3⟩ := x_one_c hK b2 hw' (what := 3) (x := 55) (by simp)
    obtain ⟨v4, I4, R4, a4, b4, c4⟩ := x_one_c hK b3 hw' (what := 4) (x := 45) (by simp)
    have hr := x_heldr hK.2.2.2.2.2 w (by omega)
    have l9 : (9 : Int64).toInt = 9 := rfl
    unfold yq at y4 y5
    have e9 : ((9 : Int64) * pl.2 (50 + w)).toInt = 9 * (pl.2 (50 + w)).toInt := by rw [zlmul (by rw [l9]; omega) (by rw [l9]; omega), l9]
    have ea : ((9 : Int64) * pl.2 (50 + w) + pl.2 (45 + w)).toInt = 9 * (pl.2 (50 + w)).toInt + (pl.2 (45 + w)).toInt := by rw [zladd (by omega) (by omega), e9]
    have el : (l6 + ((9 : Int64) * pl.2 (50 + w) + pl.2 (45 + w))).toInt = yheld pl.2 (w + 1) := by
      rw [zladd (by omega) (by omega), e6, ea]
      rfl
    have nx := ih q (w + 1) (gh n kd I4 R4) R4 (l6 + ((9 : Int64) * pl.2 (50 + w) + pl.2 (45 + w))) (by omega) (by omega) b4 el
    have eh : xHs sl sf pl.2 (w + 1) = xHs sl sf pl.2 w + (pl.2 (55 + w)).toInt32 * xMv sl sf w (pl.2 (50 + w)).toInt := rfl
    rw [eh] at nx
    rw [fL_law_L56, if_neg (by rw [zle_iff]; omega), show (30 : Int32) = Int32.ofNat 30 from rfl, show (35 : Int32) = Int32.ofNat 35 from rfl, show (50 : Int32) = Int32.ofNat 50 from rfl, show (55 : Int32) = Int32.ofNat 55 from rfl, show (45 : Int32) = Int32.ofNat 45 from rfl, tix 30 (by omega), tix 35 (by omega), tix 50 (by omega), tix 55 (by omega), tix 45 (by omega),
      a0, zb_some, zl_eq, if_pos (tib 30 (by omega)), if_pos c0, a1, zb_some, zl_eq, if_pos (tib 35 (by omega)), if_pos c1, a2, zb_some, zl_eq, if_pos (tib 50 (by omega)), if_pos c2, a3, zb_some, zl_eq, if_pos (tib 55 (by omega)), if_pos c3, a4, zb_some, zl_eq, if_pos (tib 45 (by omega)), if_pos c4, s_plain hL, zb_some]
    by_cases hp : sPl sl sf = true
    · rw [if_pos hp, if_neg (by decide), x_B222 hK b4 hw']
      have : xMv sl sf w (pl.2 (50 + w)).toInt = 1 := by
        unfold xMv qMinds
        rw [if_pos hp]
        rfl
      rw [this] at nx
      exact nx
    · rw [if_neg hp, if_pos rfl, (s_more hL w).1, zb_some, at0, zb_some, x_heldw hL (w := w) (d := pl.2 (50 + w)) (by omega) (by omega) hp, zb_some, x_B222 hK b4 hw']
      exact nx
end
