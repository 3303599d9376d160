/-! pure part: what waiting weighs, on both sides -/
section
variable {sl : Nat} {sf : Nat → Int32} {n : Nat} {kd : zMK} {I J M : zMI} {R : zMR} {h : zML}
def xMv (sl : Nat) (sf : Nat → Int32) (w : Nat) (d : Int) : Int32 := Int32.ofInt (qMinds sl sf w d)
def xHs (sl : Nat) (sf : Nat → Int32) (h : zML) : Nat → Int32
  | 0 => 0
  | i + 1 => xHs sl sf h i + (h (55 + i)).toInt32 * xMv sl sf i (h (50 + i)).toInt
theorem qMinds_r {w : Nat} {d : Int} : 0 ≤ qMinds sl sf w d ∧ qMinds sl sf w d ≤ 99 := by
  unfold qMinds
  by_cases c : sPl sl sf = true
  · rw [if_pos c]
    omega
  · rw [if_neg c]
    exact clampI_r (by omega)
theorem xMv_of {w : Nat} {d : Int} {v : Int32} (e : v.toInt = qMinds sl sf w d) : v = xMv sl sf w d := by
  unfold xMv
  rw [← e, Int32.ofInt_toInt]
theorem x_waitL (hL : sl ≤ 260) : ∀ (d q i : Nat) (J : zMI), i + d = (sMany sl sf).toInt.toNat → d < q → zDef sl sf J → (∀ w, w < (sMany sl sf).toInt.toNat → J 105 w = (h (55 + w)).toInt32 ∧ (J 104 w).toInt = (h (50 + w)).toInt ∧ 0 ≤ (J 104 w).toInt ∧ (J 104 w).toInt ≤ 10000) → ∃ J', f12_waitings_L4 q (xHs sl sf h i) (Int32.ofNat i) J = some (xHs sl sf h (sMany sl sf).toInt.toNat, J') ∧ zDef sl sf J' := by
  have my := s_many (sf := sf) hL
  intro d
  induction d with
  | zero =>
    intro q i J hi hq hD hr
    obtain ⟨q, rfl⟩ : ∃ p, q = p + 1 := ⟨q - 1, by omega⟩
    have ei := zofn_i (m := i) (by omega)
    have e3 := hD.2.2.1.1
    refine ⟨J, ?_, hD⟩
    rw [f12_waitings_L4, if_pos (by rw [zle_iff]; omega), show i = (sMany sl sf).toInt.toNat by omega]
  | succ d ih =>
    intro q i J hi hq hD hr
    obtain ⟨q, rfl⟩ : ∃ p, q = p + 1 := ⟨q - 1, by omega⟩
    have ei := zofn_i (m := i) (by omega)
    have e3 := hD.2.2.1.1
    obtain ⟨r1, r2, r3⟩ := hr i (by omega)
    obtain ⟨v, J1, a1, a2, a3⟩ := t_asks2 hD hL (h := 0) (l := 0) (d := J 104 i) (w := i) (by omega) r3
    have ev := xMv_of a2
    obtain ⟨J', b1, b2⟩ := ih q (i + 1) J1 (by omega) (by omega) (zDef_fr hD (fun b x1 x2 => a3 b (by omega) (by omega)) (by rw [a3 81 (by decide) (by decide)]) (by rw [a3 81 (by decide) (by decide)]) (by rw [a3 81 (by decide) (by decide)])) (fun w hw => by
      rw [a3 104 (by decide) (by decide), a3 105 (by decide) (by decide)]
      exact hr w hw)
    refine ⟨J', ?_, b2⟩
    rw [f12_waitings_L4, if_neg (by rw [zle_iff]; omega), if_pos (zib_ok (by omega) (by omega)), zofn_n (by omega), a1, zb_some, zl_eq, zofs (by omega), r1, ev, r2]
    exact b1
/-- the row as the reference's, for weighing -/
theorem x_rel_w (hL : sl ≤ 260) (hR : yRel sl sf 3600 (sMany sl sf).toInt.toNat M h) : ∀ w, w < (sMany sl sf).toInt.toNat → M 105 w = (h (55 + w)).toInt32 ∧ (M 104 w).toInt = (h (50 + w)).toInt ∧ 0 ≤ (M 104 w).toInt ∧ (M 104 w).toInt ≤ 10000 := fun w hw => by
  obtain ⟨y1, y2, y3, y4, y5, y6, y7, y8⟩ := hR.1 w hw
  unfold yq at y5 y6
  exact ⟨(tl_eq32 y6.1).symm, y5.1.symm, y5.2.1, by omega⟩
theorem x_run3 (hL : sl ≤ 260) (hQ : xQ sl sf n kd I R) {h1 : zML} (hD : yD sl sf h1) {T : Nat} (hT : T ≤ 600) {pl : Int32 × zML} (hp : fL_plainly sl sf 9 (Int32.ofNat T) h1 = some pl) : ∃ I3 R1 M3, f11_run n kd (Int32.ofNat T) 3 I R = some (xHs sl sf pl.2 (sMany sl sf).toInt.toNat, I3, R1) ∧ zGE I3 M3 ∧ zC zT0 n kd M3 R1 ∧ zDef sl sf M3 := by
  have hC := hQ.1
  have eT := zofn_i (m := T) (by omega)
  have cs : 0 ≤ (Int32.ofNat T).toInt ∧ (Int32.ofNat T).toInt ≤ 600 := by omega
  obtain ⟨I1, R1, I2, M, L, s, x1, x2, x3, x4, x5, x6, x7, x8, x9, x10, d2, dM⟩ := x_plain hQ hT
  have r3 := x5.2.1.2.2.1
  obtain ⟨ha, hb, hs', hn, hc⟩ := zB0_A x5
  have hLb := (zLo_big x5.2.2.2.2.2.2.2.2.1.1).1
  have e81 : ∀ K : zMI, zFX (zAd (I 81 3).toInt.toNat R) s I K → ∀ b, 81 ≤ b → b ≤ 96 → K b = I b := fun K hK b y1 y2 => hK.1 b (by omega) (by omega) (by omega) (fun w y => by have := hb w y; omega) (by omega) (by omega)
  have base : ∀ K : zMI, zFX (zAd (I 81 3).toInt.toNat R) s I K → zB0 n kd R L s (I 81 12).toInt.toNat (zAd (I 81 3).toInt.toNat R) I K := fun K hK => zB0_keep x5 (I' := I) zFX_rfl ⟨fun b y1 y2 => e81 K hK b (by omega) y2, fun j _ => by rw [e81 K hK 81 (by decide) (by decide)]⟩ (R' := R) (fun _ _ _ => rfl)
  obtain ⟨I1', R1', I2', y1, y2, y3, y4, y5⟩ := zgoW x5 (b := 5) (bt := -1) (znone r3.2) cs
  have y1' : f11_layPlain n kd I R = some (I1', R1') := by
    unfold f11_layPlain
    rw [y1, zb_some]
  rw [x1] at y1'
  cases y1'
  rw [x2] at y2
  cases y2
  have bad : ∀ K : zMI, zFX (zAd (I 81 3).toInt.toNat R) s I K → ∃ J0 J1 M0, f12_orders (-1) K = some J0 ∧ f12_begins J0 = some J1 ∧ f12_goesFor_L6 zF (Int32.ofNat T) 0 J1 = some M0 ∧ zFM K M0 ∧ ∃ v I3 M3, f0_badness n kd R1 I2 = some (v, I3) ∧ f12_waitings M0 = some (v, M3) ∧ zFI (zAd (I 81 3).toInt.toNat R) s I2 I3 ∧ zFJ M0 M3 := fun K hK => by
    obtain ⟨J0, J1, M0, a1, a2, a3, a4, a5, a6, a7, a8⟩ := y5 K (base K hK)
    have k3' : K 81 3 = I 81 3 := by rw [e81 K hK 81 (by decide) (by decide)]
    have m3 : M0 81 3 = I 81 3 := by rw [a5.2 3 (by decide), k3']
    rw [k3'] at a7
    obtain ⟨v, I3, M3, w1, w2, w3, w4, w5⟩ := zbadL x5.1 (cn := I 81 3) r3 (I 81 3).toInt.toNat zF zF 0 0 I2 M0 a4 (by rw [zeq_iff, a7, if_neg (by omega)]; omega) m3 (fun k hk => by
      rw [a8 k (by rw [a7, if_neg (by omega)]; omega)]
      unfold zob
      rw [if_pos (by omega)]) (by rw [z0]; omega) (by rw [z0]; omega) (by unfold zF; omega) (by unfold zF; omega)
    exact ⟨J0, J1, M0, a1, a2, a3, a5, v, I3, M3, w1, w2, w4, w5⟩
  obtain ⟨_, _, _, _, _, _, _, v, I3, _, c1, _, c3, _⟩ := bad I2 x6
  have fx3 := zFX_tr x6 (zFX_I c3)
  obtain ⟨J0, J1, M0, b1, b2, b3, b4, v', I3', M3, d1, d2', d3, d4⟩ := bad I3 fx3
  rw [c1] at d1
  cases d1
  have D3 := zDef_w hQ.2 (zFw_X x5 fx3)
  have D0 := zDef_w D3 (zFw_M b4)
  have go := g12_plain b1 b2 b3
  have hR := x_tie hL hD hT hp D3 go
  obtain ⟨M4, w1, w2⟩ := x_waitL (h := pl.2) hL (sMany sl sf).toInt.toNat zF 0 M0 (by omega) (by unfold zF; have := s_many (sf := sf) hL; omega) D0 (x_rel_w hL hR)
  have ev : v = xHs sl sf pl.2 (sMany sl sf).toInt.toNat ∧ M3 = M4 := by
    unfold f12_waitings at d2'
    have w1' : f12_waitings_L4 zF 0 0 M0 = _ := w1
    rw [w1'] at d2'
    cases d2'
    exact ⟨rfl, rfl⟩
  refine ⟨I3, R1, M3, ?_, xGE (zFM_tr b4 (zFM_J d4)), zC_going hC x5 zAd_0 fx3 (zFM_tr b4 (zFM_J d4)) x8, by rw [ev.2]; exact w2⟩
  unfold f11_run
  rw [g11_noSeconds, zb_some]
  simp only [zB_0]
  rw [if_pos (not_not_intro cs), if_neg (by decide), if_pos (by decide), x1, zb_some, x2, zb_some, if_neg (by decide), if_neg (by decide), if_neg (by decide), if_pos trivial, c1, zb_some, ev.1]
/-- the law's own weighing -/
theorem x_heldw (hL : sl ≤ 260) {w : Nat} {d : Int64} (hw : w < 5) (hd : 0 ≤ d.toInt ∧ d.toInt ≤ 10000) (hp : ¬ sPl sl sf = true) : fL_held sl sf (d + ((sMore sl sf w * ((sA sl sf 0 >>> ((9 : Int32) &&& 31)) &&& (3 : Int32))).toInt64)) 0 99 = some (xMv sl sf w d.toInt) := by
  have tC := sTc_ok (sl := sl) (sf := sf)
  have eC := zofn_i (m := sTc sl sf) (by omega)
  have rmo := s_more (sf := sf) hL w
  obtain ⟨g, hg⟩ : ∃ g : Nat, (sMore sl sf w).toInt = (g : Int) := ⟨(sMore sl sf w).toInt.toNat, by omega⟩
  have rm : 0 ≤ (g : Int) * (sTc sl sf : Int) ∧ (g : Int) * (sTc sl sf : Int) ≤ 27 := by
    have : g * sTc sl sf ≤ 9 * 3 := Nat.mul_le_mul (by omega) (by omega)
    constructor
    · exact Int.mul_nonneg (by omega) (by omega)
    · exact_mod_cast this
  have mC : (sMore sl sf w * Int32.ofNat (sTc sl sf)).toInt = (sMore sl sf w).toInt * (sTc sl sf : Int) := by
    rw [zmul (by rw [eC, hg]; omega) (by rw [eC, hg]; omega), eC]
  have e1 : (d + (sMore sl sf w * Int32.ofNat (sTc sl sf)).toInt64).toInt = d.toInt + (sMore sl sf w).toInt * (sTc sl sf : Int) := by
    rw [zladd (by rw [tl_32, mC, hg]; omega) (by rw [tl_32, mC, hg]; omega), tl_32, mC]
  rw [tC.1]
  obtain ⟨v, v1, v2⟩ := tl_held (sl := sl) (sf := sf) (x := d + (sMore sl sf w * Int32.ofNat (sTc sl sf)).toInt64) (lo := 0) (hi := 99) (by decide)
  rw [v1]
  have ev : v.toInt = qMinds sl sf w d.toInt := by
    rw [v2, e1]
    unfold qMinds
    rw [if_neg hp]
    rfl
  rw [xMv_of ev]
theorem x_told (hL : sl ≤ 260) (hQ : xQ sl sf n kd I R) {w : Nat} (hw : w < (sMany sl sf).toInt.toNat) : f11_told n kd I R (Int32.ofNat w) 0 = some (sKind sl sf w) ∧ f11_told n kd I R (Int32.ofNat w) 1 = some (sMore sl sf w) ∧ f11_told n kd I R (Int32.ofNat w) 2 = some (sFrom sl sf w) ∧ f11_told n kd I R (Int32.ofNat w) 3 = some (if sKind sl sf w = 3 then 0 else 1) := by
  have my := s_many (sf := sf) hL
  have e3 := x_many hQ
  have ew := zofn_i (m := w) (by omega)
  have nw := zofn_n (m := w) (by omega)
  obtain ⟨k1, k2, k3⟩ := hQ.2.2.2.1.2 w hw
  have hz : zib (Int32.ofNat w) 5 = true := zib_ok (by omega) (by omega)
  have key : ∀ what v, f12_told I (Int32.ofNat w) what = some v → f11_told n kd I R (Int32.ofNat w) what = some v := fun what v hv => by
    obtain ⟨p, p1, p', p2, p3, -⟩ := zH9_ok n kd I R (Int32.ofNat w) what hQ.1
    rw [hv] at p2
    cases p2
    rw [p1, p3]
  have iw := g12_isWalker hQ.1 (Int32.ofNat w)
  have cw : 0 ≤ (Int32.ofNat w).toInt ∧ (Int32.ofNat w).toInt < (I 81 3).toInt := by omega
  refine ⟨key 0 _ ?_, key 1 _ ?_, key 2 _ ?_, key 3 _ ?_⟩
  all_goals
    unfold f12_told
    rw [iw, zb_some]
    simp only [zB_0]
    rw [if_neg (not_not_intro cw)]
  · rw [if_pos trivial, if_pos hz, nw, k1]
  · rw [if_neg (by decide), if_pos trivial, if_pos hz, nw, k2]
  · rw [if_neg (by decide), if_neg (by decide), if_pos trivial, if_pos hz, nw, k3]
  · rw [if_neg (by decide), if_neg (by decide), if_neg (by decide), if_pos trivial, if_pos hz, zl_eq, nw, k1]
theorem x_heap (hQ : xQ sl sf n kd I R) {k : Nat} (hk : k < 9) : f11_heap I (Int32.ofNat k) 0 = some (sHigh sl sf k) ∧ f11_heap I (Int32.ofNat k) 1 = some (sStick sl sf k) := by
  have ek := zofn_i (m := k) (by omega)
  have nk := zofn_n (m := k) (by omega)
  have hh := hQ.1.2.2.1 k hk
  have hd := hQ.2.1 k hk
  rw [g11_heap, g11_heap]
  unfold zs_heap
  rw [if_neg (by omega), if_pos rfl, if_neg (by omega), if_neg (by decide), if_pos rfl, nk, hh.1, hh.2.2.1, hd.1, hd.2]
  exact ⟨rfl, rfl⟩
end
