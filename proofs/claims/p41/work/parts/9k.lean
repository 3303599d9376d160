/-! pure part: stretches, both sides -/
section
variable {n : Nat} {kd : zMK} {R : zMR} {L s t c : Nat} {A : Nat → Nat} {I J : zMI}
/-- the plan's best, and where stretches begin in it -/
def zbD (J : zMI) (c : Nat) : Int := zDt (zct J) c 0 0
def zbS (J : zMI) (c : Nat) : Nat → Nat := zat (zct J) c (zbD J c)
theorem zbD_r (hQ : zQ n kd R L s t A I J) (hc : (J 81 3).toInt.toNat = c) (c1 : 1 ≤ c) : 0 ≤ zbD J c ∧ zbD J c ≤ 720 := by
  have h := zDt_720 hQ hc c1
  have e := zmo_at (F := zct J) (c := c) (zct_nn hQ hc) (by omega)
  have g := ((zmo_le (F := zct J) (st := zat (zct J) c (zDt (zct J) c 0 0)) (m := zmo (zct J) (zat (zct J) c (zDt (zct J) c 0 0)) c 0 0) c 0 0).mp (Int.le_refl _)).1
  rw [e] at g
  exact ⟨g, h⟩
theorem g11_shares (hB : zB0 n kd R L s t A I J) (hc : (J 81 3).toInt.toNat = c) : ∃ I1 I2 I3 v, f11_layHeaps n kd I R = some (I1, uR R 42 7 (some L)) ∧ f11_planStretches n kd (uR R 42 7 (some L)) I1 = some (v, I2) ∧ f11_shareHeaps v I2 = some I3 ∧ v.toInt = zbD J c ∧ zQ n kd (uR R 42 7 (some L)) L s t A I3 J ∧ zgv c (zbS J c) (I3 63) ∧ zFX A s I I1 ∧ zQI s I1 I3 := by
  obtain ⟨I1, a1, a2, a3⟩ := zQ_lay hB
  have hb := zLo_big a2.2.2.1.2.1.1
  obtain ⟨v, I2, p1, p2, p3, p4, p5⟩ := g11_plan a2 hc (by omega)
  have hQ2 := zQ_keep a2 p4 zQJ_rfl
  have b2 := hQ2.2.1
  have c5 : c ≤ 5 := by omega
  obtain ⟨I3, q1, q2, q3⟩ := g11_shareL4 (F := zct J) (c := c) (l1 := v) c5 c zF 0 0 I2 (by rw [b2.1]; omega) p3 (by rw [z0]; omega) (by rw [z0]; omega) (by rw [z0]; rfl) (fun w hw => by rw [z0] at hw; omega) (by unfold zF; omega)
  rw [p2] at q2
  have qi : zQI s I2 I3 := fun b x _ _ => q3 b (by omega)
  exact ⟨I1, I2, I3, v, a1, p1, by unfold f11_shareHeaps; exact q1, p2, zQ_keep hQ2 qi zQJ_rfl, fun w hw => by
    have g := q2 w hw
    have h := (zat_st (F := zct J) (c := c) (m := zDt (zct J) c 0 0) w hw).1
    show (I3 63 w).toInt = ((zat (zct J) c (zDt (zct J) c 0 0) (w + 1) - zat (zct J) c (zDt (zct J) c 0 0) w : Nat) : Int)
    omega, a3, zQI_tr p4 qi⟩
theorem g11_stretchX {a1 : Int32} (hB : zB0 n kd R L s t A I J) (hc : (J 81 3).toInt.toNat = c) (c1 : 1 ≤ c) (ha : 0 ≤ a1.toInt ∧ a1.toInt ≤ 2) : ∃ x y z I1 I4, f11_stretch n kd a1 I R = some (if a1 = 0 then x else if a1 = 1 then y else z + (J 81 2 - 1) * x, I4, uR R 42 7 (some L)) ∧ x.toInt = zbD J c ∧ y.toInt = zdg (zbS J c) c 0 0 ∧ z.toInt = ztt (zct J) (zbS J c) c 0 ∧ zQ n kd (uR R 42 7 (some L)) L s t A I4 J ∧ zFX A s I I1 ∧ zQI s I1 I4 := by
  obtain ⟨I1, I2, I3, x, b1, p1, q1, ex, hQ, hg, f1, f2⟩ := g11_shares hB hc
  have a2 := hQ.2.1
  have c5 : c ≤ 5 := by omega
  have hb := zLo_big hQ.2.2.1.2.1.1
  have hst : zst' c (zbS J c) := zat_st
  obtain ⟨y, y1, y2⟩ := g11_digL (I := I3) hst c5 (by rw [a2.1]; omega) hg c zF 0 0 (by rw [z0]; omega) (by rw [z0]; omega) (by rw [z0]; exact ⟨Int.le_refl _, by decide⟩) (by unfold zF; omega)
  obtain ⟨z, I4, w1, w2, w3⟩ := g11_allL (A := A) hc c5 hst c zF 0 0 0 I3 hQ hg (by rw [z0]; omega) (by rw [z0]; omega) (by rw [z0]; rfl) (by rw [z0]; omega) (by unfold zF; omega)
  rw [z0] at y2 w2
  rw [Int.zero_add] at w2
  have hB2 := hB.2.1
  have hA := (zB0_A hB).2.1
  have n0 : ¬ I 32 4 = 0 := by
    rw [hB2.1]
    intro q
    rw [q, z0] at hc
    omega
  have e32 : I4 32 = I 32 := by rw [w3 32 (by omega) (by omega), f2 32 (by decide) (by omega) (by omega), f1.1 32 (by decide) (by decide) (by decide) (fun w y => by have := hA w y; omega) (by omega) (by omega)]
  have F : f11_stretch n kd a1 I R = if a1 = 0 then some (x, I3, uR R 42 7 (some L)) else if a1 = 1 then some (y, I3, uR R 42 7 (some L)) else some (z + (J 81 2 - 1) * x, I4, uR R 42 7 (some L)) := by
    unfold f11_stretch
    rw [if_neg (by rw [zlt_iff, z0]; omega), if_pos (by rw [zle_iff, z2]; omega), if_neg n0, b1, zb_some]
    dsimp only
    rw [p1, zb_some]
    dsimp only
    rw [q1, zb_some]
    unfold f11_sharesAsDigits f11_secondsOfAll
    rw [y1, zb_some, w1, zb_some]
    dsimp only
    rw [e32, hB2.2.1]
  have q4 : zQI s I3 I4 := fun b _ h1 h2 => w3 b h1 h2
  by_cases k0 : a1 = 0
  · exact ⟨x, y, z, I1, I3, by rw [F, if_pos k0, if_pos k0], ex, y2, w2, hQ, f1, f2⟩
  · by_cases k1 : a1 = 1
    · exact ⟨x, y, z, I1, I3, by rw [F, if_neg k0, if_pos k1, if_neg k0, if_pos k1], ex, y2, w2, hQ, f1, f2⟩
    · exact ⟨x, y, z, I1, I4, by rw [F, if_neg k0, if_neg k1, if_neg k0, if_neg k1], ex, y2, w2, zQ_keep hQ q4 zQJ_rfl, f1, zQI_tr f2 q4⟩
theorem g12_strL {k62 : Int32 → Int32 → Int32 → zMI → Option (Int32 × zMI)} {st : Nat → Nat} {l1 l2 : Int32} (hst : zst' c st) (hc5 : c ≤ 5) (e3 : (J 81 3).toInt = (c : Int)) (hg : zgv c st (J 111)) : ∀ (d q : Nat) (l3 l4 : Int32), l4.toInt + d = (c : Int) → 0 ≤ l4.toInt → (0 ≤ l3.toInt ∧ l3.toInt < 10 ^ l4.toInt.toNat) → d < q →
    ∃ v, f12_stretch_L34 k62 q l1 l2 l3 l4 J = k62 l1 l2 v J ∧ v.toInt = zdg st d l4.toInt.toNat l3.toInt := by
  intro d
  induction d with
  | zero =>
    intro q l3 l4 e h0 h1 hq
    obtain ⟨q, rfl⟩ : ∃ p, q = p + 1 := ⟨q - 1, by omega⟩
    refine ⟨l3, ?_, rfl⟩
    unfold f12_stretch_L34
    rw [if_pos (by rw [zle_iff]; omega)]
  | succ d ih =>
    intro q l3 l4 e h0 h1 hq
    obtain ⟨q, rfl⟩ : ∃ p, q = p + 1 := ⟨q - 1, by omega⟩
    have es : (l4 + 1).toInt = l4.toInt + 1 := by rw [zadd (by rw [z1]; omega) (by rw [z1]; omega), z1]
    have en : (l4.toInt + 1).toNat = l4.toInt.toNat + 1 := by omega
    have nl : l4.toNatClampNeg = l4.toInt.toNat := zcl_iff l4
    have z10 : (10 : Int32).toInt = 10 := rfl
    obtain ⟨g1, g2⟩ := hst l4.toInt.toNat (by omega)
    have g3 := hg l4.toInt.toNat (by omega)
    have p4 : (10 : Int) ^ l4.toInt.toNat ≤ 10000 := by
      rcases (show l4.toInt.toNat = 0 ∨ l4.toInt.toNat = 1 ∨ l4.toInt.toNat = 2 ∨ l4.toInt.toNat = 3 ∨ l4.toInt.toNat = 4 by omega) with q | q | q | q | q <;> rw [q] <;> decide
    have pe : (10 : Int) ^ (l4.toInt.toNat + 1) = 10 ^ l4.toInt.toNat * 10 := Int.pow_succ _ _
    have m1 : (10 * l3).toInt = l3.toInt * 10 := by rw [zmul (by rw [z10]; omega) (by rw [z10]; omega), z10]; omega
    have m2 : (10 * l3 + J 111 l4.toInt.toNat).toInt = l3.toInt * 10 + (st (l4.toInt.toNat + 1) - st l4.toInt.toNat : Nat) := by rw [zadd (by omega) (by omega), m1, g3]
    obtain ⟨v, u1, u2⟩ := ih q (10 * l3 + J 111 l4.toInt.toNat) (l4 + 1) (by omega) (by omega) (by rw [m2, es, en, pe]; omega) (by omega)
    refine ⟨v, ?_, ?_⟩
    · rw [f12_stretch_L34]
      rw [if_neg (by rw [zle_iff]; omega), if_pos (zib_ok h0 (by omega)), nl, zl_eq]
      exact u1
    · rw [u2, m2, es, en, zdg]
theorem g12_stretchX {a1 : Int32} (hQ : zQ n kd R L s t A I J) (hc : (J 81 3).toInt.toNat = c) (c1 : 1 ≤ c) (ha : 0 ≤ a1.toInt ∧ a1.toInt ≤ 2) : ∃ x y z J', f12_stretch a1 J = some (if a1 = 0 then x else if a1 = 1 then y else z + x * (J 81 2 - 1), J') ∧ x.toInt = zbD J c ∧ y.toInt = zdg (zbS J c) c 0 0 ∧ z.toInt = ztt (zct J) (zbS J c) c 0 ∧ zQJ J J' := by
  have a2 := hQ.2.1
  have c5 : c ≤ 5 := by omega
  have hst : zst' c (zbS J c) := zat_st
  obtain ⟨x, J1, u1, u2, u3, u4⟩ := g12_finds hQ hc c1
  obtain ⟨m, J2, m1, m2, m3, m4, m5, m6, m7, m8⟩ := g12_most hQ hc hst rfl u4 u3
  have q2 := zQJ_tr u4 m4
  have e3 : J2 81 3 = J 81 3 := q2.2 3 (by decide)
  obtain ⟨y, y1, y2⟩ := g12_strL (k62 := f12_stretch_B62) (l1 := a1) (l2 := x) (J := J2) hst c5 (by rw [e3]; omega) (by rw [m5]; exact u3) c zF 0 0 (by rw [z0]; omega) (by rw [z0]; omega) (by rw [z0]; exact ⟨Int.le_refl _, by decide⟩) (by unfold zF; omega)
  rw [z0] at y2
  have r := zbD_r hQ hc c1
  have r' : zbD J c = zDt (zct J) c 0 0 := rfl
  have nx : ¬ x = -1 := by
    rw [zeq_iff, znm1, u2]
    omega
  refine ⟨x, y, J2 81 51, J2, ?_, u2, y2, m3, q2⟩
  unfold f12_stretch
  rw [g12_in, zb_some, z0, z2]
  simp only [zB_0]
  rw [if_neg (not_not_intro ha), u1, zb_some]
  dsimp only
  rw [if_neg nx, m1, zb_some]
  dsimp only
  rw [y1]
  unfold f12_stretch_B62
  rw [zl_eq, q2.2 2 (by decide)]
end
/-- what planning has changed on both sides, the invariant does not look at -/
theorem zC_plan {n : Nat} {kd : zMK} {I I1 I3 M : zMI} {R R' : zMR} {L s t : Nat} {A : Nat → Nat} (hC : zC zT0 n kd I R) (hB : zB0 n kd R L s t A I I) (hA : ∀ w, (I 81 3).toInt.toNat ≤ w → A w = 0) (h1 : zFX A s I I1) (h3 : zQI s I1 I3) (hM : zQJ I3 M) (hR : ∀ b, b ≠ 42 → b ≠ 44 → R' b = R b) : zC zT0 n kd M R' := by
  obtain ⟨ha, hb, hs, hn, hc⟩ := zB0_A hB
  have X : ∀ b, b ≠ 42 → b ≠ 45 → (b < 46 ∨ 54 < b) → (∀ w, w < 5 → b ≠ A w) → b ≠ s → b ≠ s + 1 → (b < 57 ∨ 63 < b) → I3 b = I b := fun b x1 x2 x3 x4 x5 x6 x7 => by rw [h3 b x7 x5 x6, h1.1 b x1 x2 x3 x4 x5 x6]
  have hY : zFX A s I (fun b => if (57 ≤ b ∧ b ≤ 63) ∨ b = 111 ∨ b = 112 then I b else I3 b) := by
    refine ⟨fun b x1 x2 x3 x4 x5 x6 => ?_, fun w j x y => ?_, fun h x => ?_⟩
    · dsimp only
      by_cases k : (57 ≤ b ∧ b ≤ 63) ∨ b = 111 ∨ b = 112
      · rw [if_pos k]
      · rw [if_neg k]
        exact X b x1 x2 x3 x4 x5 x6 (by omega)
    · have := hb w x
      have := ha w x
      dsimp only
      rw [if_neg (by omega), h3 (A w) (by omega) (by omega) (by omega)]
      exact h1.2.1 w j x y
    · dsimp only
      rw [if_neg (by omega), h3 (46 + h) (by omega) (by omega) (by omega)]
      exact h1.2.2 h x
  have hM' : zFM (fun b => if (57 ≤ b ∧ b ≤ 63) ∨ b = 111 ∨ b = 112 then I b else I3 b) (fun b => if (57 ≤ b ∧ b ≤ 63) ∨ b = 111 ∨ b = 112 then I b else M b) := by
    refine ⟨fun b x1 x2 => ?_, fun j hj => ?_⟩
    · dsimp only
      by_cases k : (57 ≤ b ∧ b ≤ 63) ∨ b = 111 ∨ b = 112
      · rw [if_pos k, if_pos k]
      · rw [if_neg k, if_neg k]
        exact hM.1 b x1 (by omega) (by omega) (by omega) (by omega)
    · dsimp only
      rw [if_neg (by omega), if_neg (by omega)]
      exact hM.2 j hj
  refine zC_rows2 (zC_going hC hB hA hY hM' hR) (fun b hb' => ?_)
  try dsimp only
  rw [if_neg (by omega)]
theorem zH21_ok : zH21 (zC zT0) := fun n kd I R a1 hC => by
  by_cases ha : 0 ≤ a1.toInt ∧ a1.toInt ≤ 2
  · by_cases c0 : I 81 3 = 0
    · have e4 : I 32 4 = 0 := by rw [hC.2.1.1]; exact c0
      obtain ⟨J', u1, u2⟩ := g12_finds0 c0
      refine ⟨(-1, I, R), ?_, (-1, J'), ?_, rfl, zC_rows2 hC (fun b hb => u2 b (by omega))⟩
      · unfold f11_stretch
        rw [if_neg (by rw [zlt_iff, z0]; omega), if_pos (by rw [zle_iff, z2]; omega), if_pos e4]
      · unfold f12_stretch
        rw [g12_in, zb_some, z0, z2]
        simp only [zB_0]
        rw [if_neg (not_not_intro ha), u1, zb_some]
        rfl
    · obtain ⟨L, s, hB⟩ := zC_B0 hC
      have r3 := hB.2.1.2.2.1
      have c1 : 1 ≤ (I 81 3).toInt.toNat := by
        rw [zeq_iff, z0] at c0
        omega
      obtain ⟨_, _, _, I1, I4, x1, -, -, -, -, x2, x3⟩ := g11_stretchX hB rfl c1 ha
      have hb := zLo_big hB.2.2.2.2.2.2.2.2.1.1
      have e81 : ∀ b, 81 ≤ b → b ≤ 96 → I4 b = I b := fun b y1 y2 => by rw [x3 b (by omega) (by omega) (by omega), zB0_rows hB x2 b (by omega) (by omega) (by omega) (by omega) (by omega) (by omega)]
      have hw : zFw I I4 := ⟨fun b y1 y2 => e81 b (by omega) y2, fun j _ => by rw [e81 81 (by decide) (by decide)]⟩
      have e3 : I4 81 3 = I 81 3 := hw.2 3 (by decide)
      obtain ⟨x, y, z, K1, K4, y1, y2, y3, y4, y5, -⟩ := g11_stretchX (c := (I 81 3).toInt.toNat) (zB0_K hB hw) (by rw [e3]) c1 ha
      rw [y1] at x1
      have eK : K4 = I4 := by
        have := congrArg (fun o : Option (Int32 × zMI × zMR) => o.map (fun p => p.2.1)) x1
        exact Option.some.inj this
      subst eK
      have hQ : zQ n kd (uR R 42 7 (some L)) L s (I 81 12).toInt.toNat (zAd (I 81 3).toInt.toNat R) K4 K4 := y5
      obtain ⟨x', y', z', M, v1, v2, v3, v4, v5⟩ := g12_stretchX (c := (I 81 3).toInt.toNat) hQ (by rw [e3]) c1 ha
      refine ⟨_, y1, _, v1, ?_, zC_plan hC hB zAd_0 x2 x3 v5 (fun b q _ => uR_ne q)⟩
      dsimp only
      have ex : x = x' := by rw [zeq_iff, y2, v2]
      have ey : y = y' := by rw [zeq_iff, y3, v3]
      have ez : z = z' := by rw [zeq_iff, y4, v4]
      rw [ex, ey, ez, Int32.mul_comm]
  · refine ⟨(-2, I, R), ?_, (-2, I), ?_, rfl, hC⟩
    · unfold f11_stretch
      by_cases k : a1 < 0
      · rw [if_pos k]
      · rw [if_neg k, if_neg (by rw [zlt_iff, z0] at k; rw [zle_iff, z2]; omega)]
    · unfold f12_stretch
      rw [g12_in, zb_some, z0, z2]
      simp only [zB_0]
      rw [if_pos ha]
theorem zH22_ok : zH22 (zC zT0) := fun n kd I R hC => by
  by_cases c0 : I 81 3 = 0
  · have e4 : I 32 4 = 0 := by rw [hC.2.1.1]; exact c0
    obtain ⟨J', u1, u2⟩ := g12_finds0 c0
    refine ⟨(-1, I, R), ?_, (-1, J'), ?_, rfl, zC_rows2 hC (fun b hb => u2 b (by omega))⟩
    · unfold f11_slowest
      rw [if_pos e4]
    · obtain ⟨q, hq⟩ : ∃ q, zF = q + 1 := ⟨zF - 1, by unfold zF; omega⟩
      unfold f12_slowest
      rw [u1, zb_some]
      dsimp only
      rw [hq]
      unfold f12_slowest_L9
      rw [u2 81 (by decide), c0, if_pos (by decide)]
  · obtain ⟨L, s, hB⟩ := zC_B0 hC
    have r3 := hB.2.1.2.2.1
    have c1 : 1 ≤ (I 81 3).toInt.toNat := by
      rw [zeq_iff, z0] at c0
      omega
    have key : ∀ J, zB0 n kd R L s (I 81 12).toInt.toNat (zAd (I 81 3).toInt.toNat R) I J → ∃ v I1 I4, f11_slowest n kd I R = some (v, I4, uR R 42 7 (some L)) ∧ v.toInt = zsl (zct J) (zbS J (I 81 3).toInt.toNat) (zbD J (I 81 3).toInt.toNat) (I 81 3).toInt.toNat 0 ∧ zQ n kd (uR R 42 7 (some L)) L s (I 81 12).toInt.toNat (zAd (I 81 3).toInt.toNat R) I4 J ∧ zFX (zAd (I 81 3).toInt.toNat R) s I I1 ∧ zQI s I1 I4 := fun J hJ => by
      have e3 : J 81 3 = I 81 3 := by rw [← hJ.2.1.1, hB.2.1.1]
      obtain ⟨I1, I2, I3, x, b1, p1, q1, ex, hQ, hg, f1, f2⟩ := g11_shares (c := (I 81 3).toInt.toNat) hJ (by rw [e3])
      have hst : zst' (I 81 3).toInt.toNat (zbS J (I 81 3).toInt.toNat) := zat_st
      obtain ⟨v, I4, w1, w2, w3⟩ := g11_slowL (l1 := x) (by rw [e3]) (by omega) hst (I 81 3).toInt.toNat zF 0 0 I3 hQ hg (by rw [z0]; omega) (by rw [z0]; omega) (by rw [z0]; rfl) (by unfold zF; omega)
      rw [z0, ex] at w2
      have q4 : zQI s I3 I4 := fun b _ h1 h2 => w3 b h1 h2
      refine ⟨v, I1, I4, ?_, w2, zQ_keep hQ q4 zQJ_rfl, f1, zQI_tr f2 q4⟩
      unfold f11_slowest
      rw [if_neg (by rw [hB.2.1.1]; exact c0), b1, zb_some]
      dsimp only
      rw [p1, zb_some]
      dsimp only
      rw [q1, zb_some]
      exact w1
    obtain ⟨v, I1, I4, x1, -, -, x2, x3⟩ := key I hB
    have hb := zLo_big hB.2.2.2.2.2.2.2.2.1.1
    have e81 : ∀ b, 81 ≤ b → b ≤ 96 → I4 b = I b := fun b y1 y2 => by rw [x3 b (by omega) (by omega) (by omega), zB0_rows hB x2 b (by omega) (by omega) (by omega) (by omega) (by omega) (by omega)]
    have hw : zFw I I4 := ⟨fun b y1 y2 => e81 b (by omega) y2, fun j _ => by rw [e81 81 (by decide) (by decide)]⟩
    have e3 : I4 81 3 = I 81 3 := hw.2 3 (by decide)
    obtain ⟨v', K1, K4, y1, y2, y3, -⟩ := key I4 (zB0_K hB hw)
    rw [x1] at y1
    cases y1
    have hst : zst' (I 81 3).toInt.toNat (zbS I4 (I 81 3).toInt.toNat) := zat_st
    obtain ⟨x, M1, u1, u2, u3, u4⟩ := g12_finds (c := (I 81 3).toInt.toNat) y3 (by rw [e3]) c1
    obtain ⟨g, M2, m1, m2, m3⟩ := g12_slowL (l1 := x) (c := (I 81 3).toInt.toNat) y3 (by rw [e3]) (by omega) hst (I 81 3).toInt.toNat zF 0 0 M1 u4 u3 (by rw [z0]; omega) (by rw [z0]; omega) (by rw [z0]; rfl) (by unfold zF; omega)
    rw [z0, u2] at m2
    refine ⟨(v, I4, uR R 42 7 (some L)), x1, (g, M2), ?_, ?_, zC_plan hC hB zAd_0 x2 x3 (zQJ_tr u4 (zQJ_97 m3)) (fun b q _ => uR_ne q)⟩
    · unfold f12_slowest
      rw [u1, zb_some]
      exact m1
    · show v = g
      rw [zeq_iff, y2, m2]
      rfl
