/-! pure part: odds answers alike -/
theorem zcmp0 (x y : Int64) : lg_cmp x y = 0 ↔ x = y := by
  unfold lg_cmp
  by_cases c : x > y
  · rw [if_pos c]
    refine ⟨fun h => (by cases h), fun h => ?_⟩
    rw [h] at c
    exact absurd c (fun q => Int64.lt_irrefl q)
  · rw [if_neg c]
    by_cases c2 : x = y
    · rw [if_pos c2]
      exact ⟨fun _ => c2, fun _ => rfl⟩
    · rw [if_neg c2]
      exact ⟨fun h => (by cases h), fun h => absurd h c2⟩
theorem zgcd_step {a b : Nat} : Nat.gcd b (a % b) = Nat.gcd a b := by
  rw [Nat.gcd_comm a b, Nat.gcd_rec b a, Nat.gcd_comm]
theorem g11_cd : ∀ (k q : Nat) (a b l : Int32), 0 ≤ a.toInt → 0 ≤ b.toInt → b.toInt.toNat < 2 ^ k → 0 ≤ l.toInt → l.toInt + 2 * k + 1 ≤ 64 → 2 * k + 1 < q →
    ∃ g, f11_commonDivisor_L2 q a b l = some g ∧ g.toInt = (Nat.gcd a.toInt.toNat b.toInt.toNat : Nat) := by
  have z64 : (64 : Int32).toInt = 64 := rfl
  intro k
  induction k with
  | zero =>
    intro q a b l ha hb hk hl hl2 hq
    obtain ⟨q, rfl⟩ : ∃ p, q = p + 1 := ⟨q - 1, by omega⟩
    have b0 : b = 0 := by
      rw [zeq_iff, z0]
      omega
    refine ⟨a, ?_, ?_⟩
    · unfold f11_commonDivisor_L2
      rw [if_neg (by rw [zle_iff, z64]; omega), if_pos b0]
    · rw [b0, z0]
      show a.toInt = ((Nat.gcd a.toInt.toNat 0 : Nat) : Int)
      rw [Nat.gcd_zero_right]
      omega
  | succ k ih =>
    intro q a b l ha hb hk hl hl2 hq
    obtain ⟨q, rfl⟩ : ∃ p, q = p + 1 := ⟨q - 1, by omega⟩
    obtain ⟨q, rfl⟩ : ∃ p, q = p + 1 := ⟨q - 1, by omega⟩
    by_cases b0 : b = 0
    · refine ⟨a, ?_, ?_⟩
      · unfold f11_commonDivisor_L2
        rw [if_neg (by rw [zle_iff, z64]; omega), if_pos b0]
      · rw [b0, z0]
        show a.toInt = ((Nat.gcd a.toInt.toNat 0 : Nat) : Int)
        rw [Nat.gcd_zero_right]
        omega
    · have bp : 0 < b.toInt := by
        rw [zeq_iff, z0] at b0
        omega
      have er := zmod_of ha bp
      obtain ⟨r, hr⟩ : ∃ r, a - a / b * b = r := ⟨_, rfl⟩
      rw [hr] at er
      have r0 : 0 ≤ r.toInt := by rw [er]; exact Int.emod_nonneg _ (by omega)
      have rb : r.toInt < b.toInt := by rw [er]; exact Int.emod_lt_of_pos _ bp
      have ern : r.toInt.toNat = a.toInt.toNat % b.toInt.toNat := by
        rw [er]
        have : a.toInt % b.toInt = ((a.toInt.toNat % b.toInt.toNat : Nat) : Int) := by
          rw [Int.natCast_emod, Int.toNat_of_nonneg ha, Int.toNat_of_nonneg hb]
        rw [this, Int.toNat_natCast]
      have e1 : (l + 1).toInt = l.toInt + 1 := by rw [zadd (by rw [z1]; omega) (by rw [z1]; omega), z1]
      have S1 : f11_commonDivisor_L2 (q + 1 + 1) a b l = f11_commonDivisor_L2 (q + 1) b r (l + 1) := by
        rw [f11_commonDivisor_L2]
        rw [if_neg (by rw [zle_iff, z64]; omega), if_neg b0, if_pos b0, hr]
      by_cases c : r = 0
      · refine ⟨b, ?_, ?_⟩
        · rw [S1, f11_commonDivisor_L2]
          rw [if_neg (by rw [zle_iff, z64]; omega), if_pos c]
        · rw [← zgcd_step, ← ern, c, z0]
          show b.toInt = ((Nat.gcd b.toInt.toNat 0 : Nat) : Int)
          rw [Nat.gcd_zero_right]
          omega
      · have rp : 0 < r.toInt := by
          rw [zeq_iff, z0] at c
          omega
        have er2 := zmod_of hb rp
        obtain ⟨r2, hr2⟩ : ∃ r2, b - b / r * r = r2 := ⟨_, rfl⟩
        rw [hr2] at er2
        have r20 : 0 ≤ r2.toInt := by rw [er2]; exact Int.emod_nonneg _ (by omega)
        have r2r : r2.toInt < r.toInt := by rw [er2]; exact Int.emod_lt_of_pos _ rp
        have ern2 : r2.toInt.toNat = b.toInt.toNat % r.toInt.toNat := by
          rw [er2]
          have : b.toInt % r.toInt = ((b.toInt.toNat % r.toInt.toNat : Nat) : Int) := by
            rw [Int.natCast_emod, Int.toNat_of_nonneg hb, Int.toNat_of_nonneg r0]
          rw [this, Int.toNat_natCast]
        have half : 2 * r2.toInt < b.toInt := by
          have d1 := Int.mul_ediv_add_emod b.toInt r.toInt
          have d2 : 1 ≤ b.toInt / r.toInt := by
            have := Int.ediv_le_ediv rp (Int.le_of_lt rb)
            rw [Int.ediv_self (by omega)] at this
            exact this
          have d3 : r.toInt ≤ r.toInt * (b.toInt / r.toInt) := by
            have := Int.mul_le_mul_of_nonneg_left d2 (show 0 ≤ r.toInt by omega)
            rw [Int.mul_one] at this
            exact this
          omega
        have e2 : (l + 1 + 1).toInt = l.toInt + 2 := by rw [zadd (by rw [e1, z1]; omega) (by rw [e1, z1]; omega), e1, z1]; omega
        have hk2 : r2.toInt.toNat < 2 ^ k := by
          rw [Nat.pow_succ] at hk
          omega
        obtain ⟨g, g1, g2⟩ := ih q r r2 (l + 1 + 1) r0 r20 hk2 (by omega) (by omega) (by omega)
        refine ⟨g, ?_, ?_⟩
        · rw [S1, f11_commonDivisor_L2]
          rw [if_neg (by rw [zle_iff, z64]; omega), if_neg c, if_pos c, hr2]
          exact g1
        · rw [g2, ern2, zgcd_step, ern, zgcd_step]
theorem zl0 : (0 : Int64).toInt = 0 := by decide +kernel
theorem zleq (a b : Int64) : a = b ↔ a.toInt = b.toInt := ⟨fun h => by rw [h], fun h => Int64.toInt_inj.mp h⟩
theorem g12_lowL (k41 : Int64 → Int64 → Int32 → Int64 → Option Int64) (l0 l2 : Int64) (l4 : Int32) : ∀ (m q : Nat) (a b : Int64), 0 ≤ a.toInt → 0 ≤ b.toInt → b.toInt.toNat ≤ m → m < q →
    ∃ g, f12_lowest_L16 k41 q l0 l2 l4 a b = k41 l0 l2 l4 g ∧ g.toInt = (Nat.gcd a.toInt.toNat b.toInt.toNat : Nat) := by
  intro m
  induction m with
  | zero =>
    intro q a b ha hb hm hq
    obtain ⟨q, rfl⟩ : ∃ p, q = p + 1 := ⟨q - 1, by omega⟩
    have b0 : b = 0 := by
      rw [zleq, zl0]
      omega
    refine ⟨a, ?_, ?_⟩
    · unfold f12_lowest_L16
      rw [if_pos ((zcmp0 _ _).mpr b0)]
    · rw [b0, zl0]
      show a.toInt = ((Nat.gcd a.toInt.toNat 0 : Nat) : Int)
      rw [Nat.gcd_zero_right]
      omega
  | succ m ih =>
    intro q a b ha hb hm hq
    obtain ⟨q, rfl⟩ : ∃ p, q = p + 1 := ⟨q - 1, by omega⟩
    by_cases b0 : b = 0
    · refine ⟨a, ?_, ?_⟩
      · unfold f12_lowest_L16
        rw [if_pos ((zcmp0 _ _).mpr b0)]
      · rw [b0, zl0]
        show a.toInt = ((Nat.gcd a.toInt.toNat 0 : Nat) : Int)
        rw [Nat.gcd_zero_right]
        omega
    · have bp : 0 < b.toInt := by
        rw [zleq, zl0] at b0
        omega
      have er := zlrem ha bp
      obtain ⟨r, hr⟩ : ∃ r, a - a / b * b = r := ⟨_, rfl⟩
      rw [hr] at er
      have r0 : 0 ≤ r.toInt := by rw [er]; exact Int.emod_nonneg _ (by omega)
      have rb : r.toInt < b.toInt := by rw [er]; exact Int.emod_lt_of_pos _ bp
      have ern : r.toInt.toNat = a.toInt.toNat % b.toInt.toNat := by
        rw [er]
        have : a.toInt % b.toInt = ((a.toInt.toNat % b.toInt.toNat : Nat) : Int) := by
          rw [Int.natCast_emod, Int.toNat_of_nonneg ha, Int.toNat_of_nonneg hb]
        rw [this, Int.toNat_natCast]
      obtain ⟨g, g1, g2⟩ := ih q b r hb r0 (by omega) (by omega)
      refine ⟨g, ?_, ?_⟩
      · unfold f12_lowest_L16
        rw [if_neg (fun x => b0 ((zcmp0 _ _).mp x)), if_pos b0, hr]
        exact g1
      · rw [g2, ern, zgcd_step]
theorem zcnt_sum (f : Nat → Int32) : ∀ p, (∀ k, k < p → f k = 0 ∨ f k = 1 ∨ f k = 2) → zcnt f 0 p + zcnt f 1 p + zcnt f 2 p = p
  | 0, _ => rfl
  | p + 1, h => by
    have i := zcnt_sum f p (fun k hk => h k (by omega))
    have e : ∀ v, zcnt f v (p + 1) = zcnt f v p + if f p = v then 1 else 0 := fun v => rfl
    rw [e 0, e 1, e 2]
    rcases h p (by omega) with q | q | q
    · rw [q, if_pos rfl, if_neg (by decide), if_neg (by decide)]
      omega
    · rw [q, if_neg (by decide), if_pos rfl, if_neg (by decide)]
      omega
    · rw [q, if_neg (by decide), if_neg (by decide), if_pos rfl]
      omega
/-- fractions in lowest terms -/
theorem zodd_end {part all fine : Int32} {so : Int64} (hp : 0 ≤ part.toInt ∧ part.toInt ≤ 1) (h1 : 0 ≤ fine.toInt ∧ fine.toInt ≤ all.toInt) (h2 : all.toInt ≤ 4000) (hs : so.toInt = fine.toInt) (n : Nat) (kd : zMK) (I J : zMI) (R : zMR) :
    ∃ v, f11_odds_B128 n kd part all fine I R = some (v, I, R) ∧ f12_odds_B92 part so all J = some (v, J) := by
  obtain ⟨g, g1, g2⟩ := g11_cd 12 zF all fine 0 (by omega) h1.1 (by omega) (by rw [z0]; omega) (by rw [z0]; omega) (by unfold zF; omega)
  have cd : f11_commonDivisor all fine = some g := g1
  by_cases a0 : all = 0
  · have aa : all.toInt = 0 := by rw [a0, z0]
    have f0' : fine.toInt = 0 := by omega
    have g0 : g.toInt = 0 := by rw [g2, aa, f0']; rfl
    refine ⟨-4611686018427387904, ?_, ?_⟩
    · unfold f11_odds_B128
      rw [cd, zb_some, if_neg (by rw [zlt_iff, z0]; omega)]
    · unfold f12_odds_B92
      rw [if_pos a0]
  · have ap : 0 < all.toInt := by
      rw [zeq_iff, z0] at a0
      omega
    have gp : 0 < g.toInt := by
      rw [g2]
      have := Nat.gcd_pos_of_pos_left fine.toInt.toNat (show 0 < all.toInt.toNat by omega)
      omega
    have gn : ¬ g = 0 := fun q => by rw [q, z0] at gp; omega
    have F : f11_odds_B128 n kd part all fine I R = some (((if part = 0 then fine else all) / g).toInt64, I, R) := by
      unfold f11_odds_B128
      rw [cd, zb_some, if_pos (by rw [zlt_iff, z0]; omega), zl_eq, if_pos gn]
    have xe : ∀ x : Int32, 0 ≤ x.toInt → ((x / g).toInt64).toInt = x.toInt / g.toInt := fun x hx => by
      rw [Int32.toInt_toInt64, zdiv hx gp]
    refine ⟨_, F, ?_⟩
    unfold f12_odds_B92 f12_lowest
    rw [if_neg a0]
    by_cases s0 : so = 0
    · rw [if_pos ((zcmp0 _ _).mpr s0), zb_some]
      have f0' : fine.toInt = 0 := by rw [← hs, s0, zl0]
      have gg : g.toInt = all.toInt := by
        rw [g2, f0']
        show ((Nat.gcd all.toInt.toNat 0 : Nat) : Int) = _
        rw [Nat.gcd_zero_right]
        omega
      congr 2
      rw [zleq, Int32.toInt_toInt64]
      by_cases k : part = 0
      · rw [if_pos k, xe fine h1.1, f0', k, z0, Int.zero_ediv]
      · rw [if_neg k, xe all (by omega), gg, Int.ediv_self (by omega)]
        rw [zeq_iff, z0] at k
        omega
    · rw [if_neg (fun x => s0 ((zcmp0 _ _).mp x))]
      have ae : all.toInt64.toInt = all.toInt := Int32.toInt_toInt64 all
      obtain ⟨g', w1, w2⟩ := g12_lowL f12_lowest_B41 so all.toInt64 part all.toInt.toNat zF so all.toInt64 (by omega) (by omega) (by omega) (by unfold zF; omega)
      have eg : g'.toInt = g.toInt := by
        rw [w2, g2, hs, ae, Nat.gcd_comm]
      have gn' : ¬ g' = 0 := fun q => by rw [q, zl0] at eg; omega
      rw [w1]
      unfold f12_lowest_B41
      by_cases k : part = 0
      · rw [if_pos k, if_pos gn', if_pos k, zb_some]
        congr 2
        rw [zleq, xe fine h1.1, zldiv (by omega) (by omega), hs, eg]
      · rw [if_neg k, if_pos gn', if_neg k, zb_some]
        congr 2
        rw [zleq, xe all (by omega), zldiv (by omega) (by omega), ae, eg]
section
variable {n : Nat} {kd : zMK} {R : zMR} {L s t : Nat} {A : Nat → Nat} {I J : zMI}
theorem zoddsL {seed seeds sec part : Int32} (hs0 : 0 ≤ seed.toInt ∧ seed.toInt ≤ 99999) (hs1 : 1 ≤ seeds.toInt ∧ seeds.toInt ≤ 10) (ct : 0 ≤ sec.toInt ∧ sec.toInt ≤ 600) (hp : 0 ≤ part.toInt ∧ part.toInt ≤ 1) : ∀ (d q : Nat) (all fine i : Int32) (I : zMI) (R : zMR) (Jx : zMI), zB0 n kd R L s t A I Jx → i.toInt + d = seeds.toInt → 0 ≤ i.toInt → d < q → 0 ≤ fine.toInt ∧ fine.toInt ≤ all.toInt → all.toInt ≤ 400 * i.toInt →
    ∃ v I' R', f11_odds_L53 n kd (f11_odds_B128 n kd) q seed seeds sec part all fine i I R = some (v, I', R') ∧ zFX A s I I' ∧ (∀ b', b' ≠ 42 → b' ≠ 44 → R' b' = R b') ∧ ∀ q' so J, d < q' → so.toInt = fine.toInt → zB0 n kd R L s t A I J → ∃ J', f12_odds_L51 f12_odds_B92 q' seed seeds sec part so all i J = some (v, J') ∧ zFN J J' := by
  intro d
  induction d with
  | zero =>
    intro q all fine i I R Jx hB e h0 hq hf ha
    obtain ⟨q, rfl⟩ : ∃ p, q = p + 1 := ⟨q - 1, by omega⟩
    obtain ⟨so0, hso0⟩ : ∃ so0 : Int64, so0.toInt = fine.toInt := ⟨fine.toInt64, Int32.toInt_toInt64 fine⟩
    obtain ⟨v, v1, -⟩ := zodd_end hp hf (by omega) hso0 n kd I I R
    refine ⟨v, I, R, ?_, zFX_rfl, fun _ _ _ => rfl, fun q' so J hq' hso hJ => ⟨J, ?_, ⟨fun _ _ _ => rfl, fun _ _ => rfl⟩⟩⟩
    · unfold f11_odds_L53
      rw [if_pos (by rw [zle_iff]; omega)]
      exact v1
    · obtain ⟨q', rfl⟩ : ∃ p, q' = p + 1 := ⟨q' - 1, by omega⟩
      obtain ⟨v', v1', v2⟩ := zodd_end hp hf (by omega) hso n kd I J R
      rw [v1] at v1'
      cases v1'
      unfold f12_odds_L51
      rw [if_pos (by rw [zle_iff]; omega)]
      exact v2
  | succ d ih =>
    intro q all fine i I R Jx hB e h0 hq hf ha
    obtain ⟨q, rfl⟩ : ∃ p, q = p + 1 := ⟨q - 1, by omega⟩
    have e1 := zsucc e
    have es : (seed + i).toInt = seed.toInt + i.toInt := zadd (by omega) (by omega)
    obtain ⟨I1, R1, I1', I2, x1, x2, x3, x4, x5, x6⟩ := zdrawn1 hB (seed := seed + i) (sec := sec) (by omega) ct
    obtain ⟨Mx, Nx, a1, a2, a3, a4⟩ := x6 Jx hB
    have hP := zG_P a2 (by omega)
    obtain ⟨q1, q2, q3, q4, q5, q6, q7, q8, q9, -⟩ := id a2.2.2.2.2.2
    have sm := zcnt_sum (Mx 110) (Mx 81 47).toInt.toNat q9
    have w9 : (I2 42 9).toInt = (Mx 81 47).toInt := by rw [q2]
    have d1 : (I2 42 9 - I2 42 10).toInt = (I2 42 9).toInt - (I2 42 10).toInt := zsub (by omega) (by omega)
    have d2 : (I2 42 9 - I2 42 10 - I2 42 11).toInt = (zcnt (Mx 110) 0 (Mx 81 47).toInt.toNat : Nat) := by
      rw [zsub (by omega) (by omega), d1]
      omega
    have f2 : (fine + (I2 42 9 - I2 42 10 - I2 42 11)).toInt = fine.toInt + (zcnt (Mx 110) 0 (Mx 81 47).toInt.toNat : Nat) := by rw [zadd (by omega) (by omega), d2]
    have a2' : (all + I2 42 9).toInt = all.toInt + (Mx 81 47).toInt := by rw [zadd (by omega) (by omega), w9]
    have hBx := zB0_keep hB x4 (zFw_N a3) x5
    obtain ⟨v, I', R', u1, u2, u3, u4⟩ := ih q (all + I2 42 9) (fine + (I2 42 9 - I2 42 10 - I2 42 11)) (i + 1) I2 R1 Nx hBx (by omega) (by omega) (by omega) (by omega) (by omega)
    refine ⟨v, I', R', ?_, zFX_tr x4 u2, fun b' y z => by rw [u3 b' y z, x5 b' y z], fun q' so J hq' hso hJ => ?_⟩
    · unfold f11_odds_L53
      rw [if_neg (by rw [zle_iff]; omega), x1, zb_some, x2, zb_some, x3, zb_some, zl_eq]
      exact u1
    · obtain ⟨q', rfl⟩ : ∃ p, q' = p + 1 := ⟨q' - 1, by omega⟩
      obtain ⟨M, N, b1, b2, b3, b4⟩ := x6 J hJ
      have hP' := zG_P b2 (by omega)
      obtain ⟨r1, r2, r3, r4, r5, r6, r7, r8, r9, -⟩ := id b2.2.2.2.2.2
      have sm' := zcnt_sum (M 110) (M 81 47).toInt.toNat r9
      have N81 : N 81 = M 81 := b4 81 (by decide)
      have N110 : N 110 = M 110 := b4 110 (by decide)
      obtain ⟨y, y1, y2⟩ := g12_howMany (J := N) 0 (by rw [N81]; exact hP')
      rw [N81, N110] at y2
      have w9' : (I2 42 9).toInt = (M 81 47).toInt := by rw [r2]
      have ys : y.toInt = (I2 42 9 - I2 42 10 - I2 42 11).toInt := by
        rw [zsub (by omega) (by omega), d1]
        omega
      have so' : (so + y.toInt64).toInt = (fine + (I2 42 9 - I2 42 10 - I2 42 11)).toInt := by
        have ye : y.toInt64.toInt = y.toInt := Int32.toInt_toInt64 y
        rw [zladd (by rw [ye]; omega) (by rw [ye]; omega), ye, hso, zadd (by omega) (by omega), ys]
      obtain ⟨J', z1', z2'⟩ := u4 q' (so + y.toInt64) N (by omega) so' (zB0_keep hJ x4 (zFw_N b3) x5)
      refine ⟨J', ?_, zFN_tr b3 z2'⟩
      unfold f12_odds_L51
      rw [if_neg (by rw [zle_iff]; omega), b1, zb_some, y1, zb_some, N81, ← r2]
      exact z1'
end
theorem zH30_ok : zH30 (zC zT0) := fun n kd I R seed seeds sec part hC => by
  have z10 : (10 : Int32).toInt = 10 := rfl
  by_cases c1 : 0 ≤ seed.toInt ∧ seed.toInt ≤ 99999
  · by_cases c2 : 1 ≤ seeds.toInt ∧ seeds.toInt ≤ 10
    · by_cases c3 : 0 ≤ sec.toInt ∧ sec.toInt ≤ 600
      · by_cases c4 : 0 ≤ part.toInt ∧ part.toInt ≤ 1
        · obtain ⟨L, s, hB⟩ := zC_B0 hC
          obtain ⟨v, I', R', u1, u2, u3, u4⟩ := zoddsL c1 c2 c3 c4 seeds.toInt.toNat zF 0 0 0 I R I hB (by rw [z0]; omega) (by rw [z0]; omega) (by unfold zF; omega) (by rw [z0]; omega) (by rw [z0]; omega)
          obtain ⟨J', y1, y2⟩ := u4 zF 0 I' (by unfold zF; omega) (by rw [zl0, z0]) (zB0_K hB (zFw_X hB u2))
          refine ⟨(v, I', R'), ?_, (v, J'), ?_, (zcmp0 _ _).mpr rfl, zC_goingN hC hB zAd_0 u2 y2 u3⟩
          · unfold f11_odds
            rw [if_neg (by rw [zlt_iff, z0]; omega), if_neg (by rw [zlt_iff, z99999]; omega), if_neg (by rw [zlt_iff, z1]; omega), if_neg (by rw [zlt_iff, z10]; omega), g11_noSeconds, zb_some]
            simp only [zB_0]
            rw [if_pos (not_not_intro c3), if_neg (by rw [zlt_iff, z0]; omega), if_pos (by rw [zle_iff, z1]; omega)]
            exact u1
          · unfold f12_odds
            rw [g12_in, zb_some, z0, z99999, g12_in, zb_some, z1, z10, g12_areSeconds, zb_some, g12_in, zb_some, z0, z1]
            simp only [zB_0]
            rw [if_neg (not_not_intro c1), if_neg (not_not_intro c2), if_neg (not_not_intro c3), if_neg (not_not_intro c4)]
            exact y1
        · refine ⟨(-4611686018427387904, I, R), ?_, (-4611686018427387904, I), ?_, (zcmp0 _ _).mpr rfl, hC⟩
          · unfold f11_odds
            rw [if_neg (by rw [zlt_iff, z0]; omega), if_neg (by rw [zlt_iff, z99999]; omega), if_neg (by rw [zlt_iff, z1]; omega), if_neg (by rw [zlt_iff, z10]; omega), g11_noSeconds, zb_some]
            simp only [zB_0]
            rw [if_pos (not_not_intro c3)]
            by_cases k : part < 0
            · rw [if_pos k]
            · rw [if_neg k, if_neg (by rw [zlt_iff, z0] at k; rw [zle_iff, z1]; omega)]
          · unfold f12_odds
            rw [g12_in, zb_some, z0, z99999, g12_in, zb_some, z1, z10, g12_areSeconds, zb_some, g12_in, zb_some, z0, z1]
            simp only [zB_0]
            rw [if_neg (not_not_intro c1), if_neg (not_not_intro c2), if_neg (not_not_intro c3), if_pos c4]
      · refine ⟨(-4611686018427387904, I, R), ?_, (-4611686018427387904, I), ?_, (zcmp0 _ _).mpr rfl, hC⟩
        · unfold f11_odds
          rw [if_neg (by rw [zlt_iff, z0]; omega), if_neg (by rw [zlt_iff, z99999]; omega), if_neg (by rw [zlt_iff, z1]; omega), if_neg (by rw [zlt_iff, z10]; omega), g11_noSeconds, zb_some]
          simp only [zB_0]
          rw [if_neg (fun q => q c3)]
        · unfold f12_odds
          rw [g12_in, zb_some, z0, z99999, g12_in, zb_some, z1, z10, g12_areSeconds, zb_some]
          simp only [zB_0]
          rw [if_neg (not_not_intro c1), if_neg (not_not_intro c2), if_pos c3]
    · refine ⟨(-4611686018427387904, I, R), ?_, (-4611686018427387904, I), ?_, (zcmp0 _ _).mpr rfl, hC⟩
      · unfold f11_odds
        rw [if_neg (by rw [zlt_iff, z0]; omega), if_neg (by rw [zlt_iff, z99999]; omega)]
        by_cases k : seeds < 1
        · rw [if_pos k]
        · rw [if_neg k, if_pos (by rw [zlt_iff, z1] at k; rw [zlt_iff, z10]; omega)]
      · unfold f12_odds
        rw [g12_in, zb_some, z0, z99999, g12_in, zb_some, z1, z10]
        simp only [zB_0]
        rw [if_neg (not_not_intro c1), if_pos c2]
  · refine ⟨(-4611686018427387904, I, R), ?_, (-4611686018427387904, I), ?_, (zcmp0 _ _).mpr rfl, hC⟩
    · unfold f11_odds
      by_cases k : seed < 0
      · rw [if_pos k]
      · rw [if_neg k, if_pos (by rw [zlt_iff, z0] at k; rw [zlt_iff, z99999]; omega)]
    · unfold f12_odds
      rw [g12_in, zb_some, z0, z99999]
      simp only [zB_0]
      rw [if_pos c1]
