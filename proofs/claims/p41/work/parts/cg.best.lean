/-! pure part: best beside the order by numbers -/
def xBe (l1 any e3 e4 v : Int32) : Prop := (l1 = 1 → any = 1 → 0 ≤ e4.toInt → 0 ≤ v.toInt) ∧ (l1 = 0 → any = 1 → 0 ≤ e3.toInt → e3.toInt ≤ 600 → (v.toInt = -1 ∧ e3.toInt = 600) ∨ (0 ≤ v.toInt ∧ v.toInt ≤ e3.toInt))
/-- beside the first order -/
def xBf (n : Nat) (kd : zMK) (L s t : Nat) (A : Nat → Nat) (l1 : Int32) (c d : Nat) (v : Int32) (I : zMI) (R : zMR) : Prop := (l1 = 1 → 0 ≤ v.toInt) ∧ (l1 = 0 → ∃ P, znp c d = some P ∧ ∀ J J0 : zMI, zB0 n kd R L s t A I J → J0 81 34 = J 81 3 → (∀ k, k < c → J0 99 k = Int32.ofNat (zpd c P k)) → (∀ j, j ≠ 34 → J0 81 j = J 81 j) → (∀ b, b ≠ 81 → b ≠ 99 → J0 b = J b) → ∃ M, f12_goesFor 600 J0 = some M ∧ ((v.toInt = -1 ∧ (M 81 48).toInt = -1) ∨ (0 ≤ v.toInt ∧ ((M 81 48).toInt = -1 ∨ v.toInt ≤ (M 81 48).toInt))))
section
variable {n : Nat} {kd : zMK} {L s t : Nat} {A : Nat → Nat}
theorem x_bestL {c : Nat} (hc5 : c ≤ 5) {l1 : Int32} : ∀ (d q : Nat) (l2 l3 l4 l5 l6 any e3 e4 e5 : Int32) (I : zMI) (R : zMR) (Jx : zMI), zB0 n kd R L s t A I Jx → (Jx 81 3).toInt = (c : Int) → d ≤ c ^ c → zbr any l2 l3 l4 e3 e4 e5 → (any = 0 → znp c d ≠ none) → zAt c d l5 I → 0 ≤ l6.toInt → l6.toInt + (zcp c d : Nat) ≤ 120 → zcp c d < q →
    ∃ v I' R', f11_best_L30 n kd (f11_best_B181 n kd) q l1 l2 l3 l4 l5 l6 I R = some (v, I', R') ∧ zFO A s I I' ∧ (∀ b', b' ≠ 42 → b' ≠ 44 → R' b' = R b') ∧ (xBe l1 any e3 e4 v ∧ (any = 0 → xBf n kd L s t A l1 c d v I R)) ∧ ∀ q' l6' J, l6'.toInt = ((c ^ c - d : Nat) : Int) → d < q' → zB0 n kd R L s t A I J → ∃ J', f12_best_L25 f12_best_B158 q' l1 any e3 e4 e5 l6' J = some (v, J') ∧ zFM J J' := by
  obtain ⟨hcc, hcc1⟩ := zcc hc5
  have ecc : (Int32.ofNat (c ^ c)).toInt = ((c ^ c : Nat) : Int) := zofn_i (by omega)
  have z6 : (600 : Int32).toInt = 600 := rfl
  have zM : (1000000 : Int32).toInt = 1000000 := by decide +kernel
  intro d
  induction d with
  | zero =>
    intro q l2 l3 l4 l5 l6 any e3 e4 e5 I R Jx hB hx hd hbr hany hAt h6 hz hq
    obtain ⟨q, rfl⟩ : ∃ p, q = p + 1 := ⟨q - 1, by omega⟩
    have h5 : l5 = 0 := hAt
    rcases hbr with ⟨b1, -⟩ | ⟨b1, b2, b3, b4⟩
    · exact absurd rfl (hany b1)
    refine ⟨if l1 = 0 then (if l2 = 1000000 then -1 else l2) else if l1 = 1 then l3 else l4, I, R, ?_, zFO_rfl, fun _ _ _ => rfl, ⟨⟨fun k1 _ k2 => ?_, fun k1 _ k2 k3 => ?_⟩, fun k0 => ?_⟩, fun q' l6' J e6 hq' hJ => ⟨J, ?_, zFM_rfl⟩⟩
    · have B : f11_best_B181 n kd l1 l2 l3 l4 I R = some (if l1 = 0 then (if l2 = 1000000 then -1 else l2) else if l1 = 1 then l3 else l4, I, R) := by
        unfold f11_best_B181
        by_cases k : l1 = 0
        · rw [if_pos k, if_pos k, zl_eq]
        · rw [if_neg k, if_neg k, zl_eq]
      rw [f11_best_L30]
      by_cases k : (120 : Int32) ≤ l6
      · rw [if_pos k]
        exact B
      · rw [if_neg k, if_pos h5]
        exact B
    · rw [k1, if_neg (by decide), if_pos rfl, b2]
      exact k2
    · rw [k1, if_pos rfl]
      rcases b4 with ⟨y1, y2⟩ | ⟨y1, y2, y3⟩
      · rw [if_pos y1, y2]
        exact Or.inl ⟨rfl, rfl⟩
      · rw [if_neg (by rw [y1, zeq_iff, zM]; omega), y1]
        exact Or.inr ⟨y2, Int.le_refl _⟩
    · rw [b1] at k0
      cases k0
    · obtain ⟨q', rfl⟩ : ∃ p, q' = p + 1 := ⟨q' - 1, by omega⟩
      have e3' : J 81 3 = Int32.ofNat c := by rw [← hJ.2.1.1, hB.2.1.1, zeq_iff, hx, zofn_i (by omega)]
      rw [f12_best_L25]
      rw [e3', g12_powerOf_all c (by omega), zb_some, if_pos (by rw [zle_iff, ecc, e6]; omega)]
      unfold f12_best_B158
      rw [zl_eq, b2, b3]
      by_cases k : l1 = 0
      · rw [if_pos k, if_pos k]
        rcases b4 with ⟨y1, y2⟩ | ⟨y1, y2, y3⟩
        · rw [if_pos y1, if_pos y2]
        · rw [y1, if_neg (by rw [zeq_iff, z6]; omega), if_neg (by rw [zeq_iff, zM]; omega)]
      · rw [if_neg k, if_neg k]
  | succ d ih =>
    intro q l2 l3 l4 l5 l6 any e3 e4 e5 I R Jx hB hx hd hbr hany hAt h6 hz hq
    obtain ⟨q, rfl⟩ : ∃ p, q = p + 1 := ⟨q - 1, by omega⟩
    obtain ⟨N, hN⟩ : ∃ N, c ^ c - (d + 1) = N := ⟨_, rfl⟩
    have hN1 : N + (d + 1) = c ^ c := by omega
    have ex : ∀ J, zB0 n kd R L s t A I J → J 81 3 = Int32.ofNat c := fun J hJ => by rw [← hJ.2.1.1, hB.2.1.1, zeq_iff, hx, zofn_i (by omega)]
    have eci : (Int32.ofNat c).toInt = (c : Int) := zofn_i (by omega)
    by_cases hp : zpb c N = true
    · have np : znp c (d + 1) = some N := by rw [znp, hN, if_pos hp]
      have cp : zcp c (d + 1) = 1 + zcp c d := by rw [zcp, hN, if_pos hp]
      rw [cp] at hz hq
      have hAt' : l5 = 1 ∧ ∀ k, k < 5 → I 55 k = zprq c N k := by
        unfold zAt at hAt
        rw [np] at hAt
        exact hAt
      obtain ⟨a5, a55⟩ := hAt'
      have ho : ∀ k, k < c → zpd c N k < c := fun k hk => zpd_lt hk
      have hi : ∀ k k', k < c → k' < c → zpd c N k = zpd c N k' → k = k' := fun k k' hk hk' e => zpd_inj hc5 (by omega) hp hk hk' e
      have h55 : ∀ k, k < c → I 55 k = Int32.ofNat (zpd c N k) := fun k hk => by
        rw [a55 k (by omega)]
        unfold zprq
        rw [if_pos hk]
      -- how far the class goes at first
      have hl2 : l2 = 1000000 ∨ (0 ≤ l2.toInt ∧ l2.toInt < 600) := by
        rcases hbr with ⟨-, b, -⟩ | ⟨-, -, -, ⟨b, -⟩ | ⟨b, b', b''⟩⟩
        · exact Or.inl b
        · exact Or.inl b
        · rw [b]
          exact Or.inr ⟨b', b''⟩
      obtain ⟨T, eT⟩ : ∃ T, (if (600 : Int32) < l2 + 1 then (600 : Int32) else l2 + 1) = T := ⟨_, rfl⟩
      have hTv : (l2 = 1000000 ∧ T.toInt = 600) ∨ (0 ≤ l2.toInt ∧ l2.toInt < 600 ∧ T.toInt = l2.toInt + 1) := by
        rcases hl2 with x | ⟨x1, x2⟩
        · refine Or.inl ⟨x, ?_⟩
          rw [← eT, x, if_pos (by decide +kernel), z6]
        · have es : (l2 + 1).toInt = l2.toInt + 1 := by rw [zadd (by rw [z1]; omega) (by rw [z1]; omega), z1]
          refine Or.inr ⟨x1, x2, ?_⟩
          rw [← eT, if_neg (by rw [zlt_iff, z6, es]; omega), es]
      obtain ⟨I1, R1, I2, I3, x1, x2, x3, x4, x5, x6, x7, x8, x9, x10⟩ := zgoO (o := zpd c N) hB (c := c) (by omega) ho hi h55 (T := T) (by omega)
      obtain ⟨s0, hs0⟩ : ∃ s0, (if I2 42 12 = -1 then (1000000 : Int32) else I2 42 12) = s0 := ⟨_, rfl⟩
      obtain ⟨s1, hs1⟩ : ∃ s1, (if I3 42 12 = -1 then (1000000 : Int32) else I3 42 12) = s1 := ⟨_, rfl⟩
      obtain ⟨w, hw⟩ : ∃ w, (if I3 42 12 = -1 then (600 : Int32) else I3 42 12) = w := ⟨_, rfl⟩
      have hsw : (s1 = 1000000 ∧ w = 600) ∨ (s1 = w ∧ 0 ≤ w.toInt ∧ w.toInt < 600) := by
        by_cases k : I3 42 12 = -1
        · rw [if_pos k] at hs1 hw
          exact Or.inl ⟨hs1.symm, hw.symm⟩
        · rw [if_neg k] at hs1 hw
          rcases x8 with y | ⟨y1, y2⟩
          · exact absurd y k
          · rw [← hs1, ← hw]
            exact Or.inr ⟨rfl, y1, y2⟩
      have hall : (s0.toInt = 1000000 ∧ ((s1.toInt = 1000000 ∧ w.toInt = 600) ∨ (T.toInt ≤ w.toInt ∧ s1.toInt = w.toInt ∧ 0 ≤ w.toInt ∧ w.toInt < 600))) ∨ (s0.toInt = w.toInt ∧ s1.toInt = w.toInt ∧ 0 ≤ w.toInt ∧ w.toInt < 600) := by
        by_cases k2 : I2 42 12 = -1
        · rw [if_pos k2] at hs0
          refine Or.inl ⟨by rw [← hs0]; exact zM, ?_⟩
          by_cases k3 : I3 42 12 = -1
          · rw [if_pos k3] at hs1 hw
            exact Or.inl ⟨by rw [← hs1]; exact zM, by rw [← hw]; exact z6⟩
          · rw [if_neg k3] at hs1 hw
            rcases x7 with y | ⟨y1, y2⟩
            · exact absurd (y.trans k2) k3
            · rcases x8 with y3 | ⟨y3, y4⟩
              · exact absurd y3 k3
              · rw [hw] at y2 y3 y4
                rw [hw] at hs1
                exact Or.inr ⟨y2, by rw [hs1], y3, y4⟩
        · rw [if_neg k2] at hs0
          rcases x7 with y | ⟨y1, y2⟩
          · have k3 : ¬ I3 42 12 = -1 := by rw [y]; exact k2
            rw [if_neg k3] at hs1 hw
            rcases x8 with y3 | ⟨y3, y4⟩
            · exact absurd y3 k3
            · rw [hw] at y3 y4 y hs1
              rw [← y] at hs0
              exact Or.inr ⟨by rw [hs0], by rw [hs1], y3, y4⟩
          · exact absurd y1 k2
      have hb' : (any.toInt = 0 ∧ l2.toInt = 1000000 ∧ l3.toInt = -1) ∨ (any.toInt = 1 ∧ l3.toInt = e4.toInt ∧ ((l2.toInt = 1000000 ∧ e3.toInt = 600) ∨ (l2.toInt = e3.toInt ∧ 0 ≤ e3.toInt ∧ e3.toInt < 600))) := by
        rcases hbr with ⟨b1, b2, b3, -⟩ | ⟨b1, b2, -, ⟨b3, b4⟩ | ⟨b3, b4, b5⟩⟩
        · rw [b1, b2, b3]
          exact Or.inl ⟨rfl, zM, znm1⟩
        · rw [b1, b2, b3, b4]
          exact Or.inr ⟨rfl, rfl, Or.inl ⟨zM, z6⟩⟩
        · rw [b1, b2, b3]
          exact Or.inr ⟨rfl, rfl, Or.inr ⟨rfl, b4, b5⟩⟩
      have hbt : zbt any w e3 (I3 42 9) e4 ↔ (any.toInt = 0 ∨ w.toInt < e3.toInt ∨ (w.toInt = e3.toInt ∧ ¬ (I3 42 9).toInt ≤ e4.toInt)) := by
        unfold zbt
        rw [zeq_iff, zlt_iff, zeq_iff, zle_iff, z0]
      have hy : (s1 < l2 ∨ ¬ I3 42 9 ≤ l3) ↔ (s1.toInt < l2.toInt ∨ ¬ (I3 42 9).toInt ≤ l3.toInt) := by rw [zlt_iff, zle_iff]
      have hl : l2 < s0 ↔ l2.toInt < s0.toInt := zlt_iff _ _
      have hT2 : (l2.toInt = 1000000 ∧ T.toInt = 600) ∨ (0 ≤ l2.toInt ∧ l2.toInt < 600 ∧ T.toInt = l2.toInt + 1) := by
        rcases hTv with ⟨y1, y2⟩ | y
        · rw [y1]
          exact Or.inl ⟨zM, y2⟩
        · exact Or.inr y
      have hbr1 : any = 1 → zbr 1 l2 l3 l4 e3 e4 e5 := fun y => by
        rw [y] at hbr
        exact hbr
      have a1 : any.toInt = 1 → any = 1 := fun y => by rw [zeq_iff, y]; rfl
      -- digits
      have r32 : ∀ K, zFX A s I K → K 32 4 = Int32.ofNat c ∧ K 55 = I 55 := fun K hK => by
        have hA := (zB0_A hB).2.1
        have hb := (zLo_big hB.2.2.2.2.2.2.2.2.1.1).1
        rw [hK.1 32 (by decide) (by decide) (by decide) (fun w y => by have := hA w y; omega) (by omega) (by omega), hK.1 55 (by decide) (by decide) (by decide) (fun w y => by have := hA w y; omega) (by omega) (by omega), hB.2.1.1]
        exact ⟨ex Jx hB, rfl⟩
      have dig : ∀ M : zMI, (M 81 34).toInt = (c : Int) → (∀ k, k < c → M 99 k = Int32.ofNat (zpd c N k)) → ∃ v, f11_orderAsDigits I3 = some v ∧ f12_digitsNow M = some v := fun M m1 m2 => by
        obtain ⟨y1, y2⟩ := r32 I3 x5
        unfold f11_orderAsDigits f12_digitsNow
        exact zdigits hc5 (by rw [y1]; exact eci) m1 (fun k hk => by rw [y2, h55 k hk, m2 k hk]) c zF zF 0 0 (by rw [z0]; omega) (by rw [z0]; omega) (by unfold zF; omega) (by unfold zF; omega)
      have goes : ∀ J l6', l6'.toInt = ((c ^ c - (d + 1) : Nat) : Int) → zB0 n kd R L s t A I J → ∃ J0 M, f12_powerOf (J 81 3) = some (Int32.ofNat (c ^ c)) ∧ ¬ Int32.ofNat (c ^ c) ≤ l6' ∧ f12_tells l6' J = some (1, J0) ∧ f12_goesFor 600 J0 = some M ∧ M 81 48 = I3 42 12 ∧ M 81 47 = I3 42 9 ∧ zFM J M ∧ ∃ v, f11_orderAsDigits I3 = some v ∧ f12_digitsNow M = some v := fun J l6' e6 hJ => by
        obtain ⟨J0, t1, t2, t3, t4, t5⟩ := g12_tells (c := c) (N := N) (l := l6') (J := J) hc5 (by rw [ex J hJ, eci]) (by rw [e6, hN])
        rw [if_pos hp] at t1
        obtain ⟨M, m1, m2, m3, m4, m5, m6⟩ := x10 J J0 hJ t2 t3 t4 t5
        exact ⟨J0, M, by rw [ex J hJ]; exact g12_powerOf_all c (by omega), by rw [zle_iff, ecc, e6]; omega, t1, m1, m2, m3, m4, dig M (by rw [m6, ex J hJ, eci]) (fun k hk => by rw [m5, t3 k hk])⟩
      obtain ⟨Jx0, Mx, -, -, -, -, -, -, mx, dg, dg1, -⟩ := goes Jx (Int32.ofNat N) (by rw [zofn_i (by omega), hN]) hB
      -- then on
      have fin : ∀ (K : zMI) (l2' l3' l4' e3' e4' e5' : Int32), zFX A s I K → f11_best_L30 n kd (f11_best_B181 n kd) (q + 1) l1 l2 l3 l4 l5 l6 I R = f11_best_B169 n kd (f11_best_L30 n kd (f11_best_B181 n kd) q) l1 l2' l3' l4' l6 K R1 → zbr 1 l2' l3' l4' e3' e4' e5' →
          (∀ q' l6' J J0 M, f12_powerOf (J 81 3) = some (Int32.ofNat (c ^ c)) → ¬ Int32.ofNat (c ^ c) ≤ l6' → f12_tells l6' J = some (1, J0) → f12_goesFor 600 J0 = some M → M 81 48 = I3 42 12 → M 81 47 = I3 42 9 → f12_digitsNow M = some dg → f12_best_L25 f12_best_B158 (q' + 1) l1 any e3 e4 e5 l6' J = f12_best_L25 f12_best_B158 q' l1 1 e3' e4' e5' (l6' + 1) M) → (∀ v : Int32, xBe l1 1 e3' e4' v → xBe l1 any e3 e4 v ∧ (any = 0 → (l1 = 1 → 0 ≤ v.toInt) ∧ (l1 = 0 → (v.toInt = -1 ∧ (I3 42 12).toInt = -1) ∨ (0 ≤ v.toInt ∧ ((I3 42 12).toInt = -1 ∨ v.toInt ≤ (I3 42 12).toInt))))) →
          ∃ v I' R', f11_best_L30 n kd (f11_best_B181 n kd) (q + 1) l1 l2 l3 l4 l5 l6 I R = some (v, I', R') ∧ zFO A s I I' ∧ (∀ b', b' ≠ 42 → b' ≠ 44 → R' b' = R b') ∧ (xBe l1 any e3 e4 v ∧ (any = 0 → xBf n kd L s t A l1 c (d + 1) v I R)) ∧ ∀ q' l6' J, l6'.toInt = ((c ^ c - (d + 1) : Nat) : Int) → d + 1 < q' → zB0 n kd R L s t A I J → ∃ J', f12_best_L25 f12_best_B158 q' l1 any e3 e4 e5 l6' J = some (v, J') ∧ zFM J J' := fun K l2' l3' l4' e3' e4' e5' hK hcl hbr' href hxb => by
        obtain ⟨k1, k2⟩ := r32 K hK
        obtain ⟨v5, K', n1, n2, n3⟩ := g11_next hc5 hN1 hp k1 (fun k hk => by rw [k2]; exact a55 k hk)
        have hA := (zB0_A hB).2.1
        have hBK : ∀ J M, zB0 n kd R L s t A I J → zFM J M → zB0 n kd R1 L s t A K' M := fun J M hJ hM => zB0_55 (zB0_keep hJ hK (zFw_M hM) x6) n3
        have e61 : (l6 + 1).toInt = l6.toInt + 1 := by rw [zadd (by rw [z1]; omega) (by rw [z1]; omega), z1]
        obtain ⟨v, I', R', u1, u2, u3, ⟨ux, -⟩, u4⟩ := ih q l2' l3' l4' v5 (l6 + 1) 1 e3' e4' e5' K' R1 Mx (hBK Jx Mx hB mx) (by rw [mx.2 3 (by decide)]; exact hx) (by omega) hbr' (fun y => by cases y) n2 (by omega) (by omega) (by omega)
        refine ⟨v, I', R', ?_, zFO_tr (zFO_tr (zFO_X hK) (zFO_55 hA n3)) u2, fun b' y z => by rw [u3 b' y z, x6 b' y z], ⟨(hxb v ux).1, fun k0 => ⟨((hxb v ux).2 k0).1, fun k1 => ⟨N, np, fun J J0 hJ o2 o3 o4 o5 => ?_⟩⟩⟩, fun q' l6' J e6 hq' hJ => ?_⟩
        · rw [hcl]
          unfold f11_best_B169
          rw [n1, zb_some]
          exact u1
        · obtain ⟨M, m1, m2, -⟩ := x10 J J0 hJ o2 o3 o4 o5
          refine ⟨M, m1, ?_⟩
          rw [m2]
          exact ((hxb v ux).2 k0).2 k1
        · obtain ⟨q', rfl⟩ : ∃ p, q' = p + 1 := ⟨q' - 1, by omega⟩
          obtain ⟨J0, M, g1, g2, g3, g4, g5, g6, g7, v', g8, g9⟩ := goes J l6' e6 hJ
          rw [dg1] at g8
          cases g8
          have e61' : (l6' + 1).toInt = l6'.toInt + 1 := by rw [zadd (by rw [z1]; omega) (by rw [z1]; omega), z1]
          obtain ⟨J', j1, j2⟩ := u4 q' (l6' + 1) M (by rw [e61', e6]; omega) (by omega) (hBK J M hJ g7)
          refine ⟨J', ?_, zFM_tr g7 j2⟩
          rw [href q' l6' J J0 M g1 g2 g3 g4 g5 g6 g9]
          exact j1
      have h6n : ¬ (120 : Int32) ≤ l6 := by
        rw [zle_iff, show (120 : Int32).toInt = 120 from rfl]
        omega
      have h5n : ¬ l5 = 0 := by rw [a5]; decide
      have F := g11_bestF (k181 := f11_best_B181 n kd) (q := q) (l1 := l1) (l3 := l3) (l4 := l4) h6n h5n x1 eT x2 hs0
      by_cases kl : l2 < s0
      · have kl' := hl.mp kl
        have kb : ¬ zbt any w e3 (I3 42 9) e4 := fun y => by
          have := hbt.mp y
          omega
        have ka := a1 (by omega)
        exact fin I2 l2 l3 l4 e3 e4 e5 x4 (by rw [F, g11_bestS kl]) (hbr1 ka) (fun q' l6' J J0 M g1 g2 g3 g4 g5 g6 g9 => g12_bestN (w := w) g1 g2 g3 g4 (by rw [g5]; exact hw) (by rw [g6]; exact kb)) (fun v hv => ⟨by rw [ka]; exact hv, fun k0 => by rw [ka] at k0; cases k0⟩)
      · have kl' : ¬ l2.toInt < s0.toInt := fun y => kl (hl.mpr y)
        have G := g11_bestG (k30 := f11_best_L30 n kd (f11_best_B181 n kd) q) (l1 := l1) (l3 := l3) (l4 := l4) (l6 := l6) kl x3 hs1
        by_cases ky : s1 < l2 ∨ ¬ I3 42 9 ≤ l3
        · have ky' := hy.mp ky
          have kb : zbt any w e3 (I3 42 9) e4 := hbt.mpr (by omega)
          exact fin I3 s1 (I3 42 9) dg w (I3 42 9) dg x5 (by rw [F, G, g11_bestY dg1 ky]) (Or.inr ⟨rfl, rfl, rfl, hsw⟩) (fun q' l6' J J0 M g1 g2 g3 g4 g5 g6 g9 => by
            rw [g12_bestY (w := w) g1 g2 g3 g4 g9 (by rw [g5]; exact hw) (by rw [g6]; exact kb), g6]) (fun v hv => by
            have hwr : 0 ≤ w.toInt ∧ w.toInt ≤ 600 := by omega
            have hw2 : ((I3 42 12).toInt = -1 ∧ w.toInt = 600) ∨ ((I3 42 12).toInt = w.toInt ∧ w.toInt < 600) := by
              by_cases k : I3 42 12 = -1
              · rw [if_pos k] at hw
                exact Or.inl ⟨by rw [k]; rfl, by rw [← hw]; rfl⟩
              · rw [if_neg k] at hw
                rcases x8 with y | y
                · exact absurd y k
                · rw [hw] at y
                  exact Or.inr ⟨by rw [hw], y.2⟩
            have kb' := hbt.mp kb
            obtain ⟨v1, v2⟩ := hv
            refine ⟨⟨fun k1 _ _ => v1 k1 rfl x9, fun k1 k0 k2 k3 => ?_⟩, fun k0 => ⟨fun k1 => v1 k1 rfl x9, fun k1 => ?_⟩⟩
            · have := v2 k1 rfl hwr.1 hwr.2
              rw [k0, z1] at kb'
              omega
            · have := v2 k1 rfl hwr.1 hwr.2
              omega)
        · have ky' : ¬ (s1.toInt < l2.toInt ∨ ¬ (I3 42 9).toInt ≤ l3.toInt) := fun y => ky (hy.mpr y)
          have kb : ¬ zbt any w e3 (I3 42 9) e4 := fun y => by
            have := hbt.mp y
            omega
          have ka := a1 (by omega)
          exact fin I3 l2 l3 l4 e3 e4 e5 x5 (by rw [F, G, g11_bestN ky]) (hbr1 ka) (fun q' l6' J J0 M g1 g2 g3 g4 g5 g6 g9 => g12_bestN (w := w) g1 g2 g3 g4 (by rw [g5]; exact hw) (by rw [g6]; exact kb)) (fun v hv => ⟨by rw [ka]; exact hv, fun k0 => by rw [ka] at k0; cases k0⟩)
    · have np : znp c (d + 1) = znp c d := by rw [znp, hN, if_neg hp]
      have cp : zcp c (d + 1) = zcp c d := by rw [zcp, hN, if_neg hp, Nat.zero_add]
      rw [cp] at hz hq
      obtain ⟨v, I', R', u1, u2, u3, ux, u4⟩ := ih (q + 1) l2 l3 l4 l5 l6 any e3 e4 e5 I R Jx hB hx (by omega) hbr (fun y => by rw [← np]; exact hany y) (by unfold zAt at hAt ⊢; rw [np] at hAt; exact hAt) h6 hz hq
      refine ⟨v, I', R', u1, u2, u3, ⟨ux.1, fun k0 => ⟨(ux.2 k0).1, fun k1 => by rw [np]; exact (ux.2 k0).2 k1⟩⟩, fun q' l6' J e6 hq' hJ => ?_⟩
      obtain ⟨q', rfl⟩ : ∃ p, q' = p + 1 := ⟨q' - 1, by omega⟩
      obtain ⟨J0, t1, t2, t3, t4, t5⟩ := g12_tells (c := c) (N := N) (l := l6') (J := J) hc5 (by rw [ex J hJ, eci]) (by rw [e6, hN])
      rw [if_neg hp] at t1
      have e61' : (l6' + 1).toInt = l6'.toInt + 1 := by rw [zadd (by rw [z1]; omega) (by rw [z1]; omega), z1]
      have hM : zFM J J0 := ⟨fun b y1 y2 => t5 b y1 (by omega), fun j hj => t4 j (by omega)⟩
      obtain ⟨J', j1, j2⟩ := u4 q' (l6' + 1) J0 (by rw [e61', e6]; omega) (by omega) (zB0_keep hJ zFX_rfl (zFw_M hM) (fun _ _ _ => rfl))
      refine ⟨J', ?_, zFM_tr hM j2⟩
      rw [g12_bestO (by rw [ex J hJ]; exact g12_powerOf_all c (by omega)) (by rw [zle_iff, ecc, e6]; omega) t1]
      exact j1
end
