/-! pure part: the class reads the text -/
/-- text, and nothing of the reference's changed by the class -/
theorem zH4x {n : Nat} {kd : zMK} {I : zMI} {R : zMR} (hC : zC zT0 n kd I R) : ∃ p42, f11_text n kd I R = some p42 ∧ zShB p42.2.1.1 p42.2.1.2 = true ∧ (∀ b, 81 ≤ b → b < 114 → p42.2.2.1 b = I b) ∧ ∃ p45, f12_text p42.2.2.1 = some p45 ∧ p42.1 = p45.1 ∧ zC zT0 p42.2.1.1 p42.2.1.2 p45.2 p42.2.2.2 := by
  obtain ⟨g1, g2, g3, g4, g5, g6, g7, t1, t2, t3⟩ := id hC
  obtain ⟨e1, e2, e3, e4, e5, r3, r2, r11, r12, r8⟩ := id g2
  have hn := g1.1
  obtain ⟨t, ht⟩ : ∃ t : Nat, (I 81 11).toInt = (t : Int) := ⟨(I 81 11).toInt.toNat, by omega⟩
  have o11 : I 81 11 = Int32.ofNat t := by rw [zeq_iff, ht, zofn_i (by omega)]
  by_cases c6 : t = 6
  · have x6 : I 32 6 = 6 := by rw [e3, zeq_iff, ht, c6]; rfl
    refine ⟨(-4, (n, kd), I, R), ?_, zSh_B g1, fun _ _ _ => rfl, (-4, I), ?_, rfl, hC⟩
    · unfold f11_text
      rw [x6, if_neg (by decide), if_neg (by decide)]
    · have q : f12_text I = some (-4, I) := by
        unfold f12_text
        rw [← e3, x6, if_pos rfl]
      exact q
  have t5 : t ≤ 5 := by omega
  have o8 : I 81 8 = Int32.ofNat (I 81 8).toInt.toNat := (zofn r8.1).symm
  obtain ⟨fl, I1, u1, u2, u3⟩ := zread (T := I 87) (z := (I 81 8).toInt.toNat) (t := t) (I := I) (by omega) t5 (by rw [e5]; exact o8) (fun k hk => (g4 k hk).1) (fun k hk => (g4 k hk).2.1)
  have row1 : ∀ b, b ≠ 37 → b ≠ 39 → b ≠ 40 → I1 b = I b := u2.1
  have F : f11_text n kd I R = if fl = (-1 : Int32) then zb (f7_lastRead n kd (uI I1 37 1 0) R) fun p8 => if zShB p8.2.1.1 p8.2.1.2 = true then if zKdB p8.2.1.1 p8.2.1.2 p8.1 19 = true then zl (uR p8.2.2.2 36 t (some p8.1)) fun T13 => zl (uI p8.2.2.1 32 6 ((p8.2.2.1 32 6) + (1 : Int32))) fun J15 => some (((J15 32 6) - (1 : Int32)), (p8.2.1.1, p8.2.1.2), J15, T13) else none else none else some (((-100 : Int32) - fl), (n, kd), uI I1 37 1 0, R) := by
    have i326 : I1 32 6 = Int32.ofNat t := by rw [row1 32 (by decide) (by decide) (by decide), e3, o11]
    have et := zofn_i (m := t) (by omega)
    unfold f11_text
    rw [if_neg (by rw [zlt_iff, z0, e3]; omega), if_pos (by rw [zlt_iff, zn6i, e3]; omega), u1, zb_some]
    dsimp only
    rw [zl_eq]
    by_cases c : fl = -1
    · rw [if_pos c, if_pos c]
      congr 1
      funext p8
      by_cases c1 : zShB p8.2.1.1 p8.2.1.2 = true
      · rw [if_pos c1, if_pos c1]
        by_cases c2 : zKdB p8.2.1.1 p8.2.1.2 p8.1 19 = true
        · rw [if_pos c2, if_pos c2, uI_ne (show (32 : Nat) ≠ 37 by decide), i326, if_pos (zib_ok (by omega) (by omega)), zofn_n (by omega)]
        · rw [if_neg c2, if_neg c2]
      · rw [if_neg c1, if_neg c1]
    · rw [if_neg c, if_neg c]
  rcases u3 with ⟨c, W1, W2, W3, hG, h39, h8, s0, s1, s2, s3, ref⟩ | ⟨c, ref⟩
  · rw [if_pos c] at F
    obtain ⟨kd', I2, R2, v1, v2, v3, v4, v5, v6, v7, v8, v9, v10⟩ := g7_last (n := n) (kd := kd) (I := uI I1 37 1 0) (R := R) g1 hG (by rw [uI_off (by decide)]; exact h8) (by rw [uI_ne (by decide)]; exact s0) (by rw [uI_ne (by decide)]; exact s1) (by rw [uI_ne (by decide)]; exact s2) (by rw [uI_ne (by decide)]; exact s3)
    have e39 : uI I1 37 1 0 39 = I1 39 := uI_ne (by decide)
    have e40 : uI I1 37 1 0 40 = I1 40 := uI_ne (by decide)
    rw [e39] at v8 v10
    rw [e40] at v9 v10
    obtain ⟨N2, N3, f2, f3, d1, d2, d3, hw, hl⟩ := id hG
    have l1 := zds_1 d1
    have l2 := zds_1 d2
    have l3 := zds_1 d3
    have L2 : W2.length = N2.length + W1.length := by rw [f2, List.length_append]
    have L3 : W3.length = N3.length + W2.length := by rw [f3, List.length_append]
    have ew := zofn_i (m := W3.length) (by omega)
    have ew2 := zofn_i (m := W2.length) (by omega)
    have ew1 := zofn_i (m := W1.length) (by omega)
    have et := zofn_i (m := t) (by omega)
    obtain ⟨K, hK⟩ : ∃ K, uI I2 32 6 (I2 32 6 + 1) = K := ⟨_, rfl⟩
    have K_ne : ∀ b, b ≠ 32 → K b = I2 b := fun b hb => by rw [← hK, uI_ne hb]
    have I2r : ∀ b, b < n → b ≠ 37 → b ≠ 39 → b ≠ 40 → I2 b = I b := fun b x y z w => by rw [v4 b x, uI_ne y, row1 b y z w]
    have K326 : K 32 6 = Int32.ofNat (t + 1) := by rw [← hK, uI_at, I2r 32 (by omega) (by decide) (by decide) (by decide), e3, o11, zofs (by omega)]
    have Kr : ∀ b, b < n → b ≠ 32 → b ≠ 37 → b ≠ 39 → b ≠ 40 → K b = I b := fun b x x2 y z w => by rw [K_ne b x2, I2r b x y z w]
    obtain ⟨J', w1, w2, w3, w4, w5, w6, w7, w8, w9⟩ := ref K ⟨by rw [Kr 81 (by omega) (by decide) (by decide) (by decide) (by decide)]; exact o8, fun k hk => by rw [Kr 87 (by omega) (by decide) (by decide) (by decide) (by decide)], fun j hj => by rw [Kr 95 (by omega) (by decide) (by decide) (by decide) (by decide)]; exact t2 j hj, by rw [Kr 81 (by omega) (by decide) (by decide) (by decide) (by decide)]; exact o11⟩
    have Jn : ∀ b, n ≤ b → J' b = I2 b := fun b hb => by rw [w9.1 b (by omega) (by omega) (by omega) (by omega), K_ne b (by omega)]
    have e1' : Int32.ofNat (t + 1) - 1 = Int32.ofNat t := by rw [← zofs (by omega), zeq_iff, zsub (by rw [zadd (by rw [z1]; omega) (by rw [z1]; omega), z1]; omega) (by rw [zadd (by rw [z1]; omega) (by rw [z1]; omega), z1]; omega), zadd (by rw [z1]; omega) (by rw [z1]; omega), z1]; omega
    have C : zC zT0 (n + 7) kd' J' (uR R2 36 t (some n)) := by
      refine zC_text (t := t) (c' := t + 1) hC ht (by omega) v2 v3 (fun b x1 x2 x3 x4 x5 x6 x7 x8 x9 => by rw [w9.1 b x6 x7 x8 x9, Kr b x1 x2 x3 x4 x5]) (fun j hj => by rw [w9.1 32 (by decide) (by decide) (by decide) (by decide), ← hK, uI_off hj, I2r 32 (by omega) (by decide) (by decide) (by decide)]) (fun j x y z => by rw [w9.2.1 j x y z, Kr 81 (by omega) (by decide) (by decide) (by decide) (by decide)]) w2 ?_ (by rw [w9.1 32 (by decide) (by decide) (by decide) (by decide), K326, w3]) (by rw [w3]; exact zofn_i (by omega)) (by omega) (by omega) (fun k hk => by rw [w9.2.2.1 k hk, Kr 88 (by omega) (by decide) (by decide) (by decide) (by decide)]) (fun k hk => by rw [w9.2.2.2 k hk, Kr 89 (by omega) (by decide) (by decide) (by decide) (by decide)]) (fun a x y => by rw [uR_ne y, v5 a x]) (fun i hi => by rw [uR_off (by omega), v5 36 (by omega)]) (fun t' x y => ?_)
      · rw [w9.1 37 (by decide) (by decide) (by decide) (by decide), K_ne 37 (by decide), v4 37 (by omega), uI_at]
      · have et' : t' = t := by omega
        subst et'
        refine ⟨n, n + 2, uR_at, ?_, ?_⟩
        · have := v6
          unfold zLo at this ⊢
          rw [uR_ne (by omega)]
          exact this
        · have J6 : J' (n + 2 + 4) = I1 40 := by rw [Jn _ (by omega)]; exact v9
          have J5 : ∀ j, j < W3.length → J' (n + 2 + 3) j = I1 39 j := fun j hj => by rw [Jn _ (by omega)]; exact v8 j hj
          have J4 : ∀ p, p < 3 → J' (n + 2 + 2) p = zln (I1 40) (I1 39) p := fun p hp => by rw [Jn _ (by omega)]; exact v10 p hp
          have h5 : zhs (J' (n + 2 + 3)) 0 W3 := zhs_eq W3 (fun k _ hk => J5 k (by omega)) h39
          have v7' : (kd' (n + 2 + 3)).2 = W3.length := by rw [show n + 2 + 3 = n + 5 from rfl, v7]
          rw [v7']
          have bo := zhs_both (h := zw2c) W3 h5 w4
          refine ⟨fun p hp => ?_, ?_, ?_, ?_, ?_, ?_, fun j hj => ?_, fun p hp => ?_, fun p hp => ?_⟩
          · rw [J6]
            rcases (show p = 0 ∨ p = 1 ∨ p = 2 ∨ p = 3 by omega) with q | q | q | q
            · rw [q, s0, Nat.add_zero, w5]
            · rw [q, s1, w6]
            · rw [q, s2, w7]
            · rw [q, s3, w8]
          · rw [J6, s0]; decide
          · rw [J6, s0, s1, ew1, z0]; omega
          · rw [J6, s1, s2, ew1, ew2]; omega
          · rw [J6, s2, s3, ew, ew2]; omega
          · rw [J6, s3, ew]
          · obtain ⟨b1, b2⟩ := bo j hj
            exact ⟨hw _ b1, b2⟩
          · rw [J6]
            have a3 := h5
            rw [f3] at a3
            obtain ⟨a4, a5⟩ := zhs_app N3 a3
            rw [f2] at a5
            obtain ⟨a6, a7⟩ := zhs_app N2 a5
            rw [Nat.zero_add] at a4 a6
            rcases (show p = 0 ∨ p = 1 ∨ p = 2 by omega) with q | q | q
            · rw [q, s0, s1, ew1, z0]
              have := zdp_app W1 0 0 1 a7 d1 (show (1 : Nat) = 1 from rfl)
              rw [show ((W1.length : Nat) : Int).toNat - (0 : Int).toNat = W1.length + 0 by omega, show (0 : Int).toNat = 0 from rfl]
              exact this
            · rw [q, s1, s2, ew1, ew2]
              have := zdp_app N2 0 0 1 a6 d2 (show (1 : Nat) = 1 from rfl)
              rw [show ((W2.length : Nat) : Int).toNat - ((W1.length : Nat) : Int).toNat = N2.length + 0 by omega, show ((W1.length : Nat) : Int).toNat = W1.length by omega]
              exact this
            · rw [q, s2, s3, ew, ew2]
              have := zdp_app N3 0 0 1 a4 d3 (show (1 : Nat) = 1 from rfl)
              rw [show ((W3.length : Nat) : Int).toNat - ((W2.length : Nat) : Int).toNat = N3.length + 0 by omega, show ((W2.length : Nat) : Int).toNat = W2.length by omega]
              exact this
          · rw [J4 p hp, J6]
            unfold zln
            have lt : (I1 40 p).toInt.toNat < W3.length := by
              rcases (show p = 0 ∨ p = 1 ∨ p = 2 by omega) with q | q | q
              · rw [q, s0, z0]; omega
              · rw [q, s1, ew1]; omega
              · rw [q, s2, ew2]; omega
            rw [J5 _ lt]
    refine ⟨(Int32.ofNat t, (n + 7, kd'), K, uR R2 36 t (some n)), ?_, zSh_B v2, fun b h1 h2 => Kr b (by omega) (by omega) (by omega) (by omega) (by omega), (Int32.ofNat t, J'), w1, rfl, C⟩
    rw [F, v1, zb_some]
    dsimp only
    rw [if_pos (zSh_B v2), if_pos v6.1, zl_eq, hK, zl_eq, K326, e1']
  · rw [if_neg c] at F
    have Kr : ∀ b, b ≠ 37 → b ≠ 39 → b ≠ 40 → uI I1 37 1 0 b = I b := fun b y z w => by rw [uI_ne y, row1 b y z w]
    obtain ⟨J', w1, w2, w3, w9⟩ := ref (uI I1 37 1 0) ⟨by rw [Kr 81 (by decide) (by decide) (by decide)]; exact o8, fun k hk => by rw [Kr 87 (by decide) (by decide) (by decide)], fun j hj => by rw [Kr 95 (by decide) (by decide) (by decide)]; exact t2 j hj, by rw [Kr 81 (by decide) (by decide) (by decide)]; exact o11⟩
    have C : zC zT0 n kd J' R := zC_text (t := t) (c' := t) hC ht (Nat.le_refl _) g1 (fun _ _ => rfl) (fun b x1 x2 x3 x4 x5 x6 x7 x8 x9 => by rw [w9.1 b x6 x7 x8 x9, Kr b x3 x4 x5]) (fun j hj => by rw [w9.1 32 (by decide) (by decide) (by decide) (by decide), Kr 32 (by decide) (by decide) (by decide)]) (fun j x y z => by rw [w9.2.1 j x y z, Kr 81 (by decide) (by decide) (by decide)]) w2 (by rw [w9.1 37 (by decide) (by decide) (by decide) (by decide), uI_at]) (by rw [w9.1 32 (by decide) (by decide) (by decide) (by decide), Kr 32 (by decide) (by decide) (by decide), e3, o11, w3]) (by rw [w3]; exact zofn_i (by omega)) (Nat.le_refl _) (by omega) (fun k hk => by rw [w9.2.2.1 k hk, Kr 88 (by decide) (by decide) (by decide)]) (fun k hk => by rw [w9.2.2.2 k hk, Kr 89 (by decide) (by decide) (by decide)]) (fun _ _ _ => rfl) (fun _ _ => rfl) (fun t' x y => by omega)
    exact ⟨(-100 - fl, (n, kd), uI I1 37 1 0, R), F, zSh_B g1, fun b h1 h2 => Kr b (by omega) (by omega) (by omega), (-100 - fl, J'), w1, rfl, C⟩
