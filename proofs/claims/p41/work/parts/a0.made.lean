/-! pure part: text answers alike -/
theorem zhs_app {f : Nat → Int32} {a : Nat} {W : List Int32} : ∀ N, zhs f a (N ++ W) → zhs f (a + W.length) N ∧ zhs f a W := by
  intro N
  induction N with
  | nil => intro h; exact ⟨trivial, h⟩
  | cons x N ih =>
    intro h
    obtain ⟨h1, h2⟩ := h
    obtain ⟨h3, h4⟩ := ih h2
    refine ⟨⟨?_, h3⟩, h4⟩
    have h1' : f (a + (N ++ W).length) = x := h1
    rw [List.length_append] at h1'
    rw [← h1']
    congr 1
    omega
theorem zdp_app {f : Nat → Int32} {a : Nat} : ∀ (N : List Int32) (m d d' : Nat), zhs f a N → zds N d = some d' → zdp f m (a + N.length) d' → zdp f (N.length + m) a d := by
  intro N
  induction N with
  | nil =>
    intro m d d' _ h1 h2
    have : d = d' := Option.some.inj h1
    rw [this]
    rw [List.length_nil] at h2 ⊢
    rw [Nat.zero_add]
    exact h2
  | cons x N ih =>
    intro m d d' h h1 h2
    obtain ⟨h3, h4⟩ := h
    have h5 : (zds N d).bind (fun d' => if zne x ≤ d' ∧ d' < 40 then some (d' - zne x + 1) else none) = some d' := h1
    cases e : zds N d with
    | none =>
      rw [e] at h5
      cases h5
    | some d0 =>
      rw [e] at h5
      have h6 : (if zne x ≤ d0 ∧ d0 < 40 then some (d0 - zne x + 1) else none) = some d' := h5
      by_cases c : zne x ≤ d0 ∧ d0 < 40
      · rw [if_pos c] at h6
        have h7 := Option.some.inj h6
        have := ih (m + 1) d d0 h4 e (by
          show zne (f (a + N.length)) ≤ d0 ∧ d0 < 40 ∧ zdp f m (a + N.length + 1) (d0 - zne (f (a + N.length)) + 1)
          rw [h3, h7]
          exact ⟨c.1, c.2, h2⟩)
        rw [List.length_cons, show N.length + 1 + m = N.length + (m + 1) by omega]
        exact this
      · rw [if_neg c] at h6
        cases h6
theorem zds_1 {N : List Int32} (h : zds N 0 = some 1) : 1 ≤ N.length := by
  cases N with
  | nil => cases h
  | cons x N => rw [List.length_cons]; omega
theorem zhs_both {f g : Nat → Int32} {a : Nat} {h : Int32 → Int32} : ∀ W : List Int32, zhs f 0 W → zhs g a (W.map h) → ∀ j, j < W.length → f j ∈ W ∧ g (a + j) = h (f j) := by
  intro W
  induction W with
  | nil => intro _ _ j hj; exact absurd hj (Nat.not_lt_zero j)
  | cons x W ih =>
    intro h1 h2 j hj
    obtain ⟨a1, a2⟩ := h1
    have h2' : g (a + (W.map h).length) = h x ∧ zhs g a (W.map h) := h2
    obtain ⟨b1, b2⟩ := h2'
    rw [List.length_map] at b1
    rw [Nat.zero_add] at a1
    rw [List.length_cons] at hj
    by_cases c : j = W.length
    · rw [c, a1, b1]
      exact ⟨List.mem_cons_self, rfl⟩
    · obtain ⟨c1, c2⟩ := ih a2 b2 j (by omega)
      exact ⟨List.mem_cons_of_mem _ c1, c2⟩
/-- the class makes the law -/
theorem g7_last {n : Nat} {kd : zMK} {I : zMI} {R : zMR} {W1 W2 W3 : List Int32} (hS : zSh n kd) (hG : zGw3 W1 W2 W3) (h8 : I 37 8 = Int32.ofNat W3.length) (s0 : I 40 0 = 0) (s1 : I 40 1 = Int32.ofNat W1.length) (s2 : I 40 2 = Int32.ofNat W2.length) (s3 : I 40 3 = Int32.ofNat W3.length) : ∃ kd' I' R', f7_lastRead n kd I R = some (n, (n + 7, kd'), I', R') ∧ zSh (n + 7) kd' ∧ (∀ a, a < n → kd' a = kd a) ∧ (∀ b, b < n → I' b = I b) ∧ (∀ a, a < n → R' a = R a) ∧ zLo (n + 7) kd' R' n (n + 2) ∧ kd' (n + 5) = (0, W3.length) ∧ (∀ j, j < W3.length → I' (n + 5) j = I 39 j) ∧ I' (n + 6) = I 40 ∧ ∀ p, p < 3 → I' (n + 4) p = zln (I 40) (I 39) p := by
  have hn := hS.1
  obtain ⟨N2, N3, e2, e3, d1, d2, d3, hw, hl⟩ := hG
  have l1 := zds_1 d1
  have l2 := zds_1 d2
  have l3 := zds_1 d3
  have L2 : W2.length = N2.length + W1.length := by rw [e2, List.length_append]
  have L3 : W3.length = N3.length + W2.length := by rw [e3, List.length_append]
  have ew := zofn_i (m := W3.length) (by omega)
  have ew2 := zofn_i (m := W2.length) (by omega)
  have ew1 := zofn_i (m := W1.length) (by omega)
  have z160 : (160 : Int32).toInt = 160 := rfl
  obtain ⟨D, hD⟩ : ∃ D, uK kd n (19, 0) = D := ⟨_, rfl⟩
  have SD : zSh (n + 1) D := by rw [← hD]; exact zSh_new hS _
  obtain ⟨I2, u1, u2, u3⟩ := gJ7_copyOf (n := n + 1) (c := W3.length) (kd := D) (I := uA I n (fun _ => 0)) (R := uRA R n) SD hl
  have S2 : zSh (n + 2) (uK D (n + 1) (0, W3.length)) := zSh_new SD _
  have kD : ∀ a, a < n → uK D (n + 1) (0, W3.length) a = kd a := fun a h => by rw [uK_ne (by omega), ← hD, uK_ne (by omega)]
  have k1 : uK D (n + 1) (0, W3.length) (n + 1) = (0, W3.length) := uK_at
  have k0 : uK D (n + 1) (0, W3.length) n = (19, 0) := by rw [uK_ne (by omega), ← hD, uK_at]
  have I40 : I2 40 = I 40 := by rw [u2 40 (by omega), uA_ne (by omega)]
  have hs : ∀ p, p < 3 → 0 ≤ (I 40 p).toInt ∧ (I 40 p).toInt < (I 40 (p + 1)).toInt ∧ (I 40 (p + 1)).toInt ≤ W3.length := fun p hp => by
    rcases (show p = 0 ∨ p = 1 ∨ p = 2 by omega) with q | q | q
    · rw [q, s0, s1, ew1, z0]; omega
    · rw [q, s1, s2, ew1, ew2]; omega
    · rw [q, s2, s3, ew, ew2]; omega
  obtain ⟨kd', I', R', v1, v2, v3, v4, v5, v6, v7, v8, v9, v10, v11, v12, ⟨r2, r3, r4, r0, r1⟩, v13⟩ := g3_init (l0 := n) (l1 := n + 1) (n := n + 2) (kd := uK D (n + 1) (0, W3.length)) (I := I2) (R := uRA (uRA R n) (n + 1)) (f := I 40) (g := I 39) S2 ⟨hn, by omega, by rw [k0]⟩ ⟨by omega, by omega, by rw [k1], by rw [k1]; exact hl⟩ (by rw [k1]; exact hs) (fun p _ => by rw [I40]) (fun j hj => by rw [k1] at hj; rw [u3 j hj, uA_ne (by omega)])
  rw [k1] at v7
  refine ⟨kd', I', R', ?_, v2, fun a h => by rw [v3 a (by omega), kD a h], fun b h => by rw [v9 b (by omega), u2 b (by omega), uA_ne (by omega)], fun a h => by rw [v13 a (by omega) (by omega), uRA_ne (by omega), uRA_ne (by omega)], ⟨zKd_ok (by omega) (by omega) (by rw [v3 n (by omega), k0]), Or.inr ⟨hn, rfl, by rw [v3 (n + 1) (by omega), k1]⟩, by omega, v4, v5, v6, by rw [v7], by rw [v7]; exact hl, v8, r2, r3, r4, r0, r1⟩, v7, fun j hj => by rw [v10, u3 j hj, uA_ne (by omega)], by rw [v11, I40], v12⟩
  unfold f7_lastRead
  have x1 : (if (160 : Int32) < I 37 8 then (160 : Int32) else I 37 8) = Int32.ofNat W3.length := by rw [h8, if_neg (by rw [zlt_iff, ew, z160]; omega)]
  have x3 : (if (0 : Int32) < Int32.ofNat W3.length then Int32.ofNat W3.length else 0) = Int32.ofNat W3.length := if_pos (by rw [zlt_iff, ew, z0]; omega)
  rw [x1, zl_eq, x3, zl_eq, zl_eq, zl_eq, zl_eq, hD, if_pos (zSh_B SD), u1, zb_some]
  dsimp only
  rw [if_pos (zSh_B S2), v1, zb_some]
  dsimp only
  rw [if_pos (zSh_B v2)]
/-- what holds between calls, behind a text -/
theorem zC_text {n n' : Nat} {kd kd' : zMK} {I M : zMI} {R R' : zMR} {t c' : Nat} (hC : zC zT0 n kd I R) (ht : (I 81 11).toInt = (t : Int)) (hn : n ≤ n') (hS' : zSh n' kd') (hk : ∀ a, a < n → kd' a = kd a) (hb : ∀ b, b < n → b ≠ 32 → b ≠ 37 → b ≠ 39 → b ≠ 40 → b ≠ 81 → b ≠ 88 → b ≠ 89 → b ≠ 96 → M b = I b) (h32 : ∀ j, j ≠ 6 → M 32 j = I 32 j) (h81 : ∀ j, j ≠ 8 → j ≠ 11 → j < 22 → M 81 j = I 81 j) (h8 : M 81 8 = 0) (h1 : M 37 1 = 0) (h11 : M 32 6 = M 81 11) (hc : (M 81 11).toInt = (c' : Int)) (hc1 : t ≤ c') (hc6 : c' ≤ 6) (h88 : ∀ k, k < 200 * t → M 88 k = I 88 k) (h89 : ∀ k, k < 4 * t → M 89 k = I 89 k) (hR : ∀ a, a < n → a ≠ 36 → R' a = R a) (hR36 : ∀ i, i < t → R' 36 i = R 36 i) (hnew : ∀ t', t ≤ t' → t' < c' → ∃ L s, R' 36 t' = some L ∧ zLw n' kd' R' L s M M t') : zC zT0 n' kd' M R' := by
  obtain ⟨g1, g2, g3, g4, g5, g6, g7, t1, t2, t3⟩ := hC
  have hn1 := g1.1
  have r : ∀ b, b < n → b ≠ 32 → b ≠ 37 → b ≠ 39 → b ≠ 40 → b ≠ 81 → b ≠ 88 → b ≠ 89 → b ≠ 96 → M b = I b := hb
  obtain ⟨e1, e2, e3, e4, e5, r3, r2, r11, r12, r8⟩ := id g2
  refine ⟨hS', ?_, zCh_eq g3 (r _ (by omega) (by omega) (by omega) (by omega) (by omega) (by omega) (by omega) (by omega) (by omega)) (r _ (by omega) (by omega) (by omega) (by omega) (by omega) (by omega) (by omega) (by omega) (by omega)) (r _ (by omega) (by omega) (by omega) (by omega) (by omega) (by omega) (by omega) (by omega) (by omega)) (r _ (by omega) (by omega) (by omega) (by omega) (by omega) (by omega) (by omega) (by omega) (by omega)), fun k hk' => ?_, zCs_eq g5 (fun a x y => r _ (by omega) (by omega) (by omega) (by omega) (by omega) (by omega) (by omega) (by omega) (by omega)) (r _ (by omega) (by omega) (by omega) (by omega) (by omega) (by omega) (by omega) (by omega) (by omega)) (r _ (by omega) (by omega) (by omega) (by omega) (by omega) (by omega) (by omega) (by omega) (by omega)) (r _ (by omega) (by omega) (by omega) (by omega) (by omega) (by omega) (by omega) (by omega) (by omega)), ?_, fun i hi => ?_, ?_, ?_, ?_⟩
  · unfold zCn
    rw [h32 4 (by decide), h32 2 (by decide), h32 7 (by decide), h11, h81 3 (by decide) (by decide) (by decide), h81 2 (by decide) (by decide) (by decide), h81 12 (by decide) (by decide) (by decide), h8, h1, hc]
    exact ⟨e1, e2, rfl, e4, rfl, r3, r2, ⟨by omega, by omega⟩, ⟨by omega, by omega⟩, by decide⟩
  · rw [h8] at hk'
    exact absurd hk' (by rw [z0]; exact Nat.not_lt_zero k)
  · unfold zCi at g6 ⊢
    rw [h32 18 (by decide), h32 17 (by decide), h32 19 (by decide), h81 13 (by decide) (by decide) (by decide), h81 14 (by decide) (by decide) (by decide), h81 15 (by decide) (by decide) (by decide), h81 16 (by decide) (by decide) (by decide), h81 3 (by decide) (by decide) (by decide), hc, r 64 (by omega) (by omega) (by omega) (by omega) (by omega) (by omega) (by omega) (by omega) (by omega), r 65 (by omega) (by omega) (by omega) (by omega) (by omega) (by omega) (by omega) (by omega) (by omega), r 66 (by omega) (by omega) (by omega) (by omega) (by omega) (by omega) (by omega) (by omega) (by omega), r 90 (by omega) (by omega) (by omega) (by omega) (by omega) (by omega) (by omega) (by omega) (by omega)]
    rcases g6 with x | ⟨x1, x2, x3, x4, x5, x6, x7, x8⟩
    · exact Or.inl x
    · exact Or.inr ⟨x1, x2, x3, x4, x5, x6, ⟨x7.1, by omega⟩, x8⟩
  · rw [h81 3 (by decide) (by decide) (by decide)] at hi
    obtain ⟨a, q1, q2, q3, q4⟩ := g7 i hi
    refine ⟨a, by rw [hR 35 (by omega) (by decide)]; exact q1, q2, by omega, ?_⟩
    rw [hk a q3, r a q3 (by omega) (by omega) (by omega) (by omega) (by omega) (by omega) (by omega) (by omega), r 84 (by omega) (by omega) (by omega) (by omega) (by omega) (by omega) (by omega) (by omega) (by omega), r 85 (by omega) (by omega) (by omega) (by omega) (by omega) (by omega) (by omega) (by omega) (by omega), r 86 (by omega) (by omega) (by omega) (by omega) (by omega) (by omega) (by omega) (by omega) (by omega)]
    exact q4
  · intro h hh
    rw [r (46 + h) (by omega) (by omega) (by omega) (by omega) (by omega) (by omega) (by omega) (by omega) (by omega)]
    exact t1 h hh
  · intro j hj
    rw [r 95 (by omega) (by omega) (by omega) (by omega) (by omega) (by omega) (by omega) (by omega) (by omega)]
    exact t2 j hj
  · intro t' ht'
    by_cases old : t' < t
    · obtain ⟨L, s, y1, y2, y3⟩ := t3 t' (by omega)
      have hLb := zLo_big y2
      obtain ⟨f1, f2, f3, f4, f5, f6, f7, f8, f9, q2, q3, q4, q0, q1⟩ := y2
      have kL := zKdB_has f1
      have Ln : L < n := kL.2.1
      have rw' : ∀ i, 2 ≤ i → i ≤ 4 → M (s + i) = I (s + i) := fun i _ _ => r _ (by omega) (by omega) (by omega) (by omega) (by omega) (by omega) (by omega) (by omega) (by omega)
      have RL : R' L = R L := hR L Ln (by omega)
      refine ⟨L, s, by rw [hR36 t' old]; exact y1, ⟨zKd_ok kL.1 (by omega) (by rw [hk L Ln]; exact kL.2.2), ?_, by omega, by rw [hk s (by omega)]; exact f4, by rw [hk (s + 1) (by omega)]; exact f5, by rw [hk (s + 2) (by omega)]; exact f6, by rw [hk (s + 3) (by omega)]; exact f7, by rw [hk (s + 3) (by omega)]; exact f8, by rw [hk (s + 4) (by omega)]; exact f9, by rw [RL]; exact q2, by rw [RL]; exact q3, by rw [RL]; exact q4, by rw [RL]; exact q0, by rw [RL]; exact q1⟩, ?_⟩
      · rcases f2 with x | ⟨x1, x2, x3⟩
        · exact Or.inl x
        · exact Or.inr ⟨x1, x2, by rw [hk (L + 1) (by omega)]; exact x3⟩
      · rw [hk (s + 3) (by omega)]
        obtain ⟨m1, m2, m3, m4, m5, m6, m7, m8, m9⟩ := y3
        unfold zLx
        rw [rw' 2 (by decide) (by decide), rw' 3 (by decide) (by decide), rw' 4 (by decide) (by decide)]
        exact ⟨fun p hp => by rw [h89 _ (by omega)]; exact m1 p hp, m2, m3, m4, m5, m6, fun j hj => by rw [h88 _ (by omega)]; exact m7 j hj, m8, m9⟩
    · exact hnew t' (by omega) (by omega)
theorem zH4_ok : zH4 (zC zT0) := fun n kd I R hC => by
  obtain ⟨g1, g2, g3, g4, g5, g6, g7, t1, t2, t3⟩ := id hC
  obtain ⟨e1, e2, e3, e4, e5, r3, r2, r11, r12, r8⟩ := id g2
  have hn := g1.1
  obtain ⟨t, ht⟩ : ∃ t : Nat, (I 81 11).toInt = (t : Int) := ⟨(I 81 11).toInt.toNat, by omega⟩
  have o11 : I 81 11 = Int32.ofNat t := by rw [zeq_iff, ht, zofn_i (by omega)]
  by_cases c6 : t = 6
  · have x6 : I 32 6 = 6 := by rw [e3, zeq_iff, ht, c6]; rfl
    refine ⟨(-4, (n, kd), I, R), ?_, zSh_B g1, (-4, I), ?_, rfl, hC⟩
    · unfold f11_text
      rw [x6, if_neg (by decide), if_neg (by decide)]
    · have q : f12_text I = some (-4, I) := by
        unfold f12_text
        rw [← e3, x6, if_pos rfl]
      exact q
  have t5 : t ≤ 5 := by omega
  have o8 : I 81 8 = Int32.ofNat (I 81 8).toInt.toNat := (zofn r8.1).symm
  obtain ⟨fl, I1, u1, u2, u3⟩ := zread (T := I 87) (z := (I 81 8).toInt.toNat) (t := t) (I := I) (by omega) t5 (by rw [e5]; exact o8) (fun k hk => (g4 k hk).1) (fun k hk => (g4 k hk).2.1)
  have row1 : ∀ b, b ≠ 37 → b ≠ 39 → b ≠ 40 → I1 b = I b := u2.1
  have F : f11_text n kd I R = if fl = (-1 : Int32) then zb (f7_lastRead n kd (uI I1 37 1 0) R) fun p8 => if zShB p8.2.1.1 p8.2.1.2 = true then if zKdB p8.2.1.1 p8.2.1.2 p8.1 19 = true then zl (uR p8.2.2.2 36 t (some p8.1)) fun T13 => zl (uI p8.2.2.1 32 6 ((p8.2.2.1 32 6) + (1 : Int32))) fun J15 => some (((J15 32 6) - (1 : Int32)), (p8.2.1.1, p8.2.1.2), J15, T13) else none else none else some (((-100 : Int32) - fl), (n, kd), uI I1 37 1 0, R) := by
    have i326 : I1 32 6 = Int32.ofNat t := by rw [row1 32 (by decide) (by decide) (by decide), e3, o11]
    have et := zofn_i (m := t) (by omega)
    unfold f11_text
    rw [if_neg (by rw [zlt_iff, z0, e3]; omega), if_pos (by rw [zlt_iff, zn6i, e3]; omega), u1, zb_some]
    dsimp only
    rw [zl_eq]
    by_cases c : fl = -1
    · rw [if_pos c, if_pos c]
      congr 1
      funext p8
      by_cases c1 : zShB p8.2.1.1 p8.2.1.2 = true
      · rw [if_pos c1, if_pos c1]
        by_cases c2 : zKdB p8.2.1.1 p8.2.1.2 p8.1 19 = true
        · rw [if_pos c2, if_pos c2, uI_ne (show (32 : Nat) ≠ 37 by decide), i326, if_pos (zib_ok (by omega) (by omega)), zofn_n (by omega)]
        · rw [if_neg c2, if_neg c2]
      · rw [if_neg c1, if_neg c1]
    · rw [if_neg c, if_neg c]
  rcases u3 with ⟨c, W1, W2, W3, hG, h39, h8, s0, s1, s2, s3, ref⟩ | ⟨c, ref⟩
  · rw [if_pos c] at F
    obtain ⟨kd', I2, R2, v1, v2, v3, v4, v5, v6, v7, v8, v9, v10⟩ := g7_last (n := n) (kd := kd) (I := uI I1 37 1 0) (R := R) g1 hG (by rw [uI_off (by decide)]; exact h8) (by rw [uI_ne (by decide)]; exact s0) (by rw [uI_ne (by decide)]; exact s1) (by rw [uI_ne (by decide)]; exact s2) (by rw [uI_ne (by decide)]; exact s3)
    have e39 : uI I1 37 1 0 39 = I1 39 := uI_ne (by decide)
    have e40 : uI I1 37 1 0 40 = I1 40 := uI_ne (by decide)
    rw [e39] at v8 v10
    rw [e40] at v9 v10
    obtain ⟨N2, N3, f2, f3, d1, d2, d3, hw, hl⟩ := id hG
    have l1 := zds_1 d1
    have l2 := zds_1 d2
    have l3 := zds_1 d3
    have L2 : W2.length = N2.length + W1.length := by rw [f2, List.length_append]
    have L3 : W3.length = N3.length + W2.length := by rw [f3, List.length_append]
    have ew := zofn_i (m := W3.length) (by omega)
    have ew2 := zofn_i (m := W2.length) (by omega)
    have ew1 := zofn_i (m := W1.length) (by omega)
    have et := zofn_i (m := t) (by omega)
    obtain ⟨K, hK⟩ : ∃ K, uI I2 32 6 (I2 32 6 + 1) = K := ⟨_, rfl⟩
    have K_ne : ∀ b, b ≠ 32 → K b = I2 b := fun b hb => by rw [← hK, uI_ne hb]
    have I2r : ∀ b, b < n → b ≠ 37 → b ≠ 39 → b ≠ 40 → I2 b = I b := fun b x y z w => by rw [v4 b x, uI_ne y, row1 b y z w]
    have K326 : K 32 6 = Int32.ofNat (t + 1) := by rw [← hK, uI_at, I2r 32 (by omega) (by decide) (by decide) (by decide), e3, o11, zofs (by omega)]
    have Kr : ∀ b, b < n → b ≠ 32 → b ≠ 37 → b ≠ 39 → b ≠ 40 → K b = I b := fun b x x2 y z w => by rw [K_ne b x2, I2r b x y z w]
    obtain ⟨J', w1, w2, w3, w4, w5, w6, w7, w8, w9⟩ := ref K ⟨by rw [Kr 81 (by omega) (by decide) (by decide) (by decide) (by decide)]; exact o8, fun k hk => by rw [Kr 87 (by omega) (by decide) (by decide) (by decide) (by decide)], fun j hj => by rw [Kr 95 (by omega) (by decide) (by decide) (by decide) (by decide)]; exact t2 j hj, by rw [Kr 81 (by omega) (by decide) (by decide) (by decide) (by decide)]; exact o11⟩
    have Jn : ∀ b, n ≤ b → J' b = I2 b := fun b hb => by rw [w9.1 b (by omega) (by omega) (by omega) (by omega), K_ne b (by omega)]
    have e1' : Int32.ofNat (t + 1) - 1 = Int32.ofNat t := by rw [← zofs (by omega), zeq_iff, zsub (by rw [zadd (by rw [z1]; omega) (by rw [z1]; omega), z1]; omega) (by rw [zadd (by rw [z1]; omega) (by rw [z1]; omega), z1]; omega), zadd (by rw [z1]; omega) (by rw [z1]; omega), z1]; omega
    have C : zC zT0 (n + 7) kd' J' (uR R2 36 t (some n)) := by
      refine zC_text (t := t) (c' := t + 1) hC ht (by omega) v2 v3 (fun b x1 x2 x3 x4 x5 x6 x7 x8 x9 => by rw [w9.1 b x6 x7 x8 x9, Kr b x1 x2 x3 x4 x5]) (fun j hj => by rw [w9.1 32 (by decide) (by decide) (by decide) (by decide), ← hK, uI_off hj, I2r 32 (by omega) (by decide) (by decide) (by decide)]) (fun j x y z => by rw [w9.2.1 j x y z, Kr 81 (by omega) (by decide) (by decide) (by decide) (by decide)]) w2 ?_ (by rw [w9.1 32 (by decide) (by decide) (by decide) (by decide), K326, w3]) (by rw [w3]; exact zofn_i (by omega)) (by omega) (by omega) (fun k hk => by rw [w9.2.2.1 k hk, Kr 88 (by omega) (by decide) (by decide) (by decide) (by decide)]) (fun k hk => by rw [w9.2.2.2 k hk, Kr 89 (by omega) (by decide) (by decide) (by decide) (by decide)]) (fun a x y => by rw [uR_ne y, v5 a x]) (fun i hi => by rw [uR_off (by omega), v5 36 (by omega)]) (fun t' x y => ?_)
      · rw [w9.1 37 (by decide) (by decide) (by decide) (by decide), K_ne 37 (by decide), v4 37 (by omega), uI_at]
      · have et' : t' = t := by omega
        subst et'
        refine ⟨n, n + 2, uR_at, ?_, ?_⟩
        · have := v6
          unfold zLo at this ⊢
          rw [uR_ne (by omega)]
          exact this
        · have J6 : J' (n + 2 + 4) = I1 40 := by rw [Jn _ (by omega)]; exact v9
          have J5 : ∀ j, j < W3.length → J' (n + 2 + 3) j = I1 39 j := fun j hj => by rw [Jn _ (by omega)]; exact v8 j hj
          have J4 : ∀ p, p < 3 → J' (n + 2 + 2) p = zln (I1 40) (I1 39) p := fun p hp => by rw [Jn _ (by omega)]; exact v10 p hp
          have h5 : zhs (J' (n + 2 + 3)) 0 W3 := zhs_eq W3 (fun k _ hk => J5 k (by omega)) h39
          have v7' : (kd' (n + 2 + 3)).2 = W3.length := by rw [show n + 2 + 3 = n + 5 from rfl, v7]
          rw [v7']
          have bo := zhs_both (h := zw2c) W3 h5 w4
          refine ⟨fun p hp => ?_, ?_, ?_, ?_, ?_, ?_, fun j hj => ?_, fun p hp => ?_, fun p hp => ?_⟩
          · rw [J6]
            rcases (show p = 0 ∨ p = 1 ∨ p = 2 ∨ p = 3 by omega) with q | q | q | q
            · rw [q, s0, Nat.add_zero, w5]
            · rw [q, s1, w6]
            · rw [q, s2, w7]
            · rw [q, s3, w8]
          · rw [J6, s0]; decide
          · rw [J6, s0, s1, ew1, z0]; omega
          · rw [J6, s1, s2, ew1, ew2]; omega
          · rw [J6, s2, s3, ew, ew2]; omega
          · rw [J6, s3, ew]
          · obtain ⟨b1, b2⟩ := bo j hj
            exact ⟨hw _ b1, b2⟩
          · rw [J6]
            have a3 := h5
            rw [f3] at a3
            obtain ⟨a4, a5⟩ := zhs_app N3 a3
            rw [f2] at a5
            obtain ⟨a6, a7⟩ := zhs_app N2 a5
            rw [Nat.zero_add] at a4 a6
            rcases (show p = 0 ∨ p = 1 ∨ p = 2 by omega) with q | q | q
            · rw [q, s0, s1, ew1, z0]
              have := zdp_app W1 0 0 1 a7 d1 (show (1 : Nat) = 1 from rfl)
              rw [show ((W1.length : Nat) : Int).toNat - (0 : Int).toNat = W1.length + 0 by omega, show (0 : Int).toNat = 0 from rfl]
              exact this
            · rw [q, s1, s2, ew1, ew2]
              have := zdp_app N2 0 0 1 a6 d2 (show (1 : Nat) = 1 from rfl)
              rw [show ((W2.length : Nat) : Int).toNat - ((W1.length : Nat) : Int).toNat = N2.length + 0 by omega, show ((W1.length : Nat) : Int).toNat = W1.length by omega]
              exact this
            · rw [q, s2, s3, ew, ew2]
              have := zdp_app N3 0 0 1 a4 d3 (show (1 : Nat) = 1 from rfl)
              rw [show ((W3.length : Nat) : Int).toNat - ((W2.length : Nat) : Int).toNat = N3.length + 0 by omega, show ((W2.length : Nat) : Int).toNat = W2.length by omega]
              exact this
          · rw [J4 p hp, J6]
            unfold zln
            have lt : (I1 40 p).toInt.toNat < W3.length := by
              rcases (show p = 0 ∨ p = 1 ∨ p = 2 by omega) with q | q | q
              · rw [q, s0, z0]; omega
              · rw [q, s1, ew1]; omega
              · rw [q, s2, ew2]; omega
            rw [J5 _ lt]
    refine ⟨(Int32.ofNat t, (n + 7, kd'), K, uR R2 36 t (some n)), ?_, zSh_B v2, (Int32.ofNat t, J'), w1, rfl, C⟩
    rw [F, v1, zb_some]
    dsimp only
    rw [if_pos (zSh_B v2), if_pos v6.1, zl_eq, hK, zl_eq, K326, e1']
  · rw [if_neg c] at F
    have Kr : ∀ b, b ≠ 37 → b ≠ 39 → b ≠ 40 → uI I1 37 1 0 b = I b := fun b y z w => by rw [uI_ne y, row1 b y z w]
    obtain ⟨J', w1, w2, w3, w9⟩ := ref (uI I1 37 1 0) ⟨by rw [Kr 81 (by decide) (by decide) (by decide)]; exact o8, fun k hk => by rw [Kr 87 (by decide) (by decide) (by decide)], fun j hj => by rw [Kr 95 (by decide) (by decide) (by decide)]; exact t2 j hj, by rw [Kr 81 (by decide) (by decide) (by decide)]; exact o11⟩
    have C : zC zT0 n kd J' R := zC_text (t := t) (c' := t) hC ht (Nat.le_refl _) g1 (fun _ _ => rfl) (fun b x1 x2 x3 x4 x5 x6 x7 x8 x9 => by rw [w9.1 b x6 x7 x8 x9, Kr b x3 x4 x5]) (fun j hj => by rw [w9.1 32 (by decide) (by decide) (by decide) (by decide), Kr 32 (by decide) (by decide) (by decide)]) (fun j x y z => by rw [w9.2.1 j x y z, Kr 81 (by decide) (by decide) (by decide)]) w2 (by rw [w9.1 37 (by decide) (by decide) (by decide) (by decide), uI_at]) (by rw [w9.1 32 (by decide) (by decide) (by decide) (by decide), Kr 32 (by decide) (by decide) (by decide), e3, o11, w3]) (by rw [w3]; exact zofn_i (by omega)) (Nat.le_refl _) (by omega) (fun k hk => by rw [w9.2.2.1 k hk, Kr 88 (by decide) (by decide) (by decide)]) (fun k hk => by rw [w9.2.2.2 k hk, Kr 89 (by decide) (by decide) (by decide)]) (fun _ _ _ => rfl) (fun _ _ => rfl) (fun t' x y => by omega)
    exact ⟨(-100 - fl, (n, kd), uI I1 37 1 0, R), F, zSh_B g1, (-100 - fl, J'), w1, rfl, C⟩
