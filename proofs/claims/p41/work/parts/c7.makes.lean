/-! pure part: a programme is made -/
section
variable {sl : Nat} {sf : Nat → Int32} {J J2 : zMI} {h : zML} {c : Int} {e w : Nat} {t : Int32}
theorem y_makes (hL : sl ≤ 260) (R : yRel sl sf c w J h) (hw : w < (sMany sl sf).toInt.toNat) (ht : 0 ≤ t.toInt ∧ t.toInt ≤ 600) (hc : 0 ≤ c ∧ c ≤ 5000) (hJ : (if J 103 w = (9 : Int32) then f12_makes (Int32.ofNat w) t J else some J) = some J2) :
    ∃ h2, fL_lift_B180 sl sf (Int32.ofNat w) t h = some h2 ∧ yRel sl sf (c + 1) w J2 h2 ∧ (J2 103 w).toInt ≤ 8 ∧ zFJ J J2 ∧ (∀ b k, b = 100 ∨ b = 101 ∨ b = 102 → J2 b k = J b k) := by
  have my := s_many (sf := sf) hL
  have wt := s_want (sf := sf) hL
  have ew := zofn_i (m := w) (by omega)
  have nw := zofn_n (m := w) (by omega)
  obtain ⟨r1, r2, r3, r4, r5, r6⟩ := id R
  have H := r1 w hw
  rw [if_pos rfl] at H
  obtain ⟨w30, w35, w40, w45, w50, w55, w60, w8⟩ := H
  have b45 : zib ((45 : Int32) + Int32.ofNat w) 130 = true := tib 45 (by omega)
  have b50 : zib ((50 : Int32) + Int32.ofNat w) 130 = true := tib 50 (by omega)
  have b60 : zib ((60 : Int32) + Int32.ofNat w) 130 = true := tib 60 (by omega)
  have i45 : ((45 : Int32) + Int32.ofNat w).toNatClampNeg = 45 + w := tix 45 (by omega)
  have i50 : ((50 : Int32) + Int32.ofNat w).toNatClampNeg = 50 + w := tix 50 (by omega)
  have i60 : ((60 : Int32) + Int32.ofNat w).toNatClampNeg = 60 + w := tix 60 (by omega)
  have l0 : (0 : Int64).toInt = 0 := rfl
  have l1 : (1 : Int64).toInt = 1 := rfl
  have l9 : (9 : Int64).toInt = 9 := rfl
  have m5 : (sMany sl sf).toInt.toNat ≤ 5 := by omega
  by_cases has : (J 103 w).toInt = 9
  case neg =>
    rw [if_neg (by rw [zeq_iff, z9]; exact has)] at hJ
    have hJ' := Option.some.inj hJ
    refine ⟨h, ?_, ⟨fun w' hw' => ?_, fun k hk => yH_eq (r2 k hk) (by omega) (fun _ _ _ => by rw [hJ']) (fun _ _ => rfl), by rw [← hJ']; exact r3, r4, r5, by rw [← hJ']; exact r6⟩, by rw [← hJ']; have := w45.2; omega, by rw [← hJ']; exact zFJ_rfl, fun b k _ => by rw [hJ']⟩
    · unfold fL_lift_B180
      rw [if_pos b45, i45, if_neg (by rw [tl_cmpge, l9, w45.1]; have := w45.2; omega)]
    · have X := r1 w' hw'
      rw [← hJ']
      exact yW_eq X (by omega) (fun _ _ _ => rfl) (fun _ _ => rfl)
  case pos =>
    rw [if_pos (by rw [zeq_iff, z9]; exact has)] at hJ
    obtain ⟨g101, g104, g102, g103⟩ := r3
    obtain ⟨P, hP⟩ : ∃ P : Nat, (J 81 47).toInt = (P : Int) := ⟨(J 81 47).toInt.toNat, by have := g101.2.1; omega⟩
    have zw : zib (Int32.ofNat w) 5 = true := zib_ok (by omega) (by omega)
    unfold f12_makes at hJ
    rw [if_pos zw, nw] at hJ
    obtain ⟨gz, hJ⟩ := zgd hJ
    have P4 : P < 400 := by
      have := (zibT _ _).mp gz
      omega
    have nP : (J 81 47).toNatClampNeg = P := by rw [zcl_iff]; omega
    have P1 : (J 81 47 + 1).toInt = ((P + 1 : Nat) : Int) := by
      rw [zadd (by rw [z1]; omega) (by rw [z1]; omega), z1, hP]
      omega
    have hx8 : ∀ (K : zMI), K 81 47 = J 81 47 + 1 → K 81 2 = J 81 2 → (if K 81 47 = K 81 2 then t else K 81 48) = if J 81 47 + 1 = sWant sl sf then t else K 81 48 := fun K k1 k2 => by
      rw [k1, k2, r6.2.1]
    rw [zl_eq, zl_eq, zl_eq, zl_eq, zl_eq, zl_eq, zl_eq, nP] at hJ
    obtain ⟨K1, hK1⟩ : ∃ K, uI J 110 P (J 106 w) = K := ⟨_, rfl⟩
    rw [hK1] at hJ
    have a81 : K1 81 = J 81 := by rw [← hK1, uI_ne (by decide)]
    rw [a81] at hJ
    obtain ⟨K2, hK2⟩ : ∃ K, uI K1 81 47 (J 81 47 + 1) = K := ⟨_, rfl⟩
    rw [hK2] at hJ
    have a47 : K2 81 47 = J 81 47 + 1 := by rw [← hK2, uI_at]
    have a81o : ∀ k, k ≠ 47 → K2 81 k = J 81 k := fun k hk => by rw [← hK2, uI_off hk, a81]
    rw [hx8 K2 a47 (a81o 2 (by decide)), a81o 48 (by decide)] at hJ
    obtain ⟨x8, hx⟩ : ∃ x8 : Int32, (if J 81 47 + 1 = sWant sl sf then t else J 81 48) = x8 := ⟨_, rfl⟩
    rw [hx] at hJ
    have hJ' := (Option.some.inj hJ).symm
    have c110 : J2 110 = K1 110 := by rw [hJ', uI_ne (by decide), uI_ne (by decide), uI_ne (by decide), uI_ne (by decide), ← hK2, uI_ne (by decide)]
    have c81 : ∀ k, J2 81 k = if k = 48 then x8 else if k = 47 then J 81 47 + 1 else J 81 k := fun k => by
      rw [hJ', uI_ne (by decide), uI_ne (by decide), uI_ne (by decide)]
      by_cases q : k = 48
      · rw [if_pos q, q, uI_at]
      · rw [if_neg q, uI_off q]
        by_cases q2 : k = 47
        · rw [if_pos q2, q2, a47]
        · rw [if_neg q2, a81o k q2]
    have cr : ∀ b, b ≠ 110 → b ≠ 81 → b ≠ 104 → b ≠ 103 → b ≠ 106 → J2 b = J b := fun b x1 x2 x3 x4 x5 => by
      rw [hJ', uI_ne x5, uI_ne x4, uI_ne x3, uI_ne x2, ← hK2, uI_ne x2, ← hK1, uI_ne x1]
    have K2r : ∀ b, b ≠ 110 → b ≠ 81 → K2 b = J b := fun b x1 x2 => by rw [← hK2, uI_ne x2, ← hK1, uI_ne x1]
    have c104 : J2 104 w = J 104 w + 1 := by rw [hJ', uI_ne (by decide), uI_ne (by decide), uI_at, uI_ne (by decide), K2r 104 (by decide) (by decide)]
    have c104o : ∀ k, k ≠ w → J2 104 k = J 104 k := fun k hk => by rw [hJ', uI_ne (by decide), uI_ne (by decide), uI_off hk, uI_ne (by decide), K2r 104 (by decide) (by decide)]
    have c103 : J2 103 w = 0 := by rw [hJ', uI_ne (by decide), uI_at]
    have c103o : ∀ k, k ≠ w → J2 103 k = J 103 k := fun k hk => by rw [hJ', uI_ne (by decide), uI_off hk, uI_ne (by decide), uI_ne (by decide), K2r 103 (by decide) (by decide)]
    have c106 : J2 106 w = 0 := by rw [hJ', uI_at]
    have c106o : ∀ k, k ≠ w → J2 106 k = J 106 k := fun k hk => by rw [hJ', uI_off hk, uI_ne (by decide), uI_ne (by decide), uI_ne (by decide), K2r 106 (by decide) (by decide)]
    have cnt : ∀ v, zcnt (J2 110) v (P + 1) = zcnt (J 110) v P + if J 106 w = v then 1 else 0 := fun v => by
      show zcnt (J2 110) v P + (if J2 110 P = v then 1 else 0) = _
      rw [c110, ← hK1, uI_at, zcnt_eq v P (fun k hk => by rw [uI_off (by omega)])]
    have c47 : J2 81 47 = J 81 47 + 1 := by rw [c81, if_neg (by decide), if_pos rfl]
    have c48 : J2 81 48 = x8 := by rw [c81, if_pos rfl]
    have nP2 : (J 81 47).toInt.toNat = P := by omega
    rw [nP2] at g102 g103
    -- the law's row till the number
    obtain ⟨M, m1, m2, m102, m103⟩ : ∃ M : zML, fL_lift_B180 sl sf (Int32.ofNat w) t h = fL_lift_B247 sl sf (Int32.ofNat w) t M ∧ (∀ j, j < 110 → j ≠ 102 → j ≠ 103 → M j = h j) ∧ (M 102).toInt = (h 102).toInt + (if J 106 w = 1 then 1 else 0) ∧ (M 103).toInt = (h 103).toInt + (if J 106 w = 2 then 1 else 0) := by
      have z1e := zcnt_le (J 110) 1 P
      have z2e := zcnt_le (J 110) 2 P
      have e1 : (1 : Int32).toInt = 1 := rfl
      have e2 : (2 : Int32).toInt = 2 := rfl
      unfold fL_lift_B180
      rw [if_pos b45, i45, if_pos (by rw [tl_cmpge, l9, w45.1]; omega), if_pos b60, i60]
      by_cases s0 : (J 106 w).toInt = 0
      · rw [if_pos (by rw [tl_cmple, l0, w60.1]; omega)]
        exact ⟨h, rfl, fun _ _ _ _ => rfl, by rw [if_neg (by rw [zeq_iff, s0, e1]; decide)]; omega, by rw [if_neg (by rw [zeq_iff, s0, e2]; decide)]; omega⟩
      · have s12 : (J 106 w).toInt = 1 ∨ (J 106 w).toInt = 2 := by have := w60.2; omega
        have e101 : (h (101 : Int32).toNatClampNeg).toInt32 = J 81 47 := tl_eq32 g101.1
        have oP : J 81 47 = Int32.ofNat P := by rw [zeq_iff, hP, zofn_i (by omega)]
        have d60 : ((110 : Int32) + Int32.ofNat P / (60 : Int32)).toInt = ((110 + P / 60 : Nat) : Int) := by
          have e60 : (60 : Int32).toInt = 60 := rfl
          have e110 : (110 : Int32).toInt = 110 := rfl
          have eP := zofn_i (m := P) (by omega)
          have dd := zdiv (a := Int32.ofNat P) (b := 60) (by omega) (by decide)
          rw [e60, eP] at dd
          rw [zadd (by rw [e110, dd]; omega) (by rw [e110, dd]; omega), e110, dd]
          omega
        have n60 : ((110 : Int32) + Int32.ofNat P / (60 : Int32)).toNatClampNeg = 110 + P / 60 := by rw [zcl_iff, d60]; omega
        rw [if_neg (by rw [tl_cmple, l0, w60.1]; omega), if_pos (show zib (101 : Int32) 130 = true by decide), e101, oP, if_pos (zib_ok (by rw [d60]; omega) (by rw [d60]; omega)), n60, zl_eq]
        obtain ⟨X, hX⟩ : ∃ X, zuL h (110 + P / 60) (h (110 + P / 60) ||| (1 : Int64) <<< ((Int32.ofNat P - Int32.ofNat P / 60 * 60).toInt64 &&& 63)) = X := ⟨_, rfl⟩
        rw [hX]
        have Xj : ∀ j, j < 110 → X j = h j := fun j hj => by rw [← hX, zuL_ne (by omega)]
        have x60 : (X (60 + w)).toInt32 = J 106 w := by rw [Xj _ (by omega)]; exact tl_eq32 w60.1
        rw [x60]
        rcases s12 with s1 | s2
        · have j1 : J 106 w = 1 := by rw [zeq_iff, s1, e1]
          rw [j1, if_pos (by decide), show ((101 : Int32) + 1).toNatClampNeg = 102 from rfl, zl_eq, Xj 102 (by decide)]
          refine ⟨_, rfl, fun j y1 y2 y3 => by rw [zuL_ne y2, Xj j y1], ?_, ?_⟩
          · rw [zuL_at, if_pos rfl, zladd (by rw [l1, g102]; omega) (by rw [l1, g102]; omega), l1]
          · rw [zuL_ne (by decide), Xj 103 (by decide), if_neg (by decide)]
            omega
        · have j2 : J 106 w = 2 := by rw [zeq_iff, s2, e2]
          rw [j2, if_pos (by decide), show ((101 : Int32) + 2).toNatClampNeg = 103 from rfl, zl_eq, Xj 103 (by decide)]
          refine ⟨_, rfl, fun j y1 y2 y3 => by rw [zuL_ne y3, Xj j y1], ?_, ?_⟩
          · rw [zuL_ne (by decide), Xj 102 (by decide), if_neg (by decide)]
            omega
          · rw [zuL_at, if_pos rfl, zladd (by rw [l1, g103]; omega) (by rw [l1, g103]; omega), l1]
    -- the number, the hour
    have h101 : M 101 = h 101 := m2 101 (by decide) (by decide) (by decide)
    have q101 : (M 101 + 1).toInt = ((P + 1 : Nat) : Int) := by
      rw [h101, zladd (by rw [l1, g101.1]; omega) (by rw [l1, g101.1]; omega), l1, g101.1, hP]
      omega
    obtain ⟨N, n1, n2, n101, n104⟩ : ∃ N : zML, fL_lift_B247 sl sf (Int32.ofNat w) t M = fL_lift_B274 sl sf (Int32.ofNat w) N ∧ (∀ j, j ≠ 101 → j ≠ 104 → N j = M j) ∧ (N 101).toInt = ((P + 1 : Nat) : Int) ∧ (N 104).toInt = x8.toInt := by
      unfold fL_lift_B247
      rw [if_pos (show zib (101 : Int32) 130 = true by decide), zl_eq, wt.1, zb_some, show (101 : Int32).toNatClampNeg = 101 from rfl, zuL_at]
      rw [← hx]
      by_cases q : J 81 47 + 1 = sWant sl sf
      · rw [if_pos q, if_pos (by rw [tl_cmp0, q101, tl_32, ← q, P1]), if_pos (show zib (104 : Int32) 130 = true by decide), zl_eq, show (104 : Int32).toNatClampNeg = 104 from rfl]
        exact ⟨_, rfl, fun j y1 y2 => by rw [zuL_ne y2, zuL_ne y1], by rw [zuL_ne (by decide), zuL_at, q101], by rw [zuL_at, tl_32]⟩
      · rw [if_neg q, if_neg (by rw [tl_cmp0, q101, tl_32]; intro z; apply q; rw [zeq_iff, P1]; exact z)]
        exact ⟨_, rfl, fun j y1 y2 => by rw [zuL_ne y1], by rw [zuL_at, q101], by rw [zuL_ne (by decide), m2 104 (by decide) (by decide) (by decide)]; exact g104.1⟩
    have N50 : N (50 + w) = h (50 + w) := by rw [n2 _ (by omega) (by omega), m2 _ (by omega) (by omega) (by omega)]
    obtain ⟨h2, hh2⟩ : ∃ h2, zuL (zuL (zuL N (50 + w) (h (50 + w) + 1)) (45 + w) 0) (60 + w) 0 = h2 := ⟨_, rfl⟩
    have L : fL_lift_B180 sl sf (Int32.ofNat w) t h = some h2 := by
      rw [m1, n1]
      unfold fL_lift_B274
      rw [if_pos b50, zl_eq, i50, N50, if_pos b45, zl_eq, i45, if_pos b60, zl_eq, i60, hh2]
    have e50 : (h (50 + w) + 1).toInt = (J 104 w + 1).toInt ∧ (J 104 w + 1).toInt = (J 104 w).toInt + 1 := by
      have := w50.1; have := w50.2
      rw [zladd (by rw [l1]; omega) (by rw [l1]; omega), zadd (by rw [z1]; omega) (by rw [z1]; omega), l1, z1]
      omega
    have hr : ∀ j, j < 110 → j ≠ 102 → j ≠ 103 → j ≠ 101 → j ≠ 104 → j ≠ 50 + w → j ≠ 45 + w → j ≠ 60 + w → h2 j = h j := fun j x1 x2 x3 x4 x5 x6 x7 x8 => by
      rw [← hh2, zuL_ne x8, zuL_ne x7, zuL_ne x6, n2 j x4 x5, m2 j x1 x2 x3]
    have h50 : h2 (50 + w) = h (50 + w) + 1 := by rw [← hh2, zuL_ne (by omega), zuL_ne (by omega), zuL_at]
    have h45 : h2 (45 + w) = 0 := by rw [← hh2, zuL_ne (by omega), zuL_at]
    have h60 : h2 (60 + w) = 0 := by rw [← hh2, zuL_at]
    have hN : ∀ j, 100 < j → h2 j = N j := fun j hj => by rw [← hh2, zuL_ne (by omega), zuL_ne (by omega), zuL_ne (by omega)]
    refine ⟨h2, L, ⟨fun w' hw' => ?_, fun k hk => yH_eq (r2 k hk) (by omega) (fun b x1 x2 => by rw [cr b (by omega) (by omega) (by omega) (by omega) (by omega)]) (fun x hx' => ?_), ⟨?_, ?_, ?_, ?_⟩, yD_eq my.2.2 r4 (fun x hx' => hr x (by omega) (by omega) (by omega) (by omega) (by omega) (by omega) (by omega) (by omega)), fun z => ?_, zDef_fr r6 (fun b x1 x2 => cr b (by omega) (by omega) (by omega) (by omega) (by omega)) (by rw [c81]; rfl) (by rw [c81]; rfl) (by rw [c81]; rfl)⟩, by rw [c103]; decide, ⟨fun b x1 x2 => cr b (by omega) x1 (by omega) (by omega) (by omega), fun j hj => by rw [c81, if_neg (by omega), if_neg (by omega)]⟩, fun b k hb => by rw [cr b (by omega) (by omega) (by omega) (by omega) (by omega)]⟩
    · have X := r1 w' hw'
      by_cases q : w' = w
      · subst q
        rw [if_pos rfl]
        unfold yW yq
        rw [cr 100 (by decide) (by decide) (by decide) (by decide) (by decide), cr 101 (by decide) (by decide) (by decide) (by decide) (by decide), cr 102 (by decide) (by decide) (by decide) (by decide) (by decide), cr 105 (by decide) (by decide) (by decide) (by decide) (by decide), c103, c104, c106, h45, h50, h60, hr (30 + w') (by omega) (by omega) (by omega) (by omega) (by omega) (by omega) (by omega) (by omega), hr (35 + w') (by omega) (by omega) (by omega) (by omega) (by omega) (by omega) (by omega) (by omega), hr (40 + w') (by omega) (by omega) (by omega) (by omega) (by omega) (by omega) (by omega) (by omega), hr (55 + w') (by omega) (by omega) (by omega) (by omega) (by omega) (by omega) (by omega) (by omega)]
        have y5 := w50.2
        have y6 := w55.2
        exact ⟨w30, w35, w40, by decide, ⟨e50.1, by omega, by omega⟩, ⟨w55.1, w55.2.1, by omega⟩, by decide, fun z => absurd z (by decide)⟩
      · rw [if_neg q] at X ⊢
        refine yW_eq X (by omega) (fun b x1 x2 => ?_) (fun x hx' => ?_)
        · by_cases y1 : b = 103
          · rw [y1, c103o w' q]
          · by_cases y2 : b = 104
            · rw [y2, c104o w' q]
            · by_cases y3 : b = 106
              · rw [y3, c106o w' q]
              · rw [cr b (by omega) (by omega) y2 y1 y3]
        · simp only [List.mem_cons, List.not_mem_nil, or_false] at hx'
          exact hr (x + w') (by omega) (by omega) (by omega) (by omega) (by omega) (by omega) (by omega) (by omega)
    · simp only [List.mem_cons, List.not_mem_nil, or_false] at hx'
      exact hr (x + k) (by omega) (by omega) (by omega) (by omega) (by omega) (by omega) (by omega) (by omega)
    · unfold yq
      rw [hN 101 (by decide), n101, c47, P1]
      exact ⟨rfl, by omega, by omega⟩
    · unfold yq
      rw [hN 104 (by decide), n104, c48]
      have := g104.2
      refine ⟨rfl, ?_⟩
      rw [← hx]
      split <;> omega
    · rw [hN 102 (by decide), n2 102 (by decide) (by decide), m102, g102, c47, P1, Int.toNat_natCast, cnt 1]
      split <;> omega
    · rw [hN 103 (by decide), n2 103 (by decide) (by decide), m103, g103, c47, P1, Int.toNat_natCast, cnt 2]
      split <;> omega
    · rw [hr 100 (by decide) (by decide) (by decide) (by decide) (by decide) (by omega) (by omega) (by omega)] at z
      have base := r5 z
      have g1 := y_heldup (h := h) (h1 := h2) (m := (sMany sl sf).toInt.toNat) (d := 0) hw m5 (fun i hi hn => ⟨hr _ (by omega) (by omega) (by omega) (by omega) (by omega) (by omega) (by omega) (by omega), hr _ (by omega) (by omega) (by omega) (by omega) (by omega) (by omega) (by omega) (by omega)⟩) (by
        rw [h50, h45, e50.1, e50.2, w45.1, has, w50.1, l0]
        omega)
      have g2 := y_goneup (h := h) (h1 := h2) (a := 0) (d := 0) (by decide) (fun i hi => hr _ (by omega) (by omega) (by omega) (by omega) (by omega) (by omega) (by omega) (by omega)) (fun i hi hn => hr _ (by omega) (by omega) (by omega) (by omega) (by omega) (by omega) (by omega) (by omega)) (by
        rw [hr (70 + 0) (by omega) (by omega) (by omega) (by omega) (by omega) (by omega) (by omega) (by omega)]
        omega)
      rw [g1, g2]
      omega
end
