/-! pure part: one lifts -/
theorem zuL_at {h : zML} {k : Nat} {x : Int64} : zuL h k x k = x := if_pos rfl
theorem zuL_ne {h : zML} {k j : Nat} {x : Int64} (q : j ≠ k) : zuL h k x j = h j := if_neg q
theorem tl_or (x : Int64) : ∀ a, a < 9 → ¬ (x ||| ((1 : Int64) <<< ((Int32.ofNat a).toInt64 &&& 63))).toInt = 0 := by
  intro a ha q
  have e : x ||| ((1 : Int64) <<< ((Int32.ofNat a).toInt64 &&& 63)) = 0 := Int64.toInt_inj.mp q
  have e2 : x.toBitVec ||| ((1 : Int64) <<< ((Int32.ofNat a).toInt64 &&& 63)).toBitVec = 0#64 := congrArg Int64.toBitVec e
  have e3 := (BitVec.or_eq_zero_iff.mp e2).2
  have n : ∀ a, a < 9 → ¬ ((1 : Int64) <<< ((Int32.ofNat a).toInt64 &&& 63)).toBitVec = 0#64 := by decide +kernel
  exact n a ha e3
section
variable {sl : Nat} {sf : Nat → Int32} {J : zMI} {h : zML} {c : Int} {e w : Nat} {t : Int32}
theorem y_heldup {h1 : zML} {m w : Nat} {d : Int} (hw : w < m) (hm : m ≤ 5) (e1 : ∀ i, i < m → i ≠ w → h1 (50 + i) = h (50 + i) ∧ h1 (45 + i) = h (45 + i)) (e2 : 9 * (h1 (50 + w)).toInt + (h1 (45 + w)).toInt = 9 * (h (50 + w)).toInt + (h (45 + w)).toInt + d) : yheld h1 m = yheld h m + d := by
  unfold yheld
  rw [ysum_up (w := w) (f := fun w => 9 * (h (50 + w)).toInt + (h (45 + w)).toInt) m hw (fun i hi hn => by rw [(e1 i hi hn).1, (e1 i hi hn).2])]
  omega
theorem y_goneup {h1 : zML} {a : Nat} {d : Int} (ha : a < 9) (e0 : ∀ i, i < 9 → h1 i = h i) (e1 : ∀ i, i < 9 → i ≠ a → h1 (70 + i) = h (70 + i)) (e2 : (h1 (70 + a)).toInt = (h (70 + a)).toInt - d) : ygone h1 = ygone h + d := by
  unfold ygone
  rw [ysum_up (w := a) (f := fun k => (h k).toInt - (h (70 + k)).toInt) 9 ha (fun i hi hn => by rw [e0 i hi, e1 i hi hn])]
  rw [e0 a ha]
  omega
theorem y_lifts (hL : sl ≤ 260) (R : yRel sl sf c w J h) (h8 : (J 103 w).toInt ≤ 8) (hw : w < (sMany sl sf).toInt.toNat) (ht : 0 ≤ t.toInt ∧ t.toInt ≤ 600) (hc : 0 ≤ c ∧ c ≤ 5000) :
    ∃ J1 h1, f12_lifts (Int32.ofNat w) t J = some J1 ∧ fL_lift sl sf (Int32.ofNat w) t h = fL_lift_B180 sl sf (Int32.ofNat w) t h1 ∧ yRel sl sf (c + 1) w J1 h1 ∧ zFJ J J1 ∧ (∀ b k, b = 100 ∨ b = 101 ∨ b = 102 → J1 b k = J b k) := by
  have my := s_many (sf := sf) hL
  have ew := zofn_i (m := w) (by omega)
  have nw := zofn_n (m := w) (by omega)
  obtain ⟨r1, r2, r3, r4, r5, r6⟩ := id R
  have H := r1 w hw
  rw [if_pos rfl] at H
  obtain ⟨w30, w35, w40, w45, w50, w55, w60, w8⟩ := H
  obtain ⟨a, ea⟩ : ∃ a : Nat, (J 100 w).toInt = (a : Int) := ⟨(J 100 w).toInt.toNat, by have := w30.2.1; omega⟩
  have ha : a < 9 := by have := w30.2.2; omega
  have xa : J 100 w = Int32.ofNat a := by rw [zeq_iff, ea, zofn_i (by omega)]
  have eai := zofn_i (m := a) (by omega)
  have na := zofn_n (m := a) (by omega)
  obtain ⟨q70, q80, q90⟩ := r2 a ha
  have st := r4.1 a ha
  have sk := s_stick (sf := sf) hL ha
  have j83 : J 83 a = sStick sl sf a := (r6.1 a ha).2
  have x47 : (h ((30 : Int32) + Int32.ofNat w).toNatClampNeg).toInt32 = Int32.ofNat a := by
    rw [show ((30 : Int32) + Int32.ofNat w).toNatClampNeg = 30 + w from tix 30 (by omega), ← xa]
    exact tl_eq32 w30.1
  have b30 : zib ((30 : Int32) + Int32.ofNat w) 130 = true := tib 30 (by omega)
  have b45 : zib ((45 : Int32) + Int32.ofNat w) 130 = true := tib 45 (by omega)
  have b60 : zib ((60 : Int32) + Int32.ofNat w) 130 = true := tib 60 (by omega)
  have b70 : zib ((70 : Int32) + Int32.ofNat a) 130 = true := tib 70 (by omega)
  have b80 : zib ((80 : Int32) + Int32.ofNat a) 130 = true := tib 80 (by omega)
  have b90 : zib ((90 : Int32) + Int32.ofNat a) 130 = true := tib 90 (by omega)
  have b9 : zib ((9 : Int32) + Int32.ofNat a) 130 = true := tib 9 (by omega)
  have i45 : ((45 : Int32) + Int32.ofNat w).toNatClampNeg = 45 + w := tix 45 (by omega)
  have i60 : ((60 : Int32) + Int32.ofNat w).toNatClampNeg = 60 + w := tix 60 (by omega)
  have i70 : ((70 : Int32) + Int32.ofNat a).toNatClampNeg = 70 + a := tix 70 (by omega)
  have i80 : ((80 : Int32) + Int32.ofNat a).toNatClampNeg = 80 + a := tix 80 (by omega)
  have i90 : ((90 : Int32) + Int32.ofNat a).toNatClampNeg = 90 + a := tix 90 (by omega)
  have i9 : ((9 : Int32) + Int32.ofNat a).toNatClampNeg = 9 + a := tix 9 (by omega)
  have l0 : (0 : Int64).toInt = 0 := rfl
  have l1 : (1 : Int64).toInt = 1 := rfl
  have l2 : (2 : Int64).toInt = 2 := rfl
  have zw : zib (Int32.ofNat w) 5 = true := zib_ok (by omega) (by omega)
  have za : zib (Int32.ofNat a) 9 = true := zib_ok (by omega) (by omega)
  have e45 : (h (45 + w) + (1 : Int64)).toInt = (J 103 w).toInt + 1 := by
    have := w45.1; have := w45.2
    rw [zladd (by rw [l1]; omega) (by rw [l1]; omega), l1]
    omega
  have e103 : (J 103 w + 1).toInt = (J 103 w).toInt + 1 := by
    have := w45.2
    rw [zadd (by rw [z1]; omega) (by rw [z1]; omega), z1]
  obtain ⟨J25, hJ25⟩ : ∃ K, uI J 103 w (J 103 w + 1) = K := ⟨_, rfl⟩
  obtain ⟨J50, hJ50⟩ : ∃ K, zuL h (45 + w) (h (45 + w) + 1) = K := ⟨_, rfl⟩
  have K25 : ∀ b, b ≠ 103 → J25 b = J b := fun b hb => by rw [← hJ25, uI_ne hb]
  have K25w : J25 103 w = J 103 w + 1 := by rw [← hJ25, uI_at]
  have K25o : ∀ k, k ≠ w → J25 103 k = J 103 k := fun k hk => by rw [← hJ25, uI_off hk]
  have H50 : ∀ j, j ≠ 45 + w → J50 j = h j := fun j hj => by rw [← hJ50, zuL_ne hj]
  have H50w : J50 (45 + w) = h (45 + w) + 1 := by rw [← hJ50, zuL_at]
  have q45 : ∀ x : Int64, x = h (45 + w) + 1 → yq x (J 103 w + 1) 0 9 := fun x hx => by
    have := w45.2
    unfold yq
    rw [hx, e45, e103]
    omega
  have F : f12_lifts (Int32.ofNat w) t J = if J25 107 a = (0 : Int32) then zl (uI J25 81 45 ((J25 81 45) ||| ((1 : Int32) <<< (Int32.ofNat a &&& 31)))) fun J37 => zl (uI J37 106 w (2 : Int32)) fun J39 => some (J39) else zl (uI J25 108 a (J25 108 a + (1 : Int32))) fun J29 => if J29 83 a = (0 : Int32) then f12_lifts_B101 (Int32.ofNat w) t (Int32.ofNat a) J29 else if J29 107 a < (2 : Int32) then f12_lifts_B101 (Int32.ofNat w) t (Int32.ofNat a) J29 else zb (f12_within (J29 83 a) (1 : Int32) (9 : Int32)) fun p33 => if ¬ p33 = (0 : Int32) then if (J29 108 a - J29 108 a / p33 * p33) = (0 : Int32) then f12_lifts_B102 (Int32.ofNat w) t (Int32.ofNat a) (1 : Int32) J29 else f12_lifts_B101 (Int32.ofNat w) t (Int32.ofNat a) J29 else none := by
    unfold f12_lifts
    rw [if_pos zw, zl_eq, nw, xa, if_pos za, na, hJ25]
  have G : fL_lift sl sf (Int32.ofNat w) t h = if (lg_cmp (J50 (70 + a)) (0 : Int64)) = (0 : Int32) then zl (zuL J50 100 ((J50 100) ||| ((1 : Int64) <<< ((Int32.ofNat a).toInt64 &&& 63)))) fun J63 => zl (zuL J63 (60 + w) (2 : Int64)) fun J66 => fL_lift_B180 sl sf (Int32.ofNat w) t J66 else zl (zuL J50 (80 + a) (J50 (80 + a) + (1 : Int64))) fun J55 => if (lg_cmp (J55 (9 + a)) (0 : Int64)) ≤ (0 : Int32) then fL_lift_B113 sl sf (Int32.ofNat w) t (Int32.ofNat a) J55 else if ¬ J55 (9 + a) = (0 : Int64) then if (lg_cmp (J55 (80 + a) - J55 (80 + a) / J55 (9 + a) * J55 (9 + a)) (0 : Int64)) = (0 : Int32) then if (lg_cmp (J55 (70 + a)) (1 : Int64)) ≤ (0 : Int32) then fL_lift_B113 sl sf (Int32.ofNat w) t (Int32.ofNat a) J55 else fL_lift_B114 sl sf (Int32.ofNat w) t (Int32.ofNat a) (1 : Int32) J55 else fL_lift_B113 sl sf (Int32.ofNat w) t (Int32.ofNat a) J55 else none := by
    unfold fL_lift
    rw [if_pos b30, zl_eq, x47, if_pos b45, zl_eq, i45, hJ50, if_pos b70, i70, if_pos (show zib (100 : Int32) 130 = true by decide)]
    simp only [b60, b80, b9, if_true, i80, i9, i60]
    rfl
  have t70 : J50 (70 + a) = h (70 + a) := H50 _ (by omega)
  by_cases tall : (J 107 a).toInt = 0
  · have c1 : J25 107 a = 0 := by rw [K25 107 (by decide), zeq_iff, tall, z0]
    have c2 : lg_cmp (J50 (70 + a)) 0 = 0 := by rw [tl_cmp0, t70, q70.1, tall, l0]
    rw [if_pos c1, zl_eq, zl_eq] at F
    rw [if_pos c2, zl_eq, zl_eq] at G
    refine ⟨_, _, F, G, y_step (a := a) my.2.2 R hw ha (fun b k x1 x2 x3 => ?_) (fun j x1 x2 x3 x4 x5 x6 => ?_) ?_ ?_ ?_ ?_ ?_ ?_, ⟨fun b x1 x2 => ?_, fun j hj => ?_⟩, fun b k hb => ?_⟩
    · by_cases y1 : b = 106
      · subst y1
        rw [uI_off (by omega), uI_ne (by decide), K25 106 (by decide)]
      rw [uI_ne y1]
      by_cases y2 : b = 81
      · subst y2
        rw [uI_off (by omega), K25 81 (by decide)]
      rw [uI_ne y2]
      by_cases y3 : b = 103
      · subst y3
        rw [K25o k (by omega)]
      rw [K25 b y3]
    · rw [zuL_ne x2, zuL_ne x6, H50 j x1]
    · rw [zuL_ne (by omega), zuL_ne (by omega), H50w, uI_ne (by decide), uI_ne (by decide), K25w]
      exact q45 _ rfl
    · rw [zuL_at, uI_at]
      unfold yq
      decide
    · rw [zuL_ne (by omega), zuL_ne (by omega), t70, uI_ne (by decide), uI_ne (by decide), K25 107 (by decide)]
      exact q70
    · rw [zuL_ne (by omega), zuL_ne (by omega), H50 _ (by omega), uI_ne (by decide), uI_ne (by decide), K25 108 (by decide)]
      exact ⟨q80.1, q80.2.1, by have := q80.2.2; omega⟩
    · rw [zuL_ne (by omega), zuL_ne (by omega), H50 _ (by omega), uI_ne (by decide), uI_ne (by decide), K25 109 (by decide)]
      exact q90
    · intro z
      rw [zuL_ne (by omega), zuL_at] at z
      exact absurd z (tl_or _ a ha)
    · rw [uI_ne (by omega), uI_ne (by omega), K25 b (by omega)]
    · rw [uI_ne (by decide), uI_off (by omega), K25 81 (by decide)]
    · rw [uI_ne (by omega), uI_ne (by omega), K25 b (by omega)]
  -- the heap isn't empty
  have tpos : 1 ≤ (J 107 a).toInt := by have := q70.2.1; omega
  have c1 : ¬ J25 107 a = 0 := by rw [K25 107 (by decide), zeq_iff, z0]; exact tall
  have c2 : ¬ lg_cmp (J50 (70 + a)) 0 = 0 := by rw [tl_cmp0, t70, q70.1, l0]; exact tall
  obtain ⟨J29, hJ29⟩ : ∃ K, uI J25 108 a (J25 108 a + 1) = K := ⟨_, rfl⟩
  obtain ⟨J55, hJ55⟩ : ∃ K, zuL J50 (80 + a) (J50 (80 + a) + 1) = K := ⟨_, rfl⟩
  rw [if_neg c1, hJ29, zl_eq] at F
  rw [if_neg c2, hJ55, zl_eq] at G
  have K29 : ∀ b, b ≠ 103 → b ≠ 108 → J29 b = J b := fun b x1 x2 => by rw [← hJ29, uI_ne x2, K25 b x1]
  have K29w : J29 103 = J25 103 := by rw [← hJ29, uI_ne (by decide)]
  have K29a : J29 108 a = J 108 a + 1 := by rw [← hJ29, uI_at, K25 108 (by decide)]
  have K29o : ∀ k, k ≠ a → J29 108 k = J 108 k := fun k hk => by rw [← hJ29, uI_off hk, K25 108 (by decide)]
  have H55 : ∀ j, j ≠ 45 + w → j ≠ 80 + a → J55 j = h j := fun j x1 x2 => by rw [← hJ55, zuL_ne x2, H50 j x1]
  have H55w : J55 (45 + w) = h (45 + w) + 1 := by rw [← hJ55, zuL_ne (by omega), H50w]
  have H55a : J55 (80 + a) = h (80 + a) + 1 := by rw [← hJ55, zuL_at, H50 _ (by omega)]
  have e108 : (J 108 a + 1).toInt = (J 108 a).toInt + 1 := by
    have := q80.2
    rw [zadd (by rw [z1]; omega) (by rw [z1]; omega), z1]
  have e80 : (h (80 + a) + 1).toInt = (J 108 a).toInt + 1 := by
    have := q80.1; have := q80.2
    rw [zladd (by rw [l1]; omega) (by rw [l1]; omega), l1]
    omega
  have h70 : J55 (70 + a) = h (70 + a) := H55 _ (by omega) (by omega)
  have h9 : J55 (9 + a) = h (9 + a) := H55 _ (by omega) (by omega)
  have h60 : J55 (60 + w) = h (60 + w) := H55 _ (by omega) (by omega)
  -- what both come to: s0 tells whether two went
  have both : ∀ (x : Nat) (x3 : Int32) (y3 : Int64) (x11 : Int32) (k60 : Int64), x3.toInt = (x : Int) → y3.toInt = (x : Int) → (x = 1 ∨ x = 2) → (x : Int) ≤ (J 107 a).toInt → yq k60 x11 0 2 →
      (f12_lifts (Int32.ofNat w) t J = some (uI (uI (uI J29 107 a (J 107 a - x3)) 106 w x11) 109 a (if J 107 a - x3 = 0 then t else J 109 a))) →
      (fL_lift sl sf (Int32.ofNat w) t h = fL_lift_B159 sl sf (Int32.ofNat w) t (Int32.ofNat a) (zuL (zuL J55 (70 + a) (h (70 + a) - y3)) (60 + w) k60) ∨ (k60 = h (60 + w) ∧ fL_lift sl sf (Int32.ofNat w) t h = fL_lift_B159 sl sf (Int32.ofNat w) t (Int32.ofNat a) (zuL J55 (70 + a) (h (70 + a) - y3)))) →
      ∃ J1 h1, f12_lifts (Int32.ofNat w) t J = some J1 ∧ fL_lift sl sf (Int32.ofNat w) t h = fL_lift_B180 sl sf (Int32.ofNat w) t h1 ∧ yRel sl sf (c + 1) w J1 h1 ∧ zFJ J J1 ∧ (∀ b k, b = 100 ∨ b = 101 ∨ b = 102 → J1 b k = J b k) := fun x x3 y3 x11 k60 ex ey hx12 hxt q60 f g => by
    have e107 : (J 107 a - x3).toInt = (J 107 a).toInt - x := by
      have := q70.2
      rw [zsub (by rw [ex]; omega) (by rw [ex]; omega), ex]
    have e70 : (h (70 + a) - y3).toInt = (J 107 a).toInt - x := by
      have := q70.1; have := q70.2
      rw [zlsub (by rw [ey]; omega) (by rw [ey]; omega), ey]
      omega
    -- the row behind 60 + w
    obtain ⟨M, hM1, hM2, hM60, hM70⟩ : ∃ M : zML, fL_lift sl sf (Int32.ofNat w) t h = fL_lift_B159 sl sf (Int32.ofNat w) t (Int32.ofNat a) M ∧ (∀ j, j ≠ 45 + w → j ≠ 60 + w → j ≠ 70 + a → j ≠ 80 + a → M j = h j) ∧ M (60 + w) = k60 ∧ (M (70 + a) = h (70 + a) - y3 ∧ M (45 + w) = h (45 + w) + 1 ∧ M (80 + a) = h (80 + a) + 1) := by
      rcases g with g | ⟨g0, g⟩
      · refine ⟨_, g, fun j y1 y2 y3 y4 => ?_, zuL_at, ?_, ?_, ?_⟩
        · rw [zuL_ne y2, zuL_ne y3, H55 j y1 y4]
        · rw [zuL_ne (by omega), zuL_at]
        · rw [zuL_ne (by omega), zuL_ne (by omega), H55w]
        · rw [zuL_ne (by omega), zuL_ne (by omega), H55a]
      · refine ⟨_, g, fun j y1 y2 y3 y4 => ?_, ?_, ?_, ?_, ?_⟩
        · rw [zuL_ne y3, H55 j y1 y4]
        · rw [zuL_ne (by omega), h60, g0]
        · rw [zuL_at]
        · rw [zuL_ne (by omega), H55w]
        · rw [zuL_ne (by omega), H55a]
    obtain ⟨hM70, hM45, hM80⟩ := hM70
    obtain ⟨N, hN1, hN2, hN90⟩ : ∃ N : zML, fL_lift_B159 sl sf (Int32.ofNat w) t (Int32.ofNat a) M = fL_lift_B180 sl sf (Int32.ofNat w) t N ∧ (∀ j, j ≠ 90 + a → N j = M j) ∧ (N (90 + a)).toInt = if (J 107 a).toInt - x = 0 then t.toInt else (h (90 + a)).toInt := by
      unfold fL_lift_B159
      rw [if_pos b70, i70, hM70]
      by_cases q : (J 107 a).toInt - x = 0
      · rw [if_pos (by rw [tl_cmp0, e70, q, l0]), if_pos b90, zl_eq, i90]
        exact ⟨_, rfl, fun j hj => zuL_ne hj, by rw [zuL_at, tl_32, if_pos q]⟩
      · rw [if_neg (by rw [tl_cmp0, e70, l0]; exact q)]
        exact ⟨_, rfl, fun j _ => rfl, by rw [hM2 (90 + a) (by omega) (by omega) (by omega) (by omega), if_neg q]⟩
    refine ⟨_, N, f, by rw [hM1, hN1], y_step (a := a) my.2.2 R hw ha (fun b k x1 x2 x3 => ?_) (fun j x1 x2 x3 x4 x5 x6 => ?_) ?_ ?_ ?_ ?_ ?_ ?_, ⟨fun b x1 x2 => ?_, fun j hj => ?_⟩, fun b k hb => ?_⟩
    · by_cases y1 : b = 109
      · subst y1
        rw [uI_off (by omega), uI_ne (by decide), uI_ne (by decide), K29 109 (by decide) (by decide)]
      rw [uI_ne y1]
      by_cases y2 : b = 106
      · subst y2
        rw [uI_off (by omega), uI_ne (by decide), K29 106 (by decide) (by decide)]
      rw [uI_ne y2]
      by_cases y3 : b = 107
      · subst y3
        rw [uI_off (by omega), K29 107 (by decide) (by decide)]
      rw [uI_ne y3]
      by_cases y4 : b = 108
      · subst y4
        rw [K29o k (by omega)]
      by_cases y5 : b = 103
      · subst y5
        rw [K29w, K25o k (by omega)]
      rw [K29 b y5 y4]
    · rw [hN2 j x5, hM2 j x1 x2 x3 x4]
    · rw [hN2 _ (by omega), hM45, uI_ne (by decide), uI_ne (by decide), uI_ne (by decide), K29w, K25w]
      exact q45 _ rfl
    · rw [hN2 _ (by omega), hM60, uI_ne (by decide), uI_at]
      exact q60
    · rw [hN2 _ (by omega), hM70, uI_ne (by decide), uI_ne (by decide), uI_at]
      have := q70.2
      exact ⟨by rw [e70, e107], by omega, by omega⟩
    · rw [hN2 _ (by omega), hM80, uI_ne (by decide), uI_ne (by decide), uI_ne (by decide), K29a]
      have := q80.2
      exact ⟨by rw [e80, e108], by omega, by omega⟩
    · rw [uI_at]
      have := q90.2; have := q90.1
      unfold yq
      rw [hN90]
      by_cases q : (J 107 a).toInt - x = 0
      · rw [if_pos q, if_pos (by rw [zeq_iff, e107, q, z0])]
        omega
      · rw [if_neg q, if_neg (by rw [zeq_iff, e107, z0]; exact q)]
        omega
    · intro z
      rw [hN2 100 (by omega), hM2 100 (by omega) (by omega) (by omega) (by omega)] at z
      have base := r5 z
      have g1 := y_heldup (h := h) (h1 := N) (m := (sMany sl sf).toInt.toNat) (d := 1) hw (by omega) (fun i hi hn => ⟨by rw [hN2 _ (by omega), hM2 _ (by omega) (by omega) (by omega) (by omega)], by rw [hN2 _ (by omega), hM2 _ (by omega) (by omega) (by omega) (by omega)]⟩) (by
        rw [hN2 (50 + w) (by omega), hM2 (50 + w) (by omega) (by omega) (by omega) (by omega), hN2 (45 + w) (by omega), hM45, e45]
        have := w45.1
        omega)
      have g2 := y_goneup (h := h) (h1 := N) (a := a) (d := (x : Int)) ha (fun i hi => by rw [hN2 _ (by omega), hM2 _ (by omega) (by omega) (by omega) (by omega)]) (fun i hi hn => by rw [hN2 _ (by omega), hM2 _ (by omega) (by omega) (by omega) (by omega)]) (by
        rw [hN2 (70 + a) (by omega), hM70, e70]
        have := q70.1
        omega)
      rw [g1, g2]
      omega
    · rw [uI_ne (by omega), uI_ne (by omega), uI_ne (by omega), K29 b (by omega) (by omega)]
    · rw [uI_ne (by decide), uI_ne (by decide), uI_ne (by decide), K29 81 (by decide) (by decide)]
    · rw [uI_ne (by omega), uI_ne (by omega), uI_ne (by omega), K29 b (by omega) (by omega)]
  -- one
  have m60 : J29 106 w = J 106 w := by rw [K29 106 (by decide) (by decide)]
  have m107 : J29 107 a = J 107 a := by rw [K29 107 (by decide) (by decide)]
  have m109 : J29 109 a = J 109 a := by rw [K29 109 (by decide) (by decide)]
  have one : f12_lifts (Int32.ofNat w) t J = f12_lifts_B101 (Int32.ofNat w) t (Int32.ofNat a) J29 → fL_lift sl sf (Int32.ofNat w) t h = fL_lift_B113 sl sf (Int32.ofNat w) t (Int32.ofNat a) J55 → ∃ J1 h1, f12_lifts (Int32.ofNat w) t J = some J1 ∧ fL_lift sl sf (Int32.ofNat w) t h = fL_lift_B180 sl sf (Int32.ofNat w) t h1 ∧ yRel sl sf (c + 1) w J1 h1 ∧ zFJ J J1 ∧ (∀ b k, b = 100 ∨ b = 101 ∨ b = 102 → J1 b k = J b k) := fun f g => by
    refine both 1 1 1 (J 106 w) (h (60 + w)) z1 l1 (Or.inl rfl) tpos w60 ?_ (Or.inr ⟨rfl, ?_⟩)
    · rw [f]
      unfold f12_lifts_B101 f12_lifts_B102
      rw [if_pos za, if_pos rfl, zl_eq, zl_eq, na, m107, if_pos rfl, if_pos zw, zb_some, if_pos zw, zl_eq, zl_eq, zl_eq, nw, uI_ne (show (106 : Nat) ≠ 107 by decide), m60, uI_ne (show (107 : Nat) ≠ 106 by decide), uI_at, uI_ne (show (109 : Nat) ≠ 106 by decide), uI_ne (show (109 : Nat) ≠ 107 by decide), m109]
    · rw [g]
      unfold fL_lift_B113 fL_lift_B114 fL_lift_B136
      rw [if_pos b70, if_pos rfl, if_pos b70, i70, zl_eq, if_pos rfl, h70]
  have two : 2 ≤ (J 107 a).toInt → f12_lifts (Int32.ofNat w) t J = f12_lifts_B102 (Int32.ofNat w) t (Int32.ofNat a) 1 J29 → fL_lift sl sf (Int32.ofNat w) t h = fL_lift_B114 sl sf (Int32.ofNat w) t (Int32.ofNat a) 1 J55 → ∃ J1 h1, f12_lifts (Int32.ofNat w) t J = some J1 ∧ fL_lift sl sf (Int32.ofNat w) t h = fL_lift_B180 sl sf (Int32.ofNat w) t h1 ∧ yRel sl sf (c + 1) w J1 h1 ∧ zFJ J J1 ∧ (∀ b k, b = 100 ∨ b = 101 ∨ b = 102 → J1 b k = J b k) := fun h2 f g => by
    obtain ⟨x11, hx11⟩ : ∃ x11 : Int32, (if J 106 w = 0 then (1 : Int32) else J 106 w) = x11 := ⟨_, rfl⟩
    obtain ⟨k60, hk60⟩ : ∃ k60 : Int64, (if (1 : Int64) < h (60 + w) then h (60 + w) else 1) = k60 := ⟨_, rfl⟩
    refine both 2 2 2 x11 k60 z2 l2 (Or.inr rfl) (by omega) ?_ ?_ (Or.inl ?_)
    · have := w60.1; have := w60.2
      unfold yq
      rw [← hx11, ← hk60]
      by_cases q : J 106 w = 0
      · rw [if_pos q, if_neg (by rw [tl_lt, l1]; rw [zeq_iff, z0] at q; omega)]
        decide
      · rw [if_neg q]
        rw [zeq_iff, z0] at q
        by_cases q2 : (1 : Int64) < h (60 + w)
        · rw [if_pos q2]
          exact w60
        · rw [if_neg q2]
          rw [tl_lt, l1] at q2
          rw [l1]
          omega
    · rw [f]
      unfold f12_lifts_B102
      rw [if_pos za, if_neg (by decide), zl_eq, zl_eq, na, m107, if_neg (by decide), if_pos zw, nw, uI_ne (show (106 : Nat) ≠ 107 by decide), m60]
      have e : (if J 106 w = (0 : Int32) then some (1 : Int32) else some (J 106 w)) = some x11 := by
        rw [← hx11]
        split <;> rfl
      rw [e, zb_some, if_pos zw, zl_eq, zl_eq, zl_eq, uI_ne (show (107 : Nat) ≠ 106 by decide), uI_at, uI_ne (show (109 : Nat) ≠ 106 by decide), uI_ne (show (109 : Nat) ≠ 107 by decide), m109]
    · rw [g]
      unfold fL_lift_B114 fL_lift_B136
      rw [if_pos b70, if_neg (by decide), if_pos b70, i70, zl_eq, if_neg (by decide), if_pos b60, i60, h70, zl_eq, zl_eq, zuL_ne (show 60 + w ≠ 70 + a by omega), h60, hk60]
  have m83 : J29 83 a = sStick sl sf a := by rw [K29 83 (by decide) (by decide), j83]
  rw [m83, m107, K29a] at F
  rw [h9, H55a, h70] at G
  by_cases s0 : (sStick sl sf a).toInt = 0
  · rw [if_pos (by rw [zeq_iff, s0, z0])] at F
    rw [if_pos (by rw [tl_cmple, st.2, s0, l0]; omega)] at G
    exact one F G
  have spos : 1 ≤ (sStick sl sf a).toInt := by omega
  rw [if_neg (by rw [zeq_iff, z0]; exact s0)] at F
  rw [if_neg (by rw [tl_cmple, st.2, l0]; omega), if_pos (by intro q; rw [q, l0] at st; omega)] at G
  have mo : (h (80 + a) + 1 - (h (80 + a) + 1) / h (9 + a) * h (9 + a)).toInt = ((J 108 a).toInt + 1) % (sStick sl sf a).toInt := by
    have := q80.2
    rw [zlrem (by rw [e80]; omega) (by rw [st.2]; omega), e80, st.2]
  by_cases t2 : (J 107 a).toInt < 2
  · rw [if_pos (by rw [zlt_iff, z2]; exact t2)] at F
    refine one F ?_
    rw [G]
    by_cases q : lg_cmp (h (80 + a) + 1 - (h (80 + a) + 1) / h (9 + a) * h (9 + a)) 0 = 0
    · rw [if_pos q, if_pos (by rw [tl_cmple, q70.1, l1]; omega)]
    · rw [if_neg q]
  · rw [if_neg (by rw [zlt_iff, z2]; exact t2)] at F
    obtain ⟨p33, p1, p2⟩ := g12_withinI (v := sStick sl sf a) (a := 1) (b := 9) (by decide)
    have p3 : p33 = sStick sl sf a := by
      rw [zeq_iff, p2, z1, z9]
      unfold clampI
      rw [if_neg (by omega), if_neg (by omega)]
    rw [p1, p3, zb_some, if_pos (by rw [zeq_iff, z0]; exact s0)] at F
    have mo2 : (J 108 a + 1 - (J 108 a + 1) / sStick sl sf a * sStick sl sf a).toInt = ((J 108 a).toInt + 1) % (sStick sl sf a).toInt := by
      have := q80.2
      rw [zmod_of (by rw [e108]; omega) (by omega), e108]
    by_cases q : ((J 108 a).toInt + 1) % (sStick sl sf a).toInt = 0
    · rw [if_pos (by rw [zeq_iff, mo2, q, z0])] at F
      rw [if_pos (by rw [tl_cmp0, mo, q, l0]), if_neg (by rw [tl_cmple, q70.1, l1]; omega)] at G
      exact two (by omega) F G
    · rw [if_neg (by rw [zeq_iff, mo2, z0]; exact q)] at F
      rw [if_neg (by rw [tl_cmp0, mo, l0]; exact q)] at G
      exact one F G
end
