/-! pure part: a second, all seconds -/
section
variable {sl : Nat} {sf : Nat → Int32} {ord : Int32}
theorem y_mono {c c' : Int} {x : Nat} {J : zMI} {h : zML} (R : yRel sl sf c x J h) (hc : c ≤ c') : yRel sl sf c' x J h := by
  obtain ⟨r1, r2, r3, r4, r5, r6⟩ := R
  exact ⟨fun w hw => yW_eq (r1 w hw) hc (fun _ _ _ => rfl) (fun _ _ => rfl), fun k hk => yH_eq (r2 k hk) hc (fun _ _ _ => rfl) (fun _ _ => rfl), r3, r4, r5, r6⟩
/-- one walker's second -/
theorem y_walker (hL : sl ≤ 260) {J J' : zMI} {h : zML} {c : Int} {w q q' : Nat} {t : Int32} (R : yRel sl sf c (sMany sl sf).toInt.toNat J h) (hw : w < (sMany sl sf).toInt.toNat) (ht : 0 ≤ t.toInt ∧ t.toInt ≤ 600) (hc : 0 ≤ c ∧ c ≤ 4000) (hO : yO ord (sMany sl sf).toInt.toNat) (h34 : (J 81 34).toInt = (sMany sl sf).toInt) (h99 : ∀ k, k < (sMany sl sf).toInt.toNat → J 99 k = Int32.ofNat k) (hJ : f12_second_L2 (q + 1) t (Int32.ofNat w) J = some J') :
    ∃ J1 h1, f12_second_L2 q t (Int32.ofNat (w + 1)) J1 = some J' ∧ fL_second_L3 sl sf (q' + 1) ord (Int32.ofNat (sMany sl sf).toInt.toNat) t (Int32.ofNat w) h = fL_second_L3 sl sf q' ord (Int32.ofNat (sMany sl sf).toInt.toNat) t (Int32.ofNat (w + 1)) h1 ∧ yRel sl sf (c + 2) (sMany sl sf).toInt.toNat J1 h1 ∧ zFJ J J1 := by
  have my := s_many (sf := sf) hL
  have ew := zofn_i (m := w) (by omega)
  have nw := zofn_n (m := w) (by omega)
  have em := zofn_i (m := (sMany sl sf).toInt.toNat) (by omega)
  have W := R.1 w hw
  rw [if_neg (by omega)] at W
  obtain ⟨w30, w35, w40, w45, w50, w55, w60, w8⟩ := id W
  have zw : zib (Int32.ofNat w) 5 = true := zib_ok (by omega) (by omega)
  have b35 : zib ((35 : Int32) + Int32.ofNat w) 130 = true := tib 35 (by omega)
  have b40 : zib ((40 : Int32) + Int32.ofNat w) 130 = true := tib 40 (by omega)
  have i35 : ((35 : Int32) + Int32.ofNat w).toNatClampNeg = 35 + w := tix 35 (by omega)
  have i40 : ((40 : Int32) + Int32.ofNat w).toNatClampNeg = 40 + w := tix 40 (by omega)
  have l0 : (0 : Int64).toInt = 0 := rfl
  have l1 : (1 : Int64).toInt = 1 := rfl
  have l2 : (2 : Int64).toInt = 2 := rfl
  rw [f12_second_L2, if_neg (by rw [zle_iff]; omega), if_pos zw, nw, h99 w hw, if_pos zw, nw] at hJ
  rw [fL_second_L3]
  rw [if_neg (by rw [zle_iff]; omega), hO w hw, zl_eq, if_pos b35, i35]
  have nxt : ∀ K, fL_second_B324 sl sf (fL_second_L3 sl sf q') ord (Int32.ofNat (sMany sl sf).toInt.toNat) t (Int32.ofNat w) K = fL_second_L3 sl sf q' ord (Int32.ofNat (sMany sl sf).toInt.toNat) t (Int32.ofNat (w + 1)) K := fun K => by
    unfold fL_second_B324
    rw [zofs (by omega)]
  have nxtJ : ∀ K, f12_second_B90 (f12_second_L2 q) t (Int32.ofNat w) K = f12_second_L2 q t (Int32.ofNat (w + 1)) K := fun K => by
    unfold f12_second_B90
    rw [zofs (by omega)]
  by_cases d2 : J 101 w = 2
  · rw [if_pos d2] at hJ
    obtain ⟨p, p1, hJ⟩ := zbd hJ
    rw [nxtJ] at hJ
    obtain ⟨h', a1, a2, a3⟩ := y_takesOn hL R hw (by rw [d2]; rfl) ht hc p1
    refine ⟨p, h', hJ, ?_, a2, a3⟩
    rw [if_pos (by rw [tl_cmp0, w35.1, d2, l2]; rfl)]
    have := a1 (fun X => fL_second_B324 sl sf (fL_second_L3 sl sf q') ord (Int32.ofNat (sMany sl sf).toInt.toNat) t (Int32.ofNat w) X)
    unfold yTk at this
    rw [i35] at this
    rw [this, nxt]
  rw [if_neg d2] at hJ
  rw [if_neg (by rw [tl_cmp0, w35.1, l2]; intro z; exact d2 ((zeq_iff _ _).mpr z))]
  by_cases d0 : J 101 w = 0
  · have n1 : ¬ J 101 w = 1 := by rw [d0]; decide
    have l8 := w8 rfl n1
    have e102 : (J 102 w - 1).toInt = (J 102 w).toInt - 1 := by
      have := w40.2
      rw [zsub (by rw [z1]; omega) (by rw [z1]; omega), z1]
    have e40 : (h (40 + w) - 1).toInt = (J 102 w).toInt - 1 := by
      have := w40.1; have := w40.2
      rw [zlsub (by rw [l1]; omega) (by rw [l1]; omega), l1]
      omega
    obtain ⟨J13, hJ13⟩ : ∃ K, uI J 102 w (J 102 w - 1) = K := ⟨_, rfl⟩
    obtain ⟨h33, hh33⟩ : ∃ K, zuL h (40 + w) (h (40 + w) - 1) = K := ⟨_, rfl⟩
    have a102 : J13 102 w = J 102 w - 1 := by rw [← hJ13, uI_at]
    have a40 : h33 (40 + w) = h (40 + w) - 1 := by rw [← hh33, zuL_at]
    have aJ : ∀ b, b ≠ 102 → J13 b = J b := fun b q => by rw [← hJ13, uI_ne q]
    have aJo : ∀ k, k ≠ w → J13 102 k = J 102 k := fun k q => by rw [← hJ13, uI_off q]
    have ah : ∀ j, j ≠ 40 + w → h33 j = h j := fun j q => by rw [← hh33, zuL_ne q]
    rw [if_pos d0, zl_eq, hJ13, zl_eq, aJ 101 (by decide), if_neg n1, a102] at hJ
    rw [if_pos (by rw [tl_cmp0, w35.1, d0, l0]; rfl), if_pos b40, zl_eq, i40, hh33, a40]
    by_cases left : (J 102 w).toInt - 1 = 0
    · rw [if_pos (by rw [zeq_iff, e102, left, z0])] at hJ
      unfold f12_second_B78 at hJ
      rw [if_pos zw, zl_eq, nw] at hJ
      obtain ⟨J2, hJ2⟩ : ∃ K, uI J13 101 w 1 = K := ⟨_, rfl⟩
      rw [hJ2] at hJ
      obtain ⟨p, p1, hJ⟩ := zbd hJ
      rw [nxtJ] at hJ
      obtain ⟨h36, hh36⟩ : ∃ K, zuL h33 (35 + w) 1 = K := ⟨_, rfl⟩
      have c101 : J2 101 w = 1 := by rw [← hJ2, uI_at]
      have cJ : ∀ b, b ≠ 101 → J2 b = J13 b := fun b q => by rw [← hJ2, uI_ne q]
      have R2 : yRel sl sf c (sMany sl sf).toInt.toNat J2 h36 := by
        refine y_wk my.2.2 R hw (Or.inr (Nat.le_refl _)) (Int.le_refl _) (fun b k y1 y2 y3 => ?_) (fun j y1 y2 y3 y4 => by rw [← hh36, zuL_ne y2, ah j y3]) ?_ (Or.inr (Nat.le_refl _))
        · by_cases z1' : b = 101
          · rw [z1', ← hJ2, uI_off (by omega), aJ 101 (by decide)]
          rw [cJ b z1']
          by_cases z2' : b = 102
          · rw [z2', aJo k (by omega)]
          rw [aJ b z2']
        · rw [if_neg (by omega)]
          unfold yW yq
          rw [c101, cJ 100 (by decide), cJ 102 (by decide), cJ 103 (by decide), cJ 104 (by decide), cJ 105 (by decide), cJ 106 (by decide), aJ 100 (by decide), aJ 103 (by decide), aJ 104 (by decide), aJ 105 (by decide), aJ 106 (by decide), a102, ← hh36, zuL_at, zuL_ne (show 30 + w ≠ 35 + w by omega), zuL_ne (show 40 + w ≠ 35 + w by omega), zuL_ne (show 45 + w ≠ 35 + w by omega), zuL_ne (show 50 + w ≠ 35 + w by omega), zuL_ne (show 55 + w ≠ 35 + w by omega), zuL_ne (show 60 + w ≠ 35 + w by omega), a40, ah (30 + w) (by omega), ah (45 + w) (by omega), ah (50 + w) (by omega), ah (55 + w) (by omega), ah (60 + w) (by omega)]
          exact ⟨w30, by decide, ⟨by rw [e40, e102], by omega, by omega⟩, w45, w50, w55, w60, fun _ z => absurd rfl z⟩
      have F2 : zFJ J J2 := ⟨fun b x1 x2 => by rw [cJ b (by omega), aJ b (by omega)], fun j _ => by rw [cJ 81 (by decide), aJ 81 (by decide)]⟩
      obtain ⟨h', a1, a2, a3⟩ := y_waitsOn (t := t) (ord := ord) hL R2 hw c101 hc hO (by rw [F2.2 34 (by decide)]; exact h34) (fun k hk => by rw [F2.1 99 (by decide) (by decide)]; exact h99 k hk) p1 (fL_second_L3 sl sf q') (Int32.ofNat w)
      refine ⟨p, h', hJ, ?_, y_mono a2 (by omega), zFJ_tr F2 a3⟩
      rw [if_pos (by rw [tl_cmple, e40, l0]; omega), hh36, zl_eq, a1, nxt]
    · rw [if_neg (by rw [zeq_iff, e102, z0]; exact left), nxtJ] at hJ
      refine ⟨J13, h33, hJ, ?_, ?_, ⟨fun b x1 x2 => aJ b (by omega), fun j _ => by rw [aJ 81 (by decide)]⟩⟩
      · rw [if_neg (by rw [tl_cmple, e40, l0]; omega), nxt]
      · refine y_wk my.2.2 R hw (Or.inr (Nat.le_refl _)) (by omega) (fun b k y1 y2 y3 => ?_) (fun j y1 y2 y3 y4 => ah j y3) ?_ (Or.inr (Nat.le_refl _))
        · by_cases z2' : b = 102
          · rw [z2', aJo k (by omega)]
          rw [aJ b z2']
        · rw [if_neg (by omega)]
          unfold yW yq
          rw [aJ 100 (by decide), aJ 101 (by decide), aJ 103 (by decide), aJ 104 (by decide), aJ 105 (by decide), aJ 106 (by decide), a102, a40, ah (30 + w) (by omega), ah (35 + w) (by omega), ah (45 + w) (by omega), ah (50 + w) (by omega), ah (55 + w) (by omega), ah (60 + w) (by omega)]
          have := w40.2
          exact ⟨w30, w35, ⟨by rw [e40, e102], by omega, by omega⟩, w45, ⟨w50.1, w50.2.1, by have := w50.2.2; omega⟩, ⟨w55.1, w55.2.1, by have := w55.2.2; omega⟩, w60, fun _ _ => by omega⟩
  · have d1 : J 101 w = 1 := by
      have := w35.2
      rw [zeq_iff, z1]
      rw [zeq_iff, z2] at d2
      rw [zeq_iff, z0] at d0
      omega
    rw [if_neg d0, zl_eq, zl_eq, uI_ne (show (101 : Nat) ≠ 102 by decide), if_pos d1] at hJ
    unfold f12_second_B78 at hJ
    rw [if_pos zw, zl_eq, nw] at hJ
    obtain ⟨J2, hJ2⟩ : ∃ K, uI (uI J 102 w (J 102 w - 0)) 101 w 1 = K := ⟨_, rfl⟩
    rw [hJ2] at hJ
    obtain ⟨p, p1, hJ⟩ := zbd hJ
    rw [nxtJ] at hJ
    have s0 : J 102 w - 0 = J 102 w := zsub0 _
    have same : J2 = J := by
      rw [← hJ2, s0]
      funext b k
      by_cases z1' : b = 101
      · rw [z1']
        by_cases z2' : k = w
        · rw [z2', uI_at, d1]
        · rw [uI_off z2', uI_ne (by decide)]
      · rw [uI_ne z1']
        by_cases z3' : b = 102
        · rw [z3']
          by_cases z2' : k = w
          · rw [z2', uI_at]
          · rw [uI_off z2']
        · rw [uI_ne z3']
    rw [same] at p1
    obtain ⟨h', a1, a2, a3⟩ := y_waitsOn (t := t) (ord := ord) hL R hw d1 hc hO h34 h99 p1 (fL_second_L3 sl sf q') (Int32.ofNat w)
    refine ⟨p, h', hJ, ?_, y_mono a2 (by omega), a3⟩
    rw [if_neg (by rw [tl_cmp0, w35.1, d1, l0]; decide), a1, nxt]
theorem y_secondL (hL : sl ≤ 260) {t : Int32} (ht : 0 ≤ t.toInt ∧ t.toInt ≤ 600) (hO : yO ord (sMany sl sf).toInt.toNat) : ∀ (d q q' k : Nat) (J J' : zMI) (h : zML) (c : Int), k + d = (sMany sl sf).toInt.toNat → d < q → d < q' → yRel sl sf c (sMany sl sf).toInt.toNat J h → 0 ≤ c → c + 2 * d ≤ 4000 → (J 81 34).toInt = (sMany sl sf).toInt → (∀ k, k < (sMany sl sf).toInt.toNat → J 99 k = Int32.ofNat k) → f12_second_L2 q t (Int32.ofNat k) J = some J' →
    ∃ h', fL_second_L3 sl sf q' ord (Int32.ofNat (sMany sl sf).toInt.toNat) t (Int32.ofNat k) h = some h' ∧ yRel sl sf (c + 2 * d) (sMany sl sf).toInt.toNat J' h' ∧ zFJ J J' := by
  have my := s_many (sf := sf) hL
  intro d
  induction d with
  | zero =>
    intro q q' k J J' h c hk hq hq' R hc hc2 h34 h99 hJ
    obtain ⟨q, rfl⟩ : ∃ p, q = p + 1 := ⟨q - 1, by omega⟩
    obtain ⟨q', rfl⟩ : ∃ p, q' = p + 1 := ⟨q' - 1, by omega⟩
    have ek := zofn_i (m := k) (by omega)
    have em := zofn_i (m := (sMany sl sf).toInt.toNat) (by omega)
    rw [f12_second_L2, if_pos (by rw [zle_iff]; omega)] at hJ
    have e := Option.some.inj hJ
    refine ⟨h, ?_, by rw [← e]; exact y_mono R (by omega), by rw [← e]; exact zFJ_rfl⟩
    rw [fL_second_L3, if_pos (by rw [zle_iff]; omega)]
  | succ d ih =>
    intro q q' k J J' h c hk hq hq' R hc hc2 h34 h99 hJ
    obtain ⟨q, rfl⟩ : ∃ p, q = p + 1 := ⟨q - 1, by omega⟩
    obtain ⟨q', rfl⟩ : ∃ p, q' = p + 1 := ⟨q' - 1, by omega⟩
    obtain ⟨J1, h1, a1, a2, a3, a4⟩ := y_walker (q' := q') hL R (w := k) (by omega) ht ⟨hc, by omega⟩ hO h34 h99 hJ
    obtain ⟨h', b1, b2, b3⟩ := ih q q' (k + 1) J1 J' h1 (c + 2) (by omega) (by omega) (by omega) a3 (by omega) (by omega) (by rw [a4.2 34 (by decide)]; exact h34) (fun j hj => by rw [a4.1 99 (by decide) (by decide)]; exact h99 j hj) a1
    refine ⟨h', by rw [a2, b1], ?_, zFJ_tr a4 b3⟩
    rw [show c + 2 * ((d + 1 : Nat) : Int) = c + 2 + 2 * (d : Int) by omega]
    exact b2
/-- all seconds -/
theorem y_goL (hL : sl ≤ 260) (hO : yO ord (sMany sl sf).toInt.toNat) {T : Nat} (hT : T ≤ 600) : ∀ (d q q' t : Nat) (J J' : zMI) (h : zML) (c : Int), t + d = T → d < q → d < q' → yRel sl sf c (sMany sl sf).toInt.toNat J h → 0 ≤ c → c + 6 * d ≤ 3600 → (J 81 34).toInt = (sMany sl sf).toInt → (∀ k, k < (sMany sl sf).toInt.toNat → J 99 k = Int32.ofNat k) → f12_goesFor_L6 q (Int32.ofNat T) (Int32.ofNat t) J = some J' →
    ∃ h', fL_go_L7 sl sf q' ord (Int32.ofNat (sMany sl sf).toInt.toNat) (Int32.ofNat T) (Int32.ofNat t) h = some ((h' 101).toInt32, h') ∧ yRel sl sf 3600 (sMany sl sf).toInt.toNat J' h' ∧ zFJ J J' := by
  have my := s_many (sf := sf) hL
  intro d
  induction d with
  | zero =>
    intro q q' t J J' h c ht hq hq' R hc hc2 h34 h99 hJ
    obtain ⟨q, rfl⟩ : ∃ p, q = p + 1 := ⟨q - 1, by omega⟩
    obtain ⟨q', rfl⟩ : ∃ p, q' = p + 1 := ⟨q' - 1, by omega⟩
    have et := zofn_i (m := t) (by omega)
    have eT := zofn_i (m := T) (by omega)
    rw [f12_goesFor_L6, if_pos (by rw [zle_iff]; omega)] at hJ
    have e := Option.some.inj hJ
    refine ⟨h, ?_, by rw [← e]; exact y_mono R (by omega), by rw [← e]; exact zFJ_rfl⟩
    rw [fL_go_L7, if_pos (by rw [zle_iff]; omega), if_pos (by decide)]
    rfl
  | succ d ih =>
    intro q q' t J J' h c ht hq hq' R hc hc2 h34 h99 hJ
    obtain ⟨q, rfl⟩ : ∃ p, q = p + 1 := ⟨q - 1, by omega⟩
    obtain ⟨q', rfl⟩ : ∃ p, q' = p + 1 := ⟨q' - 1, by omega⟩
    have et := zofn_i (m := t) (by omega)
    have eT := zofn_i (m := T) (by omega)
    rw [f12_goesFor_L6, if_neg (by rw [zle_iff]; omega)] at hJ
    obtain ⟨J1, e1, hJ⟩ := zbd hJ
    unfold f12_second at e1
    obtain ⟨h1, a1, a2, a3⟩ := y_secondL (t := Int32.ofNat t) hL (by omega) hO (sMany sl sf).toInt.toNat zF zF 0 J J1 h c (by omega) (by unfold zF; omega) (by unfold zF; omega) R hc (by omega) h34 h99 e1
    rw [zofs (by omega)] at hJ
    obtain ⟨h', b1, b2, b3⟩ := ih q q' (t + 1) J1 J' h1 (c + 6) (by omega) (by omega) (by omega) (y_mono a2 (by omega)) (by omega) (by omega) (by rw [a3.2 34 (by decide)]; exact h34) (fun j hj => by rw [a3.1 99 (by decide) (by decide)]; exact h99 j hj) hJ
    refine ⟨h', ?_, b2, zFJ_tr a3 b3⟩
    rw [fL_go_L7, if_neg (by rw [zle_iff]; omega)]
    unfold fL_second
    rw [show (0 : Int32) = Int32.ofNat 0 from rfl, a1, zb_some, zofs (by omega)]
    exact b1
end
