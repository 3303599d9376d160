/-! pure part: the law's row beside an order by numbers; best -/
section
variable {sl : Nat} {sf : Nat → Int32}
theorem y_tie0 (hL : sl ≤ 260) {h : zML} (hD : yD sl sf h) {T : Nat} (hT : T ≤ 600) {J0 M : zMI} (D0 : zDef sl sf J0) (a2 : (J0 81 34).toInt = (sMany sl sf).toInt) (a3 : ∀ k, k < (sMany sl sf).toInt.toNat → J0 99 k = Int32.ofNat k) (hM : f12_goesFor (Int32.ofNat T) J0 = some M) : ∃ pl : Int32 × zML, fL_plainly sl sf 9 (Int32.ofNat T) h = some pl ∧ yRel sl sf 3600 (sMany sl sf).toInt.toNat M pl.2 := by
  have my := s_many (sf := sf) hL
  obtain ⟨J1, b1, b2⟩ := g12_begins J0
  obtain ⟨h1, c1, c2, c3, c4, c5, c6⟩ := y_begin (sl := sl) (sf := sf) h
  have D1 := zDef_first D0 b2
  obtain ⟨m1, m2, m3, m4, m5, m6, m7⟩ := b2
  have l0 : (0 : Int64).toInt = 0 := rfl
  have lm : (-1 : Int64).toInt = -1 := rfl
  have em : (-1 : Int32).toInt = -1 := rfl
  have R1 : yRel sl sf 0 (sMany sl sf).toInt.toNat J1 h1 := by
    refine ⟨fun w hw => ?_, fun k hk => ?_, ⟨?_, ?_, ?_, ?_⟩, ⟨fun k hk => ?_, fun w hw => ?_⟩, fun _ => ?_, D1⟩
    · rw [if_neg (by omega)]
      obtain ⟨x0, x1, x2, x3, x4, x5, x6⟩ := m1 w (by omega)
      have f86 : J0 86 w = sFrom sl sf w := (D0.2.2.1.2 w hw).2.2
      have fr := s_from (sf := sf) hL w
      unfold yW yq
      rw [x0, x1, x2, x3, x4, x5, x6, f86, (c3 w (by omega)).1, (c3 w (by omega)).2, c6 (40 + w) (by omega) (by omega), c6 (45 + w) (by omega) (by omega), c6 (50 + w) (by omega) (by omega), c6 (55 + w) (by omega) (by omega), c6 (60 + w) (by omega) (by omega), (hD.2 w hw).2]
      exact ⟨⟨rfl, fr.2.1, fr.2.2⟩, by decide, by decide, by decide, by decide, by decide, by decide, fun _ z => absurd rfl z⟩
    · obtain ⟨x0, x1, x2⟩ := m2 k hk
      have f82 : J0 82 k = sHigh sl sf k := (D0.1 k hk).1
      have hh := s_high (sf := sf) hL hk
      unfold yH yq
      rw [x0, x1, x2, f82, (c4 k hk).1, (c4 k hk).2, c6 (80 + k) (by omega) (by omega), (hD.1 k hk).1]
      exact ⟨⟨rfl, hh.2.1, by omega⟩, by decide, by decide⟩
    · rw [m4, c6 101 (by decide) (by decide)]
      unfold yq
      decide
    · rw [m5, c5]
      unfold yq
      decide
    · rw [m4, c6 102 (by decide) (by decide)]
      rfl
    · rw [m4, c6 103 (by decide) (by decide)]
      rfl
    · rw [c2 k (by omega), c2 (9 + k) (by omega)]
      exact hD.1 k hk
    · rw [c2 (20 + w) (by omega), c2 (25 + w) (by omega)]
      exact hD.2 w hw
    · have z1 : yheld h1 (sMany sl sf).toInt.toNat = 0 := by
        unfold yheld
        rw [ysum_eq (f := fun _ => 0) _ (fun i hi => by
          rw [c6 (50 + i) (by omega) (by omega), c6 (45 + i) (by omega) (by omega), l0]
          rfl)]
        induction (sMany sl sf).toInt.toNat with
        | zero => rfl
        | succ n ih => show ysum _ n + 0 = 0; omega
      have z2 : ygone h1 = 0 := by
        unfold ygone
        rw [ysum_eq (f := fun _ => 0) _ (fun i hi => by
          rw [(c4 i hi).1, c2 i (by omega)]
          omega)]
        rfl
      rw [z1, z2]
      exact Int.le_refl _
  have n34 : (J1 81 34).toInt = (sMany sl sf).toInt := by
    rw [m6 34 (by decide) (by decide) (by decide), a2]
  have n99 : ∀ k, k < (sMany sl sf).toInt.toNat → J1 99 k = Int32.ofNat k := fun k hk => by
    rw [m7 99 (by decide) (by decide), a3 k hk]
  unfold f12_goesFor at hM
  rw [b1, zb_some] at hM
  have e1 : f12_goesFor_L6 zF (Int32.ofNat T) 0 J1 = some M := by
    first
    | exact hM
    | (obtain ⟨M', e1, hM⟩ := zbd hM
       have eM : M' = M := Option.some.inj hM
       rw [eM] at e1
       exact e1)
  obtain ⟨h', d1, d2, -⟩ := y_goL (ord := yord (sMany sl sf).toInt.toNat) (sf := sf) hL (yord_O _ (by omega)) (T := T) hT T zF zF 0 J1 M h1 0 (by omega) (by unfold zF; omega) (by unfold zF; omega) R1 (Int.le_refl _) (by omega) n34 n99 e1
  refine ⟨((h' 101).toInt32, h'), ?_, d2⟩
  unfold fL_plainly
  rw [show (0 : Int32) = yord 0 from rfl]
  have pl := y_plainL (sf := sf) hL (fL_plainly_B48 sl sf) (Int32.ofNat T) h (sMany sl sf).toInt.toNat zF 0 (by omega) (by unfold zF; omega)
  rw [show yord 0 = Int32.ofNat 0 from rfl] at pl ⊢
  rw [pl]
  unfold fL_plainly_B48 fL_go
  rw [c1, zb_some, show (0 : Int32) = Int32.ofNat 0 from rfl, d1, zb_some]
end
section
variable {sl : Nat} {sf : Nat → Int32} {n : Nat} {kd : zMK} {I J M M0 : zMI} {R : zMR} {h1 : zML} {gh : zGh} {T ah : Nat} {pl pl6 : Int32 × zML}
theorem x_best (hQ : xQ sl sf n kd I R) {what : Int32} (c1 : 0 ≤ what.toInt ∧ what.toInt ≤ 1) : ∃ v I' R' M, f11_best n kd what I R = some (v, I', R') ∧ zFM I' M ∧ zC zT0 n kd M R' ∧ zDef sl sf M ∧ (what = 1 → 0 ≤ v.toInt) ∧ (what = 0 → ∃ J0 N, zDef sl sf J0 ∧ (J0 81 34).toInt = (I 81 3).toInt ∧ (∀ k, k < (I 81 3).toInt.toNat → J0 99 k = Int32.ofNat k) ∧ f12_goesFor 600 J0 = some N ∧ ((v.toInt = -1 ∧ (N 81 48).toInt = -1) ∨ (0 ≤ v.toInt ∧ ((N 81 48).toInt = -1 ∨ v.toInt ≤ (N 81 48).toInt)))) := by
  have hC := hQ.1
  obtain ⟨L, s, hB⟩ := zC_B0 hC
  have r3 := hB.2.1.2.2.1
  have hA := (zB0_A hB).2.1
  have hc5 : (I 81 3).toInt.toNat ≤ 5 := by omega
  obtain ⟨hcc, hcc1⟩ := zcc hc5
  obtain ⟨K, k1, k2, k3⟩ := g11_byNumbers 5 zF 0 I (by rw [z0]; rfl) (by rw [z0]; omega) (by unfold zF; omega) (fun k hk => by rw [z0] at hk; omega)
  obtain ⟨P, p1, p2⟩ := znp_first hc5
  obtain ⟨v, I', R', u1, u2, u3, ⟨-, ux⟩, u4⟩ := x_bestL hc5 (l1 := what) ((I 81 3).toInt.toNat ^ (I 81 3).toInt.toNat) zF 1000000 (-1) 0 1 0 0 0 0 0 K R I (zB0_55 hB k3) (by omega) (Nat.le_refl _) (Or.inl ⟨rfl, rfl, rfl, rfl⟩) (fun _ => by rw [p1]; exact fun y => by cases y) (by unfold zAt; rw [p1]; exact ⟨rfl, fun k hk => by rw [k2 k hk, p2 k hk]⟩) (by rw [z0]; omega) (by rw [z0]; have := zcp_le hc5; omega) (by have := zcp_le hc5; unfold zF; omega)
  have ux := ux rfl
  have fo := zFO_tr (zFO_55 (s := s) hA k3) u2
  have hb := (zLo_big hB.2.2.2.2.2.2.2.2.1.1).1
  have row : ∀ b, 81 ≤ b → b ≤ 96 → I' b = I b := fun b y1 y2 => fo.1 b (by omega) (by omega) (by omega) (fun w y => by have := hA w y; omega) (by omega) (by omega)
  have hw : zFw K I' := ⟨fun b y1 y2 => by rw [row b (by omega) y2, k3 b (by omega)], fun j _ => by rw [row 81 (by decide) (by decide), k3 81 (by decide)]⟩
  have hwI : zFw I I' := ⟨fun b y1 y2 => row b (by omega) y2, fun j _ => by rw [row 81 (by decide) (by decide)]⟩
  obtain ⟨J', w1, w2⟩ := u4 zF 0 I' (by rw [z0]; omega) (by unfold zF; omega) (zB0_keep (zB0_55 hB k3) zFX_rfl (J' := I') hwI (fun _ _ _ => rfl))
  refine ⟨v, I', R', J', ?_, w2, zC_best hC hB zAd_0 fo w2 u3, zDef_w (zDef_w hQ.2 hwI) (zFw_M w2), ux.1, fun h0 => ?_⟩
  · unfold f11_best f11_orderByNumbers
    rw [if_neg (by rw [zlt_iff, z0]; omega), if_pos (by rw [zle_iff, z2]; omega), k1, zb_some]
    exact u1
  · obtain ⟨P', q1, q2⟩ := ux.2 h0
    rw [p1] at q1
    cases q1
    obtain ⟨J0, b2, b3, b4, b5⟩ : ∃ J0 : zMI, J0 81 34 = I 81 3 ∧ (∀ k, J0 99 k = Int32.ofNat (zpd (I 81 3).toInt.toNat P k)) ∧ (∀ j, j ≠ 34 → J0 81 j = I 81 j) ∧ ∀ b, b ≠ 81 → b ≠ 99 → J0 b = I b :=
      ⟨fun b k => if b = 99 then Int32.ofNat (zpd (I 81 3).toInt.toNat P k) else uI I 81 34 (I 81 3) b k, by dsimp only; rw [if_neg (by decide), uI_at], fun k => by dsimp only; rw [if_pos rfl], fun j hj => by dsimp only; rw [if_neg (by decide), uI_off hj], fun b h1 h2 => funext fun k => by dsimp only; rw [if_neg h2, uI_ne h1]⟩
    obtain ⟨N, m1, m2⟩ := q2 I J0 (zB0_55 hB k3) b2 (fun k _ => b3 k) b4 b5
    refine ⟨J0, N, zDef_fr hQ.2 (fun b x1 x2 => b5 b (by omega) (by omega)) (b4 2 (by decide)) (b4 3 (by decide)) (b4 12 (by decide)), by rw [b2], fun k hk => ?_, m1, m2⟩
    have := p2 k (by omega)
    unfold zprq at this
    rw [if_pos hk] at this
    rw [b3 k, this]
theorem x_best_c (hK : xK sl sf gh h1 T pl M0) (h6 : fL_plainly sl sf 9 (Int32.ofNat 600) h1 = some pl6) (hQ : xQ sl sf n kd I R) {what : Int32} (c1 : 0 ≤ what.toInt ∧ what.toInt ≤ 1) : ∃ v I' R', f11_best n kd what I R = some (v, I', R') ∧ xQ sl sf n kd (gh n kd I' R') R' ∧ (what = 1 → 0 ≤ v.toInt) ∧ (what = 0 → ((v.toInt = -1 ∧ (pl6.2 104).toInt = -1) ∨ (0 ≤ v.toInt ∧ ((pl6.2 104).toInt = -1 ∨ v.toInt ≤ (pl6.2 104).toInt)))) := by
  obtain ⟨v, I', R', M, a1, a2, a3, a4, a5, a6⟩ := x_best hQ c1
  have e3 := x_many hQ
  have my := s_many (sf := sf) hK.1
  refine ⟨v, I', R', a1, xQ_gh hK.2.1 (xGE a2) a3 a4, a5, fun h0 => ?_⟩
  obtain ⟨J0, N, d0, d1, d2, d3, d4⟩ := a6 h0
  obtain ⟨pl', p1, p2⟩ := y_tie0 hK.1 hK.2.2.1 (T := 600) (by decide) d0 (by omega) (fun k hk => d2 k (by omega)) d3
  rw [h6] at p1
  cases p1
  obtain ⟨g1, g2, g3, g4⟩ := p2.2.2.1
  rw [g2.1]
  exact d4
/-- a plain going of 600 seconds -/
theorem x_600 (hL : sl ≤ 260) (hD : yD sl sf h1) (hQ : xQ sl sf n kd I R) : ∃ pl6 M6, fL_plainly sl sf 9 (Int32.ofNat 600) h1 = some pl6 ∧ yRel sl sf 3600 (sMany sl sf).toInt.toNat M6 pl6.2 := by
  obtain ⟨I1, R1, I2, M, L, s, x1, x2, x3, x4, x5, x6, x7, x8, x9, x10, d2, dM⟩ := x_plain hQ (T := 600) (by decide)
  obtain ⟨pl, p1, p2⟩ := y_tie hL hD (T := 600) (by decide) d2 x3
  exact ⟨pl, M, p1, p2⟩
end
