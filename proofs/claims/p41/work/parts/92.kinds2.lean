/-! pure part: one kind tried on both sides -/
def zrs (w : Nat) (k f : Int32) (J : zMI) : zMI := uI (uI J 84 w k) 86 w f
theorem zrs_ne {w b : Nat} {k f : Int32} {J : zMI} (h1 : b ≠ 84) (h2 : b ≠ 86) : zrs w k f J b = J b := by
  unfold zrs
  rw [uI_ne h2, uI_ne h1]
theorem zrs_rs {w : Nat} {k f k' f' : Int32} {J : zMI} : zrs w k f (zrs w k' f' J) = zrs w k f J := by
  funext b j
  unfold zrs
  by_cases c : b = 84
  · subst c
    rw [uI_ne (show 84 ≠ 86 by decide), uI_ne (show 84 ≠ 86 by decide)]
    by_cases c2 : j = w
    · rw [c2, uI_at, uI_at]
    · rw [uI_off c2, uI_off c2, uI_ne (show 84 ≠ 86 by decide), uI_off c2]
  · by_cases c1 : b = 86
    · subst c1
      by_cases c2 : j = w
      · rw [c2, uI_at, uI_at]
      · rw [uI_off c2, uI_off c2, uI_ne (by decide), uI_off c2, uI_ne (by decide), uI_ne (by decide)]
    · rw [uI_ne c1, uI_ne c, uI_ne c1, uI_ne c, uI_ne c1, uI_ne c]
theorem zFM_rs {w : Nat} {k f : Int32} {X Y : zMI} (h : zFM X Y) : zFM (zrs w k f X) (zrs w k f Y) := by
  unfold zrs
  have h1 : zFM (uI X 84 w k) (uI Y 84 w k) := zFM_up (x := X 84 w) (by decide) (by rw [uI_self]; exact h)
  exact zFM_up (x := uI X 84 w k 86 w) (by decide) (by rw [uI_self]; exact h1)
theorem zrs_self {w : Nat} {J : zMI} : zrs w (J 84 w) (J 86 w) J = J := by
  unfold zrs
  rw [uI_self, uI_self]
theorem zkindK {n : Nat} {kd : zMK} {I : zMI} {R : zMR} {a w : Nat} {kk ff s1 sec : Int32} (hC : zC zT0 n kd I R) (hw : w < (I 81 3).toInt.toNat) (ha : R 35 w = some a) (hk : 0 ≤ kk.toInt ∧ kk.toInt ≤ 5) (hf : 0 ≤ ff.toInt ∧ ff.toInt ≤ 8) (cs : 0 ≤ s1.toInt ∧ s1.toInt ≤ 3) (ct : 0 ≤ sec.toInt ∧ sec.toInt ≤ 600) :
    ∃ v I1 Ia Ib Ra, f11_newWalker kk (I a 0) (I a 1) ff n kd I R = some (n, (n + 1, uK kd n (16 + zkc kk, 0)), I1, uRA R n) ∧ f11_layPlainWith (n + 1) (uK kd n (16 + zkc kk, 0)) (some n) I1 (uRA R n) = some (Ia, Ra) ∧ f0_pass (n + 1) (uK kd n (16 + zkc kk, 0)) Ra sec Ia = some Ib ∧ f11_firstOtherwise Ib s1 = some v ∧ zC zT0 (n + 1) (uK kd n (16 + zkc kk, 0)) Ib Ra ∧ (∀ b, 81 ≤ b → b < 114 → Ib b = I b) ∧ Ra 35 = R 35 ∧
      ∀ K, zFw I K → K 93 = I 93 → ∃ M, f12_unlike s1 sec (zrs w kk ff K) = some (v, M) ∧ zFM (zrs w kk ff K) M := by
  have hS := hC.1
  have hn := hS.1
  obtain ⟨L, s, hB⟩ := zC_B0 hC
  have hA0 : ∀ v, (I 81 3).toInt.toNat ≤ v → zAd (I 81 3).toInt.toNat R v = 0 := zAd_0
  obtain ⟨A, eA⟩ : ∃ A, zAd (I 81 3).toInt.toNat R = A := ⟨_, rfl⟩
  rw [eA] at hB hA0
  have aw : A w = a := by
    have := (hB.2.2.1 w hw).1
    rw [ha] at this
    cases this
    rfl
  have hW := zB0_Wo hB
  have lA : ∀ v, v < (I 81 3).toInt.toNat → A v < n := fun v hv => by
    obtain ⟨c, -, y⟩ := zWkB_has (hW v hv).2.1
    exact y.2.1
  obtain ⟨I1, e1⟩ : ∃ I1, uI (uI (uI (uA I n (fun _ => 0)) n 0 (I a 0)) n 1 (I a 1)) n 2 ff = I1 := ⟨_, rfl⟩
  have newW := g11_newWalker (R := R) (I := I) (k := kk) (x := I a 0) (m := I a 1) (h := ff) hS hk.1 hk.2
  rw [e1] at newW
  have eI : ∀ b, b ≠ n → I1 b = I b := fun b hb => by rw [← e1, uI_ne hb, uI_ne hb, uI_ne hb, uA_ne hb]
  have i0 : I1 n 0 = I (A w) 0 := by rw [← e1, uI_off (by decide), uI_off (by decide), uI_at, aw]
  have i1 : I1 n 1 = I (A w) 1 := by rw [← e1, uI_off (by decide), uI_at, aw]
  have i2 : I1 n 2 = ff := by rw [← e1, uI_at]
  obtain ⟨R1, eR1⟩ : ∃ R1, uRA R n = R1 := ⟨_, rfl⟩
  have eR : ∀ b, b ≠ n → R1 b = R b := fun b hb => by rw [← eR1]; exact if_neg hb
  obtain ⟨kd1, ek⟩ : ∃ kd1, uK kd n (16 + zkc kk, 0) = kd1 := ⟨_, rfl⟩
  obtain ⟨A1, eA1⟩ : ∃ A1, (fun v => if v = w then n else A v) = A1 := ⟨_, rfl⟩
  have A1w : A1 w = n := by rw [← eA1]; exact if_pos rfl
  have A1v : ∀ v, v ≠ w → A1 v = A v := fun v hv => by rw [← eA1]; exact if_neg hv
  have hB1 : ∀ K, zFw I K → zB0 (n + 1) kd1 (uR R1 35 w (some n)) L s (I 81 12).toInt.toNat A1 I1 (zrs w kk ff K) := fun K hK => by
    have h3 : K 81 3 = I 81 3 := hK.2 3 (by decide)
    have := zB0_new (zB0_K hB hK) (by rw [h3]; exact hw) hk hf eI eR i0 i1 i2
    rw [ek, eA1] at this
    exact this
  have hBI := hB1 I ⟨fun _ _ _ => rfl, fun _ _ => rfl⟩
  have c3 : zrs w kk ff I 81 3 = I 81 3 := by rw [zrs_ne (by decide) (by decide)]
  have hW1 := zB0_Wo hBI
  rw [c3] at hW1
  obtain ⟨-, ⟨e4, e2', r3, r2⟩, -, -, l1, l2, l3, l4, l5, l6⟩ := id hB
  have I132 : I1 32 = I 32 := eI 32 (by omega)
  -- laying
  obtain ⟨I0, y1, y2, y3, ⟨f2, f3, f4, f5, f8, f9, f10, f11, f12⟩, y5⟩ := g0_lay (R := R1) (I := I1) hBI.1.1 (some L) (I 32 2) (I 32 4)
  have layH : f11_layHeaps (n + 1) kd1 I1 R1 = some (I0, uR R1 42 7 (some L)) := by
    unfold f11_layHeaps
    have e : (I1 32 7).toInt.toNat = (I 81 12).toInt.toNat := by rw [I132]; omega
    rw [g11_textOf2 (by rw [I132]; omega) (by rw [I132]; omega) (by rw [I132]; exact l3), e, eR 36 (by omega), l4, zb_some, I132, y1, zb_some]
  have wr : ∀ v, v < (I 81 3).toInt.toNat → I0 (A1 v) = I1 (A1 v) := fun v x => by
    have := (hW1 v x).2.2.1
    exact y5 _ (by omega) (by omega)
  obtain ⟨Ia, Ra, g, u1, u2, u3, u4, u5, u6, u7⟩ := zwithL (n := n + 1) (kd := kd1) (A := A1) (w := w) (cn := I 81 3) (fr := fun v => I1 (A1 v) 2) r3 hw (I 81 3).toInt.toNat zF 0 I0 (uR R1 42 7 (some L)) 0 (by rw [z0]; omega) (by rw [z0]; omega) (by unfold zF; omega) (by rw [y5 32 (by decide) (by decide), I132]; exact e4) (fun v x => by
    obtain ⟨v1, v2, v3, v4⟩ := hW1 v x
    refine ⟨?_, v2, v3, by rw [wr v x]; exact v4⟩
    rw [A1w]
    by_cases c : v = w
    · rw [c, uR_at, A1w]
    · rw [uR_off c] at v1 ⊢
      rw [uR_ne (by decide)]
      exact v1) (fun v x => by rw [wr v x]) (by rw [z0]; rfl) ⟨by rw [f2, z0]; rfl, fun k hk => absurd hk (Nat.not_lt_zero k)⟩
  rw [A1w] at u1
  have lay : f11_layPlainWith (n + 1) kd1 (some n) I1 R1 = some (Ia, Ra) := by
    unfold f11_layPlainWith
    rw [layH, zb_some]
    exact u1
  have hh : ∀ h, h < 9 → Ia (46 + h) = I0 (46 + h) := fun h x => u6 _ (fun v y => by
    have := (hW1 v y).2.2.1
    omega) (by omega)
  have hRa : ∀ b', b' ≠ 42 → b' ≠ 44 → Ra b' = R1 b' := fun b' x y => by rw [u7 b' y, uR_ne x]
  have hl : zlaid L s A1 I1 (uR R1 35 w (some n)) (I 81 3).toInt Ia (uR Ra 35 w (some n)) := by
    refine ⟨g, u2, ⟨u3.1, fun k hk => ⟨by rw [uR_ne (by decide)]; exact (u3.2 k hk).1, (u3.2 k hk).2⟩⟩, ⟨fun h x => ?_, ?_, ?_⟩, ⟨fun b' z1' z2' z3' z4' z5' z6' => ?_, fun v j x y => ?_, fun h x => by rw [hh h x, y3 h x]⟩, fun b' x y => ?_⟩
    · have := y2 h x
      unfold zhl at this ⊢
      rw [hh h x]
      exact this
    · rw [u5 3 (by decide), u5 4 (by decide), u5 5 (by decide), u5 8 (by decide), u5 9 (by decide), u5 10 (by decide), u5 11 (by decide), u5 12 (by decide), I132]
      exact ⟨f3, f4, f5, f8, f9, f10, f11, f12⟩
    · rw [uR_ne (by decide), u7 42 (by decide), uR_at]
    · rw [u6 b' (fun v y => z4' v (by omega)) z1', y5 b' z1' z3']
    · by_cases c : v < (I 81 3).toInt.toNat
      · rw [u4 v j c y, wr v c]
      · have : A1 v = 0 := by rw [A1v v (by omega), hA0 v (by omega)]
        rw [this, u6 0 (fun v' q => by have := (hW1 v' q).2.2.1; omega) (by decide), y5 0 (by decide) (by decide)]
    · by_cases c : b' = 35
      · subst c
        funext j
        by_cases c2 : j = w
        · rw [c2, uR_at, uR_at]
        · rw [uR_off c2, uR_off c2, hRa 35 (by decide) (by decide)]
      · rw [uR_ne c, uR_ne c, hRa b' x y]
  have hF := hl.choose_spec.2.2.2.1
  have hLb := zLo_big l5.1
  have go : ∀ K, zFw I K → K 93 = I 93 → ∃ Ib M, f0_pass (n + 1) kd1 Ra sec Ia = some Ib ∧ f12_goesPlain sec (zrs w kk ff K) = some M ∧ (∃ v, f11_firstOtherwise Ib s1 = some v ∧ f12_unlikeNow M s1 = some v) ∧ zFX A1 s I1 Ib ∧ zFM (zrs w kk ff K) M := fun K hK h93 => by
    have hBK := hB1 K hK
    have k3 : zrs w kk ff K 81 3 = I 81 3 := by rw [zrs_ne (by decide) (by decide)]; exact hK.2 3 (by decide)
    have hlK : zlaid L s A1 I1 (uR R1 35 w (some n)) (zrs w kk ff K 81 3).toInt Ia (uR Ra 35 w (some n)) := by rw [k3]; exact hl
    obtain ⟨p1, p2⟩ := zlaid_w hBK hlK
    obtain ⟨-, -, -, -, m1, m2, m3, m4, m5, m6⟩ := id hBK
    obtain ⟨-, g2, g3, g4, g5, g6, g7, g8, g9, -⟩ := id m5.1
    obtain ⟨ha', hb', hs', hn', hc'⟩ := zB0_A hBK
    have row : ∀ i, 2 ≤ i → i ≤ 4 → Ia (s + i) = I1 (s + i) := fun i i2 i4 => by
      have k0 : (kd1 (s + i)).1 = 0 := by
        rcases (show i = 2 ∨ i = 3 ∨ i = 4 by omega) with e | e | e
        · rw [e, g6]
        · rw [e]; exact g7
        · rw [e, g9]
      exact hF.1 (s + i) (by omega) (by omega) (by omega) (fun v hv => hc' _ k0 (by omega) v hv) (by omega) (by omega)
    have lw : zLw (n + 1) kd1 (uR Ra 35 w (some n)) L s Ia (zrs w kk ff K) (I 81 12).toInt.toNat := by
      refine ⟨?_, zLx_eq m5.2 (row 2 (by decide) (by decide)) (row 3 (by decide) (by decide)) (row 4 (by decide) (by decide)) rfl rfl⟩
      have q := m5.1
      unfold zLo at q ⊢
      rw [uR_ne (by omega), hRa L (by omega) (by omega)]
      rw [uR_ne (by omega)] at q
      exact q
    obtain ⟨J0, J1, o1, o2, o3, o4⟩ := zlayV hBK (I1' := Ia) (J' := zrs w kk ff K) (R1' := uR Ra 35 w (some n)) (L' := L) (s' := s) (t' := (I 81 12).toInt.toNat) hlK (fun _ _ _ _ => rfl) p1 p2 rfl rfl (fun _ _ _ => rfl) (fun _ _ _ => rfl) ⟨by rw [uR_ne (by decide), u7 42 (by decide), uR_at], lw, m6, by omega⟩
    obtain ⟨Ib, M, w1, w2, w3, w4, w5⟩ := zgoV hBK.1 o1 o2 (zG_R o3 (R' := Ra) (fun b hb => (uR_ne hb).symm)) o4 ct
    have hFb := zFX_tr hF (zFX_I w4)
    have hc2 : zcel s1 Ib M := fun i hi => by
      rw [zB0_rows hBK hFb _ (by omega) (by omega) (by omega) (by omega) (by omega) (by omega), w5.1 93 (by decide) (by decide), zrs_ne (by decide) (by decide), h93, eI _ (by omega)]
      exact zcel_C hC cs i hi
    exact ⟨Ib, M, w1, w2, zunlike cs hc2 (fun h' h9' => (w3.2.2.2.1 h' h9').2.1), hFb, w5⟩
  obtain ⟨Ib, Mx, a1, -, ⟨v0, a2, -⟩, a4, -⟩ := go I ⟨fun _ _ _ => rfl, fun _ _ => rfl⟩ rfl
  have hA := (zB0_A hB).2.1
  have hAs := (zB0_A hB).1
  have r5 : (I 81 3).toInt.toNat ≤ 5 := by omega
  have lA' : ∀ v, v < 5 → A v < n := fun v hv => by
    by_cases c : v < (I 81 3).toInt.toNat
    · exact lA v c
    · rw [hA0 v (by omega)]
      omega
  have hY : zFX A s I (fun b => if b < n then Ib b else I b) := by
    refine ⟨fun b z1' z2' z3' z4' z5' z6' => ?_, fun v j x y => ?_, fun h x => ?_⟩
    · dsimp only
      by_cases c : b < n
      · rw [if_pos c, a4.1 b z1' z2' z3' (fun v hv => by
          by_cases c2 : v = w
          · rw [c2, A1w]; omega
          · rw [A1v v c2]; exact z4' v hv) z5' z6', eI b (by omega)]
      · rw [if_neg c]
    · dsimp only
      have lv := lA' v x
      rw [if_pos lv]
      by_cases c2 : v = w
      · rw [c2]
        have big := (hW w hw).2.2.1
        have sA := hAs w (by omega)
        have lw' := lA w hw
        rw [a4.1 (A w) (by omega) (by omega) (by omega) (fun v' hv' => by
          by_cases c3 : v' = w
          · rw [c3, A1w]; omega
          · rw [A1v v' c3]
            intro q
            by_cases c4 : v' < (I 81 3).toInt.toNat
            · exact c3 (zWo_inj hW r5 hw c4 q).symm
            · have := hA0 v' (by omega)
              omega) sA.1 sA.2, eI _ (by omega)]
      · have := a4.2.1 v j x y
        rw [A1v v c2] at this
        rw [this, eI _ (by omega)]
    · dsimp only
      rw [if_pos (by omega), a4.2.2 h x, eI _ (by omega)]
  have hCY := zC_going (M := fun b => if b < n then Ib b else I b) (R' := fun b => if b < n then Ra b else R b) hC hB hA0 hY zFM_rfl (fun b z1' z2' => by
    by_cases c : b < n
    · rw [if_pos c, hRa b z1' z2', eR b (by omega)]
    · rw [if_neg c])
  have hC1 : zC zT0 (n + 1) kd1 Ib Ra := by
    rw [← ek]
    exact zC_grow hCY (fun b hb => (if_pos hb).symm) (fun b hb => (if_pos hb).symm)
  refine ⟨v0, I1, Ia, Ib, Ra, newW.trans (by rw [ek, eR1]), by rw [ek, eR1]; exact lay, by rw [ek]; exact a1, a2, by rw [ek]; exact hC1, fun b z1' z2' => ?_, ?_, fun K hK h93 => ?_⟩
  · rw [zB0_rows hBI a4 b (by omega) (by omega) (by omega) (by omega) (by omega) (by omega), eI b (by omega)]
  · rw [hRa 35 (by decide) (by decide), eR 35 (by omega)]
  · obtain ⟨Ib', M, b1, b2, ⟨v1, b3, b3'⟩, b4, b5⟩ := go K hK h93
    rw [a1] at b1
    cases b1
    rw [a2] at b3
    cases b3
    refine ⟨M, ?_, b5⟩
    unfold f12_unlike
    rw [b2, zb_some, b3', zb_some]
