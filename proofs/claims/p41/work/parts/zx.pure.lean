/-! pure part: the law comes to 1 -/
theorem zpure (L : Nat) (xs : Nat → Int32) (hL : L ≤ 260) : zLawOk L xs := by
  obtain ⟨n, kd, I, R, hb, hC, hD⟩ := b_all (sl := L) (sf := xs) hL
  obtain ⟨gh, hg⟩ := x_gh L xs
  obtain ⟨h1, s1, hY⟩ := y_start (sl := L) (sf := xs) hL
  have my := s_many (sf := xs) hL
  have at8 : fL_at L xs 8 = some (sA L xs 8) := s_at hL (k := 8) rfl (by decide)
  have ra := zand_ (a := sA L xs 8) (c := 1023) (by decide)
  have rt := zmod_r (a := sA L xs 8 &&& (1023 : Int32)) (m := 601) ra.1 (by decide)
  have z601 : (601 : Int32).toInt = 601 := rfl
  obtain ⟨t, ht⟩ : ∃ t, (sA L xs 8 &&& (1023 : Int32)) - (sA L xs 8 &&& (1023 : Int32)) / (601 : Int32) * (601 : Int32) = t := ⟨_, rfl⟩
  rw [ht] at rt
  obtain ⟨T, hT, hT6⟩ : ∃ T : Nat, t = Int32.ofNat T ∧ T ≤ 600 := ⟨t.toInt.toNat, (zofn rt.1).symm, by omega⟩
  have hn := hC.1.1
  have Q : xQ L xs (n + 1) (uK kd n (14, 130)) (uA I n (fun _ => 0)) (uRA R n) := by
    have eI : ∀ b, b < n → uA I n (fun _ => 0) b = I b := fun b hb => by
      unfold uA
      exact if_neg (by omega)
    refine ⟨zC_grow hC eI (fun b hb => ?_), zDef_fr hD (fun b x1 x2 => eI b (by omega)) (by rw [eI 81 (by omega)]) (by rw [eI 81 (by omega)]) (by rw [eI 81 (by omega)])⟩
    unfold uRA
    exact if_neg (by omega)
  obtain ⟨I1, R1, I2, M, Lx, s, x1, x2, x3, x4, x5, x6, x7, x8, x9, x10, d2, dM⟩ := x_plain Q hT6
  obtain ⟨pl, p1, p2⟩ := y_tie hL hY hT6 d2 x3
  obtain ⟨pl6, M6, p3, p4⟩ := x_600 hL hY Q
  have hK : xK L xs gh h1 T pl M := ⟨hL, hg, hY, hT6, p1, p2⟩
  have hK6 : xK L xs gh h1 600 pl6 M6 := ⟨hL, hg, hY, by decide, p3, p4⟩
  refine ⟨zJ0, n, kd, I, I, R, h1, sMany L xs, sA L xs 8, pl, gh, hg.1, hb, hC.1, fun _ _ => rfl, s1, my.1, at8, ?_, ?_⟩
  · rw [ht, hT]
    exact p1
  · rw [ht, hT]
    unfold fL_law
    exact x_L56 (ah := n) hK (k331 := fL_law_B331 (n + 1) (uK kd n (14, 130)) L xs n pl.2 gh) (fun I R l6 q e6 => x_B331 hK (fun I R q => x_B543 hK hK6 (fun I R q => x_L610 hK hK6 (k642 := fL_law_B642 (n + 1) (uK kd n (14, 130)) L xs n pl.2 gh) (fun I R q => x_B642 hK q (fun I R c c1 => x_B721 hg ⟨c, c1⟩)) (sMany L xs).toInt.toNat zF 0 I R (by omega) (by unfold zF; omega) q) q) q e6) (sMany L xs).toInt.toNat zF 0 _ _ 0 (by omega) (by unfold zF; omega) Q rfl
