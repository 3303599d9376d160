/-! pure part: walkersBy answers alike -/
theorem zby_loop {T : Nat → zMK → zMI → zMR → Prop} (hT : zTq T) {s f m : Int32} (cs : 0 ≤ s.toInt ∧ s.toInt ≤ 3) (cm : 0 ≤ m.toInt ∧ m.toInt ≤ 5) : ∀ (d q q' : Nat) (i came : Int32) (n : Nat) (kd : zMK) (I J : zMI) (R : zMR), i.toInt + d = m.toInt → 0 ≤ i.toInt → d < q → d < q' → zC T n kd J R → zAc I J →
    ∃ v n' kd' I' R' J', f11_walkersBy_L64 q f m (some (73 + 2 * s.toNatClampNeg)) came i n kd I R = some (v, (n', kd'), I', R') ∧ zC T n' kd' J' R' ∧ zAc I' J' ∧ zAm I' I ∧ ∀ M, zAm M J → ∃ M', f12_walkersBy_L63 q' s f m came i M = some (v, M') ∧ zAm M' J' ∧ zAc M' M := by
  have z3 : (3 : Int32).toInt = 3 := rfl
  have z40 : (40 : Int32).toInt = 40 := rfl
  have hs : s.toNatClampNeg < 4 := by rw [zcl_iff]; omega
  have es : s.toNatClampNeg = s.toInt.toNat := zcl_iff s
  have hz4 : zib s 4 = true := zib_ok cs.1 (by omega)
  intro d
  induction d with
  | zero =>
    intro q q' i came n kd I J R e h0 hq hq' hC hA
    obtain ⟨q, rfl⟩ : ∃ p, q = p + 1 := ⟨q - 1, by omega⟩
    obtain ⟨q', rfl⟩ : ∃ p, q' = p + 1 := ⟨q' - 1, by omega⟩
    have t : m ≤ i := by rw [zle_iff]; omega
    refine ⟨came, n, kd, I, R, J, ?_, hC, hA, fun _ _ _ => rfl, fun M hM => ⟨M, ?_, hM, fun _ _ => rfl⟩⟩
    · unfold f11_walkersBy_L64
      rw [if_pos (zSh_B hC.1), if_pos t]
    · unfold f12_walkersBy_L63
      rw [if_pos t]
  | succ d ih =>
    intro q q' i came n kd I J R e h0 hq hq' hC hA
    obtain ⟨q, rfl⟩ : ∃ p, q = p + 1 := ⟨q - 1, by omega⟩
    obtain ⟨q', rfl⟩ : ∃ p, q' = p + 1 := ⟨q' - 1, by omega⟩
    have t : ¬ m ≤ i := by rw [zle_iff]; omega
    have e1 := zsucc e
    have hf := zrange f
    have e3 : ((3 : Int32) * i).toInt = 3 * i.toInt := by rw [zmul (by rw [z3]; omega) (by rw [z3]; omega), z3]
    obtain ⟨t1, t2, t3, t4, t5⟩ := hC.2.2.2.2.1 _ hs
    have I1 : I (73 + 2 * s.toNatClampNeg) = J (73 + 2 * s.toNatClampNeg) := hA _ (Or.inl (by omega))
    have I2 : I (74 + 2 * s.toNatClampNeg) = J (74 + 2 * s.toNatClampNeg) := hA _ (Or.inl (by omega))
    have n12 : ∀ M, zAm M J → M 92 = J 92 ∧ M 93 = J 93 := fun M hM => ⟨hM 92 (by decide) (by decide), hM 93 (by decide) (by decide)⟩
    have es3 : (J 92 s.toNatClampNeg - 3).toInt = (J 92 s.toNatClampNeg).toInt - 3 := by rw [zsub (by rw [z3]; omega) (by rw [z3]; omega), z3]
    by_cases c0 : f < 0
    · refine ⟨-12, n, kd, I, R, J, ?_, hC, hA, fun _ _ _ => rfl, fun M hM => ⟨M, ?_, hM, fun _ _ => rfl⟩⟩
      · unfold f11_walkersBy_L64
        rw [if_pos (zSh_B hC.1), if_neg t, if_pos c0]
      · unfold f12_walkersBy_L63
        rw [if_neg t, zl_eq, if_pos c0]
    have c0' := c0
    rw [zlt_iff, z0] at c0'
    by_cases c40 : (40 : Int32) < f
    · have c40' := (zlt_iff _ _).mp c40
      rw [z40] at c40'
      refine ⟨-12, n, kd, I, R, J, ?_, hC, hA, fun _ _ _ => rfl, fun M hM => ⟨M, ?_, hM, fun _ _ => rfl⟩⟩
      · unfold f11_walkersBy_L64
        rw [if_pos (zSh_B hC.1), if_neg t, if_neg c0, if_pos c40]
      · unfold f12_walkersBy_L63
        rw [if_neg t, zl_eq, if_neg c0]
        by_cases c : f + 3 * i < f
        · rw [if_pos c]
        · rw [if_neg c, if_pos hz4, if_neg]
          rw [zle_iff, (n12 M hM).1, es3]
          rw [zlt_iff] at c
          omega
    have c40' := c40
    rw [zlt_iff, z40] at c40'
    have ex : (f + 3 * i).toInt = f.toInt + 3 * i.toInt := by rw [zadd (by omega) (by omega), e3]
    have hh := g6_holdsN (I := I) (i := f + 3 * i) (m := 3) hs (by rw [I1, t2]; exact t4)
    rw [I1, t2, z3, ex] at hh
    by_cases ch : f.toInt + 3 * i.toInt + 3 ≤ (J 92 s.toNatClampNeg).toInt
    · have a1 : (f + 3 * i + 1).toInt = f.toInt + 3 * i.toInt + 1 := by rw [zadd (by rw [z1]; omega) (by rw [z1]; omega), ex, z1]
      have a2 : (f + 3 * i + 2).toInt = f.toInt + 3 * i.toInt + 2 := by rw [zadd (by rw [z2]; omega) (by rw [z2]; omega), ex, z2]
      have b0 : ((40 : Int32) * s).toInt = 40 * s.toInt := by rw [zmul (by rw [z40]; omega) (by rw [z40]; omega), z40]
      have b1 : ((40 : Int32) * s + (f + 3 * i)).toInt = 40 * s.toInt + (f.toInt + 3 * i.toInt) := by rw [zadd (by omega) (by omega), b0, ex]
      have b2 : ((40 : Int32) * s + (f + 3 * i) + 1).toInt = 40 * s.toInt + (f.toInt + 3 * i.toInt) + 1 := by rw [zadd (by rw [z1]; omega) (by rw [z1]; omega), b1, z1]
      have b3 : ((40 : Int32) * s + (f + 3 * i) + 2).toInt = 40 * s.toInt + (f.toInt + 3 * i.toInt) + 2 := by rw [zadd (by rw [z2]; omega) (by rw [z2]; omega), b1, z2]
      obtain ⟨k, hk⟩ : ∃ k, J (74 + 2 * s.toNatClampNeg) (f + 3 * i).toNatClampNeg = k := ⟨_, rfl⟩
      obtain ⟨mo, hm⟩ : ∃ k, J (74 + 2 * s.toNatClampNeg) (f + 3 * i + 1).toNatClampNeg = k := ⟨_, rfl⟩
      obtain ⟨h, hh'⟩ : ∃ k, J (74 + 2 * s.toNatClampNeg) (f + 3 * i + 2).toNatClampNeg = k := ⟨_, rfl⟩
      have k' : J 93 ((40 : Int32) * s + (f + 3 * i)).toNatClampNeg = k := by
        rw [← hk, t5 _ (by rw [zcl_iff]; omega)]
        congr 1
        simp only [zcl_iff, b1, ex]
        omega
      have m' : J 93 ((40 : Int32) * s + (f + 3 * i) + 1).toNatClampNeg = mo := by
        rw [← hm, t5 _ (by rw [zcl_iff]; omega)]
        congr 1
        simp only [zcl_iff, b2, a1]
        omega
      have h' : J 93 ((40 : Int32) * s + (f + 3 * i) + 2).toNatClampNeg = h := by
        rw [← hh', t5 _ (by rw [zcl_iff]; omega)]
        congr 1
        simp only [zcl_iff, b3, a2]
        omega
      obtain ⟨e1', e2', e3', e4', e5', r3, -⟩ := hC.2.1
      have F : f11_walkersBy_L64 (q + 1) f m (some (73 + 2 * s.toNatClampNeg)) came i n kd I R = zb (f11_walker k mo h n kd I R) fun p17 =>
          if zShB p17.2.1.1 p17.2.1.2 = true then
          if p17.1 < (0 : Int32) then
          f11_walkersBy_B145 (f11_walkersBy_L64 q) f m (some (73 + 2 * s.toNatClampNeg)) came i p17.2.1.1 p17.2.1.2 p17.2.2.1 p17.2.2.2
          else
          f11_walkersBy_B145 (f11_walkersBy_L64 q) f m (some (73 + 2 * s.toNatClampNeg)) (came + (1 : Int32)) i p17.2.1.1 p17.2.1.2 p17.2.2.1 p17.2.2.2
          else none := by
        rw [f11_walkersBy_L64]
        rw [if_pos (zSh_B hC.1), if_neg t, if_neg c0, if_neg c40, zm_some, if_pos (zSe_ok hs), hh, zb_some]
        simp only [zB_0]
        rw [if_neg (not_not_intro ⟨by omega, by omega, ch⟩), zl_eq, if_pos (zib_ok (by omega) (by omega)), if_pos (zib_ok (by omega) (by omega)), if_pos (zib_ok (by omega) (by omega)), show 73 + 2 * s.toNatClampNeg + 1 = 74 + 2 * s.toNatClampNeg by omega, I2, hk, hm, hh']
      have G : ∀ M, zAm M J → f12_walkersBy_L63 (q' + 1) s f m came i M = zb (f12_walker k mo h M) fun p13 =>
          zl (if p13.1 < (0 : Int32) then ((0 : Int32)) else ((1 : Int32))) fun x16 =>
          f12_walkersBy_L63 q' s f m (came + x16) (i + (1 : Int32)) p13.2 := fun M hM => by
        rw [f12_walkersBy_L63]
        rw [if_neg t, zl_eq, if_neg c0, if_neg (by rw [zlt_iff]; omega), if_pos hz4, (n12 M hM).1, (n12 M hM).2, if_pos (by rw [zle_iff, es3]; omega), zl_eq, if_pos (zib_ok (by omega) (by omega)), if_pos (zib_ok (by omega) (by omega)), if_pos (zib_ok (by omega) (by omega)), k', m', h']
      have n4 : (-4 : Int32) < 0 := by decide
      have n2 : (-2 : Int32) < 0 := by decide
      obtain ⟨p1, p2, p3⟩ := g11_walkerI (R := R) (k := k) (m := mo) (h := h) hC.1 (show I 32 4 = J 81 3 by rw [hA 32 (by decide)]; exact e1') r3
      have P := fun M (hM : zAm M J) => g12_walkerI (I := M) (k := k) (m := mo) (h := h) (hM 81 (by decide) (by decide) ▸ rfl : M 81 3 = J 81 3) r3
      by_cases ok : zOk k mo h
      · by_cases c5 : (J 81 3).toInt < 5
        · obtain ⟨ck, cm', ch'⟩ := ok
          have hC2 := zC_more hT hC c5 ck cm' ch'
          rw [zNW_two] at hC2
          have hn : 114 ≤ n := hC.1.1
          have tn : ¬ J 81 3 < 0 := by rw [zlt_iff, z0]; omega
          obtain ⟨v, n', kd', I', R', J', w1, w2, w3, w5, w4⟩ := ih q q' (i + 1) (came + 1) (n + 1) (uK kd n (16 + zkc k, 0)) (zX7 I n (J 81 3) mo h) _ _ (by omega) (by omega) (by omega) (by omega) hC2 (fun b hb => by rw [zM7_ne hb]; exact zX7_Ac hA b hb)
          refine ⟨v, n', kd', I', R', J', ?_, w2, w3, fun b h1 h2 => by rw [w5 b h1 h2, zX7_ne (by omega) (by omega)], fun M hM => ?_⟩
          · rw [F, p1 ⟨ck, cm', ch'⟩ c5, zb_some]
            dsimp only
            unfold f11_walkersBy_B145
            rw [if_pos (zSh_B hC2.1), if_neg tn, if_pos (zSh_B hC2.1)]
            exact w1
          · obtain ⟨M', x1, x2, x3⟩ := w4 (zM7 M (J 81 3) k mo h) (zM7_Am fun b h1 h2 => by rw [zX7_ne (by omega) (by omega)]; exact hM b h1 h2)
            refine ⟨M', ?_, x2, fun b hb => by rw [x3 b hb, zM7_ne hb]⟩
            rw [G M hM, (P M hM).1 ⟨ck, cm', ch'⟩ c5, zb_some]
            dsimp only
            rw [if_neg tn, zl_eq]
            exact x1
        · obtain ⟨v, n', kd', I', R', J', w1, w2, w3, w5, w4⟩ := ih q q' (i + 1) came n kd I J R (by omega) (by omega) (by omega) (by omega) hC hA
          refine ⟨v, n', kd', I', R', J', ?_, w2, w3, w5, fun M hM => ?_⟩
          · rw [F, p2 ok c5, zb_some]
            dsimp only
            unfold f11_walkersBy_B145
            rw [if_pos (zSh_B hC.1), if_pos n4, if_pos (zSh_B hC.1)]
            exact w1
          · obtain ⟨M', x1, x2, x3⟩ := w4 M hM
            refine ⟨M', ?_, x2, x3⟩
            rw [G M hM, (P M hM).2.1 ok c5, zb_some]
            dsimp only
            rw [if_pos n4, zl_eq, Int32.add_zero]
            exact x1
      · obtain ⟨v, n', kd', I', R', J', w1, w2, w3, w5, w4⟩ := ih q q' (i + 1) came n kd I J R (by omega) (by omega) (by omega) (by omega) hC hA
        refine ⟨v, n', kd', I', R', J', ?_, w2, w3, w5, fun M hM => ?_⟩
        · rw [F, p3 ok, zb_some]
          dsimp only
          unfold f11_walkersBy_B145
          rw [if_pos (zSh_B hC.1), if_pos n2, if_pos (zSh_B hC.1)]
          exact w1
        · obtain ⟨M', x1, x2, x3⟩ := w4 M hM
          refine ⟨M', ?_, x2, x3⟩
          rw [G M hM, (P M hM).2.2 ok, zb_some]
          dsimp only
          rw [if_pos n2, zl_eq, Int32.add_zero]
          exact x1
    · refine ⟨-12, n, kd, I, R, J, ?_, hC, hA, fun _ _ _ => rfl, fun M hM => ⟨M, ?_, hM, fun _ _ => rfl⟩⟩
      · unfold f11_walkersBy_L64
        rw [if_pos (zSh_B hC.1), if_neg t, if_neg c0, if_neg c40, zm_some, if_pos (zSe_ok hs), hh, zb_some]
        simp only [zB_0]
        rw [if_pos (fun q => ch q.2.2)]
      · unfold f12_walkersBy_L63
        rw [if_neg t, zl_eq, if_neg c0, if_neg (by rw [zlt_iff]; omega), if_pos hz4, (n12 M hM).1, if_neg (by rw [zle_iff, es3]; omega)]
theorem zH36_ok {T : Nat → zMK → zMI → zMR → Prop} (hT : zTq T) : zH36 (zC T) := fun n kd I R s t f m hC => by
  have z3 : (3 : Int32).toInt = 3 := rfl
  have z5 : (5 : Int32).toInt = 5 := rfl
  by_cases cs : 0 ≤ s.toInt ∧ s.toInt ≤ 3
  · have hs : s.toNatClampNeg < 4 := by rw [zcl_iff]; omega
    have hz4 : zib s 4 = true := zib_ok cs.1 (by omega)
    obtain ⟨t1, t2, t3, t4, t5⟩ := hC.2.2.2.2.1 _ hs
    by_cases ct : 0 ≤ t.toInt ∧ t.toInt ≤ 2
    · have a1 : ¬ t < 0 := by rw [zlt_iff, z0]; omega
      have a2 : ¬ (2 : Int32) < t := by rw [zlt_iff, z2]; omega
      by_cases cm : 0 ≤ m.toInt ∧ m.toInt ≤ 5
      · have a3 : ¬ m < 0 := by rw [zlt_iff, z0]; omega
        have a4 : m ≤ 5 := by rw [zle_iff, z5]; omega
        have mi : f6_missing I (73 + 2 * s.toNatClampNeg) = some (zB (I 91 s.toNatClampNeg = -1)) := by
          unfold f6_missing
          rw [if_pos (zSe_ok hs), zl_eq, t1]
          exact if_pos (zB_bB _)
        by_cases ms : I 91 s.toNatClampNeg = -1
        · refine ⟨(-11, (n, kd), I, R), ?_, zSh_B hC.1, (-11, I), ?_, rfl, hC⟩
          · unfold f11_walkersBy
            rw [g11_sheetOf, zb_some, if_pos cs, zm_some, if_neg a1, if_neg a2, if_neg a3, if_pos a4, if_pos (zSe_ok hs), mi, zb_some]
            simp only [zB_0]
            rw [if_neg (not_not_intro ms)]
          · unfold f12_walkersBy
            simp only [g12_in, zb_some, zB_0, z0, z2, z3, z5]
            rw [if_neg (not_not_intro cs), if_neg (not_not_intro ct), if_neg (not_not_intro cm), if_pos hz4, if_pos ms]
        · by_cases es : I 91 s.toNatClampNeg = t
          · obtain ⟨v, n', kd', I', R', J', w1, w2, w3, keep, w4⟩ := zby_loop hT (f := f) cs cm m.toInt.toNat 6 zF 0 0 n kd I I R (by rw [z0]; omega) (by rw [z0]; omega) (by omega) (by unfold zF; omega) hC (fun _ _ => rfl)
            obtain ⟨M', x1, x2, x3⟩ := w4 I' keep
            have eM : M' = J' := zA_both (fun b hb => by rw [x3 b hb]; exact w3 b hb) x2
            rw [eM] at x1
            refine ⟨(v, (n', kd'), I', R'), ?_, zSh_B w2.1, (v, J'), ?_, rfl, w2⟩
            · unfold f11_walkersBy
              rw [g11_sheetOf, zb_some, if_pos cs, zm_some, if_neg a1, if_neg a2, if_neg a3, if_pos a4, if_pos (zSe_ok hs), mi, zb_some]
              simp only [zB_0]
              rw [if_pos ms, if_pos (by rw [t1]; exact es)]
              exact w1
            · have k91 : I' 91 = I 91 := keep 91 (by decide) (by decide)
              unfold f12_walkersBy
              simp only [g12_in, zb_some, zB_0, z0, z2, z3, z5, k91]
              rw [if_neg (not_not_intro cs), if_neg (not_not_intro ct), if_neg (not_not_intro cm), if_pos hz4, if_neg ms, if_pos es]
              exact x1
          · refine ⟨(-13, (n, kd), I, R), ?_, zSh_B hC.1, (-13, I), ?_, rfl, hC⟩
            · unfold f11_walkersBy
              rw [g11_sheetOf, zb_some, if_pos cs, zm_some, if_neg a1, if_neg a2, if_neg a3, if_pos a4, if_pos (zSe_ok hs), mi, zb_some]
              simp only [zB_0]
              rw [if_pos ms, if_neg (by rw [t1]; exact es)]
            · unfold f12_walkersBy
              simp only [g12_in, zb_some, zB_0, z0, z2, z3, z5]
              rw [if_neg (not_not_intro cs), if_neg (not_not_intro ct), if_neg (not_not_intro cm), if_pos hz4, if_neg ms, if_neg es]
      · refine ⟨(-2, (n, kd), I, R), ?_, zSh_B hC.1, (-2, I), ?_, rfl, hC⟩
        · unfold f11_walkersBy
          rw [g11_sheetOf, zb_some, if_pos cs, zm_some, if_neg a1, if_neg a2]
          by_cases q : m < 0
          · rw [if_pos q]
          · rw [if_neg q, if_neg (by rw [zlt_iff, z0] at q; rw [zle_iff, z5]; omega)]
        · unfold f12_walkersBy
          simp only [g12_in, zb_some, zB_0, z0, z2, z3, z5]
          rw [if_neg (not_not_intro cs), if_neg (not_not_intro ct), if_pos cm]
    · refine ⟨(-2, (n, kd), I, R), ?_, zSh_B hC.1, (-2, I), ?_, rfl, hC⟩
      · unfold f11_walkersBy
        rw [g11_sheetOf, zb_some, if_pos cs, zm_some]
        by_cases q : t < 0
        · rw [if_pos q]
        · rw [if_neg q, if_pos (by rw [zlt_iff, z0] at q; rw [zlt_iff, z2]; omega)]
      · unfold f12_walkersBy
        simp only [g12_in, zb_some, zB_0, z0, z2, z3, z5]
        rw [if_neg (not_not_intro cs), if_pos ct]
  · refine ⟨(-2, (n, kd), I, R), ?_, zSh_B hC.1, (-2, I), ?_, rfl, hC⟩
    · unfold f11_walkersBy
      rw [g11_sheetOf, zb_some, if_neg cs, zm_none]
    · unfold f12_walkersBy
      simp only [g12_in, zb_some, zB_0, z0, z3]
      rw [if_pos cs]
