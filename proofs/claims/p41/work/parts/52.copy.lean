/-! pure part: copy -/
theorem g6_holdsN {I : zMI} {k : Nat} {i m : Int32} (hk : k < 4) (hs : 0 ≤ (I (73 + 2 * k) 1).toInt ∧ (I (73 + 2 * k) 1).toInt ≤ 40) : f6_holds I (73 + 2 * k) i m = some (zB (0 ≤ i.toInt ∧ 0 ≤ m.toInt ∧ i.toInt + m.toInt ≤ (I (73 + 2 * k) 1).toInt)) := by
  unfold f6_holds
  rw [if_pos (zSe_ok hk)]
  have e : (if i < 0 then some (0 : Int32) else if m < 0 then some 0 else if I (73 + 2 * k) 1 - m < i then some 0 else some 1) = some (zB (0 ≤ i.toInt ∧ 0 ≤ m.toInt ∧ i.toInt + m.toInt ≤ (I (73 + 2 * k) 1).toInt)) := by
    unfold zB
    have hm := zrange m
    have hi := zrange i
    by_cases c1 : i < 0
    · rw [if_pos c1]
      rw [zlt_iff, z0] at c1
      rw [if_neg (by omega)]
    · rw [if_neg c1]
      rw [zlt_iff, z0] at c1
      by_cases c2 : m < 0
      · rw [if_pos c2]
        rw [zlt_iff, z0] at c2
        rw [if_neg (by omega)]
      · rw [if_neg c2]
        rw [zlt_iff, z0] at c2
        have es : (I (73 + 2 * k) 1 - m).toInt = (I (73 + 2 * k) 1).toInt - m.toInt := zsub (by omega) (by omega)
        simp only [zlt_iff, es]
        by_cases c3 : (I (73 + 2 * k) 1).toInt - m.toInt < i.toInt
        · rw [if_pos c3, if_neg (by omega)]
        · rw [if_neg c3, if_pos (by omega)]
  rw [e, zb_some, if_pos (zB_bB _)]
/-- cells are copied one by one, in the direction that spoils none -/
theorem g12_copyL {N a b : Int32} (hN : 0 ≤ N.toInt ∧ N.toInt ≤ 40) (ha : 0 ≤ a.toInt ∧ a.toInt + N.toInt ≤ 160) (hb : 0 ≤ b.toInt ∧ b.toInt + N.toInt ≤ 160) {I0 : zMI} : ∀ (d q : Nat) (i : Int32) (I : zMI), i.toInt + d = N.toInt → 0 ≤ i.toInt → d < q →
    (∀ p, I 93 p = if (b.toInt ≤ (p : Int) ∧ (p : Int) < b.toInt + N.toInt ∧ (if b.toInt ≤ a.toInt then (p : Int) - b.toInt < i.toInt else N.toInt - i.toInt ≤ (p : Int) - b.toInt)) then I0 93 (a.toInt + ((p : Int) - b.toInt)).toNat else I0 93 p) →
    ∃ J, f12_copy_L147 q N a b i I = some (N, J) ∧ (∀ p, J 93 p = if (b.toInt ≤ (p : Int) ∧ (p : Int) < b.toInt + N.toInt) then I0 93 (a.toInt + ((p : Int) - b.toInt)).toNat else I0 93 p) ∧ ∀ c, c ≠ 93 → J c = I c := by
  intro d
  induction d with
  | zero =>
    intro q i I e h0 hq hI
    obtain ⟨q, rfl⟩ : ∃ p, q = p + 1 := ⟨q - 1, by omega⟩
    refine ⟨I, ?_, fun p => ?_, fun _ _ => rfl⟩
    · unfold f12_copy_L147
      rw [if_pos (by rw [zle_iff]; omega)]
    · rw [hI p]
      by_cases c : b.toInt ≤ a.toInt
      · simp only [if_pos c]
        by_cases c2 : b.toInt ≤ (p : Int) ∧ (p : Int) < b.toInt + N.toInt
        · rw [if_pos c2, if_pos (by omega)]
        · rw [if_neg c2, if_neg (by omega)]
      · simp only [if_neg c]
        by_cases c2 : b.toInt ≤ (p : Int) ∧ (p : Int) < b.toInt + N.toInt
        · rw [if_pos c2, if_pos (by omega)]
        · rw [if_neg c2, if_neg (by omega)]
  | succ d ih =>
    intro q i I e h0 hq hI
    obtain ⟨q, rfl⟩ : ∃ p, q = p + 1 := ⟨q - 1, by omega⟩
    have e1 := zsucc e
    have f1 : (N - 1).toInt = N.toInt - 1 := zsub (by rw [z1]; omega) (by rw [z1]; omega)
    have f2 : (N - 1 - i).toInt = N.toInt - 1 - i.toInt := by rw [zsub (by omega) (by omega), f1]
    obtain ⟨x, hx, hv⟩ : ∃ x : Int32, (if b ≤ a then i else N - 1 - i) = x ∧ x.toInt = if b.toInt ≤ a.toInt then i.toInt else N.toInt - 1 - i.toInt := by
      by_cases c : b ≤ a
      · refine ⟨i, if_pos c, ?_⟩
        rw [if_pos ((zle_iff _ _).mp c)]
      · refine ⟨N - 1 - i, if_neg c, ?_⟩
        rw [zle_iff] at c
        rw [if_neg c, f2]
    have hx0 : 0 ≤ x.toInt ∧ x.toInt < N.toInt := by
      rw [hv]
      split <;> omega
    have ea : (a + x).toInt = a.toInt + x.toInt := zadd (by omega) (by omega)
    have eb : (b + x).toInt = b.toInt + x.toInt := zadd (by omega) (by omega)
    have rd : I 93 (a + x).toNatClampNeg = I0 93 (a.toInt + x.toInt).toNat := by
      rw [hI, zcl_iff, ea]
      by_cases c : b.toInt ≤ a.toInt
      · simp only [if_pos c] at hv ⊢
        rw [if_neg (by omega)]
      · simp only [if_neg c] at hv ⊢
        rw [if_neg (by omega)]
    obtain ⟨J, j1, j2, j3⟩ := ih q (i + 1) (uI I 93 (b + x).toNatClampNeg (I 93 (a + x).toNatClampNeg)) (by omega) (by omega) (by omega) (fun p => by
      by_cases ep : p = (b + x).toNatClampNeg
      · have ep' := ep
        rw [zcl_iff, eb] at ep'
        rw [ep, uI_at, rd, ← ep, e1]
        by_cases c : b.toInt ≤ a.toInt
        · simp only [if_pos c] at hv ⊢
          rw [if_pos (by omega)]
          congr 1
          omega
        · simp only [if_neg c] at hv ⊢
          rw [if_pos (by omega)]
          congr 1
          omega
      · have ep' := ep
        rw [zcl_iff, eb] at ep'
        rw [uI_off ep, hI p, e1]
        by_cases c : b.toInt ≤ a.toInt
        · simp only [if_pos c] at hv ⊢
          by_cases c2 : b.toInt ≤ (p : Int) ∧ (p : Int) < b.toInt + N.toInt ∧ (p : Int) - b.toInt < i.toInt
          · rw [if_pos c2, if_pos (by omega)]
          · rw [if_neg c2, if_neg (by omega)]
        · simp only [if_neg c] at hv ⊢
          by_cases c2 : b.toInt ≤ (p : Int) ∧ (p : Int) < b.toInt + N.toInt ∧ N.toInt - i.toInt ≤ (p : Int) - b.toInt
          · rw [if_pos c2, if_pos (by omega)]
          · rw [if_neg c2, if_neg (by omega)])
    refine ⟨J, ?_, j2, fun c hc => by rw [j3 c hc, uI_ne hc]⟩
    unfold f12_copy_L147
    rw [if_neg (by rw [zle_iff]; omega), hx, zl_eq, if_pos (zib_ok (by omega) (by omega)), if_pos (zib_ok (by omega) (by omega)), zl_eq]
    exact j1
theorem zH35_ok {T : Nat → zMK → zMI → zMR → Prop} (hT : zTq T) : zH35 (zC T) := fun n kd I R s i o j m hC => by
  have z3 : (3 : Int32).toInt = 3 := rfl
  have z40 : (40 : Int32).toInt = 40 := rfl
  have miss : ∀ k, k < 4 → f6_missing I (73 + 2 * k) = some (zB (I 91 k = -1)) := fun k hk => by
    obtain ⟨t1, -⟩ := hC.2.2.2.2.1 k hk
    unfold f6_missing
    rw [if_pos (zSe_ok hk), zl_eq, t1]
    exact if_pos (zB_bB _)
  by_cases cs : 0 ≤ s.toInt ∧ s.toInt ≤ 3
  · by_cases co : 0 ≤ o.toInt ∧ o.toInt ≤ 3
    · have hs : s.toNatClampNeg < 4 := by rw [zcl_iff]; omega
      have ho : o.toNatClampNeg < 4 := by rw [zcl_iff]; omega
      have zs : zib s 4 = true := zib_ok cs.1 (by omega)
      have zo : zib o 4 = true := zib_ok co.1 (by omega)
      obtain ⟨t1, t2, t3, t4, t5⟩ := hC.2.2.2.2.1 _ hs
      obtain ⟨u1, u2, u3, u4, u5⟩ := hC.2.2.2.2.1 _ ho
      by_cases ms : I 91 s.toNatClampNeg = -1
      · refine ⟨(-11, I), ?_, (-11, I), ?_, rfl, hC⟩
        · unfold f11_copy
          simp only [g11_sheetOf, zb_some, if_pos cs, if_pos co, zm_some, zSe_ok hs, miss _ hs, if_true, zB_0]
          rw [if_neg (not_not_intro ms)]
        · unfold f12_copy
          simp only [g12_in, zb_some, z0, z3, zB_0]
          rw [if_neg (not_not_intro cs), if_neg (not_not_intro co), if_pos zs, if_pos ms]
      by_cases mo : I 91 o.toNatClampNeg = -1
      · refine ⟨(-11, I), ?_, (-11, I), ?_, rfl, hC⟩
        · unfold f11_copy
          simp only [g11_sheetOf, zb_some, if_pos cs, if_pos co, zm_some, zSe_ok hs, zSe_ok ho, miss _ hs, miss _ ho, if_true, zB_0]
          rw [if_pos ms, if_neg (not_not_intro mo)]
        · unfold f12_copy
          simp only [g12_in, zb_some, z0, z3, zB_0]
          rw [if_neg (not_not_intro cs), if_neg (not_not_intro co), if_pos zs, if_neg ms, if_pos zo, if_pos mo]
      by_cases es : I 91 s.toNatClampNeg = I 91 o.toNatClampNeg
      · by_cases ok : (0 ≤ i.toInt ∧ 0 ≤ m.toInt ∧ i.toInt + m.toInt ≤ (I 92 s.toNatClampNeg).toInt) ∧ (0 ≤ j.toInt ∧ 0 ≤ m.toInt ∧ j.toInt + m.toInt ≤ (I 92 o.toNatClampNeg).toInt)
        · have h1 : f6_holds I (73 + 2 * s.toNatClampNeg) i m = some 1 := by
            rw [g6_holdsN hs (by rw [t2]; exact t4), t2]
            exact congrArg some (if_pos ok.1)
          have h2 : f6_holds I (73 + 2 * o.toNatClampNeg) j m = some 1 := by
            rw [g6_holdsN ho (by rw [u2]; exact u4), u2]
            exact congrArg some (if_pos ok.2)
          have zc : zcpB i j m 40 40 = true := by
            unfold zcpB
            simp only [Bool.and_eq_true, decide_eq_true_eq, zle_iff, z0, zcl_iff]
            omega
          have n10 : ¬ (1 : Int32) = 0 := by decide
          have ea1 : ((40 : Int32) * s).toInt = 40 * s.toInt := by rw [zmul (by rw [z40]; omega) (by rw [z40]; omega), z40]
          have ea : ((40 : Int32) * s + i).toInt = 40 * s.toInt + i.toInt := by rw [zadd (by omega) (by omega), ea1]
          have eb1 : ((40 : Int32) * o).toInt = 40 * o.toInt := by rw [zmul (by rw [z40]; omega) (by rw [z40]; omega), z40]
          have eb : ((40 : Int32) * o + j).toInt = 40 * o.toInt + j.toInt := by rw [zadd (by omega) (by omega), eb1]
          have es1 : (I 92 s.toNatClampNeg - i).toInt = (I 92 s.toNatClampNeg).toInt - i.toInt := zsub (by omega) (by omega)
          have es2 : (I 92 o.toNatClampNeg - j).toInt = (I 92 o.toNatClampNeg).toInt - j.toInt := zsub (by omega) (by omega)
          generalize hK : uA I (73 + 2 * o.toNatClampNeg + 1) (va_cpy (I (73 + 2 * s.toNatClampNeg + 1)) (I (73 + 2 * o.toNatClampNeg + 1)) i.toNatClampNeg j.toNatClampNeg m.toNatClampNeg) = K
          have K_ne : ∀ b, b ≠ 73 + 2 * o.toNatClampNeg + 1 → K b = I b := fun b hb => by rw [← hK, uA_ne hb]
          have K91 : K 91 = I 91 := K_ne 91 (by omega)
          have K92 : K 92 = I 92 := K_ne 92 (by omega)
          obtain ⟨J, j1, j2, j3⟩ := g12_copyL (N := m) (a := (40 : Int32) * s + i) (b := (40 : Int32) * o + j) ⟨ok.1.2.1, by omega⟩ ⟨by omega, by omega⟩ ⟨by omega, by omega⟩ (I0 := K) m.toInt.toNat zF 0 K (by rw [z0]; omega) (by rw [z0]; omega) (by unfold zF; omega) (fun p => by
            rw [z0]
            by_cases c : ((40 : Int32) * o + j).toInt ≤ ((40 : Int32) * s + i).toInt
            · simp only [if_pos c]
              rw [if_neg (by omega)]
            · simp only [if_neg c]
              rw [if_neg (by omega)])
          refine ⟨(m, K), ?_, (m, J), ?_, rfl, ?_⟩
          · unfold f11_copy
            simp only [g11_sheetOf, zb_some, if_pos cs, if_pos co, zm_some, zSe_ok hs, zSe_ok ho, miss _ hs, miss _ ho, if_true, zB_0, h1, h2, zc, n10, if_false, zl_eq, hK]
            rw [if_pos ms, if_pos mo, if_pos (by rw [t1, u1]; exact es)]
          · unfold f12_copy
            simp only [g12_in, zb_some, z0, z3, zB_0, zl_eq, K91, K92]
            rw [if_neg (not_not_intro cs), if_neg (not_not_intro co), if_pos zs, if_neg ms, if_pos zo, if_neg mo, if_pos es, if_neg (by rw [zlt_iff, z0]; omega), if_neg (by rw [zlt_iff, z0]; omega), if_neg (by rw [zlt_iff, z0]; omega), if_neg (by rw [zlt_iff]; omega), if_neg (by rw [zlt_iff]; omega), if_neg (by rw [zlt_iff]; omega), if_pos (by rw [zle_iff]; omega)]
            exact j1
          · show zC T n kd J R
            refine zC_sheets hT hC (fun a x1 x2 x3 x4 => by rw [j3 a x4, K_ne a (by omega)]) fun k hk => ?_
            obtain ⟨w1, w2, w3, w4, w5⟩ := hC.2.2.2.2.1 k hk
            rw [j3 (73 + 2 * k) (by omega), K_ne (73 + 2 * k) (by omega), j3 91 (by decide), K91, j3 92 (by decide), K92, j3 (74 + 2 * k) (by omega)]
            refine ⟨w1, w2, w3, w4, fun y hy => ?_⟩
            have K93 : K 93 = I 93 := K_ne 93 (by omega)
            rw [j2, K93, ea, eb]
            have eo : o.toNatClampNeg = o.toInt.toNat := zcl_iff o
            have esn : s.toNatClampNeg = s.toInt.toNat := zcl_iff s
            by_cases ek : k = o.toNatClampNeg
            · rw [ek, ← hK, show 74 + 2 * o.toNatClampNeg = 73 + 2 * o.toNatClampNeg + 1 by omega]
              unfold uA va_cpy
              rw [if_pos rfl]
              by_cases cy : j.toNatClampNeg ≤ y ∧ y < j.toNatClampNeg + m.toNatClampNeg
              · rw [zcl_iff, zcl_iff] at cy
                rw [if_pos (by rw [zcl_iff, zcl_iff]; exact cy), if_pos (by omega), show 73 + 2 * s.toNatClampNeg + 1 = 74 + 2 * s.toNatClampNeg by omega, t5 _ (by rw [zcl_iff, zcl_iff]; omega)]
                congr 1
                rw [zcl_iff i, zcl_iff j]
                omega
              · rw [zcl_iff, zcl_iff] at cy
                rw [if_neg (by rw [zcl_iff, zcl_iff]; exact cy), if_neg (by omega), show 73 + 2 * o.toNatClampNeg + 1 = 74 + 2 * o.toNatClampNeg by omega]
                exact u5 y hy
            · rw [K_ne (74 + 2 * k) (by omega), if_neg (by omega)]
              exact w5 y hy
        · refine ⟨(-12, I), ?_, (-12, I), ?_, rfl, hC⟩
          · unfold f11_copy
            simp only [g11_sheetOf, zb_some, if_pos cs, if_pos co, zm_some, zSe_ok hs, zSe_ok ho, miss _ hs, miss _ ho, if_true, zB_0]
            rw [if_pos ms, if_pos mo, if_pos (by rw [t1, u1]; exact es), g6_holdsN hs (by rw [t2]; exact t4), g6_holdsN ho (by rw [u2]; exact u4), t2, u2, zb_some]
            simp only [zB_0, zb_some]
            by_cases q : 0 ≤ i.toInt ∧ 0 ≤ m.toInt ∧ i.toInt + m.toInt ≤ (I 92 s.toNatClampNeg).toInt
            · rw [if_neg (not_not_intro q), if_pos (fun q2 => ok ⟨q, q2⟩)]
            · rw [if_pos q]
          · have hi := zrange i
            have hj := zrange j
            have hm := zrange m
            unfold f12_copy
            simp only [g12_in, zb_some, z0, z3, zB_0, zl_eq]
            rw [if_neg (not_not_intro cs), if_neg (not_not_intro co), if_pos zs, if_neg ms, if_pos zo, if_neg mo, if_pos es]
            by_cases c1 : m < 0
            · rw [if_pos c1]
            rw [if_neg c1]
            by_cases c2 : i < 0
            · rw [if_pos c2]
            rw [if_neg c2]
            by_cases c3 : j < 0
            · rw [if_pos c3]
            rw [if_neg c3]
            rw [zlt_iff, z0] at c1 c2 c3
            have es1 : (I 92 s.toNatClampNeg - i).toInt = (I 92 s.toNatClampNeg).toInt - i.toInt := zsub (by omega) (by omega)
            have es2 : (I 92 o.toNatClampNeg - j).toInt = (I 92 o.toNatClampNeg).toInt - j.toInt := zsub (by omega) (by omega)
            by_cases c4 : I 92 s.toNatClampNeg < i
            · rw [if_pos c4]
            rw [if_neg c4]
            by_cases c5 : I 92 o.toNatClampNeg < j
            · rw [if_pos c5]
            rw [if_neg c5]
            by_cases c6 : I 92 s.toNatClampNeg - i < m
            · rw [if_pos c6]
            rw [if_neg c6, if_neg]
            rw [zlt_iff] at c4 c5 c6
            rw [zle_iff]
            omega
      · refine ⟨(-13, I), ?_, (-13, I), ?_, rfl, hC⟩
        · unfold f11_copy
          simp only [g11_sheetOf, zb_some, if_pos cs, if_pos co, zm_some, zSe_ok hs, zSe_ok ho, miss _ hs, miss _ ho, if_true, zB_0]
          rw [if_pos ms, if_pos mo, if_neg (by rw [t1, u1]; exact es)]
        · unfold f12_copy
          simp only [g12_in, zb_some, z0, z3, zB_0]
          rw [if_neg (not_not_intro cs), if_neg (not_not_intro co), if_pos zs, if_neg ms, if_pos zo, if_neg mo, if_neg es]
    · refine ⟨(-2, I), ?_, (-2, I), ?_, rfl, hC⟩
      · unfold f11_copy
        simp only [g11_sheetOf, zb_some, if_pos cs, if_neg co, zm_some, zm_none]
      · unfold f12_copy
        simp only [g12_in, zb_some, z0, z3, zB_0]
        rw [if_neg (not_not_intro cs), if_pos co]
  · refine ⟨(-2, I), ?_, (-2, I), ?_, rfl, hC⟩
    · unfold f11_copy
      simp only [g11_sheetOf, zb_some, if_neg cs, zm_none]
    · unfold f12_copy
      simp only [g12_in, zb_some, z0, z3, zB_0]
      rw [if_pos cs]
