/-! pure part: cell -/
theorem zC_sheets {T : Nat → zMK → zMI → zMR → Prop} (hT : zTq T) {n : Nat} {kd : zMK} {I J : zMI} {R : zMR} (h : zC T n kd I R) (e : ∀ a, a < 73 ∨ 80 < a → a ≠ 91 → a ≠ 92 → a ≠ 93 → J a = I a) (hs : zCs J) : zC T n kd J R := by
  obtain ⟨h1, h2, h3, h4, h5, h6, h7, h8⟩ := h
  have e32 := e 32 (by decide) (by decide) (by decide) (by decide)
  have e81 := e 81 (by decide) (by decide) (by decide) (by decide)
  refine ⟨h1, ?_, ?_, ?_, hs, ?_, ?_, zTq_same hT h1 (by rw [e81]) (fun a ha => ?_) h8⟩
  · unfold zCn at h2 ⊢
    rw [e32, e81, e 37 (by decide) (by decide) (by decide) (by decide)]
    exact h2
  · unfold zCh at h3 ⊢
    rw [e 33 (by decide) (by decide) (by decide) (by decide), e 34 (by decide) (by decide) (by decide) (by decide), e 82 (by decide) (by decide) (by decide) (by decide), e 83 (by decide) (by decide) (by decide) (by decide)]
    exact h3
  · unfold zCt at h4 ⊢
    rw [e81, e 38 (by decide) (by decide) (by decide) (by decide), e 87 (by decide) (by decide) (by decide) (by decide)]
    exact h4
  · unfold zCi at h6 ⊢
    rw [e32, e81, e 64 (by decide) (by decide) (by decide) (by decide), e 65 (by decide) (by decide) (by decide) (by decide), e 66 (by decide) (by decide) (by decide) (by decide), e 90 (by decide) (by decide) (by decide) (by decide)]
    exact h6
  · intro i hi
    rw [e81] at hi
    obtain ⟨a, q1, q2, q3, q4⟩ := h7 i hi
    refine ⟨a, q1, q2, q3, ?_⟩
    rw [e a (by omega) (by omega) (by omega) (by omega), e 84 (by decide) (by decide) (by decide) (by decide), e 85 (by decide) (by decide) (by decide) (by decide), e 86 (by decide) (by decide) (by decide) (by decide)]
    exact q4
  · unfold zTa at ha
    exact e a (by omega) (by omega) (by omega) (by omega)
def zcv (t v : Int32) : Int32 := if t = 0 then v.toInt8.toInt32 else if t = 1 then v.toInt16.toInt32 else v
theorem zSe_ok {k : Nat} (h : k < 4) : zSeB (73 + 2 * k) = true := by
  rcases (show k = 0 ∨ k = 1 ∨ k = 2 ∨ k = 3 by omega) with rfl | rfl | rfl | rfl <;> rfl
theorem g11_sheetOf (s : Int32) : f11_sheetOf s = some (if 0 ≤ s.toInt ∧ s.toInt ≤ 3 then some (73 + 2 * s.toNatClampNeg) else none) := by
  have z4 : (4 : Int32).toInt = 4 := rfl
  unfold f11_sheetOf
  simp only [zlt_iff, zle_iff, zibT, z0, z4]
  repeat' split
  all_goals first | rfl | (exfalso; omega)
theorem g6_holds {I : zMI} {k : Nat} {i : Int32} (hk : k < 4) (hs : 0 ≤ (I (73 + 2 * k) 1).toInt ∧ (I (73 + 2 * k) 1).toInt ≤ 40) : f6_holds I (73 + 2 * k) i 1 = some (zB (0 ≤ i.toInt ∧ i.toInt < (I (73 + 2 * k) 1).toInt)) := by
  have es : (I (73 + 2 * k) 1 - 1).toInt = (I (73 + 2 * k) 1).toInt - 1 := zsub (by rw [z1]; omega) (by rw [z1]; omega)
  have n1 : ¬ (1 : Int32) < 0 := by decide
  unfold f6_holds
  rw [if_neg n1, if_pos (zSe_ok hk)]
  have e : (if i < 0 then some (0 : Int32) else if I (73 + 2 * k) 1 - 1 < i then some 0 else some 1) = some (zB (0 ≤ i.toInt ∧ i.toInt < (I (73 + 2 * k) 1).toInt)) := by
    unfold zB
    simp only [zlt_iff, z0, es]
    repeat' split
    all_goals first | rfl | (exfalso; omega)
  rw [e, zb_some, if_pos (zB_bB _)]
theorem zH34_ok {T : Nat → zMK → zMI → zMR → Prop} (hT : zTq T) : zH34 (zC T) := fun n kd I R s i v hC => by
  have z3 : (3 : Int32).toInt = 3 := rfl
  by_cases cs : 0 ≤ s.toInt ∧ s.toInt ≤ 3
  · have hk : s.toNatClampNeg < 4 := by rw [zcl_iff]; omega
    obtain ⟨t1, t2, t3, t4, t5⟩ := hC.2.2.2.2.1 _ hk
    have hz : zib s 4 = true := zib_ok cs.1 (by omega)
    have hs1 : 0 ≤ (I (73 + 2 * s.toNatClampNeg) 1).toInt ∧ (I (73 + 2 * s.toNatClampNeg) 1).toInt ≤ 40 := by rw [t2]; exact t4
    have hh := g6_holds (i := i) hk hs1
    have es : (I 92 s.toNatClampNeg - 1).toInt = (I 92 s.toNatClampNeg).toInt - 1 := zsub (by rw [z1]; omega) (by rw [z1]; omega)
    by_cases cm : I 91 s.toNatClampNeg = -1
    · refine ⟨(-11, I), ?_, (-11, I), ?_, rfl, hC⟩
      · unfold f11_cell f6_missing
        rw [g11_sheetOf, zb_some, if_pos cs, zm_some, if_pos (zSe_ok hk), if_pos (zSe_ok hk), t1, if_pos cm]
        rfl
      · unfold f12_cell
        rw [g12_in, zb_some, z0, z3]
        simp only [zB_0]
        rw [if_neg (not_not_intro cs), if_pos hz, if_pos cm]
    · have fm : f6_missing I (73 + 2 * s.toNatClampNeg) = some 0 := by
        unfold f6_missing
        rw [if_pos (zSe_ok hk), t1, if_neg cm]
        rfl
      by_cases ci : 0 ≤ i.toInt ∧ i.toInt < (I 92 s.toNatClampNeg).toInt
      · have ci' : 0 ≤ i.toInt ∧ i.toInt < (I (73 + 2 * s.toNatClampNeg) 1).toInt := by rw [t2]; exact ci
        have e40 : ((40 : Int32) * s).toInt = 40 * s.toInt := by
          have z40 : (40 : Int32).toInt = 40 := rfl
          rw [zmul (by rw [z40]; omega) (by rw [z40]; omega), z40]
        have ei : ((40 : Int32) * s + i).toInt = 40 * s.toInt + i.toInt := by rw [zadd (by omega) (by omega), e40]
        have en : ((40 : Int32) * s + i).toNatClampNeg = 40 * s.toNatClampNeg + i.toNatClampNeg := by
          rw [zcl_iff, zcl_iff, zcl_iff, ei]
          omega
        have hi : i.toNatClampNeg < 40 := by rw [zcl_iff]; omega
        refine ⟨(1, uI I (73 + 2 * s.toNatClampNeg + 1) i.toNatClampNeg (zcv (I 91 s.toNatClampNeg) v)), ?_, (1, uI (uI I (73 + 2 * s.toNatClampNeg + 1) i.toNatClampNeg (zcv (I 91 s.toNatClampNeg) v)) 93 (40 * s.toNatClampNeg + i.toNatClampNeg) (zcv (I 91 s.toNatClampNeg) v)), ?_, rfl, ?_⟩
        · have hp : f6_put (73 + 2 * s.toNatClampNeg) i v I = some (uI I (73 + 2 * s.toNatClampNeg + 1) i.toNatClampNeg (zcv (I 91 s.toNatClampNeg) v)) := by
            unfold f6_put
            rw [if_pos (zSe_ok hk), hh, zb_some]
            simp only [zB_0]
            rw [if_neg (not_not_intro ci'), zl_eq, if_pos (zib_ok ci.1 (by omega)), zl_eq, t1]
            rfl
          unfold f11_cell
          rw [g11_sheetOf, zb_some, if_pos cs, zm_some, if_pos (zSe_ok hk), fm, zb_some, if_pos rfl, hh, zb_some]
          simp only [zB_0]
          rw [if_neg (not_not_intro ci'), hp, zb_some]
        · unfold f12_cell
          have F91 : ∀ x : Int32, uI I (73 + 2 * s.toNatClampNeg + 1) i.toNatClampNeg x 91 = I 91 := fun x => uI_ne (by omega)
          have F92 : ∀ x : Int32, uI I (73 + 2 * s.toNatClampNeg + 1) i.toNatClampNeg x 92 = I 92 := fun x => uI_ne (by omega)
          dsimp only
          simp only [F91, F92]
          rw [g12_in, zb_some, z0, z3, g12_in, zb_some, z0, es]
          simp only [zB_0]
          rw [if_neg (not_not_intro cs), if_pos hz, if_neg cm, if_neg (by omega), zl_eq, if_pos (zib_ok (by omega) (by omega)), zl_eq, en]
          rfl
        · dsimp only
          refine zC_sheets hT hC (fun a h1 h2 h3 h4 => by rw [uI_ne h4, uI_ne (by omega)]) fun k hk4 => ?_
          obtain ⟨w1, w2, w3, w4, w5⟩ := hC.2.2.2.2.1 k hk4
          rw [uI_ne (show 73 + 2 * k ≠ 93 by omega), uI_ne (show 73 + 2 * k ≠ 73 + 2 * s.toNatClampNeg + 1 by omega), uI_ne (show 91 ≠ 93 by decide), uI_ne (show 91 ≠ 73 + 2 * s.toNatClampNeg + 1 by omega), uI_ne (show 92 ≠ 93 by decide), uI_ne (show 92 ≠ 73 + 2 * s.toNatClampNeg + 1 by omega), uI_ne (show 74 + 2 * k ≠ 93 by omega)]
          refine ⟨w1, w2, w3, w4, fun j hj => ?_⟩
          by_cases ek : k = s.toNatClampNeg
          · by_cases ej : j = i.toNatClampNeg
            · rw [ek, ej, uI_at, show 74 + 2 * s.toNatClampNeg = 73 + 2 * s.toNatClampNeg + 1 by omega, uI_at]
            · rw [uI_off (show 40 * k + j ≠ 40 * s.toNatClampNeg + i.toNatClampNeg by omega), uI_ne (show 93 ≠ 73 + 2 * s.toNatClampNeg + 1 by omega), ek, show 74 + 2 * s.toNatClampNeg = 73 + 2 * s.toNatClampNeg + 1 by omega, uI_off ej, ← show 74 + 2 * s.toNatClampNeg = 73 + 2 * s.toNatClampNeg + 1 by omega]
              exact t5 j hj
          · rw [uI_off (show 40 * k + j ≠ 40 * s.toNatClampNeg + i.toNatClampNeg by omega), uI_ne (show 93 ≠ 73 + 2 * s.toNatClampNeg + 1 by omega), uI_ne (show 74 + 2 * k ≠ 73 + 2 * s.toNatClampNeg + 1 by omega)]
            exact w5 j hj
      · have ci' : ¬ (0 ≤ i.toInt ∧ i.toInt < (I (73 + 2 * s.toNatClampNeg) 1).toInt) := by rw [t2]; exact ci
        refine ⟨(-12, I), ?_, (-12, I), ?_, rfl, hC⟩
        · unfold f11_cell
          rw [g11_sheetOf, zb_some, if_pos cs, zm_some, if_pos (zSe_ok hk), fm, zb_some, if_pos rfl, hh, zb_some]
          simp only [zB_0]
          rw [if_pos ci']
        · unfold f12_cell
          rw [g12_in, zb_some, z0, z3, g12_in, zb_some, z0, es]
          simp only [zB_0]
          rw [if_neg (not_not_intro cs), if_pos hz, if_neg cm, if_pos (by omega)]
  · refine ⟨(-2, I), ?_, (-2, I), ?_, rfl, hC⟩
    · unfold f11_cell
      rw [g11_sheetOf, zb_some, if_neg cs, zm_none]
    · unfold f12_cell
      rw [g12_in, zb_some, z0, z3]
      simp only [zB_0]
      rw [if_pos cs]
