/-! pure part: walker, the invariant behind it -/
def zNW (I : zMI) (n : Nat) (k m h : Int32) : zMI := uI (uI (uI (uI (uI (uI (uI (uI (uA I n (fun _ => 0)) n 0 (I 81 3)) n 1 m) n 2 h) 32 4 (I 81 3 + 1)) 84 (I 81 3).toNatClampNeg k) 85 (I 81 3).toNatClampNeg m) 86 (I 81 3).toNatClampNeg h) 81 3 (I 81 3 + 1)
theorem uA_ne {I : zMI} {a b : Nat} {f : Nat → Int32} (h : b ≠ a) : uA I a f b = I b := if_neg h
theorem zNW_ne {I : zMI} {n b : Nat} {k m h : Int32} (h0 : b ≠ n) (h1 : b ≠ 32) (h2 : b ≠ 81) (h3 : b ≠ 84) (h4 : b ≠ 85) (h5 : b ≠ 86) : zNW I n k m h b = I b := by
  unfold zNW
  rw [uI_ne h2, uI_ne h5, uI_ne h4, uI_ne h3, uI_ne h1, uI_ne h0, uI_ne h0, uI_ne h0, uA_ne h0]
theorem zC_more {T : Nat → zMK → zMI → zMR → Prop} (hT : zTq T) {n : Nat} {kd : zMK} {I : zMI} {R : zMR} {k m h : Int32} (hC : zC T n kd I R) (hc : (I 81 3).toInt < 5) (hk : 0 ≤ k.toInt ∧ k.toInt ≤ 5) (hm : 0 ≤ m.toInt ∧ m.toInt ≤ 9) (hh : 0 ≤ h.toInt ∧ h.toInt ≤ 8) :
    zC T (n + 1) (uK kd n (16 + zkc k, 0)) (zNW I n k m h) (uR (uRA R n) 35 (I 81 3).toNatClampNeg (some n)) := by
  obtain ⟨g1, g2, g3, g4, g5, g6, g7, g8⟩ := hC
  have hn := g1.1
  have q2 := g2
  unfold zCn at q2
  obtain ⟨e1, e2, e3, e4, e5, r3, r2, r11, r12, r8⟩ := q2
  have ec : (I 81 3 + 1).toInt = (I 81 3).toInt + 1 := zadd (by rw [z1]; omega) (by rw [z1]; omega)
  have F : ∀ b, b ≠ n → b ≠ 32 → b ≠ 81 → b ≠ 84 → b ≠ 85 → b ≠ 86 → zNW I n k m h b = I b := fun b h0 h1 h2 h3 h4 h5 => zNW_ne h0 h1 h2 h3 h4 h5
  have F81 : ∀ j, j ≠ 3 → zNW I n k m h 81 j = I 81 j := fun j hj => by
    unfold zNW
    rw [uI_off hj, uI_ne (by decide), uI_ne (by decide), uI_ne (by decide), uI_ne (by decide), uI_ne (by omega), uI_ne (by omega), uI_ne (by omega), uA_ne (by omega)]
  have F813 : zNW I n k m h 81 3 = I 81 3 + 1 := by
    unfold zNW
    rw [uI_at]
  have F32 : ∀ j, j ≠ 4 → zNW I n k m h 32 j = I 32 j := fun j hj => by
    unfold zNW
    rw [uI_ne (by decide), uI_ne (by decide), uI_ne (by decide), uI_ne (by decide), uI_off hj, uI_ne (by omega), uI_ne (by omega), uI_ne (by omega), uA_ne (by omega)]
  have F324 : zNW I n k m h 32 4 = I 81 3 + 1 := by
    unfold zNW
    rw [uI_ne (by decide), uI_ne (by decide), uI_ne (by decide), uI_ne (by decide), uI_at]
  have Fn : ∀ b, b ≠ 81 → b ≠ 86 → b ≠ 85 → b ≠ 84 → b ≠ 32 → zNW I n k m h b = uI (uI (uI (uA I n (fun _ => 0)) n 0 (I 81 3)) n 1 m) n 2 h b := fun b h1 h2 h3 h4 h5 => by
    unfold zNW
    rw [uI_ne h1, uI_ne h2, uI_ne h3, uI_ne h4, uI_ne h5]
  have F84 : zNW I n k m h 84 = uI I 84 (I 81 3).toNatClampNeg k 84 := by
    unfold zNW
    funext j
    rw [uI_ne (by decide), uI_ne (by decide), uI_ne (by decide)]
    by_cases hj : j = (I 81 3).toNatClampNeg
    · rw [hj, uI_at, uI_at]
    · rw [uI_off hj, uI_off hj, uI_ne (by decide), uI_ne (by omega), uI_ne (by omega), uI_ne (by omega), uA_ne (by omega)]
  have F85 : zNW I n k m h 85 = uI I 85 (I 81 3).toNatClampNeg m 85 := by
    unfold zNW
    funext j
    rw [uI_ne (by decide), uI_ne (by decide)]
    by_cases hj : j = (I 81 3).toNatClampNeg
    · rw [hj, uI_at, uI_at]
    · rw [uI_off hj, uI_off hj, uI_ne (by decide), uI_ne (by decide), uI_ne (by omega), uI_ne (by omega), uI_ne (by omega), uA_ne (by omega)]
  have F86 : zNW I n k m h 86 = uI I 86 (I 81 3).toNatClampNeg h 86 := by
    unfold zNW
    funext j
    rw [uI_ne (by decide)]
    by_cases hj : j = (I 81 3).toNatClampNeg
    · rw [hj, uI_at, uI_at]
    · rw [uI_off hj, uI_off hj, uI_ne (by decide), uI_ne (by decide), uI_ne (by decide), uI_ne (by omega), uI_ne (by omega), uI_ne (by omega), uA_ne (by omega)]
  refine ⟨zSh_new g1 _, ?_, ?_, ?_, ?_, ?_, ?_, ?_⟩
  · unfold zCn
    rw [F324, F813, F32 2 (by decide), F32 6 (by decide), F32 7 (by decide), F81 2 (by decide), F81 11 (by decide), F81 12 (by decide), F81 8 (by decide), F 37 (by omega) (by decide) (by decide) (by decide) (by decide) (by decide), ec]
    exact ⟨rfl, e2, e3, e4, e5, ⟨by omega, by omega⟩, r2, r11, r12, r8⟩
  · unfold zCh at g3 ⊢
    rw [F 33 (by omega) (by decide) (by decide) (by decide) (by decide) (by decide), F 34 (by omega) (by decide) (by decide) (by decide) (by decide) (by decide), F 82 (by omega) (by decide) (by decide) (by decide) (by decide) (by decide), F 83 (by omega) (by decide) (by decide) (by decide) (by decide) (by decide)]
    exact g3
  · unfold zCt at g4 ⊢
    rw [F81 8 (by decide), F 38 (by omega) (by decide) (by decide) (by decide) (by decide) (by decide), F 87 (by omega) (by decide) (by decide) (by decide) (by decide) (by decide)]
    exact g4
  · intro s hs
    rw [F (73 + 2 * s) (by omega) (by omega) (by omega) (by omega) (by omega) (by omega), F (74 + 2 * s) (by omega) (by omega) (by omega) (by omega) (by omega) (by omega), F 91 (by omega) (by decide) (by decide) (by decide) (by decide) (by decide), F 92 (by omega) (by decide) (by decide) (by decide) (by decide) (by decide), F 93 (by omega) (by decide) (by decide) (by decide) (by decide) (by decide)]
    exact g5 s hs
  · unfold zCi at g6 ⊢
    rw [F32 18 (by decide), F32 17 (by decide), F32 19 (by decide), F813, F81 11 (by decide), F81 13 (by decide), F81 14 (by decide), F81 15 (by decide), F81 16 (by decide), F 64 (by omega) (by decide) (by decide) (by decide) (by decide) (by decide), F 65 (by omega) (by decide) (by decide) (by decide) (by decide) (by decide), F 66 (by omega) (by decide) (by decide) (by decide) (by decide) (by decide), F 90 (by omega) (by decide) (by decide) (by decide) (by decide) (by decide), ec]
    rcases g6 with g6 | ⟨p1, p2, p3, p4, p5, p6⟩
    · exact Or.inl g6
    · exact Or.inr ⟨p1, p2, p3, p4, ⟨p5.1, by omega⟩, p6⟩
  · intro i hi
    rw [F813, ec] at hi
    rw [F84, F85, F86]
    by_cases e : i = (I 81 3).toNatClampNeg
    · refine ⟨n, ?_, hn, by omega, ?_, ?_⟩
      · unfold uR va_up
        rw [if_pos rfl, if_pos e]
      · unfold uK
        rw [if_pos rfl, e, uI_at]
      · rw [Fn n (by omega) (by omega) (by omega) (by omega) (by omega), e, uI_at, uI_at, uI_at, uI_at, uI_off (by decide), uI_off (by decide), uI_at, uI_off (by decide), uI_at]
        refine ⟨hk, ?_, rfl, hm, rfl, hh⟩
        rw [zcl_iff]
        omega
    · have hi2 : i < (I 81 3).toInt.toNat := by
        rw [zcl_iff] at e
        omega
      obtain ⟨a, w1, w2, w3, w4⟩ := g7 i hi2
      refine ⟨a, ?_, w2, by omega, ?_⟩
      · unfold uR va_up uRA
        rw [if_pos rfl, if_neg e, if_neg (by omega)]
        exact w1
      · unfold uK
        rw [if_neg (by omega), uI_off e, uI_off e, uI_off e, F a (by omega) (by omega) (by omega) (by omega) (by omega) (by omega)]
        exact w4
  · refine hT n (n + 1) kd _ I _ R _ g1 (by omega) (fun a ha => ?_) (fun a ha hx _ => ?_) (fun h hh => by rw [F (46 + h) (by omega) (by omega) (by omega) (by omega) (by omega) (by omega)]) (F81 11 (by decide)) (fun a ha hx => ?_) g8
    · unfold uK
      rw [if_neg (by omega)]
    · unfold zTa at hx
      exact F a (by omega) (by omega) (by omega) (by omega) (by omega) (by omega)
    · unfold uR uRA
      rw [if_neg (by omega), if_neg (by omega)]
