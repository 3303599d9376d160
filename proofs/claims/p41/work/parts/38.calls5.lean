/-! pure part: walker answers alike -/
theorem g11_walker {T : Nat → zMK → zMI → zMR → Prop} {n : Nat} {kd : zMK} {I : zMI} {R : zMR} {k m h : Int32} (hC : zC T n kd I R) :
    f11_walker k m h n kd I R = some (if (0 ≤ k.toInt ∧ k.toInt ≤ 5) ∧ (0 ≤ m.toInt ∧ m.toInt ≤ 9) ∧ (0 ≤ h.toInt ∧ h.toInt ≤ 8) then (if (I 81 3).toInt < 5 then (I 81 3, (n + 1, uK kd n (16 + zkc k, 0)), uI (uI (uI (uI (uA I n (fun _ => 0)) n 0 (I 81 3)) n 1 m) n 2 h) 32 4 (I 81 3 + 1), uR (uRA R n) 35 (I 81 3).toNatClampNeg (some n)) else (-4, (n, kd), I, R)) else (-2, (n, kd), I, R)) := by
  obtain ⟨e1, e2, e3, e4, e5, r3, r2, r11, r12, r8⟩ := hC.2.1
  have hS := hC.1
  have hn := hS.1
  have z5 : (5 : Int32).toInt = 5 := rfl
  have z6 : (6 : Int32).toInt = 6 := rfl
  unfold f11_walker
  rw [e1]
  by_cases ck : 0 ≤ k.toInt ∧ k.toInt ≤ 5
  · rw [if_neg (by rw [zlt_iff, z0]; omega), if_neg (by rw [zle_iff, z6]; omega)]
    by_cases cm : 0 ≤ m.toInt ∧ m.toInt ≤ 9
    · rw [if_neg (by rw [zlt_iff, z0]; omega), if_neg (by rw [zlt_iff, z9]; omega), g11_noHeap, zb_some]
      simp only [zB_0]
      by_cases ch : 0 ≤ h.toInt ∧ h.toInt ≤ 8
      · have all : (0 ≤ k.toInt ∧ k.toInt ≤ 5) ∧ (0 ≤ m.toInt ∧ m.toInt ≤ 9) ∧ (0 ≤ h.toInt ∧ h.toInt ≤ 8) := ⟨ck, cm, ch⟩
        have t1 : ¬ I 81 3 < 0 := by rw [zlt_iff, z0]; omega
        rw [if_pos (not_not_intro ch), if_neg t1, if_pos all]
        by_cases c5 : (I 81 3).toInt < 5
        · have t2 : I 81 3 < 5 := by rw [zlt_iff, z5]; exact c5
          rw [if_pos t2, if_pos c5, g11_newWalker hS ck.1 ck.2, zb_some]
          have w : zWkB (n + 1) (uK kd n (16 + zkc k, 0)) n = true := zW_ok hn (by omega) (by unfold uK; rw [if_pos rfl]) (zkc_w ck.1 ck.2)
          dsimp only
          rw [if_pos (zSh_B (zSh_new hS _)), if_pos w, if_pos (zib_ok r3.1 (by omega)), zl_eq, zl_eq]
          have x : uI (uI (uI (uA I n (fun _ => 0)) n 0 (I 81 3)) n 1 m) n 2 h 32 4 = I 81 3 := by
            rw [uI_ne (by omega), uI_ne (by omega), uI_ne (by omega), uA_ne (by omega)]
            exact e1
          rw [x, uI_at]
          have y : I 81 3 + 1 - 1 = I 81 3 := by
            rw [zeq_iff, zsub, zadd, z1]
            · omega
            · rw [z1]; omega
            · rw [z1]; omega
            · rw [zadd, z1]
              · omega
              · rw [z1]; omega
              · rw [z1]; omega
            · rw [zadd, z1]
              · omega
              · rw [z1]; omega
              · rw [z1]; omega
          rw [y]
        · have t2 : ¬ I 81 3 < 5 := by rw [zlt_iff, z5]; exact c5
          rw [if_neg t2, if_neg c5]
      · rw [if_neg (fun q => q ch), if_neg (fun q => ch q.2.2)]
    · rw [if_neg (fun (q : _ ∧ _ ∧ _) => cm q.2.1)]
      by_cases c0 : m < 0
      · rw [if_pos c0]
      · rw [if_neg c0, if_pos (by rw [zlt_iff, z0] at c0; rw [zlt_iff, z9]; omega)]
  · rw [if_neg (fun (q : _ ∧ _ ∧ _) => ck q.1)]
    by_cases c0 : k < 0
    · rw [if_pos c0]
    · rw [if_neg c0, if_pos (by rw [zlt_iff, z0] at c0; rw [zle_iff, z6]; omega)]
theorem zH7_ok {T : Nat → zMK → zMI → zMR → Prop} (hT : zTq T) : zH7 (zC T) := fun n kd I R k m h hC => by
  have r3 := hC.2.1.2.2.2.2.2.1
  have hn := hC.1.1
  have f := g11_walker (k := k) (m := m) (h := h) hC
  have z5 : (5 : Int32).toInt = 5 := rfl
  by_cases all : (0 ≤ k.toInt ∧ k.toInt ≤ 5) ∧ (0 ≤ m.toInt ∧ m.toInt ≤ 9) ∧ (0 ≤ h.toInt ∧ h.toInt ≤ 8)
  · rw [if_pos all] at f
    obtain ⟨ck, cm, ch⟩ := all
    by_cases c5 : (I 81 3).toInt < 5
    · rw [if_pos c5] at f
      have hC2 := zC_more hT hC c5 ck cm ch
      refine ⟨_, f, zSh_B (zSh_new hC.1 _), (I 81 3, zNW I n k m h), ?_, rfl, hC2⟩
      dsimp only
      have F81 : ∀ j, uI (uI (uI (uI (uA I n (fun _ => 0)) n 0 (I 81 3)) n 1 m) n 2 h) 32 4 (I 81 3 + 1) 81 j = I 81 j := fun j => by
        rw [uI_ne (by decide), uI_ne (by omega), uI_ne (by omega), uI_ne (by omega), uA_ne (by omega)]
      have hz : zib (I 81 3) 5 = true := zib_ok r3.1 (by omega)
      have c5' : ¬ I 81 3 = 5 := fun q => by rw [q, z5] at c5; omega
      have y : I 81 3 + 1 - 1 = I 81 3 := by
        have e := zadd (a := I 81 3) (b := 1) (by rw [z1]; omega) (by rw [z1]; omega)
        rw [zeq_iff, zsub (by rw [e, z1]; omega) (by rw [e, z1]; omega), e, z1]
        omega
      unfold f12_walker
      rw [g12_in, zb_some, g12_in, zb_some, g12_isHeap, zb_some, z0, z5, z9]
      simp only [zB_0, zl_eq]
      rw [if_neg (not_not_intro ck), if_neg (not_not_intro cm), if_neg (not_not_intro ch), F81]
      rw [if_neg c5', if_pos hz]
      have F1 : ∀ (J : zMI) (v : Int32) (i : Nat), uI J 84 i v 81 = J 81 := fun J v i => uI_ne (by decide)
      have F2 : ∀ (J : zMI) (v : Int32) (i : Nat), uI J 85 i v 81 = J 81 := fun J v i => uI_ne (by decide)
      have F3 : ∀ (J : zMI) (v : Int32) (i : Nat), uI J 86 i v 81 = J 81 := fun J v i => uI_ne (by decide)
      simp only [F1, F2, F3, F81, hz, if_true, uI_at, y]
      rfl
    · rw [if_neg c5] at f
      refine ⟨_, f, zSh_B hC.1, (-4, I), ?_, rfl, hC⟩
      have c5' : I 81 3 = 5 := by
        rw [zeq_iff, z5]
        omega
      unfold f12_walker
      rw [g12_in, zb_some, g12_in, zb_some, g12_isHeap, zb_some, z0, z5, z9]
      simp only [zB_0, zl_eq]
      rw [if_neg (not_not_intro ck), if_neg (not_not_intro cm), if_neg (not_not_intro ch), if_pos c5']
  · rw [if_neg all] at f
    refine ⟨_, f, zSh_B hC.1, (-2, I), ?_, rfl, hC⟩
    unfold f12_walker
    rw [g12_in, zb_some, g12_in, zb_some, g12_isHeap, zb_some, z0, z5, z9]
    simp only [zB_0, zl_eq]
    by_cases ck : 0 ≤ k.toInt ∧ k.toInt ≤ 5
    · rw [if_neg (not_not_intro ck)]
      by_cases cm : 0 ≤ m.toInt ∧ m.toInt ≤ 9
      · rw [if_neg (not_not_intro cm), if_pos (fun q => all ⟨ck, cm, q⟩)]
      · rw [if_pos cm]
    · rw [if_pos ck]
