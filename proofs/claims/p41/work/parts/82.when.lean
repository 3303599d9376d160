/-! pure part: when answers alike -/
section
variable {n : Nat} {kd : zMK} {R : zMR} {L s t : Nat} {A : Nat → Nat} {I J : zMI}
/-- one second more -/
theorem zsec1 (hX : zCx n kd A s) {tt : Int32} (h0 : 0 ≤ tt.toInt ∧ tt.toInt ≤ 600) (hG : zG n kd R L s t A I J (5 * tt.toInt) tt.toInt) : ∃ I' J', f0_pass n kd R 1 I = some I' ∧ f12_second tt J = some J' ∧ zG n kd R L s t A I' J' (5 * (tt + 1).toInt) (tt + 1).toInt ∧ zFI A s I I' ∧ zFJ J J' := by
  have g34 := hG.2.1.1
  have et : I 42 5 = tt := by rw [zeq_iff, hG.2.2.2.2.2.1]
  have e2 : (tt + 1).toInt = tt.toInt + 1 := by rw [zadd (by rw [z1]; omega) (by rw [z1]; omega), z1]
  have hz : zF = 999998 + 1 + 1 := by decide +kernel
  obtain ⟨I1, J1, u1, u2, u3, u4, u5, u6⟩ := zsecL hX (t32 := tt) (c := 5 * tt.toInt) h0.1 (by omega) (f0_pass_B75 n kd R (f0_pass_L2 n kd R (999998 + 1))) 1 0 (J 81 34).toInt.toNat zF zF 0 I J 0 (by rw [Int.add_zero]; exact hG) et (by rw [z0]; omega) (by rw [z0]; omega) (by unfold zF; omega) (by unfold zF; omega) (Int.le_refl _) (by omega)
  obtain ⟨x1, x2⟩ := zG_tick hX (zG_c u3 (c' := 5 * (tt + 1).toInt) (by omega)) ⟨h0.1, by omega⟩
  rw [← e2] at x1
  refine ⟨_, J1, ?_, u2, x1, zFI_tr u4 x2, u5⟩
  have F : f0_pass_L2 n kd R (999998 + 1 + 1) 1 0 I = some (uI I1 42 5 (I1 42 5 + 1)) := by
    rw [f0_pass_L2]
    rw [if_neg (by decide), u1]
    unfold f0_pass_B75
    rw [zl_eq, f0_pass_L2]
    rw [if_pos (by decide)]
  unfold f0_pass
  rw [hz]
  exact F
/-- where the class stands at the loop's turn -/
def zPst (n : Nat) (kd : zMK) (R : zMR) (L s t : Nat) (A : Nat → Nat) (l : Int32) (I J : zMI) : Prop := (l = 0 ∧ zG n kd R L s t A I J (5 * l.toInt) l.toInt) ∨ (0 < l.toInt ∧ ∃ I', f0_pass n kd R 1 I = some I' ∧ zG n kd R L s t A I' J (5 * l.toInt) l.toInt ∧ zFI A s I I')
theorem zwhenL (hX : zCx n kd A s) (hA : ∀ w, w < 5 → A w = 0 ∨ 114 ≤ A w) (hs : s = 68 ∨ 116 ≤ s) {l1 l2 : Int32} (cs : 0 ≤ l1.toInt ∧ l1.toInt ≤ 3) : ∀ (d q q' : Nat) (l4 l5 l6 : Int32) (I J : zMI), l6.toInt + d = 601 → 0 ≤ l6.toInt → d < q → d < q' → (l6.toInt ≤ 600 → zPst n kd R L s t A l6 I J) → (∀ h, h < 9 → I (73 + 2 * l1.toInt.toNat + 1) h = J 93 (40 * l1.toInt.toNat + h)) →
    ∃ v I' J', f11_when_L37 n kd (f11_when_B91 n kd) q l1 l2 l4 l5 l6 I R = some (v, I', R) ∧ f12_when_L42 f12_when_B113 q' l1 l2 l4 l5 l6 J = some (v, J') ∧ zFI A s I I' ∧ zFJ J J' := by
  have z600 : (600 : Int32).toInt = 600 := rfl
  intro d
  induction d with
  | zero =>
    intro q q' l4 l5 l6 I J e h0 hq hq' hP hc
    obtain ⟨q, rfl⟩ : ∃ p, q = p + 1 := ⟨q - 1, by omega⟩
    obtain ⟨q', rfl⟩ : ∃ p, q' = p + 1 := ⟨q' - 1, by omega⟩
    refine ⟨if l2 = 0 then l4 else l5, I, J, ?_, ?_, zFI_rfl, zFJ_rfl⟩
    · unfold f11_when_L37 f11_when_B91
      rw [if_pos (by rw [zlt_iff, z600]; omega), zl_eq]
    · unfold f12_when_L42 f12_when_B113
      rw [if_pos (by rw [zlt_iff, z600]; omega), zl_eq]
  | succ d ih =>
    intro q q' l4 l5 l6 I J e h0 hq hq' hP hc
    obtain ⟨q, rfl⟩ : ∃ p, q = p + 1 := ⟨q - 1, by omega⟩
    obtain ⟨q', rfl⟩ : ∃ p, q' = p + 1 := ⟨q' - 1, by omega⟩
    have keep' : ∀ K K' : zMI, zFI A s K K' → K' (73 + 2 * l1.toInt.toNat + 1) = K (73 + 2 * l1.toInt.toNat + 1) := fun K K' h => h.1 _ (by omega) (by omega) (by omega) (fun w y => by have := hA w y; omega) (by omega) (by omega)
    have e1 : (l6 + 1).toInt = l6.toInt + 1 := by rw [zadd (by rw [z1]; omega) (by rw [z1]; omega), z1]
    -- the class's memory at this second
    obtain ⟨I0, a1, a2, a3⟩ : ∃ I0, (f11_when_L37 n kd (f11_when_B91 n kd) (q + 1) l1 l2 l4 l5 l6 I R = f11_when_B58 n kd (f11_when_L37 n kd (f11_when_B91 n kd) q) l1 l2 l4 l5 l6 I0 R) ∧ zG n kd R L s t A I0 J (5 * l6.toInt) l6.toInt ∧ zFI A s I I0 := by
      rcases hP (by omega) with ⟨x1, x2⟩ | ⟨x1, I0, x2, x3, x4⟩
      · refine ⟨I, ?_, x2, zFI_rfl⟩
        rw [f11_when_L37]
        rw [if_neg (by rw [zlt_iff, z600]; omega), if_pos (by rw [zle_iff, z0, x1, z0]; omega)]
      · refine ⟨I0, ?_, x3, x4⟩
        rw [f11_when_L37]
        rw [if_neg (by rw [zlt_iff, z600]; omega), if_neg (by rw [zle_iff, z0]; omega), x2, zb_some]
    obtain ⟨I2, J2, b1, b2, b3, b4, b5⟩ := zsec1 hX ⟨h0, by omega⟩ a2
    obtain ⟨u, u1, u2⟩ := zunlike (I := I0) (J := J) cs (fun h hh => by rw [keep' I I0 a3]; exact hc h hh) (fun h hh => (a2.2.2.2.1 h hh).2.1)
    have hc2 : ∀ h, h < 9 → I0 (73 + 2 * l1.toInt.toNat + 1) h = J2 93 (40 * l1.toInt.toNat + h) := fun h hh => by
      rw [keep' I I0 a3, b5.1 93 (by decide) (by decide)]
      exact hc h hh
    have st : l6.toInt + 1 ≤ 600 → zPst n kd R L s t A (l6 + 1) I0 J2 := fun _ => Or.inr ⟨by omega, I2, b1, b3, b4⟩
    rw [a1]
    unfold f11_when_B58 f11_when_B85
    rw [u1, zb_some]
    have M : f12_when_L42 f12_when_B113 (q' + 1) l1 l2 l4 l5 l6 J = f12_when_L42 f12_when_B113 q' l1 l2 (if u = -1 then (if l4 = -1 then l6 else l4) else l4) (if u = -1 then l5 + 1 else l5) (l6 + 1) J2 := by
      rw [f12_when_L42]
      rw [if_neg (by rw [zlt_iff, z600]; omega), u2, zb_some]
      by_cases c : u = -1
      · rw [if_pos c, if_pos c, if_pos c, zl_eq, if_neg (by decide), zl_eq, if_neg (by decide), zl_eq, b2, zb_some]
      · rw [if_neg c, if_neg c, if_neg c, zl_eq, if_pos rfl, zl_eq, if_pos rfl, zl_eq, b2, zb_some, Int32.add_zero]
    rw [M]
    by_cases c : u = -1
    · rw [if_pos c, if_pos c, if_pos c, zl_eq]
      obtain ⟨v, I', J', w1, w2, w3, w4⟩ := ih q q' (if l4 = -1 then l6 else l4) (l5 + 1) (l6 + 1) I0 J2 (by omega) (by omega) (by omega) (by omega) (fun h => st (by omega)) hc2
      exact ⟨v, I', J', w1, w2, zFI_tr a3 w3, zFJ_tr b5 w4⟩
    · rw [if_neg c, if_neg c, if_neg c]
      obtain ⟨v, I', J', w1, w2, w3, w4⟩ := ih q q' l4 l5 (l6 + 1) I0 J2 (by omega) (by omega) (by omega) (by omega) (fun h => st (by omega)) hc2
      exact ⟨v, I', J', w1, w2, zFI_tr a3 w3, zFJ_tr b5 w4⟩
end
theorem zH24_ok : zH24 (zC zT0) := fun n kd I R s what hC => by
  have hs := hC.2.2.2.2.1
  by_cases c0 : zstl I s = 0
  · have cs := zstl_0 c0
    by_cases c1 : 0 ≤ what.toInt ∧ what.toInt ≤ 1
    · obtain ⟨L, s', hB⟩ := zC_B0 hC
      have r3 := hB.2.1.2.2.1
      have hA := (zB0_A hB).2.1
      have hLb := (zLo_big hB.2.2.2.2.2.2.2.2.1.1).1
      have key : ∀ J, zB0 n kd R L s' (I 81 12).toInt.toNat (zAd (I 81 3).toInt.toNat R) I J → J 93 = I 93 → ∃ I1 R1 J0 J1 v I' J', f11_layWithout n kd (-1) I R = some (I1, R1) ∧ f12_orders (-1) J = some J0 ∧ f12_begins J0 = some J1 ∧ f11_when_L37 n kd (f11_when_B91 n kd) zF s what (-1) 0 0 I1 R1 = some (v, I', R1) ∧ f12_when_L42 f12_when_B113 zF s what (-1) 0 0 J1 = some (v, J') ∧ zFX (zAd (I 81 3).toInt.toNat R) s' I I' ∧ zFM J J' ∧ (∀ b', b' ≠ 42 → b' ≠ 44 → R1 b' = R b') := fun J hJ h93 => by
        have e3 : J 81 3 = I 81 3 := by rw [← hJ.2.1.1, hB.2.1.1]
        obtain ⟨I1, R1, J0, J1, x1, x2, x3, x4, x5, x6, x7, -⟩ := zlayW hJ (b := 5) (bt := -1) (by rw [e3]; exact znone r3.2)
        have row := zB0_rows hB x5
        obtain ⟨v, I', J', w1, w2, w3, w4⟩ := zwhenL (l2 := what) hB.1 hA hLb cs 601 zF zF (-1) 0 0 I1 J1 (by rw [z0]; rfl) (by rw [z0]; omega) (by unfold zF; omega) (by unfold zF; omega) (fun _ => Or.inl ⟨rfl, by rw [z0]; exact x4⟩) (fun h hh => by
          have := (hs s.toInt.toNat (by omega)).2.2.2.2 h (by omega)
          rw [row (73 + 2 * s.toInt.toNat + 1) (by omega) (by omega) (by omega) (by omega) (by omega) (by omega), x6.1 93 (by decide) (by decide), h93, show 73 + 2 * s.toInt.toNat + 1 = 74 + 2 * s.toInt.toNat by omega]
          exact this)
        exact ⟨I1, R1, J0, J1, v, I', J', x1, x2, x3, w1, w2, zFX_tr x5 (zFX_I w3), zFM_tr x6 (zFM_J w4), x7⟩
      obtain ⟨I1, R1, _, _, v, I', _, x1, -, -, x4, -, x6, -, x8⟩ := key I hB rfl
      have row := zB0_rows hB x6
      obtain ⟨I1', R1', J0, J1, v', I'', J', y1, y2, y3, y4, y5, -, y7, -⟩ := key I' (zB0_K hB (zFw_X hB x6)) (row 93 (by decide) (by decide) (by decide) (by decide) (by decide) (by decide))
      rw [x1] at y1
      cases y1
      rw [x4] at y4
      cases y4
      refine ⟨(v, I', R1), ?_, (v, J'), ?_, rfl, zC_going hC hB zAd_0 x6 y7 x8⟩
      · unfold f11_when
        rw [g11_telling hs, zb_some, if_pos c0, if_neg (by rw [zlt_iff, z0]; omega), if_pos (by rw [zle_iff, z1]; omega), g11_plain x1, zb_some]
        exact x4
      · have e : zstl I' s = 0 := by
          unfold zstl at c0 ⊢
          rw [row 91 (by decide) (by decide) (by decide) (by decide) (by decide) (by decide), row 92 (by decide) (by decide) (by decide) (by decide) (by decide) (by decide)]
          exact c0
        unfold f12_when
        rw [g12_telling, zb_some, if_pos e, g12_in, zb_some, z0, z1, y2, zb_some, y3, zb_some]
        simp only [zB_0]
        rw [if_neg (not_not_intro c1)]
        exact y5
    · refine ⟨(-7, I, R), ?_, (-7, I), ?_, rfl, hC⟩
      · unfold f11_when
        rw [g11_telling hs, zb_some, if_pos c0]
        by_cases k : what < 0
        · rw [if_pos k]
        · rw [if_neg k, if_neg (by rw [zlt_iff, z0] at k; rw [zle_iff, z1]; omega)]
      · unfold f12_when
        rw [g12_telling, zb_some, if_pos c0, g12_in, zb_some, z0, z1]
        simp only [zB_0]
        rw [if_pos c1]
  · refine ⟨(zstl I s, I, R), ?_, (zstl I s, I), ?_, rfl, hC⟩
    · unfold f11_when
      rw [g11_telling hs, zb_some, if_neg c0]
    · unfold f12_when
      rw [g12_telling, zb_some, if_neg c0]
