/-! pure part: kinds answers alike -/
theorem zkindsL {w a : Nat} {wi what k0 f0 s1 sec : Int32} (ew : wi.toInt = (w : Int)) (hw5 : w < 5) (cw : what = 0 ∨ what = 1) (cs : 0 ≤ s1.toInt ∧ s1.toInt ≤ 3) (ct : 0 ≤ sec.toInt ∧ sec.toInt ≤ 600) : ∀ (d q : Nat) (l7 l8 : Int32) (n : Nat) (kd : zMK) (I : zMI) (R : zMR), zC zT0 n kd I R → w < (I 81 3).toInt.toNat → R 35 w = some a → I 84 w = k0 → I 86 w = f0 → l8.toInt + d = (if what = 0 then (6 : Int32) else 9).toInt → 0 ≤ l8.toInt → d < q →
    ∃ v n' kd' I' R', f11_kinds_L59 q s1 sec (some a) what l7 l8 n kd I R = some (v, (n', kd'), I', R') ∧ zC zT0 n' kd' I' R' ∧ (∀ b, 81 ≤ b → b < 114 → I' b = I b) ∧ ∀ q' J, d < q' → zFw I (zrs w k0 f0 J) → J 93 = I 93 → ∃ J', f12_kinds_L85 f12_kinds_B170 q' s1 sec wi what k0 f0 l7 l8 J = some (v, J') ∧ zFM (zrs w k0 f0 J) J' := by
  have n1 : wi.toNatClampNeg = w := by rw [zcl_iff, ew]; omega
  have hz5 : zib wi 5 = true := zib_ok (by omega) (by omega)
  have z6 : (6 : Int32).toInt = 6 := rfl
  have top9 : (if what = 0 then (6 : Int32) else 9).toInt ≤ 9 := by split <;> decide
  intro d
  induction d with
  | zero =>
    intro q l7 l8 n kd I R hC hwc ha e84 e86 e h0 hq
    obtain ⟨q, rfl⟩ : ∃ p, q = p + 1 := ⟨q - 1, by omega⟩
    refine ⟨l7, n, kd, I, R, ?_, hC, fun _ _ _ => rfl, fun q' J hq' hJ h93 => ⟨zrs w k0 f0 J, ?_, zFM_rfl⟩⟩
    · unfold f11_kinds_L59
      rw [if_pos (zSh_B hC.1), zl_eq, if_pos (by rw [zle_iff]; omega)]
    · obtain ⟨q', rfl⟩ : ∃ p, q' = p + 1 := ⟨q' - 1, by omega⟩
      unfold f12_kinds_L85 f12_kinds_B170
      rw [zl_eq, if_pos (by rw [zle_iff]; omega), if_pos hz5, n1, zl_eq, zl_eq]
      rfl
  | succ d ih =>
    intro q l7 l8 n kd I R hC hwc ha e84 e86 e h0 hq
    obtain ⟨q, rfl⟩ : ∃ p, q = p + 1 := ⟨q - 1, by omega⟩
    have e1 := zsucc e
    have hTop : ¬ (if what = 0 then (6 : Int32) else 9) ≤ l8 := by rw [zle_iff]; omega
    have hSB := zSh_B hC.1
    obtain ⟨a', q1, q2, q3, q4, q5, q6, q7, q8, q9, q10⟩ := hC.2.2.2.2.2.2.1 w hwc
    have ea : a' = a := by
      rw [ha] at q1
      cases q1
      rfl
    subst ea
    rw [e84] at q4 q5
    rw [e86] at q9 q10
    have hWk : zWkB n kd a' = true := zW_ok q2 q3 q4 (zkc_Wc q5.1 q5.2)
    have hvk : fv_kind n kd I a' = some k0 := gv_kind (T := zT0) q5.1 q5.2 q4
    obtain ⟨kk, ekk⟩ : ∃ kk, (if what = (0 : Int32) then l8 else k0) = kk := ⟨_, rfl⟩
    obtain ⟨ff, eff⟩ : ∃ ff, (if what = (1 : Int32) then l8 else f0) = ff := ⟨_, rfl⟩
    have hk : 0 ≤ kk.toInt ∧ kk.toInt ≤ 5 := by
      rw [← ekk]
      by_cases c : what = 0
      · rw [if_pos c] at e ⊢
        rw [z6] at e
        omega
      · rw [if_neg c]
        exact q5
    have hf : 0 ≤ ff.toInt ∧ ff.toInt ≤ 8 := by
      rw [← eff]
      by_cases c : what = 1
      · rw [if_pos c]
        omega
      · rw [if_neg c]
        exact q10
    obtain ⟨v0, I1, Ia, Ib, Ra, p1, p2, p3, p4, p5, p6, p7, p8⟩ := zkindK hC hwc ha hk hf cs ct
    have F : f11_kinds_L59 (q + 1) s1 sec (some a') what l7 l8 n kd I R = f11_kinds_L59 q s1 sec (some a') what (l7 ||| (if v0 = (-1 : Int32) then (((1 : Int32) <<< (l8 &&& 31))) else ((0 : Int32)))) (l8 + 1) (n + 1) (uK kd n (16 + zkc kk, 0)) Ib Ra := by
      rw [f11_kinds_L59]
      rw [if_pos hSB, zl_eq, if_neg hTop]
      rcases cw with rfl | rfl
      · have ek' : l8 = kk := (if_pos rfl).symm.trans ekk
        have ef' : f0 = ff := (if_neg (by decide)).symm.trans eff
        rw [if_pos rfl]
        unfold f11_kinds_B91
        rw [if_pos hSB, if_pos rfl, zm_some, if_pos hWk, zb_some, zm_some, if_pos hWk, q9, ef']
        have p1' := p1
        rw [← ek'] at p1' ⊢
        rw [p1', zb_some]
        dsimp only
        rw [if_pos (zSh_B (zSh_new hC.1 _))]
        rw [← ek'] at p2 p3
        rw [p2, zb_some]
        dsimp only
        rw [p3, zb_some, p4, zb_some, zl_eq]
      · have ek' : k0 = kk := (if_neg (by decide)).symm.trans ekk
        have ef' : l8 = ff := (if_pos rfl).symm.trans eff
        rw [if_neg (by decide), zm_some, if_pos hWk, hvk, zb_some]
        unfold f11_kinds_B91
        rw [if_pos hSB, if_neg (by decide), zb_some, zm_some, if_pos hWk]
        rw [← ek'] at p1 p2 p3 ⊢
        rw [← ef'] at p1
        rw [p1, zb_some]
        dsimp only
        rw [if_pos (zSh_B (zSh_new hC.1 _)), p2, zb_some]
        dsimp only
        rw [p3, zb_some, p4, zb_some, zl_eq]
    have I81 := p6 81 (by decide) (by decide)
    obtain ⟨v, n', kd', I', R', u1, u2, u3, u4⟩ := ih q (l7 ||| (if v0 = (-1 : Int32) then (((1 : Int32) <<< (l8 &&& 31))) else ((0 : Int32)))) (l8 + 1) (n + 1) (uK kd n (16 + zkc kk, 0)) Ib Ra p5 (by rw [I81]; exact hwc) (by rw [p7]; exact ha) (by rw [p6 84 (by decide) (by decide)]; exact e84) (by rw [p6 86 (by decide) (by decide)]; exact e86) (by omega) (by omega) (by omega)
    refine ⟨v, n', kd', I', R', by rw [F]; exact u1, u2, fun b y1 y2 => by rw [u3 b y1 y2, p6 b y1 y2], fun q' J hq' hJ h93 => ?_⟩
    obtain ⟨q', rfl⟩ : ∃ p, q' = p + 1 := ⟨q' - 1, by omega⟩
    obtain ⟨M, y1, y2⟩ := p8 (zrs w k0 f0 J) hJ (by rw [zrs_ne (by decide) (by decide)]; exact h93)
    have fm : zFM (zrs w k0 f0 J) (zrs w k0 f0 M) := by
      have := zFM_rs (w := w) (k := k0) (f := f0) y2
      rw [zrs_rs, zrs_rs] at this
      exact this
    have hJ2 := zFw_tr hJ (zFw_M fm)
    obtain ⟨J', z1', z2'⟩ := u4 q' M (by omega) ⟨fun b x1 x2 => by rw [hJ2.1 b x1 x2, p6 b (by omega) (by omega)], fun j hj => by rw [hJ2.2 j hj, I81]⟩ (by rw [y2.1 93 (by decide) (by decide), zrs_ne (by decide) (by decide), zrs_ne (by decide) (by decide), h93, p6 93 (by decide) (by decide)])
    refine ⟨J', ?_, zFM_tr fm z2'⟩
    rw [zrs_rs] at y1
    unfold zrs at y1
    rw [f12_kinds_L85]
    rw [zl_eq, if_neg hTop, zl_eq, if_pos hz5, zl_eq, zl_eq, zl_eq, n1, ekk, eff, y1, zb_some, zl_eq]
    exact z1'
theorem zH26_ok : zH26 (zC zT0) := fun n kd I R s sec hl hC => by
  have hs := hC.2.2.2.2.1
  have z100 : (100 : Int32).toInt = 100 := rfl
  have hSB := zSh_B hC.1
  by_cases c0 : zjdg I s sec = 0
  · obtain ⟨cs, ct⟩ := zjdg_0 c0
    have r3 := hC.2.1.2.2.2.2.2.1
    by_cases c : 0 ≤ hl.toInt
    · obtain ⟨f1, f2⟩ := gFd_pos (a := hl) (b := 100) c (by decide)
      have d1 : (hl / 100).toInt = hl.toInt / 100 := by rw [zdiv c (by decide), z100]
      have d3 : (hl - hl / 100 * 100).toInt = hl.toInt % 100 := by rw [zmod_of c (by decide), z100]
      have cz : (0 : Int32) ≤ hl := by rw [zle_iff, z0]; exact c
      obtain ⟨wi, ewi⟩ : ∃ wi, hl / 100 = wi := ⟨_, rfl⟩
      obtain ⟨what, ewh⟩ : ∃ what, hl - hl / 100 * 100 = what := ⟨_, rfl⟩
      rw [ewi] at f1 d1
      rw [ewh] at f2 d3
      rw [ewi] at ewh
      by_cases cw : 0 ≤ wi.toInt ∧ wi.toInt < (I 81 3).toInt
      · have nw : wi.toNatClampNeg = wi.toInt.toNat := zcl_iff wi
        obtain ⟨a, q1, -⟩ := hC.2.2.2.2.2.2.1 wi.toInt.toNat (by omega)
        have hz5 : zib wi 5 = true := zib_ok cw.1 (by omega)
        by_cases c1 : 0 ≤ what.toInt ∧ what.toInt ≤ 1
        · have cwh : what = 0 ∨ what = 1 := by
            rw [zeq_iff, zeq_iff, z0, z1]
            omega
          obtain ⟨v, n', kd', I', R', u1, u2, u3, u4⟩ := zkindsL (w := wi.toInt.toNat) (a := a) (wi := wi) (what := what) (k0 := I 84 wi.toInt.toNat) (f0 := I 86 wi.toInt.toNat) (by omega) (by omega) cwh cs ct (if what = 0 then (6 : Int32) else 9).toInt.toNat 10 0 0 n kd I R hC (by omega) q1 rfl rfl (by rw [z0]; rcases cwh with rfl | rfl <;> rfl) (by rw [z0]; omega) (by rcases cwh with rfl | rfl <;> decide)
          have e81 : I' 81 = I 81 := u3 81 (by decide) (by decide)
          have e84 : I' 84 = I 84 := u3 84 (by decide) (by decide)
          have e86 : I' 86 = I 86 := u3 86 (by decide) (by decide)
          have self' : zrs wi.toInt.toNat (I 84 wi.toInt.toNat) (I 86 wi.toInt.toNat) I' = I' := by rw [← e84, ← e86, zrs_self]
          obtain ⟨J', y1, y2⟩ := u4 zF I' (by rcases cwh with rfl | rfl <;> exact (by decide)) (by rw [self']; exact ⟨fun b z1' z2' => u3 b (by omega) (by omega), fun j _ => by rw [e81]⟩) (u3 93 (by decide) (by decide))
          rw [self'] at y2
          obtain ⟨L, s', hB⟩ := zC_B0 u2
          refine ⟨(v, (n', kd'), I', R'), ?_, zSh_B u2.1, (v, J'), ?_, rfl, zC_going u2 hB zAd_0 zFX_rfl y2 (fun _ _ _ => rfl)⟩
          · unfold f11_kinds
            rw [g11_judging hs, zb_some, if_pos c0, f1, zb_some, g11_walkerOf hC, zb_some, if_pos cw, nw, q1, zm_some, f2, zb_some, if_pos (by rw [zle_iff, z1]; omega)]
            exact u1
          · unfold f12_kinds
            dsimp only
            rw [g12_judging, zb_some, if_pos (by rw [zjdg_keep (u3 91 (by decide) (by decide)) (u3 92 (by decide) (by decide))]; exact c0), zl_eq, if_pos cz, ewi, zisW u2 rfl, zb_some, e81]
            simp only [zB_0]
            rw [if_neg (not_not_intro cw), zl_eq, ewh, g12_in, zb_some, z0, z1]
            simp only [zB_0]
            rw [if_neg (not_not_intro c1), if_pos hz5, nw, e84, e86]
            exact y1
        · refine ⟨(-7, (n, kd), I, R), ?_, hSB, (-7, I), ?_, rfl, hC⟩
          · unfold f11_kinds
            rw [g11_judging hs, zb_some, if_pos c0, f1, zb_some, g11_walkerOf hC, zb_some, if_pos cw, nw, q1, zm_some, f2, zb_some, if_neg (by rw [zle_iff, z1]; omega)]
          · unfold f12_kinds
            dsimp only
            rw [g12_judging, zb_some, if_pos c0, zl_eq, if_pos cz, ewi, zisW hC rfl, zb_some]
            simp only [zB_0]
            rw [if_neg (not_not_intro cw), zl_eq, ewh, g12_in, zb_some, z0, z1]
            simp only [zB_0]
            rw [if_pos c1]
      · refine ⟨(-5, (n, kd), I, R), ?_, hSB, (-5, I), ?_, rfl, hC⟩
        · unfold f11_kinds
          rw [g11_judging hs, zb_some, if_pos c0, f1, zb_some, g11_walkerOf hC, zb_some, if_neg cw, zm_none]
        · unfold f12_kinds
          dsimp only
          rw [g12_judging, zb_some, if_pos c0, zl_eq, if_pos cz, ewi, zisW hC rfl, zb_some]
          simp only [zB_0]
          rw [if_pos cw]
    · obtain ⟨q, r, f1, f3, f2⟩ := gFd_neg (a := hl) (b := 100) (by omega) (by decide)
      have cz : ¬ (0 : Int32) ≤ hl := by rw [zle_iff, z0]; exact c
      refine ⟨(-5, (n, kd), I, R), ?_, hSB, (-5, I), ?_, rfl, hC⟩
      · unfold f11_kinds
        rw [g11_judging hs, zb_some, if_pos c0, f1, zb_some, g11_walkerOf hC, zb_some, if_neg (by omega), zm_none]
      · unfold f12_kinds
        dsimp only
        rw [g12_judging, zb_some, if_pos c0, zl_eq, if_neg cz, zisW hC rfl, zb_some]
        simp only [zB_0]
        rw [if_pos (fun x => absurd x.1 (by decide))]
  · refine ⟨(zjdg I s sec, (n, kd), I, R), ?_, hSB, (zjdg I s sec, I), ?_, rfl, hC⟩
    · unfold f11_kinds
      rw [g11_judging hs, zb_some, if_neg c0]
    · unfold f12_kinds
      rw [g12_judging, zb_some, if_neg c0]
