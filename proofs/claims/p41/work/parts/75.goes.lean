/-! pure part: a going from its laying to a second -/
theorem zfin {T t' : Int32} {M : zMI} {q : Nat} (h : t'.toInt = T.toInt) : f12_goesFor_L6 (q + 1) T t' M = some M := by
  unfold f12_goesFor_L6
  rw [if_pos (by rw [zle_iff]; omega)]
theorem zgoW {n : Nat} {kd : zMK} {R : zMR} {L s t : Nat} {A : Nat → Nat} {I Jx : zMI} (hB : zB0 n kd R L s t A I Jx) {b : Nat} {bt sec : Int32} (hb : ∀ x : Int32, 0 ≤ x.toInt → x.toInt < (Jx 81 3).toInt → (x = bt ↔ x.toInt = (b : Int))) (hs : 0 ≤ sec.toInt ∧ sec.toInt ≤ 600) :
    ∃ I1 R1 I2, f11_layWithout n kd bt I R = some (I1, R1) ∧ f0_pass n kd R1 sec I1 = some I2 ∧ zFX A s I I2 ∧ (∀ b', b' ≠ 42 → b' ≠ 44 → R1 b' = R b') ∧ ∀ J, zB0 n kd R L s t A I J → ∃ J0 J1 M, f12_orders bt J = some J0 ∧ f12_begins J0 = some J1 ∧ f12_goesFor_L6 zF sec 0 J1 = some M ∧ zG n kd R1 L s t A I2 M (5 * sec.toInt) sec.toInt ∧ zFM J M ∧ (∀ w, zgo M w ↔ ((w : Int) < (J 81 3).toInt ∧ w ≠ b)) ∧ ((M 81 34).toInt = (J 81 3).toInt - (if (b : Int) < (J 81 3).toInt then 1 else 0) ∧ ∀ k : Nat, (k : Int) < (M 81 34).toInt → (M 99 k).toInt = (zob b k : Nat)) := by
  have key : ∀ J, zB0 n kd R L s t A I J → ∃ I1 R1 I2, f11_layWithout n kd bt I R = some (I1, R1) ∧ f0_pass n kd R1 sec I1 = some I2 ∧ zFX A s I I2 ∧ (∀ b', b' ≠ 42 → b' ≠ 44 → R1 b' = R b') ∧ ∃ J0 J1 M, f12_orders bt J = some J0 ∧ f12_begins J0 = some J1 ∧ f12_goesFor_L6 zF sec 0 J1 = some M ∧ zG n kd R1 L s t A I2 M (5 * sec.toInt) sec.toInt ∧ zFM J M ∧ (∀ w, zgo M w ↔ ((w : Int) < (J 81 3).toInt ∧ w ≠ b)) ∧ ((M 81 34).toInt = (J 81 3).toInt - (if (b : Int) < (J 81 3).toInt then 1 else 0) ∧ ∀ k : Nat, (k : Int) < (M 81 34).toInt → (M 99 k).toInt = (zob b k : Nat)) := fun J hJ => by
    have e3 : J 81 3 = Jx 81 3 := by rw [← hJ.2.1.1, hB.2.1.1]
    obtain ⟨I1, R1, J0, J1, x1, x2, x3, x4, x5, x6, x7, x8, x9⟩ := zlayW hJ (b := b) (bt := bt) (by rw [e3]; exact hb)
    obtain ⟨I2, M, t', y1, y2, y3, y4, y5, y6, y7⟩ := zpassL hB.1 sec sec sec.toInt.toNat zF zF 0 0 I1 J1 x4 (by rw [z0]; omega) (by rw [z0]; omega) (by rw [z0]; omega) (by rw [z0]; omega) hs.2 (by unfold zF; omega) (by unfold zF; omega)
    have et : t'.toInt = sec.toInt := by rw [y1, z0]; omega
    have ez : zF - sec.toInt.toNat = (zF - sec.toInt.toNat - 1) + 1 := by unfold zF; omega
    rw [ez, zfin et] at y3
    rw [et] at y4
    refine ⟨I1, R1, I2, x1, y2, zFX_tr x5 (zFX_I y5), x7, J0, J1, M, x2, x3, y3, y4, zFM_tr x6 (zFM_J y6), fun w => ?_, ?_⟩
    · rw [← x8 w]
      unfold zgo
      rw [y6.2 34 (by decide), y6.1 99 (by decide) (by decide)]
    · rw [y6.2 34 (by decide), y6.1 99 (by decide) (by decide)]
      exact x9
  obtain ⟨I1, R1, I2, x1, x2, x3, x4, -⟩ := key Jx hB
  refine ⟨I1, R1, I2, x1, x2, x3, x4, fun J hJ => ?_⟩
  obtain ⟨I1', R1', I2', y1, y2, y3, y4, y5⟩ := key J hJ
  rw [x1] at y1
  cases y1
  rw [x2] at y2
  cases y2
  exact y5
theorem znone {c : Int32} (hc : c.toInt ≤ 5) : ∀ x : Int32, 0 ≤ x.toInt → x.toInt < c.toInt → (x = -1 ↔ x.toInt = ((5 : Nat) : Int)) := fun x h0 h1 => by
  rw [zeq_iff, znm1]
  omega
/-- one plain going, on both sides, between calls -/
theorem zplain {n : Nat} {kd : zMK} {I : zMI} {R : zMR} (hC : zC zT0 n kd I R) {sec : Int32} (hs : 0 ≤ sec.toInt ∧ sec.toInt ≤ 600) :
    ∃ I1 R1 I2 M L s, f11_layPlain n kd I R = some (I1, R1) ∧ f0_pass n kd R1 sec I1 = some I2 ∧ f12_goesPlain sec I2 = some M ∧ zG n kd R1 L s (I 81 12).toInt.toNat (zAd (I 81 3).toInt.toNat R) I2 M (5 * sec.toInt) sec.toInt ∧ zB0 n kd R L s (I 81 12).toInt.toNat (zAd (I 81 3).toInt.toNat R) I I ∧ zFX (zAd (I 81 3).toInt.toNat R) s I I2 ∧ zFM I2 M ∧ (∀ b', b' ≠ 42 → b' ≠ 44 → R1 b' = R b') ∧ (∀ w, zgo M w ↔ (w : Int) < (I 81 3).toInt) ∧ zC zT0 n kd M R1 := by
  obtain ⟨L, s, hB⟩ := zC_B0 hC
  have r3 := hB.2.1.2.2.1
  obtain ⟨I1, R1, I2, x1, x2, x3, x4, x5⟩ := zgoW hB (b := 5) (bt := -1) (znone r3.2) hs
  obtain ⟨ha, hb, hs', hn, hc⟩ := zB0_A hB
  have eI : ∀ b, 81 ≤ b → b ≤ 96 → I2 b = I b := fun b y1 y2 => x3.1 b (by omega) (by omega) (by omega) (fun w y => by have := hb w y; omega) (by have := (zLo_big hB.2.2.2.2.2.2.2.2.1.1).1; omega) (by have := (zLo_big hB.2.2.2.2.2.2.2.2.1.1).1; omega)
  have w2 : zFw I I2 := ⟨fun b y1 y2 => eI b (by omega) y2, fun j _ => by rw [eI 81 (by decide) (by decide)]⟩
  have hB2 := zB0_keep hB (I' := I) zFX_rfl w2 (R' := R) (fun _ _ _ => rfl)
  obtain ⟨J0, J1, M, y1, y2, y3, y4, y5, y6, -⟩ := x5 I2 hB2
  refine ⟨I1, R1, I2, M, L, s, ?_, x2, ?_, y4, hB, x3, y5, x4, fun w => ?_, zC_going hC hB zAd_0 x3 y5 x4⟩
  · unfold f11_layPlain
    rw [x1, zb_some]
  · unfold f12_goesPlain f12_goesFor
    rw [y1, zb_some, y2, zb_some, y3, zb_some]
  · rw [y6 w, eI 81 (by decide) (by decide)]
    constructor
    · exact fun q => q.1
    · exact fun q => ⟨q, by omega⟩
theorem g11_noSeconds (x : Int32) : f11_noSeconds x = some (zB (¬ (0 ≤ x.toInt ∧ x.toInt ≤ 600))) := by
  have z600 : (600 : Int32).toInt = 600 := rfl
  unfold f11_noSeconds
  have e : (if x < (0 : Int32) then (1 : Int32) else if x ≤ 600 then 0 else 1) = zB (¬ (0 ≤ x.toInt ∧ x.toInt ≤ 600)) := by
    unfold zB
    simp only [zlt_iff, zle_iff, z0, z600]
    repeat' split
    all_goals first | rfl | (exfalso; omega)
  rw [zl_eq, e, if_pos (zB_bB _)]
theorem g12_areSeconds (x : Int32) : f12_areSeconds x = some (zB (0 ≤ x.toInt ∧ x.toInt ≤ 600)) := by
  unfold f12_areSeconds
  rw [g12_in, zb_some, if_pos (zB_bB _)]
  rfl
