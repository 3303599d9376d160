/-! pure part: the walkers come -/
section
variable {sl : Nat} {sf : Nat → Int32}
/-- w of them are there, as the script says -/
def zWs_ok (sl : Nat) (sf : Nat → Int32) (I : zMI) (c : Nat) : Prop := (I 81 3).toInt = (c : Int) ∧ ∀ w, w < c → I 84 w = sKind sl sf w ∧ I 85 w = sMore sl sf w ∧ I 86 w = sFrom sl sf w
theorem b_walkersL (hL : sl ≤ 260) {k : Nat → zMK → zMI → zMR → Option (Nat × (Nat × zMK) × zMI × zMR)} {I0 : zMI} : ∀ (d q i : Nat) (n : Nat) (kd : zMK) (I : zMI) (R : zMR), (i : Int) + d = (sMany sl sf).toInt → d < q → zC zT0 n kd I R → (∀ b, 81 < b → b < 114 → b ≠ 84 → b ≠ 85 → b ≠ 86 → I b = I0 b) → (∀ j, j ≠ 3 → I 81 j = I0 81 j) → zWs_ok sl sf I i →
    ∃ n' kd' J R', fL_build_L59 sl sf k q (Int32.ofNat i) n kd I R = k n' kd' J R' ∧ zC zT0 n' kd' J R' ∧ (∀ b, 81 < b → b < 114 → b ≠ 84 → b ≠ 85 → b ≠ 86 → J b = I0 b) ∧ (∀ j, j ≠ 3 → J 81 j = I0 81 j) ∧ zWs_ok sl sf J (sMany sl sf).toInt.toNat := by
  intro d
  have hm := s_many (sf := sf) hL
  induction d with
  | zero =>
    intro q i n kd I R hi hq hC h1 h2 h3
    obtain ⟨q, rfl⟩ : ∃ p, q = p + 1 := ⟨q - 1, by omega⟩
    have ei := zofn_i (m := i) (by omega)
    refine ⟨n, kd, I, R, ?_, hC, h1, h2, by rw [← hi]; exact h3⟩
    unfold fL_build_L59
    rw [if_pos (zSh_B hC.1), hm.1, zb_some, if_pos (by rw [zle_iff]; omega)]
  | succ d ih =>
    intro q i n kd I R hi hq hC h1 h2 h3
    obtain ⟨q, rfl⟩ : ∃ p, q = p + 1 := ⟨q - 1, by omega⟩
    have ei := zofn_i (m := i) (by omega)
    have vk := s_kind (sf := sf) hL i
    have vm := s_more (sf := sf) hL i
    have vf := s_from (sf := sf) hL i
    obtain ⟨p, p1, ps, w, p2, p3, p4, p5, p6, p7, ⟨p8, p9, p10⟩, p11⟩ := b_walker hC h3.1 (by omega) vk.2 vm.2 vf.2
    obtain ⟨n', kd', J, R', j1, j2⟩ := ih q (i + 1) p.2.1.1 p.2.1.2 w.2 p.2.2.2 (by omega) (by omega) p4 (fun b x y z u v => by rw [p5 b x y z u v, h1 b x y z u v]) (fun j hj => by rw [p6 j hj, h2 j hj]) ⟨p7, fun v hv => by
      by_cases c : v = i
      · rw [c]
        exact ⟨p8, p9, p10⟩
      · obtain ⟨a1, a2, a3⟩ := p11 v c
        rw [a1, a2, a3]
        exact h3.2 v (by omega)⟩
    refine ⟨n', kd', J, R', ?_, j2⟩
    unfold fL_build_L59
    rw [if_pos (zSh_B hC.1), hm.1, zb_some, if_neg (by rw [zle_iff]; omega), vk.1, zb_some, vm.1, zb_some, vf.1, zb_some, p1, zb_some, if_pos ps, p2, zb_some, zgp_i p3, zofs (by omega)]
    exact j1
end
