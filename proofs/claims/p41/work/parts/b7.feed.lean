/-! pure part: letter by letter onto the tape -/
section
variable {n : Nat} {kd : zMK} {I : zMI} {R : zMR}
theorem b_feed (hC : zC zT0 n kd I R) {k v : Nat} (hk : (I 81 8).toInt = (k : Int)) (h160 : k < 160) (hv : v < 128) : ∃ p, f11_feed 1 (Int32.ofNat v) 0 0 0 0 I = some p ∧ ∃ q, f12_feed 1 (Int32.ofNat v) 0 0 0 0 p.2 = some q ∧ zGE p.2 q.2 ∧ zC zT0 n kd q.2 R ∧ (∀ a, 81 < a → a ≠ 87 → q.2 a = I a) ∧ (∀ j, j ≠ 8 → q.2 81 j = I 81 j) ∧ (q.2 81 8).toInt = ((k + 1 : Nat) : Int) ∧ q.2 87 k = Int32.ofNat v ∧ ∀ j, j ≠ k → q.2 87 j = I 87 j := by
  have ev := zofn_i (m := v) (by omega)
  obtain ⟨e1, e2, e3, e4, e5, r3, r2, r11, r12, r8⟩ := id hC.2.1
  obtain ⟨p, x1, q, x2, -, x4⟩ := zH3_ok zT0_q n kd I R 1 (Int32.ofNat v) 0 0 0 0 hC
  have b0 : 0 ≤ (0 : Int32).toInt ∧ (0 : Int32).toInt ≤ 255 := by decide
  have bv : 0 ≤ (Int32.ofNat v).toInt ∧ (Int32.ofNat v).toInt ≤ 255 := by omega
  have c1 : 1 ≤ (1 : Int32).toInt ∧ (1 : Int32).toInt ≤ 5 := by decide
  have f := g11_feed_ok (I := I) (l1 := 1) (l2 := Int32.ofNat v) c1 bv b0 b0 b0 b0 (by rw [e5]; exact r8.1) (by rw [e5, z1]; omega)
  obtain ⟨y1, y2, y3, y4⟩ := zXA_all (zby (Int32.ofNat v) 0 0 0 0) (1 : Int32).toInt.toNat 0 I (by rw [e5]; exact r8.1) (by rw [e5, z1]; omega)
  rw [f] at x1
  have hp : p.2 = zXA (zby (Int32.ofNat v) 0 0 0 0) (1 : Int32).toInt.toNat 0 I := by rw [← Option.some.inj x1]
  rw [← hp] at y1 y2 y3 y4
  have k81 : p.2 81 = I 81 := y3 81 (by decide) (by decide)
  obtain ⟨J, j1, j2, j3, j4, j5⟩ := g12_feedL (l1 := 1) (l2 := Int32.ofNat v) (l3 := 0) (l4 := 0) (l5 := 0) (l6 := 0) c1.2 1 zF 0 p.2 (by rw [z0, z1]; rfl) (by rw [z0]; omega) (by rw [k81]; exact r8.1) (by rw [k81]; omega) (by unfold zF; omega)
  have z160 : (160 : Int32).toInt = 160 := rfl
  have z5 : (5 : Int32).toInt = 5 := rfl
  have x2' := x2
  unfold f12_feed at x2'
  simp only [g12_in, g12_isByte, zb_some, zB_0, z1, z5] at x2'
  rw [if_neg (by decide : ¬ ¬ ((1 : Int) ≤ 1 ∧ (1 : Int) ≤ 5)), if_neg (not_not_intro bv), if_neg (not_not_intro b0), if_neg (not_not_intro b0), if_neg (not_not_intro b0), if_neg (not_not_intro b0), if_pos (by rw [zle_iff, k81, zadd (by rw [z1]; omega) (by rw [z1]; omega), z1, z160]; omega), j1] at x2'
  have hq : q.2 = J := by rw [← Option.some.inj x2']
  rw [← hq] at j2 j3 j4 j5
  rw [k81] at j2 j3
  have kn : (I 81 8).toInt.toNat = k := by omega
  refine ⟨p, by rw [f]; exact x1, q, x2, fun b hb => j4 b (by omega) (by omega), x4, fun a h1 h2 => by rw [j4 a h2 (by omega), y3 a (by omega) (by omega)], fun j hj => by rw [j5 j hj, k81], by rw [j2]; omega, ?_, fun j hj => ?_⟩
  · rw [j3 k, kn, if_pos (by omega), Nat.sub_self, z0]
    rfl
  · rw [j3 j, kn, if_neg (by omega), y3 87 (by decide) (by decide)]
end
section
variable {sl : Nat} {sf : Nat → Int32} {n : Nat} {kd : zMK} {R : zMR} {T : Nat → Int32} {c t b : Nat}
/-- the whole text onto the tape -/
theorem b_feedL (ht : 114 ≤ t ∧ t < n ∧ (kd t).1 = 29) (r0 : R t 0 = some b) (hb : 114 ≤ b ∧ b < n ∧ kd b = (12, c)) (hc : c ≤ 160) (hT : ∀ k, k < c → ∃ v, v < 128 ∧ T k = Int32.ofNat v) {I0 : zMI} (i1 : I0 t 1 = 0) (ib : ∀ k, k < c → I0 b k = T k) : ∀ (d q k : Nat) (I : zMI), k + d = c → d < q → zC zT0 n kd I R → (I 81 8).toInt = (k : Int) → (∀ a, 81 < a → a ≠ 87 → I a = I0 a) → (∀ j, j ≠ 8 → I 81 j = I0 81 j) → (∀ j, j < k → I 87 j = T j) →
    ∃ J, fL_text_L2 n kd R sl sf q t (Int32.ofNat k) I = some J ∧ zC zT0 n kd J R ∧ (J 81 8).toInt = (c : Int) ∧ (∀ a, 81 < a → a ≠ 87 → J a = I0 a) ∧ (∀ j, j ≠ 8 → J 81 j = I0 81 j) ∧ ∀ j, j < c → J 87 j = T j := by
  intro d
  induction d with
  | zero =>
    intro q k I hk hq hC h8 hr h81 h87
    obtain ⟨q, rfl⟩ : ∃ p, q = p + 1 := ⟨q - 1, by omega⟩
    have ec := zofn_i (m := c) (by omega)
    have ek := zofn_i (m := k) (by omega)
    have kc : k = c := by omega
    refine ⟨I, ?_, hC, by rw [h8, kc], hr, h81, fun j hj => h87 j (by omega)⟩
    unfold fL_text_L2
    rw [if_pos (zKd_ok (by omega) ht.2.1 ht.2.2), b_len hC.1 ht r0 hb (by rw [hr t (by omega) (by omega)]; exact i1), zb_some, if_pos (by rw [zle_iff]; omega)]
  | succ d ih =>
    intro q k I hk hq hC h8 hr h81 h87
    obtain ⟨q, rfl⟩ : ∃ p, q = p + 1 := ⟨q - 1, by omega⟩
    have ec := zofn_i (m := c) (by omega)
    have ek := zofn_i (m := k) (by omega)
    obtain ⟨v, hv, ev⟩ := hT k (by omega)
    have iI : I t 1 = 0 := by rw [hr t (by omega) (by omega)]; exact i1
    obtain ⟨p, p1, w, p2, p3, p4, p5, p6, p7, p8, p9⟩ := b_feed hC h8 (by omega) hv
    obtain ⟨J, j1, j2⟩ := ih q (k + 1) w.2 (by omega) (by omega) p4 p7 (fun a x y => by rw [p5 a x y, hr a x y]) (fun j hj => by rw [p6 j hj, h81 j hj]) (fun j hj => by
      by_cases z : j = k
      · rw [z, p8, ev]
      · rw [p9 j z]
        exact h87 j (by omega))
    refine ⟨J, ?_, j2⟩
    unfold fL_text_L2
    rw [if_pos (zKd_ok (by omega) ht.2.1 ht.2.2), b_len hC.1 ht r0 hb iI, zb_some, if_neg (by rw [zle_iff]; omega), b_char hC.1 ht r0 hb iI (by omega) (by omega) hv (by rw [hr b (by omega) (by omega), ib k (by omega), ev]), zb_some, p1, zb_some, p2, zb_some, zgp_i p3, zofs (by omega)]
    exact j1
end
