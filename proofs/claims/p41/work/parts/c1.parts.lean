/-! pure part: the three parts of the text -/
theorem f12_two_x (a b : Int32) : f12_two 16 a b = some (a + b) ∧ f12_two 17 a b = some (a - b) ∧ f12_two 18 a b = some (a * b) := by
  refine ⟨?_, ?_, ?_⟩ <;> unfold f12_two <;> rw [if_neg (by decide), if_neg (by decide), if_neg (by decide), if_neg (by decide)]
  · rw [if_pos (by decide)]
  · rw [if_neg (by decide), if_pos (by decide)]
  · rw [if_neg (by decide), if_neg (by decide)]
section
variable {I : zMI} {part v0 v1 v2 v3 : Int32} {r s : Nat}
/-- one number alone -/
theorem say1 (h : yAt I r (s + 1) part) (h0 : (100000 : Int32) ≤ I 88 (200 * r + s) ∧ v0 = I 88 (200 * r + s) - (100000 : Int32)) : ∃ I', f12_says_L16 zF part (Int32.ofNat 0) (Int32.ofNat s) I = some (v0, I') ∧ ∀ b, b ≠ 97 → I' b = I b := by
  obtain ⟨q, hq⟩ : ∃ q, zF = q + 2 := ⟨zF - 2, by unfold zF; omega⟩
  obtain ⟨I1, a1, a2, a3, a4⟩ := say_put (q := q + 1) (n := 0) (k := s) h (by omega) (by omega) (Or.inl h0)
  refine ⟨I1, ?_, a4⟩
  rw [hq, a1, say_end (yAt_eq h a4), a2]
/-- a + b * c and then, it may be, one more -/
theorem say5 (h : yAt I r (s + 5) part) (c0 : ((100000 : Int32) ≤ I 88 (200 * r + s) ∧ v0 = I 88 (200 * r + s) - (100000 : Int32)) ∨ ∃ j : Nat, j < 6 ∧ I 88 (200 * r + s) = Int32.ofNat j ∧ v0 = I 98 j) (c1 : ∃ j : Nat, j < 6 ∧ I 88 (200 * r + (s + 1)) = Int32.ofNat j ∧ v1 = I 98 j) (c2 : (100000 : Int32) ≤ I 88 (200 * r + (s + 2)) ∧ v2 = I 88 (200 * r + (s + 2)) - (100000 : Int32)) (c3 : I 88 (200 * r + (s + 3)) = 18) (c4 : I 88 (200 * r + (s + 4)) = 16) :
    ∃ I', f12_says_L16 zF part (Int32.ofNat 0) (Int32.ofNat s) I = some (v0 + v1 * v2, I') ∧ ∀ b, b ≠ 97 → I' b = I b := by
  obtain ⟨q, hq⟩ : ∃ q, zF = q + 6 := ⟨zF - 6, by unfold zF; omega⟩
  obtain ⟨I1, a1, a2, a3, a4⟩ := say_put (q := q + 5) (n := 0) (k := s) h (by omega) (by omega) c0
  have h1 := yAt_eq h a4
  obtain ⟨I2, b1, b2, b3, b4⟩ := say_put (q := q + 4) (n := 1) (k := s + 1) (v := v1) h1 (by omega) (by omega) (Or.inr (by rw [a4 88 (by decide), a4 98 (by decide)]; exact c1))
  have h2 := yAt_eq h1 b4
  obtain ⟨I3, d1, d2, d3, d4⟩ := say_put (q := q + 3) (n := 2) (k := s + 2) (v := v2) h2 (by omega) (by omega) (Or.inl (by rw [b4 88 (by decide), a4 88 (by decide)]; exact c2))
  have h3 := yAt_eq h2 d4
  obtain ⟨I4, e1, e2, e3, e4⟩ := say_two (q := q + 2) (n := 1) (k := s + 3) (v := v1 * v2) h3 (by omega) (by omega) (by rw [d4 88 (by decide), b4 88 (by decide), a4 88 (by decide)]; exact c3) (Or.inr (Or.inr rfl)) (by rw [d2, d3 1 (by decide), b2]; exact (f12_two_x _ _).2.2)
  have h4 := yAt_eq h3 e4
  obtain ⟨I5, g1, g2, g3, g4⟩ := say_two (q := q + 1) (n := 0) (k := s + 4) (v := v0 + v1 * v2) h4 (by omega) (by omega) (by rw [e4 88 (by decide), d4 88 (by decide), b4 88 (by decide), a4 88 (by decide)]; exact c4) (Or.inl rfl) (by rw [e2, e3 0 (by decide), d3 0 (by decide), b3 0 (by decide), a2]; exact (f12_two_x _ _).1)
  refine ⟨I5, ?_, fun b hb => by rw [g4 b hb, e4 b hb, d4 b hb, b4 b hb, a4 b hb]⟩
  rw [hq, a1, b1, d1, e1, g1, say_end (yAt_eq h4 g4), g2]
theorem say7 {c : Int32} {v : Int32} (h : yAt I r (s + 7) part) (c0 : ((100000 : Int32) ≤ I 88 (200 * r + s) ∧ v0 = I 88 (200 * r + s) - (100000 : Int32)) ∨ ∃ j : Nat, j < 6 ∧ I 88 (200 * r + s) = Int32.ofNat j ∧ v0 = I 98 j) (c1 : ∃ j : Nat, j < 6 ∧ I 88 (200 * r + (s + 1)) = Int32.ofNat j ∧ v1 = I 98 j) (c2 : (100000 : Int32) ≤ I 88 (200 * r + (s + 2)) ∧ v2 = I 88 (200 * r + (s + 2)) - (100000 : Int32)) (c3 : I 88 (200 * r + (s + 3)) = 18) (c4 : I 88 (200 * r + (s + 4)) = 16) (c5 : ∃ j : Nat, j < 6 ∧ I 88 (200 * r + (s + 5)) = Int32.ofNat j ∧ v3 = I 98 j) (c6 : I 88 (200 * r + (s + 6)) = c) (hc : c = 16 ∨ c = 17 ∨ c = 18) (hv : f12_two c (v0 + v1 * v2) v3 = some v) :
    ∃ I', f12_says_L16 zF part (Int32.ofNat 0) (Int32.ofNat s) I = some (v, I') ∧ ∀ b, b ≠ 97 → I' b = I b := by
  obtain ⟨q, hq⟩ : ∃ q, zF = q + 8 := ⟨zF - 8, by unfold zF; omega⟩
  obtain ⟨I1, a1, a2, a3, a4⟩ := say_put (q := q + 7) (n := 0) (k := s) h (by omega) (by omega) c0
  have h1 := yAt_eq h a4
  obtain ⟨I2, b1, b2, b3, b4⟩ := say_put (q := q + 6) (n := 1) (k := s + 1) (v := v1) h1 (by omega) (by omega) (Or.inr (by rw [a4 88 (by decide), a4 98 (by decide)]; exact c1))
  have h2 := yAt_eq h1 b4
  obtain ⟨I3, d1, d2, d3, d4⟩ := say_put (q := q + 5) (n := 2) (k := s + 2) (v := v2) h2 (by omega) (by omega) (Or.inl (by rw [b4 88 (by decide), a4 88 (by decide)]; exact c2))
  have h3 := yAt_eq h2 d4
  obtain ⟨I4, e1, e2, e3, e4⟩ := say_two (q := q + 4) (n := 1) (k := s + 3) (v := v1 * v2) h3 (by omega) (by omega) (by rw [d4 88 (by decide), b4 88 (by decide), a4 88 (by decide)]; exact c3) (Or.inr (Or.inr rfl)) (by rw [d2, d3 1 (by decide), b2]; exact (f12_two_x _ _).2.2)
  have h4 := yAt_eq h3 e4
  obtain ⟨I5, g1, g2, g3, g4⟩ := say_two (q := q + 3) (n := 0) (k := s + 4) (v := v0 + v1 * v2) h4 (by omega) (by omega) (by rw [e4 88 (by decide), d4 88 (by decide), b4 88 (by decide), a4 88 (by decide)]; exact c4) (Or.inl rfl) (by rw [e2, e3 0 (by decide), d3 0 (by decide), b3 0 (by decide), a2]; exact (f12_two_x _ _).1)
  have h5 := yAt_eq h4 g4
  have r88 : I5 88 = I 88 := by rw [g4 88 (by decide), e4 88 (by decide), d4 88 (by decide), b4 88 (by decide), a4 88 (by decide)]
  have r98 : I5 98 = I 98 := by rw [g4 98 (by decide), e4 98 (by decide), d4 98 (by decide), b4 98 (by decide), a4 98 (by decide)]
  obtain ⟨I6, k1, k2, k3, k4⟩ := say_put (q := q + 2) (n := 1) (k := s + 5) (v := v3) h5 (by omega) (by omega) (Or.inr (by rw [r88, r98]; exact c5))
  have h6 := yAt_eq h5 k4
  obtain ⟨I7, l1, l2, l3, l4⟩ := say_two (q := q + 1) (n := 0) (k := s + 6) (v := v) h6 (by omega) (by omega) (by rw [k4 88 (by decide), r88]; exact c6) hc (by rw [k2, k3 0 (by decide), g2]; exact hv)
  refine ⟨I7, ?_, fun b hb => by rw [l4 b hb, k4 b hb, g4 b hb, e4 b hb, d4 b hb, b4 b hb, a4 b hb]⟩
  rw [hq, a1, b1, d1, e1, g1, k1, l1, say_end (yAt_eq h6 l4), l2]
end
