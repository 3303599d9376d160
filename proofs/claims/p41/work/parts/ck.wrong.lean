/-! pure part: what the law asks at last -/
section
variable {sl : Nat} {sf : Nat → Int32} {n : Nat} {kd : zMK} {I J M M0 : zMI} {R : zMR} {h1 : zML} {gh : zGh} {T ah : Nat} {pl : Int32 × zML}
def xC (n : Nat) (kd : zMK) (I : zMI) (R : zMR) : Prop := zC zT0 n kd I R ∧ 1 ≤ (I 32 4).toInt
theorem xC_gh (hg : xGh sl sf gh) (h : xC n kd I R) (hM : zGE J M) (hC : zC zT0 n kd M R) (e : J 32 = I 32) : xC n kd (gh n kd J R) R := ⟨(hg.2 n kd J M R hM hC).1, by rw [hg.1 n kd J R 32 (by decide), e]; exact h.2⟩
theorem xC_same (hg : xGh sl sf gh) (h : xC n kd I R) : xC n kd (gh n kd I R) R := xC_gh hg h (M := I) (fun _ _ => rfl) h.1 rfl
theorem x_at0 {M : zMI} (hM : f12_goesPlain 0 J = some M) (hJ : 0 ≤ (J 81 3).toInt ∧ (J 81 3).toInt ≤ 5) : M 81 47 = 0 := by
  obtain ⟨J0, a1, a2, a3, a4, a5⟩ := g12_orders (b := 5) (bt := -1) (J := J) hJ (znone hJ.2)
  obtain ⟨J1, b1, b2⟩ := g12_begins J0
  have ez : zF = (zF - 1) + 1 := by unfold zF; omega
  unfold f12_goesPlain f12_goesFor at hM
  rw [a1, zb_some, b1, zb_some, ez, zfin rfl] at hM
  obtain ⟨-, -, m3, m4, -⟩ := b2
  cases hM
  exact m4
theorem x_run00 (h : xC n kd I R) : ∃ I2 R1 M, f11_run n kd 0 0 I R = some (0, I2, R1) ∧ zGE I2 M ∧ zC zT0 n kd M R1 ∧ I2 32 = I 32 := by
  have hC := h.1
  obtain ⟨I1, R1, I2, M, L, s, x1, x2, x3, x4, x5, x6, x7, x8, x9, x10⟩ := zplain hC (sec := 0) (by decide)
  have row := zB0_rows x5 x6
  have r3 := x5.2.1.2.2.1
  have e := x_at0 x3 (by rw [row 81 (by decide) (by decide) (by decide) (by decide) (by decide) (by decide)]; exact r3)
  have q2 := x4.2.2.2.2.2.2.1
  refine ⟨I2, R1, M, ?_, xGE x7, x10, row 32 (by decide) (by decide) (by decide) (by decide) (by decide) (by decide)⟩
  unfold f11_run
  rw [g11_noSeconds, zb_some]
  simp only [zB_0]
  rw [if_pos (by decide), if_neg (by decide), if_pos (by decide), x1, zb_some, x2, zb_some, if_pos trivial, q2, e]
theorem x_B721 (hg : xGh sl sf gh) (h : xC n kd I R) : fL_law_B721 n kd sl sf ah pl.2 gh I R = some 1 := by
  have run : ∀ (I : zMI) (R : zMR) (a b : Int32), ¬ ((0 ≤ a.toInt ∧ a.toInt ≤ 600) ∧ (0 ≤ b.toInt ∧ b.toInt ≤ 4)) → f11_run n kd a b I R = some (-2, I, R) := fun I R a b hh => by
    unfold f11_run
    rw [g11_noSeconds, zb_some]
    simp only [zB_0]
    by_cases c : 0 ≤ a.toInt ∧ a.toInt ≤ 600
    · rw [if_pos (not_not_intro c)]
      by_cases k : b < 0
      · rw [if_pos k]
      · rw [if_neg k, if_neg (by rw [zlt_iff, z0] at k; rw [zle_iff, zn4i]; omega)]
    · rw [if_neg (fun q => q c)]
  have go : ∀ (I : zMI) (R : zMR) (a : Int32), ¬ (0 ≤ a.toInt ∧ a.toInt ≤ 600) → f11_go n kd a I R = some (-2, I, R) := fun I R a hh => by
    unfold f11_go
    rw [g11_noSeconds, zb_some]
    simp only [zB_0]
    rw [if_neg (fun q => q hh)]
  have hgt : ∀ (I : zMI) (R : zMR) (a b c v : Int32), (¬ (0 ≤ a.toInt ∧ a.toInt ≤ 8) ∧ v = -6) ∨ ((0 ≤ a.toInt ∧ a.toInt ≤ 8) ∧ ¬ ((0 ≤ b.toInt ∧ b.toInt ≤ 600) ∧ (0 ≤ c.toInt ∧ c.toInt ≤ 1)) ∧ v = -7) → f11_height n kd a b c I R = some (v, I, R) := fun I R a b c v hh => by
    unfold f11_height
    rw [g11_noHeap, zb_some, g11_noSeconds, zb_some]
    simp only [zB_0]
    rcases hh with ⟨h1, rfl⟩ | ⟨h1, h2, rfl⟩
    · rw [if_neg (fun q => q h1)]
    · rw [if_pos (not_not_intro h1)]
      by_cases k2 : 0 ≤ b.toInt ∧ b.toInt ≤ 600
      · rw [if_pos (not_not_intro k2)]
        by_cases k : c < 0
        · rw [if_pos k]
        · rw [if_neg k, if_neg (by rw [zlt_iff, z0] at k; rw [zle_iff, z1]; omega)]
      · rw [if_neg (fun q => q k2)]
  have w5 : ∀ (I : zMI) (R : zMR), xC n kd I R → f11_walkerOf I R 5 = some none := fun I R h => by
    have r3 := h.1.2.1.2.2.2.2.2.1
    have z5 : (5 : Int32).toInt = 5 := rfl
    rw [g11_walkerOf h.1, if_neg (by omega)]
  have w0 : ∀ (I : zMI) (R : zMR), xC n kd I R → ∃ a, f11_walkerOf I R 0 = some (some a) := fun I R h => by
    have r3 := h.1.2.1.2.2.2.2.2.1
    have e4 := h.1.2.1.1
    have h2 := h.2
    rw [e4] at h2
    obtain ⟨a, q1, -⟩ := h.1.2.2.2.2.2.2.1 0 (by omega)
    exact ⟨a, by rw [g11_walkerOf h.1, if_pos (by rw [z0]; omega), show (0 : Int32).toNatClampNeg = 0 from rfl, q1]⟩
  have one5 : ∀ (I : zMI) (R : zMR), xC n kd I R → f11_one n kd 5 0 0 I R = some (-5, I, R) := fun I R h => by
    unfold f11_one
    rw [w5 I R h, zb_some, zm_none]
  have one0 : ∀ (I : zMI) (R : zMR) (b c : Int32), xC n kd I R → ¬ ((0 ≤ b.toInt ∧ b.toInt ≤ 600) ∧ (0 ≤ c.toInt ∧ c.toInt ≤ 4)) → f11_one n kd 0 b c I R = some (-7, I, R) := fun I R b c h hh => by
    obtain ⟨a, ha⟩ := w0 I R h
    unfold f11_one
    rw [ha, zb_some, zm_some, g11_noSeconds, zb_some]
    simp only [zB_0]
    by_cases k2 : 0 ≤ b.toInt ∧ b.toInt ≤ 600
    · rw [if_pos (not_not_intro k2)]
      by_cases k : c < 0
      · rw [if_pos k]
      · rw [if_neg k, if_neg (by rw [zlt_iff, z0] at k; rw [zle_iff, zn4i]; omega)]
    · rw [if_neg (fun q => q k2)]
  have told5 : ∀ (I : zMI) (R : zMR), xC n kd I R → f11_told n kd I R 5 0 = some (-5) := fun I R h => by
    unfold f11_told
    rw [w5 I R h, zb_some, zm_none]
  have told0 : ∀ (I : zMI) (R : zMR), xC n kd I R → f11_told n kd I R 0 4 = some (-7) := fun I R h => by
    obtain ⟨a, ha⟩ := w0 I R h
    unfold f11_told
    rw [ha, zb_some, zm_some, if_neg (by decide), if_neg (by decide), if_neg (by decide), if_neg (by decide)]
  have hp : ∀ I : zMI, f11_heap I 9 0 = some (-6) ∧ f11_heap I 0 2 = some (-7) := fun I => by
    rw [g11_heap, g11_heap]
    unfold zs_heap
    rw [if_pos (by decide), if_neg (by decide), if_neg (by decide), if_neg (by decide)]
    exact ⟨rfl, rfl⟩
  have q1 := xC_same hg h
  have q2 := xC_same hg q1
  obtain ⟨I3, R3, M3, a1, a2, a3, a4⟩ := x_run00 q2
  have q3 : xC n kd (gh n kd I3 R3) R3 := ⟨(hg.2 n kd I3 M3 R3 a2 a3).1, show 1 ≤ (gh n kd I3 R3 32 4).toInt by rw [hg.1 n kd I3 R3 32 (by decide), a4]; exact q2.2⟩
  have q4 := xC_same hg q3
  have q5 := xC_same hg q4
  have q6 := xC_same hg q5
  have q7 := xC_same hg q6
  have q8 := xC_same hg q7
  have q9 := xC_same hg q8
  have q10 := xC_same hg q9
  have q11 := xC_same hg q10
  unfold fL_law_B721
  rw [run I R 601 0 (by decide), zb_some, zl_eq, if_pos rfl, run _ R 0 5 (by decide), zb_some, zl_eq, if_pos rfl, a1, zb_some, zl_eq, if_pos rfl,
    one5 _ R3 q3, zb_some, zl_eq, if_pos rfl, one0 _ R3 601 0 q4 (by decide), zb_some, zl_eq, if_pos rfl, one0 _ R3 0 5 q5 (by decide), zb_some, zl_eq, if_pos rfl,
    hgt _ R3 9 0 0 (-6) (Or.inl ⟨by decide, rfl⟩), zb_some, zl_eq, if_pos rfl, hgt _ R3 0 601 0 (-7) (Or.inr ⟨by decide, by decide, rfl⟩), zb_some, zl_eq, if_pos rfl, hgt _ R3 0 0 2 (-7) (Or.inr ⟨by decide, by decide, rfl⟩), zb_some, zl_eq, if_pos rfl,
    go _ R3 601 (by decide), zb_some, zl_eq, if_pos rfl, go _ R3 (-1) (by decide), zb_some, zl_eq, if_pos rfl,
    told5 _ R3 q11, zb_some, if_pos rfl, told0 _ R3 q11, zb_some, if_pos rfl, (hp _).1, zb_some, if_pos rfl, (hp _).2, zb_some, if_pos rfl]
end
