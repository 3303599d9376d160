/-! pure part: whatever else stands in the memory, the same signs -/
def zTxB (A B C : Nat) : Bool := (List.range 13).all (fun j => decide (zTx A B C (0 + j) = (zSbyt.getD (12 + 0) []).getD j 0)) && decide (zTx A B C 13 = Int32.ofNat (48 + A)) && (List.range 24).all (fun j => decide (zTx A B C (14 + j) = (zSbyt.getD (12 + 1) []).getD j 0)) && decide (zTx A B C 38 = Int32.ofNat (48 + B)) && (List.range 22).all (fun j => decide (zTx A B C (39 + j) = (zSbyt.getD (12 + 2) []).getD j 0)) && decide (zTx A B C 61 = Int32.ofNat (48 + C)) && (List.range 1).all (fun j => decide (zTx A B C (62 + j) = (zSbyt.getD (12 + 3) []).getD j 0)) && (List.range 63).all (fun k => decide (zTx A B C k = Int32.ofNat (zTx A B C k).toNatClampNeg ∧ (zTx A B C k).toNatClampNeg < 128))
theorem zTxB_all : ∀ A, A < 2 → ∀ B, B < 4 → ∀ C, C < 4 → zTxB A B C = true := by decide +kernel
theorem zTx_ok {A B C : Nat} (hA : A < 2) (hB : B < 4) (hC : C < 4) : ((∀ j, j < 13 → zTx A B C (0 + j) = (zSbyt.getD (12 + 0) []).getD j 0) ∧ zTx A B C 13 = Int32.ofNat (48 + A) ∧ (∀ j, j < 24 → zTx A B C (14 + j) = (zSbyt.getD (12 + 1) []).getD j 0) ∧ zTx A B C 38 = Int32.ofNat (48 + B) ∧ (∀ j, j < 22 → zTx A B C (39 + j) = (zSbyt.getD (12 + 2) []).getD j 0) ∧ zTx A B C 61 = Int32.ofNat (48 + C) ∧ (∀ j, j < 1 → zTx A B C (62 + j) = (zSbyt.getD (12 + 3) []).getD j 0)) ∧ ∀ k, k < 63 → zTx A B C k = Int32.ofNat (zTx A B C k).toNatClampNeg ∧ (zTx A B C k).toNatClampNeg < 128 := by
  have h := zTxB_all A hA B hB C hC
  unfold zTxB at h
  simp only [Bool.and_eq_true, decide_eq_true_eq, List.all_eq_true, List.mem_range] at h
  obtain ⟨⟨⟨⟨⟨⟨⟨h1, h2⟩, h3⟩, h4⟩, h5⟩, h6⟩, h7⟩, h8⟩ := h
  exact ⟨⟨h1, h2, h3, h4, h5, h6, h7⟩, h8⟩
theorem zhs_same {f g : Nat → Int32} {a : Nat} : ∀ S, zhs f a S → zhs g a S → ∀ k, k < S.length → g (a + k) = f (a + k)
  | [], _, _, k, hk => absurd hk (Nat.not_lt_zero k)
  | x :: S, ⟨h1, h2⟩, ⟨h3, h4⟩, k, hk => by
    by_cases c : k = S.length
    · rw [c, h1, h3]
    · exact zhs_same S h2 h4 k (by rw [List.length_cons] at hk; omega)
theorem zSb_by : ∀ l, l < 4 → ∀ j, j < zSlen.getD (12 + l) 0 → fits .byte (.int ((zSbyt.getD (12 + l) []).getD j 0)) = true := by decide +kernel
theorem zJt_rb (A B C : Nat) : zRb (zTx A B C) 63 1 (zJt A B C) := ⟨rfl, fun _ _ => rfl, fun _ _ => rfl, rfl⟩
/-- whatever else stands there: the same signs -/
theorem b_tokens {A B C : Nat} (hA : A < 2) (hB : B < 4) (hC : C < 4) {J : zMI} (hJ : zRb (zTx A B C) 63 1 J) : ∃ J', f12_text J = some (1, J') ∧ (∀ k, k < 19 → J' 88 (200 + k) = (zTk A B C).getD k 0) ∧ (J' 89 4 = 0 ∧ J' 89 5 = 7 ∧ J' 89 6 = 14 ∧ J' 89 7 = 19) ∧ J' 81 8 = 0 ∧ J' 81 11 = 2 ∧ zFU 1 J J' := by
  obtain ⟨hx1, hx2⟩ := zTx_ok hA hB hC
  have h := zTkB_all A hA B hB C hC
  unfold zTkB at h
  obtain ⟨I, hI⟩ : ∃ I : zMI, I = fun a k => if a = 38 then zTx A B C k else if a = 37 then (if k = 1 then 63 else 0) else 0 := ⟨_, rfl⟩
  obtain ⟨fl, I', -, -, hz⟩ := zread (T := zTx A B C) (z := 63) (t := 1) (I := I) (by decide) (by decide) (by rw [hI]; rfl) (fun k _ => by rw [hI]; rfl) (fun k hk => by
    have := hx2 k hk
    rw [this.1, zofn_i (by omega)]
    omega)
  rcases hz with ⟨-, W1, W2, W3, hG, -, -, -, -, -, -, ref⟩ | ⟨hn, ref⟩
  · obtain ⟨J0, a1, a2, a3, a4, a5, a6, a7, a8, a9⟩ := ref _ (zJt_rb A B C)
    rw [a1] at h
    simp only [Bool.and_eq_true, decide_eq_true_eq, List.all_eq_true, List.mem_range] at h
    obtain ⟨⟨-, h2⟩, h3, h4, h5, h6⟩ := h
    obtain ⟨J', b1, b2, b3, b4, b5, b6, b7, b8, b9⟩ := ref J hJ
    have l1 : Int32.ofNat W1.length = 7 := a6.symm.trans h4
    have l2 : Int32.ofNat W2.length = 14 := a7.symm.trans h5
    have l3 : Int32.ofNat W3.length = 19 := a8.symm.trans h6
    have hl : W3.length ≤ 1000 := by
      obtain ⟨N2, N3, -, -, -, -, -, -, q⟩ := hG
      omega
    have len : W3.length = 19 := by
      have := zofn_i (m := W3.length) (by omega)
      rw [l3] at this
      have e : (19 : Int32).toInt = 19 := rfl
      omega
    refine ⟨J', b1, fun k hk => ?_, ⟨b5, by rw [b6, l1], by rw [b7, l2], by rw [b8, l3]⟩, b2, b3, b9⟩
    rw [← h2 k hk]
    exact zhs_same (W3.map zw2c) a4 b4 k (by rw [List.length_map, len]; exact hk)
  · exfalso
    obtain ⟨J0, a1, a2, a3, -⟩ := ref _ (zJt_rb A B C)
    rw [a1] at h
    simp only [Bool.and_eq_true, decide_eq_true_eq] at h
    have e := a3.symm.trans h.1.1.2
    exact absurd e (by decide)
