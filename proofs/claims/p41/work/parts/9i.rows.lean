/-! pure part: rows that the invariant does not look at -/
theorem zC_rows2 {n : Nat} {kd : zMK} {I J : zMI} {R : zMR} (hC : zC zT0 n kd I R) (eI : ∀ b, (b < 57 ∨ (63 < b ∧ b ≠ 111 ∧ b ≠ 112)) → J b = I b) : zC zT0 n kd J R := by
  obtain ⟨h1, h2, h3, h4, h5, h6, h7, hT⟩ := hC
  have hn := h1.1
  have e81 : J 81 = I 81 := eI 81 (by omega)
  refine ⟨h1, ?_, zCh_eq h3 (eI _ (by omega)) (eI _ (by omega)) (eI _ (by omega)) (eI _ (by omega)), zCt_eq h4 (by rw [e81]) (eI _ (by omega)) (eI _ (by omega)), zCs_eq h5 (fun a x y => eI _ (by omega)) (eI _ (by omega)) (eI _ (by omega)) (eI _ (by omega)), ?_, fun i hi => ?_, zT0_q n n kd kd I J R R h1 (Nat.le_refl _) (fun _ _ => rfl) (fun a _ hta _ => eI a (by unfold zTa at hta; omega)) (fun h hh => by rw [eI _ (by omega)]) (by rw [e81]) (fun _ _ _ => rfl) hT⟩
  · unfold zCn at h2 ⊢
    rw [eI 32 (by omega), eI 37 (by omega), e81]
    exact h2
  · unfold zCi at h6 ⊢
    rw [eI 32 (by omega), eI 64 (by omega), eI 65 (by omega), eI 66 (by omega), eI 90 (by omega), e81]
    exact h6
  · rw [e81] at hi
    obtain ⟨a, q1, q2, q3, q4⟩ := h7 i hi
    refine ⟨a, q1, q2, q3, ?_⟩
    rw [eI a (by omega), eI 84 (by omega), eI 85 (by omega), eI 86 (by omega)]
    exact q4
