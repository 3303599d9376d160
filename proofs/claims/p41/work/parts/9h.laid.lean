/-! pure part: heaps laid, before planning -/
section
variable {n : Nat} {kd : zMK} {R : zMR} {L s t : Nat} {A : Nat → Nat} {I J : zMI}
theorem zQ_lay (hB : zB0 n kd R L s t A I J) : ∃ I1, f11_layHeaps n kd I R = some (I1, uR R 42 7 (some L)) ∧ zQ n kd (uR R 42 7 (some L)) L s t A I1 J ∧ zFX A s I I1 := by
  obtain ⟨I1, a1, ⟨a2, ⟨f3, -⟩, a4⟩, a5, a6, a7⟩ := zlayH hB
  have hW := zB0_Wo hB
  have hA := (zB0_A hB).2.1
  obtain ⟨hX, ⟨e4, e2, r3, r2⟩, hw, hh, l1, l2, l3, l4, l5, l6⟩ := hB
  have hb := zLo_big l5.1
  refine ⟨I1, a1, ⟨hX.1, ⟨by rw [a6 32 (by decide) (by decide)]; exact e4, r3, by rw [f3]; exact e4⟩, ⟨uR_at, ⟨?_, zLx_eq l5.2 (a6 _ (by omega) (by omega)) (a6 _ (by omega) (by omega)) (a6 _ (by omega) (by omega)) rfl rfl⟩, l6, by omega⟩, fun w hwc => ?_, fun h h9 => ?_⟩, ⟨fun b x1 x2 x3 _ _ _ => a6 b x1 x3, fun w j x y => ?_, a7⟩⟩
  · have q := l5.1
    unfold zLo at q ⊢
    rw [uR_ne (by omega)]
    exact q
  · obtain ⟨y1, y2, -, -⟩ := hw w hwc
    have big := (hW w hwc).2.2.1
    have r := a6 (A w) (by omega) (by omega)
    exact ⟨by rw [uR_ne (by decide)]; exact y1, zwl_eq y2 (by rw [r]) (by rw [r]) rfl rfl⟩
  · obtain ⟨y1, y2, y3, y4, y5⟩ := hh h h9
    exact ⟨by rw [a7 h h9]; exact y5, by rw [(a2 h h9).1]; exact y1⟩
  · have q := hA w x
    rw [a6 (A w) (by omega) (by omega)]
end
