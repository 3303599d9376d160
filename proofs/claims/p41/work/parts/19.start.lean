/-! what the constructor leaves -/
def zI0 : zMI := fun _ _ => 0
def zR0 : zMR := fun _ _ => none
def zD0 : zMK := fun _ => (0, 0)
def zMX : Option ((Nat × zMK) × zMI × zMR) := f11_initc 32 33 (uK zD0 32 (27, 0)) (uA zI0 32 (fun _ => 0)) (uRA zR0 32)
def zshX (r : (Nat × zMK) × zMI × zMR) : Bool := r.1.1 == 81 && (List.range 49).all (fun j => decide (r.1.2 (j + 32) = zK0 (j + 32))) && [32, 37, 41, 42, 43, 56, 73, 75, 77, 79].all fun a => (List.range 64).all fun k => match zSt0 a k with
  | none => true
  | some q => decide (r.2.2 a k = q)
theorem zMX_sh : (match zMX with | some r => zshX r | none => false) = true := by decide +kernel
def zX1 : (Nat × zMK) × zMI × zMR := zMX.getD ((0, zD0), zI0, zR0)
theorem zMX_some : zMX = some zX1 ∧ zshX zX1 = true := by
  have h := zMX_sh
  unfold zX1
  generalize zMX = o at h ⊢
  cases o with
  | none => cases h
  | some r => exact ⟨rfl, h⟩
theorem zX1_n : zX1.1.1 = 81 := by
  have h := zMX_some.2
  unfold zshX at h
  simp only [Bool.and_eq_true, beq_iff_eq] at h
  exact h.1.1
theorem zX1_kd : ∀ a, 32 ≤ a → a < 81 → zX1.1.2 a = zK0 a := fun a h1 h2 => by
  have h := zMX_some.2
  unfold zshX at h
  simp only [Bool.and_eq_true, List.all_eq_true, List.mem_range, decide_eq_true_eq] at h
  have h3 := h.1.2 (a - 32) (by omega)
  rwa [show a - 32 + 32 = a by omega] at h3
theorem zX1_st : ∀ a ∈ [32, 37, 41, 42, 43, 56, 73, 75, 77, 79], ∀ k, k < 64 → ∀ q, zSt0 a k = some q → zX1.2.2 a k = q := fun a ha k hk q e => by
  have h := zMX_some.2
  unfold zshX at h
  simp only [Bool.and_eq_true, List.all_eq_true, List.mem_range] at h
  have h3 := h.2 a ha k hk
  rw [e] at h3
  exact of_decide_eq_true h3
/-- the class's object, and ghosts J behind it -/
def zB1k : zMK := fun a => if a < 81 then zX1.1.2 a else zK0 a
def zB1I (J : zMI) : zMI := fun a => if a < 81 then zX1.2.1 a else J a
def zB1R : zMR := fun a k => if a < 81 then zX1.2.2 a k else (zSt0 a k).getD none
theorem zB1_sh : zSh 114 zB1k := ⟨Nat.le_refl _, fun a h1 h2 => by
  unfold zB1k
  by_cases h : a < 81
  · rw [if_pos h, zX1_kd a h1 h]
  · rw [if_neg h]⟩
theorem zB1_fx : zfx zB1R = zB1R := by
  apply zfxB_eq
  unfold zfxB
  simp only [List.all_eq_true, List.mem_range]
  intro a ha k hk
  cases e : zSt0 a k with
  | none => rfl
  | some q =>
    refine decide_eq_true ?_
    unfold zB1R
    by_cases h : a < 81
    · rw [if_pos h]
      refine zX1_st a ?_ k hk q e
      simp only [List.mem_cons, List.not_mem_nil, or_false] at ha ⊢
      omega
    · rw [if_neg h, e]
      rfl
