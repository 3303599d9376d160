/-! pure part: what holds between calls (T: what holds of the texts, told apart) -/
def zCn (I : zMI) : Prop := I 32 4 = I 81 3 ∧ I 32 2 = I 81 2 ∧ I 32 6 = I 81 11 ∧ I 32 7 = I 81 12 ∧ I 37 1 = I 81 8 ∧ (0 ≤ (I 81 3).toInt ∧ (I 81 3).toInt ≤ 5) ∧ (1 ≤ (I 81 2).toInt ∧ (I 81 2).toInt ≤ 200) ∧ (1 ≤ (I 81 11).toInt ∧ (I 81 11).toInt ≤ 6) ∧ (0 ≤ (I 81 12).toInt ∧ (I 81 12).toInt < (I 81 11).toInt) ∧ (0 ≤ (I 81 8).toInt ∧ (I 81 8).toInt ≤ 160)
def zCh (I : zMI) : Prop := ∀ h, h < 9 → I 33 h = I 82 h ∧ (0 ≤ (I 82 h).toInt ∧ (I 82 h).toInt ≤ 200) ∧ I 34 h = I 83 h ∧ (0 ≤ (I 83 h).toInt ∧ (I 83 h).toInt ≤ 9)
def zCt (I : zMI) : Prop := ∀ k, k < (I 81 8).toInt.toNat → I 38 k = I 87 k ∧ (0 ≤ (I 87 k).toInt ∧ (I 87 k).toInt ≤ 255)
def zCs (I : zMI) : Prop := ∀ s, s < 4 → I (73 + 2 * s) 0 = I 91 s ∧ I (73 + 2 * s) 1 = I 92 s ∧ (-1 ≤ (I 91 s).toInt ∧ (I 91 s).toInt ≤ 2) ∧ (0 ≤ (I 92 s).toInt ∧ (I 92 s).toInt ≤ 40) ∧ ∀ k, k < 40 → I (74 + 2 * s) k = I 93 (40 * s + k)
def zCi (I : zMI) : Prop := (I 81 13 = 0 ∧ I 32 18 = -1) ∨ (I 81 13 = 1 ∧ I 32 18 = I 81 14 ∧ I 32 17 = I 81 15 ∧ I 32 19 = I 81 16 ∧ (0 ≤ (I 81 14).toInt ∧ (I 81 14).toInt ≤ (I 81 3).toInt) ∧ (1 ≤ (I 81 15).toInt ∧ (I 81 15).toInt ≤ 200) ∧ (0 ≤ (I 81 16).toInt ∧ (I 81 16).toInt < (I 81 11).toInt) ∧
  (∀ h, h < 9 → I 64 h = I 90 h ∧ (0 ≤ (I 90 h).toInt ∧ (I 90 h).toInt ≤ 200) ∧ I 65 h = I 90 (9 + h) ∧ (0 ≤ (I 90 (9 + h)).toInt ∧ (I 90 (9 + h)).toInt ≤ 9)) ∧ ∀ w, w < (I 81 14).toInt.toNat → I 66 w = I 90 (18 + w) ∧ (0 ≤ (I 90 (18 + w)).toInt ∧ (I 90 (18 + w)).toInt ≤ 8))
def zkc (k : Int32) : Nat := if k = 0 then 10 else if k = 1 then 5 else if k = 2 then 8 else if k = 3 then 4 else if k = 4 then 1 else 9
def zCw (n : Nat) (kd : zMK) (I : zMI) (R : zMR) : Prop := ∀ i, i < (I 81 3).toInt.toNat → ∃ a, R 35 i = some a ∧ 114 ≤ a ∧ a < n ∧ (kd a).1 = 16 + zkc (I 84 i) ∧ (0 ≤ (I 84 i).toInt ∧ (I 84 i).toInt ≤ 5) ∧ (I a 0).toInt = i ∧ I a 1 = I 85 i ∧ (0 ≤ (I 85 i).toInt ∧ (I 85 i).toInt ≤ 9) ∧ I a 2 = I 86 i ∧ (0 ≤ (I 86 i).toInt ∧ (I 86 i).toInt ≤ 8)
def zC (T : Nat → zMK → zMI → zMR → Prop) (n : Nat) (kd : zMK) (I : zMI) (R : zMR) : Prop := zSh n kd ∧ zCn I ∧ zCh I ∧ zCt I ∧ zCs I ∧ zCi I ∧ zCw n kd I R ∧ T n kd I R
/-- what the texts' part looks at -/
def zTa (kd : zMK) (a : Nat) : Prop := (67 ≤ a ∧ a ≤ 72) ∨ a = 88 ∨ a = 89 ∨ a = 95 ∨ (114 ≤ a ∧ ((kd a).1 = 0 ∨ (kd a).1 = 19))
/-- a text's scratch rows: its stack and its names -/
def zTs (I : zMI) (R : zMR) (a : Nat) : Prop := ∃ t c, t < (I 81 11).toInt.toNat ∧ R 36 t = some c ∧ (R c 2 = some a ∨ R c 3 = some a)
def zTq (T : Nat → zMK → zMI → zMR → Prop) : Prop := ∀ (n n' : Nat) (kd kd' : zMK) (I J : zMI) (R R' : zMR), zSh n kd → n ≤ n' → (∀ a, a < n → kd' a = kd a) → (∀ a, a < n → zTa kd a → ¬ zTs I R a → J a = I a) → (∀ h, h < 9 → J (46 + h) 0 = I (46 + h) 0) → J 81 11 = I 81 11 → (∀ a, a < n → a = 36 ∨ 67 ≤ a → R' a = R a) → T n kd I R → T n' kd' J R'
theorem zTq_same {T : Nat → zMK → zMI → zMR → Prop} (hT : zTq T) {n : Nat} {kd : zMK} {I J : zMI} {R : zMR} (hS : zSh n kd) (e11 : J 81 11 = I 81 11) (h : ∀ a, zTa kd a ∨ (46 ≤ a ∧ a ≤ 54) → J a = I a) (h8 : T n kd I R) : T n kd J R := hT n n kd kd I J R R hS (Nat.le_refl _) (fun _ _ => rfl) (fun a _ ha _ => h a (Or.inl ha)) (fun i hi => by rw [h (46 + i) (Or.inr ⟨by omega, by omega⟩)]) e11 (fun _ _ _ => rfl) h8
theorem uI_ne {I : zMI} {a b k : Nat} {x : Int32} (h : b ≠ a) : uI I a k x b = I b := if_neg h
theorem uI_at {I : zMI} {a k : Nat} {x : Int32} : uI I a k x a k = x := by
  unfold uI upd
  rw [if_pos rfl, if_pos rfl]
theorem uI_off {I : zMI} {a k j : Nat} {x : Int32} (h : j ≠ k) : uI I a k x a j = I a j := by
  unfold uI upd
  rw [if_pos rfl, if_neg h]
section
variable {T : Nat → zMK → zMI → zMR → Prop} {n : Nat} {kd : zMK} {I J : zMI} {R : zMR}
/-- only heaps' rows have changed -/
theorem zC_heaps (hT : zTq T) (h : zC T n kd I R) (e : ∀ a, a ≠ 33 → a ≠ 34 → a ≠ 82 → a ≠ 83 → J a = I a) (hh : zCh J) : zC T n kd J R := by
  obtain ⟨h1, h2, h3, h4, h5, h6, h7, h8⟩ := h
  have e32 : J 32 = I 32 := e _ (by decide) (by decide) (by decide) (by decide)
  have e81 : J 81 = I 81 := e _ (by decide) (by decide) (by decide) (by decide)
  have e37 : J 37 = I 37 := e _ (by decide) (by decide) (by decide) (by decide)
  refine ⟨h1, ?_, hh, ?_, ?_, ?_, ?_, zTq_same hT h1 (by rw [e81]) (fun a ha => ?_) h8⟩
  · unfold zCn at h2 ⊢
    rw [e32, e81, e37]
    exact h2
  · unfold zCt at h4 ⊢
    rw [e81, e 38 (by decide) (by decide) (by decide) (by decide), e 87 (by decide) (by decide) (by decide) (by decide)]
    exact h4
  · intro s hs
    rw [e (73 + 2 * s) (by omega) (by omega) (by omega) (by omega), e (74 + 2 * s) (by omega) (by omega) (by omega) (by omega), e 91 (by decide) (by decide) (by decide) (by decide), e 92 (by decide) (by decide) (by decide) (by decide), e 93 (by decide) (by decide) (by decide) (by decide)]
    exact h5 s hs
  · unfold zCi at h6 ⊢
    rw [e32, e81, e 64 (by decide) (by decide) (by decide) (by decide), e 65 (by decide) (by decide) (by decide) (by decide), e 66 (by decide) (by decide) (by decide) (by decide), e 90 (by decide) (by decide) (by decide) (by decide)]
    exact h6
  · intro i hi
    rw [e81] at hi
    obtain ⟨a, q1, q2, q3, q4⟩ := h7 i hi
    refine ⟨a, q1, q2, q3, ?_⟩
    rw [e a (by omega) (by omega) (by omega) (by omega), e 84 (by decide) (by decide) (by decide) (by decide), e 85 (by decide) (by decide) (by decide) (by decide), e 86 (by decide) (by decide) (by decide) (by decide)]
    exact q4
  · unfold zTa at ha
    exact e a (by omega) (by omega) (by omega) (by omega)
/-- only plain fields of the two objects have changed -/
theorem zC_fields (hT : zTq T) (h : zC T n kd I R) (e : ∀ a, a ≠ 32 → a ≠ 81 → J a = I a) (hn : zCn J) (e3 : J 81 3 = I 81 3) (e8 : J 81 8 = I 81 8) (e11 : J 81 11 = I 81 11) (hi : zCi J) : zC T n kd J R := by
  obtain ⟨h1, h2, h3, h4, h5, h6, h7, h8⟩ := h
  refine ⟨h1, hn, ?_, ?_, ?_, hi, ?_, zTq_same hT h1 e11 (fun a ha => ?_) h8⟩
  · unfold zCh at h3 ⊢
    rw [e 33 (by decide) (by decide), e 34 (by decide) (by decide), e 82 (by decide) (by decide), e 83 (by decide) (by decide)]
    exact h3
  · unfold zCt at h4 ⊢
    rw [e8, e 38 (by decide) (by decide), e 87 (by decide) (by decide)]
    exact h4
  · intro s hs
    rw [e (73 + 2 * s) (by omega) (by omega), e (74 + 2 * s) (by omega) (by omega), e 91 (by decide) (by decide), e 92 (by decide) (by decide), e 93 (by decide) (by decide)]
    exact h5 s hs
  · intro i hi
    rw [e3] at hi
    obtain ⟨a, q1, q2, q3, q4⟩ := h7 i hi
    refine ⟨a, q1, q2, q3, ?_⟩
    rw [e a (by omega) (by omega), e 84 (by decide) (by decide), e 85 (by decide) (by decide), e 86 (by decide) (by decide)]
    exact q4
  · unfold zTa at ha
    exact e a (by omega) (by omega)
end
