/-! pure part: walkersBy. zAc: alike where the class lies; zAm: alike where the reference lies -/
def zAc (I J : zMI) : Prop := ∀ b, b < 81 ∨ 114 ≤ b → I b = J b
def zAm (I J : zMI) : Prop := ∀ b, 81 ≤ b → b < 114 → I b = J b
theorem zA_both {I J : zMI} (h1 : zAc I J) (h2 : zAm I J) : I = J := by
  funext b
  by_cases h : b < 81 ∨ 114 ≤ b
  · exact h1 b h
  · exact h2 b (by omega) (by omega)
def zOk (k m h : Int32) : Prop := (0 ≤ k.toInt ∧ k.toInt ≤ 5) ∧ (0 ≤ m.toInt ∧ m.toInt ≤ 9) ∧ (0 ≤ h.toInt ∧ h.toInt ≤ 8)
def zX7 (I : zMI) (n : Nat) (c m h : Int32) : zMI := uI (uI (uI (uI (uA I n (fun _ => 0)) n 0 c) n 1 m) n 2 h) 32 4 (c + 1)
def zM7 (I : zMI) (c k m h : Int32) : zMI := uI (uI (uI (uI I 84 c.toNatClampNeg k) 85 c.toNatClampNeg m) 86 c.toNatClampNeg h) 81 3 (c + 1)
theorem zaddsub {a : Int32} (h : 0 ≤ a.toInt ∧ a.toInt ≤ 1000) : a + 1 - 1 = a := by
  have e := zadd (a := a) (b := 1) (by rw [z1]; omega) (by rw [z1]; omega)
  rw [zeq_iff, zsub (by rw [e, z1]; omega) (by rw [e, z1]; omega), e, z1]
  omega
theorem g11_walkerI {n : Nat} {kd : zMK} {I : zMI} {R : zMR} {k m h c : Int32} (hS : zSh n kd) (ec : I 32 4 = c) (r3 : 0 ≤ c.toInt ∧ c.toInt ≤ 5) :
    (zOk k m h → c.toInt < 5 → f11_walker k m h n kd I R = some (c, (n + 1, uK kd n (16 + zkc k, 0)), zX7 I n c m h, uR (uRA R n) 35 c.toNatClampNeg (some n))) ∧ (zOk k m h → ¬ c.toInt < 5 → f11_walker k m h n kd I R = some (-4, (n, kd), I, R)) ∧ (¬ zOk k m h → f11_walker k m h n kd I R = some (-2, (n, kd), I, R)) := by
  have hn := hS.1
  have z5 : (5 : Int32).toInt = 5 := rfl
  have z6 : (6 : Int32).toInt = 6 := rfl
  unfold f11_walker
  rw [ec]
  have t1 : ¬ c < 0 := by rw [zlt_iff, z0]; omega
  refine ⟨fun ⟨ck, cm, ch⟩ c5 => ?_, fun ⟨ck, cm, ch⟩ c5 => ?_, fun no => ?_⟩
  · rw [if_neg (by rw [zlt_iff, z0]; omega), if_neg (by rw [zle_iff, z6]; omega), if_neg (by rw [zlt_iff, z0]; omega), if_neg (by rw [zlt_iff, z9]; omega), g11_noHeap, zb_some]
    simp only [zB_0]
    have t2 : c < 5 := by rw [zlt_iff, z5]; exact c5
    rw [if_pos (not_not_intro ch), if_neg t1, if_pos t2, g11_newWalker hS ck.1 ck.2, zb_some]
    have w : zWkB (n + 1) (uK kd n (16 + zkc k, 0)) n = true := zW_ok hn (by omega) (by unfold uK; rw [if_pos rfl]) (zkc_w ck.1 ck.2)
    dsimp only
    rw [if_pos (zSh_B (zSh_new hS _)), if_pos w, if_pos (zib_ok r3.1 (by omega)), zl_eq, zl_eq]
    have x : uI (uI (uI (uA I n (fun _ => 0)) n 0 c) n 1 m) n 2 h 32 4 = c := by
      rw [uI_ne (by omega), uI_ne (by omega), uI_ne (by omega), uA_ne (by omega)]
      exact ec
    rw [x, uI_at, zaddsub ⟨r3.1, by omega⟩]
    rfl
  · rw [if_neg (by rw [zlt_iff, z0]; omega), if_neg (by rw [zle_iff, z6]; omega), if_neg (by rw [zlt_iff, z0]; omega), if_neg (by rw [zlt_iff, z9]; omega), g11_noHeap, zb_some]
    simp only [zB_0]
    rw [if_pos (not_not_intro ch), if_neg t1, if_neg (by rw [zlt_iff, z5]; exact c5)]
  · by_cases c0 : k < 0
    · rw [if_pos c0]
    rw [if_neg c0]
    by_cases c1 : (6 : Int32) ≤ k
    · rw [if_pos c1]
    rw [if_neg c1]
    by_cases c2 : m < 0
    · rw [if_pos c2]
    rw [if_neg c2]
    by_cases c3 : (9 : Int32) < m
    · rw [if_pos c3]
    rw [if_neg c3, g11_noHeap, zb_some]
    simp only [zB_0]
    rw [if_neg]
    intro q
    rw [zlt_iff, z0] at c0 c2
    rw [zle_iff, z6] at c1
    rw [zlt_iff, z9] at c3
    refine no ⟨⟨by omega, by omega⟩, ⟨by omega, by omega⟩, ?_⟩
    omega
theorem g12_walkerI {I : zMI} {k m h c : Int32} (ec : I 81 3 = c) (r3 : 0 ≤ c.toInt ∧ c.toInt ≤ 5) :
    (zOk k m h → c.toInt < 5 → f12_walker k m h I = some (c, zM7 I c k m h)) ∧ (zOk k m h → ¬ c.toInt < 5 → f12_walker k m h I = some (-4, I)) ∧ (¬ zOk k m h → f12_walker k m h I = some (-2, I)) := by
  have z5 : (5 : Int32).toInt = 5 := rfl
  unfold f12_walker
  simp only [g12_in, g12_isHeap, zb_some, zB_0, z0, z5, z9]
  refine ⟨fun ⟨ck, cm, ch⟩ c5 => ?_, fun ⟨ck, cm, ch⟩ c5 => ?_, fun no => ?_⟩
  · rw [if_neg (not_not_intro ck), if_neg (not_not_intro cm), if_neg (not_not_intro ch), ec]
    have hz : zib c 5 = true := zib_ok r3.1 (by omega)
    have c5' : ¬ c = 5 := fun q => by rw [q, z5] at c5; omega
    rw [if_neg c5', if_pos hz]
    simp (disch := omega) only [zl_eq, uI_ne, uI_at, ec, hz, if_true, zaddsub ⟨r3.1, show c.toInt ≤ 1000 by omega⟩]
    rfl
  · rw [if_neg (not_not_intro ck), if_neg (not_not_intro cm), if_neg (not_not_intro ch), ec, if_pos (by rw [zeq_iff, z5]; omega)]
  · by_cases ck : 0 ≤ k.toInt ∧ k.toInt ≤ 5
    · rw [if_neg (not_not_intro ck)]
      by_cases cm : 0 ≤ m.toInt ∧ m.toInt ≤ 9
      · rw [if_neg (not_not_intro cm), if_pos (fun q => no ⟨ck, cm, q⟩)]
      · rw [if_pos cm]
    · rw [if_pos ck]
theorem zX7_ne {I : zMI} {n : Nat} {c m h : Int32} {b : Nat} (h1 : b ≠ n) (h2 : b ≠ 32) : zX7 I n c m h b = I b := by
  unfold zX7
  rw [uI_ne h2, uI_ne h1, uI_ne h1, uI_ne h1, uA_ne h1]
theorem zX7_Ac {I J : zMI} {n : Nat} {c m h : Int32} (e : zAc I J) : zAc (zX7 I n c m h) (zX7 J n c m h) := fun b hb => by
  by_cases h1 : b = 32
  · funext j
    unfold zX7
    rw [h1]
    by_cases hj : j = 4
    · rw [hj, uI_at, uI_at]
    · rw [uI_off hj, uI_off hj]
      by_cases h2 : n = 32
      · subst h2
        by_cases j2 : j = 2
        · rw [j2, uI_at, uI_at]
        · rw [uI_off j2, uI_off j2]
          by_cases j1 : j = 1
          · rw [j1, uI_at, uI_at]
          · rw [uI_off j1, uI_off j1]
            by_cases j0 : j = 0
            · rw [j0, uI_at, uI_at]
            · rw [uI_off j0, uI_off j0]
              unfold uA
              rw [if_pos rfl, if_pos rfl]
      · rw [uI_ne (Ne.symm h2), uI_ne (Ne.symm h2), uI_ne (Ne.symm h2), uI_ne (Ne.symm h2), uI_ne (Ne.symm h2), uI_ne (Ne.symm h2), uA_ne (Ne.symm h2), uA_ne (Ne.symm h2), e 32 (by decide)]
  · by_cases h2 : b = n
    · funext j
      unfold zX7
      rw [uI_ne h1, uI_ne h1, ← h2]
      by_cases j2 : j = 2
      · rw [j2, uI_at, uI_at]
      · rw [uI_off j2, uI_off j2]
        by_cases j1 : j = 1
        · rw [j1, uI_at, uI_at]
        · rw [uI_off j1, uI_off j1]
          by_cases j0 : j = 0
          · rw [j0, uI_at, uI_at]
          · rw [uI_off j0, uI_off j0]
            unfold uA
            rw [if_pos rfl, if_pos rfl]
    · rw [zX7_ne h2 h1, zX7_ne h2 h1, e b hb]
theorem zM7_ne {I : zMI} {c k m h : Int32} {b : Nat} (hb : b < 81 ∨ 114 ≤ b) : zM7 I c k m h b = I b := by
  unfold zM7
  simp (disch := omega) only [uI_ne]
theorem uI_eqr {I J : zMI} {a k b : Nat} {x : Int32} (h : I b = J b) : uI I a k x b = uI J a k x b := by
  unfold uI
  by_cases e : b = a
  · rw [if_pos e, if_pos e, ← e, h]
  · rw [if_neg e, if_neg e, h]
theorem zM7_Am {I J : zMI} {c k m h : Int32} (e : zAm I J) : zAm (zM7 I c k m h) (zM7 J c k m h) := fun b h1 h2 => by
  unfold zM7
  exact uI_eqr (uI_eqr (uI_eqr (uI_eqr (e b h1 h2))))
theorem zM7_Ac {I : zMI} {c k m h : Int32} : zAc (zM7 I c k m h) I := fun _ hb => zM7_ne hb
/-- zNW is the class's step and then the reference's -/
theorem zNW_two {I : zMI} {n : Nat} {k m h : Int32} : zNW I n k m h = zM7 (zX7 I n (I 81 3) m h) (I 81 3) k m h := rfl
theorem zM7_X7 {I : zMI} {n : Nat} {c k m h : Int32} (hn : 114 ≤ n) : zAm (zM7 (zX7 I n c m h) c k m h) (zM7 I c k m h) ∧ zAc (zM7 (zX7 I n c m h) c k m h) (zX7 I n c m h) :=
  ⟨zM7_Am fun b h1 h2 => zX7_ne (by omega) (by omega), zM7_Ac⟩
