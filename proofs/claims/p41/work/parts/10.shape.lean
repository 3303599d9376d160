/-! where everything lies: the class and what it holds at 32 .. 80, the reference at 81 .. 113 -/
def zKL : List (Nat × Nat) := [(27, 0), (0, 9), (0, 9), (2, 5), (3, 6), (23, 0), (0, 160), (0, 160), (0, 4), (4, 4), (16, 0), (5, 9), (2, 5), (0, 40), (18, 0), (18, 0), (18, 0), (18, 0), (18, 0), (18, 0), (18, 0), (18, 0), (18, 0), (0, 5), (1, 6), (0, 10), (0, 10), (0, 10), (0, 10), (0, 10), (0, 10), (0, 5), (0, 9), (0, 9), (0, 5), (19, 0), (0, 40), (0, 6), (0, 3), (0, 3), (0, 4), (22, 0), (0, 40), (22, 0), (0, 40), (22, 0), (0, 40), (22, 0), (0, 40), (15, 0), (15, 9), (15, 9), (15, 5), (15, 5), (15, 5), (15, 160), (15, 1200), (15, 24), (15, 23), (15, 4), (15, 4), (15, 160), (15, 29), (15, 96), (15, 200), (15, 200), (15, 6), (15, 5), (15, 5), (15, 5), (15, 5), (15, 5), (15, 5), (15, 5), (15, 5), (15, 9), (15, 9), (15, 9), (15, 400), (15, 5), (15, 5), (15, 9)]
def zK0 (a : Nat) : Nat × Nat := zKL.getD (a - 32) (0, 0)
/-- references that never change -/
def zSt0 (a k : Nat) : Option (Option Nat) := match a with
  | 32 => match k with | 0 => some (some 33) | 1 => some (some 34) | 3 => some (some 35) | 5 => some (some 36) | 8 => some (some 37) | 9 => some (some 41) | 10 => some (some 42) | 11 => some (some 55) | 12 => some (some 56) | 13 => some (some 63) | 14 => some (some 64) | 15 => some (some 65) | 16 => some (some 66) | _ => none
  | 37 => match k with | 0 => some (some 38) | 7 => some (some 39) | 9 => some (some 40) | _ => none
  | 42 => match k with | 0 => some (some 43) | 1 => some (some 44) | 6 => some (some 45) | _ => none
  | 73 => match k with | 2 => some (some 74) | _ => none
  | 75 => match k with | 2 => some (some 76) | _ => none
  | 77 => match k with | 2 => some (some 78) | _ => none
  | 79 => match k with | 2 => some (some 80) | _ => none
  | 81 => match k with | 0 => some (some 82) | 1 => some (some 83) | 4 => some (some 84) | 5 => some (some 85) | 6 => some (some 86) | 7 => some (some 87) | 9 => some (some 88) | 10 => some (some 89) | 17 => some (some 90) | 18 => some (some 91) | 19 => some (some 92) | 20 => some (some 93) | 21 => some (some 94) | 26 => some (some 95) | 27 => some (some 96) | 31 => some (some 97) | 32 => some (some 98) | 33 => some (some 99) | 35 => some (some 100) | 36 => some (some 101) | 37 => some (some 102) | 38 => some (some 103) | 39 => some (some 104) | 40 => some (some 105) | 41 => some (some 106) | 42 => some (some 107) | 43 => some (some 108) | 44 => some (some 109) | 46 => some (some 110) | 49 => some (some 111) | 50 => some (some 112) | 52 => some (some 113) | _ => none
  | 43 => if k < 9 then some (some (46 + k)) else none
  | 56 => if k < 6 then some (some (57 + k)) else none
  | 41 => if k < 4 then some (some (73 + 2 * k)) else none
  | _ => none
def zStA (a : Nat) : Bool := a == 32 || a == 37 || a == 41 || a == 42 || a == 43 || a == 56 || a == 73 || a == 75 || a == 77 || a == 79 || a == 81
theorem zSt0_none {a : Nat} (h : zStA a = false) (k : Nat) : zSt0 a k = none := by
  unfold zSt0
  split <;> first | rfl | (exfalso; revert h; decide)
def zSh (n : Nat) (kd : Nat → Nat × Nat) : Prop := 114 ≤ n ∧ ∀ a, 32 ≤ a → a < 114 → kd a = zK0 a
theorem zSh.has {n : Nat} {kd : Nat → Nat × Nat} (h : zSh n kd) (a : Nat) {K : Nat} (h1 : 32 ≤ a) (h2 : a < 81) (hk : (zK0 a).1 = K) : zHas n kd a K := ⟨⟨h1, Or.inl h2⟩, Nat.lt_of_lt_of_le (Nat.lt_trans h2 (by decide)) h.1, by rw [h.2 a h1 (Nat.lt_trans h2 (by decide))]; exact hk⟩
theorem zgh : ∀ a, a < 114 → 81 ≤ a → (zK0 a).1 = 15 := by decide +kernel
/-- a cell that isn't a ghost -/
theorem zSh.rl {n : Nat} {kd : Nat → Nat × Nat} (h : zSh n kd) {a : Nat} (h1 : 32 ≤ a) (hk : (kd a).1 ≠ 15) : zrl a := by
  refine ⟨h1, ?_⟩
  by_cases c : a < 81
  · exact Or.inl c
  · by_cases c2 : a < 114
    · exact absurd (by rw [h.2 a h1 c2]; exact zgh a c2 (by omega)) hk
    · exact Or.inr (by omega)
theorem zSh.top {n : Nat} {kd : Nat → Nat × Nat} (h : zSh n kd) : zrl n := ⟨by have := h.1; omega, Or.inr h.1⟩
theorem zSh.len {n : Nat} {kd : Nat → Nat × Nat} (h : zSh n kd) (a : Nat) {N : Nat} (h1 : 32 ≤ a) (h2 : a < 114) (hk : (zK0 a).2 = N) : (kd a).2 = N := by rw [h.2 a h1 h2]; exact hk
theorem zSh.st {n : Nat} {kd : Nat → Nat × Nat} (h : zSh n kd) {a K : Nat} (ha : zHas n kd a K) (hK : (List.range 82).all (fun j => (zKL.getD j (0, 0)).1 != K || !zStA (j + 32)) = true) (k : Nat) : zSt0 a k = none := by
  refine zSt0_none ?_ k
  by_cases h2 : a < 114
  · have e := h.2 a ha.1.1 h2
    have h3 := List.all_eq_true.mp hK (a - 32) (List.mem_range.mpr (by omega))
    have h4 : (zKL.getD (a - 32) (0, 0)).1 = K := by
      have h5 : (zK0 a).1 = K := by rw [← e]; exact ha.2.2
      exact h5
    rw [h4, show a - 32 + 32 = a by have := ha.1.1; omega] at h3
    simpa using h3
  · unfold zStA
    simp only [Bool.or_eq_false_iff, beq_eq_false_iff_ne]
    omega
/-- Bools for what is asked on the way -/
def zib (i : Int32) (n : Nat) : Bool := decide (0 ≤ i) && decide (i.toNatClampNeg < n)
theorem zib_in {i : Int32} {n : Nat} (h : zib i n = true) : vp_in i n := by
  unfold zib at h
  simp only [Bool.and_eq_true, decide_eq_true_eq] at h
  rintro (q | q)
  · exact absurd h.1 (Int32.not_le.mpr q)
  · omega
def zHpB (a : Nat) : Bool := decide (46 ≤ a) && decide (a < 55)
def zSeB (a : Nat) : Bool := a == 73 || a == 75 || a == 77 || a == 79
def zwB (K : Nat) : Bool := K == 17 || K == 20 || K == 21 || K == 24 || K == 25 || K == 26
def zWkB (n : Nat) (kd : Nat → Nat × Nat) (a : Nat) : Bool := decide (32 ≤ a) && decide (a < n) && zwB (kd a).1
def zKdB (n : Nat) (kd : Nat → Nat × Nat) (a K : Nat) : Bool := decide (32 ≤ a) && decide (a < n) && (kd a).1 == K
theorem zKdB_has {n : Nat} {kd : Nat → Nat × Nat} {a K : Nat} (h : zKdB n kd a K = true) : 32 ≤ a ∧ a < n ∧ (kd a).1 = K := by
  unfold zKdB at h
  simp only [Bool.and_eq_true, decide_eq_true_eq, beq_iff_eq] at h
  exact ⟨h.1.1, h.1.2, h.2⟩
theorem zKdB_hasR {n : Nat} {kd : Nat → Nat × Nat} {a K : Nat} (hS : zSh n kd) (hK : K ≠ 15) (h : zKdB n kd a K = true) : zHas n kd a K := by
  obtain ⟨h1, h2, h3⟩ := zKdB_has h
  exact ⟨hS.rl h1 (by rw [h3]; exact hK), h2, h3⟩
/-- while objects are built: below the ghosts -/
def zKdC (n : Nat) (kd : Nat → Nat × Nat) (a K : Nat) : Bool := decide (32 ≤ a) && decide (a < n) && decide (a < 81) && (kd a).1 == K
theorem zKdC_has {n : Nat} {kd : Nat → Nat × Nat} {a K : Nat} (h : zKdC n kd a K = true) : zHas n kd a K := by
  unfold zKdC at h
  simp only [Bool.and_eq_true, decide_eq_true_eq, beq_iff_eq] at h
  exact ⟨⟨h.1.1.1, Or.inl h.1.2⟩, h.1.1.2, h.2⟩
theorem zWkB_has {n : Nat} {kd : Nat → Nat × Nat} {a : Nat} (h : zWkB n kd a = true) : ∃ c, zWc c ∧ 32 ≤ a ∧ a < n ∧ (kd a).1 = 16 + c := by
  unfold zWkB zwB at h
  simp only [Bool.and_eq_true, Bool.or_eq_true, decide_eq_true_eq, beq_iff_eq] at h
  obtain ⟨⟨h1, h2⟩, ((((h3 | h3) | h3) | h3) | h3) | h3⟩ := h
  · exact ⟨1, Or.inl rfl, h1, h2, h3⟩
  · exact ⟨4, Or.inr (Or.inl rfl), h1, h2, h3⟩
  · exact ⟨5, Or.inr (Or.inr (Or.inl rfl)), h1, h2, h3⟩
  · exact ⟨8, Or.inr (Or.inr (Or.inr (Or.inl rfl))), h1, h2, h3⟩
  · exact ⟨9, Or.inr (Or.inr (Or.inr (Or.inr (Or.inl rfl)))), h1, h2, h3⟩
  · exact ⟨10, Or.inr (Or.inr (Or.inr (Or.inr (Or.inr rfl)))), h1, h2, h3⟩
theorem zWkB_hasR {n : Nat} {kd : Nat → Nat × Nat} {a : Nat} (hS : zSh n kd) (h : zWkB n kd a = true) : ∃ c, zWc c ∧ zHas n kd a (16 + c) := by
  obtain ⟨c, h1, h2, h3, h4⟩ := zWkB_has h
  exact ⟨c, h1, hS.rl h2 (by rw [h4]; omega), h3, h4⟩
theorem zHpB_has {n : Nat} {kd : Nat → Nat × Nat} {a : Nat} (hS : zSh n kd) (h : zHpB a = true) : zHas n kd a (16 + 2) := by
  unfold zHpB at h
  simp only [Bool.and_eq_true, decide_eq_true_eq] at h
  refine hS.has a (by omega) (by omega) ?_
  have h2 : ∀ j, j < 55 → 46 ≤ j → (zK0 j).1 = 16 + 2 := by decide +kernel
  exact h2 a h.2 h.1
theorem zSeB_has {n : Nat} {kd : Nat → Nat × Nat} {a : Nat} (hS : zSh n kd) (h : zSeB a = true) : zHas n kd a (16 + 6) ∧ zHas n kd (a + 1) 0 ∧ (kd (a + 1)).2 = 40 ∧ zSt0 a 2 = some (some (a + 1)) := by
  unfold zSeB at h
  simp only [Bool.or_eq_true, beq_iff_eq] at h
  rcases h with ((h | h) | h) | h <;> subst h
  · exact ⟨hS.has _ (by decide) (by decide) rfl, hS.has _ (by decide) (by decide) rfl, hS.len _ (by decide) (by decide) rfl, rfl⟩
  · exact ⟨hS.has _ (by decide) (by decide) rfl, hS.has _ (by decide) (by decide) rfl, hS.len _ (by decide) (by decide) rfl, rfl⟩
  · exact ⟨hS.has _ (by decide) (by decide) rfl, hS.has _ (by decide) (by decide) rfl, hS.len _ (by decide) (by decide) rfl, rfl⟩
  · exact ⟨hS.has _ (by decide) (by decide) rfl, hS.has _ (by decide) (by decide) rfl, hS.len _ (by decide) (by decide) rfl, rfl⟩
theorem zWc_lt {c : Nat} (h : zWc c) : c < 14 := by rcases h with rfl | rfl | rfl | rfl | rfl | rfl <;> decide
/-! the memory as a tuple -/
abbrev zMI : Type := Nat → Nat → Int32
abbrev zMR : Type := Nat → Nat → Option Nat
abbrev zMK : Type := Nat → Nat × Nat
def uI (I : zMI) (a k : Nat) (x : Int32) : zMI := fun b => if b = a then upd (I a) k x else I b
def uA (I : zMI) (a : Nat) (f : Nat → Int32) : zMI := fun b => if b = a then f else I b
def uR (R : zMR) (a k : Nat) (r : Option Nat) : zMR := fun b => if b = a then va_up (R a) k r else R b
/-! how a decompiled method is built, and read again -/
def zb {α β : Type} (x : Option α) (f : α → Option β) : Option β := match x with
  | none => none
  | some a => f a
def zl {α β : Type} (x : α) (f : α → Option β) : Option β := f x
def zm {β : Type} (o : Option Nat) (x : Option β) (f : Nat → Option β) : Option β := match o with
  | none => x
  | some a => f a
theorem zgd {c : Prop} [Decidable c] {α : Type} {x : Option α} {r : α} (h : (if c then x else none) = some r) : c ∧ x = some r := by
  by_cases g : c
  · rw [if_pos g] at h
    exact ⟨g, h⟩
  · rw [if_neg g] at h
    cases h
theorem zit {c : Prop} [Decidable c] {α : Type} {x y r : α} (g : c) (h : (if c then x else y) = r) : x = r := by
  rw [if_pos g] at h
  exact h
theorem zif {c : Prop} [Decidable c] {α : Type} {x y r : α} (g : ¬ c) (h : (if c then x else y) = r) : y = r := by
  rw [if_neg g] at h
  exact h
theorem zbd {α β : Type} {x : Option α} {f : α → Option β} {r : β} (h : zb x f = some r) : ∃ a, x = some a ∧ f a = some r := by
  cases x with
  | none => cases h
  | some a => exact ⟨a, rfl, h⟩
theorem zld {α β : Type} {x : α} {f : α → Option β} {r : β} (h : zl x f = some r) : ∃ a, x = a ∧ f a = some r := ⟨x, rfl, h⟩
theorem zmn {β : Type} {o : Option Nat} {x : Option β} {f : Nat → Option β} {r : Option β} (g : o = none) (h : zm o x f = r) : x = r := by
  rw [g] at h
  exact h
theorem zms {β : Type} {o : Option Nat} {x : Option β} {f : Nat → Option β} {r : Option β} {a : Nat} (g : o = some a) (h : zm o x f = r) : f a = r := by
  rw [g] at h
  exact h
def zF : Nat := 1000000
def zmask : List Bool → List (Option Value) → List (Option Value)
  | true :: m, v :: L => v :: zmask m L
  | false :: m, _ :: L => none :: zmask m L
  | _, _ => []
theorem zmask_at : ∀ (m : List Bool) (L : List (Option Value)) (j : Nat) (v : Value), (zmask m L)[j]? = some (some v) → L[j]? = some (some v)
  | [], L, j, v, h => by simp [zmask] at h
  | true :: m, [], j, v, h => by simp [zmask] at h
  | false :: m, [], j, v, h => by simp [zmask] at h
  | true :: m, u :: L, 0, v, h => by simpa [zmask] using h
  | false :: m, u :: L, 0, v, h => by simp [zmask] at h
  | true :: m, u :: L, j + 1, v, h => by
    have := zmask_at m L j v (by simpa [zmask] using h)
    simpa using this
  | false :: m, u :: L, j + 1, v, h => by
    have := zmask_at m L j v (by simpa [zmask] using h)
    simpa using this
section EVT
variable {w : zW} {d kc ks : Nat} {y : zY} {pc : Nat} {L : List (Option Value)} {st : List Value} {n : Nat} {kd : zMK} {I J : zMI} {R R' : zMR} {μ : zM} {Q Q' : Option Value → zM → Prop}
theorem EV.mask (m : List Bool) {L' : List (Option Value)} (hL : zmask m L = L') (h : EV w d kc ks y pc L' st μ Q) : EV w d kc ks y pc L st μ Q := by
  subst hL
  exact h.less (fun j v hj => zmask_at m L j v hj)
theorem ev_nm {x v : Int32} (e : x = v) (k : EV w d kc ks y pc L (.int v :: st) μ Q) : EV w d kc ks y pc L (.int x :: st) μ Q := by rw [e]; exact k
theorem zrr_st {a k : Nat} {r : Option Nat} (hw : zst w = zSt0) (h : zSt0 a k = some r) : zrr w μ a k = r := by
  unfold zrr
  rw [hw, h]
theorem zrr_dy {a k : Nat} {r : Option Nat} (hw : zst w = zSt0) (h : zSt0 a k = none) (hr : zr μ a k = r) : zrr w μ a k = r := by
  unfold zrr
  rw [hw, h]
  exact hr
theorem em_getI {idx c k a : Nat} {x : Int32} (hd : decode y.2.1 pc = .ok (.getfield idx, 3)) (hf : zFL y.1.cls idx c k) (hfl : zfl c k = false) (ha : zHas n kd a (16 + c)) (hv : I a k = x)
    (kk : EV w d kc ks y (pc + 3) L (.int x :: st) (n, kd, I, R) Q) : EV w d kc ks y pc L (.ref a :: st) (n, kd, I, R) Q := ev_getI hd hf hfl ha hv kk
theorem em_getA {idx c k a b : Nat} (hd : decode y.2.1 pc = .ok (.getfield idx, 3)) (hf : zFL y.1.cls idx c k) (hfl : zfl c k = true) (ha : zHas n kd a (16 + c)) (hw : zst w = zSt0) (hs : zSt0 a k = some (some b))
    (kk : EV w d kc ks y (pc + 3) L (.ref b :: st) (n, kd, I, R) Q) : EV w d kc ks y pc L (.ref a :: st) (n, kd, I, R) Q := ev_getR hd hf hfl ha (zrr_st hw hs) kk
theorem zva_rf (w : zW) (o : Option Nat) : zva w (va_rf o) = va_rf (o.map (zad w)) := by cases o <;> rfl
theorem em_getO {idx c k a : Nat} {o : Option Nat} (hd : decode y.2.1 pc = .ok (.getfield idx, 3)) (hf : zFL y.1.cls idx c k) (hfl : zfl c k = true) (ha : zHas n kd a (16 + c)) (hw : zst w = zSt0) (hs : zSt0 a k = none) (ho : R a k = o)
    (kk : EV w d kc ks y (pc + 3) L (va_rf o :: st) (n, kd, I, R) Q) : EV w d kc ks y pc L (.ref a :: st) (n, kd, I, R) Q := by
  refine ev_get hd hf ha ?_ kk
  unfold zv
  rw [if_pos hfl, zrr_dy hw hs (show zr (n, kd, I, R) a k = o from ho), zva_rf]
theorem em_putI {idx c k a : Nat} {x : Int32} (hd : decode y.2.1 pc = .ok (.putfield idx, 3)) (hf : zFL y.1.cls idx c k) (hm : zMay y c k) (hfl : zfl c k = false) (hn : narrow (zty c k) (.int x) = .int x) (hfit : fits (zty c k) (.int x) = true) (ha : zHas n kd a (16 + c)) (hJ : uI I a k x = J)
    (kk : EV w d kc ks y (pc + 3) L st (n, kd, J, R) Q) : EV w d kc ks y pc L (.int x :: .ref a :: st) (n, kd, I, R) Q := by
  subst hJ
  exact ev_putI hd hf hm hfl hn hfit ha kk
theorem em_putO {idx c k a : Nat} {o : Option Nat} (hd : decode y.2.1 pc = .ok (.putfield idx, 3)) (hf : zFL y.1.cls idx c k) (hm : zMay y c k) (hfl : zfl c k = true) (hw : zst w = zSt0) (hs : zSt0 a k = none) (hn : ∀ q, narrow (zty c k) (.ref q) = .ref q) (hfit : ∀ q, fits (zty c k) (.ref q) = true) (hn0 : narrow (zty c k) .null = .null) (hfit0 : fits (zty c k) .null = true) (ha : zHas n kd a (16 + c)) (hJ : uR R a k o = R')
    (kk : EV w d kc ks y (pc + 3) L st (n, kd, I, R') Q) : EV w d kc ks y pc L (va_rf o :: .ref a :: st) (n, kd, I, R) Q := by
  subst hJ
  cases o with
  | none => exact ev_putN hd hf hm hfl (by rw [hw]; exact hs) hn0 hfit0 ha kk
  | some b => exact ev_putR hd hf hm hfl (by rw [hw]; exact hs) hn hfit ha kk
theorem em_putR {idx c k a b : Nat} (hd : decode y.2.1 pc = .ok (.putfield idx, 3)) (hf : zFL y.1.cls idx c k) (hm : zMay y c k) (hfl : zfl c k = true) (hw : zst w = zSt0) (hs : zSt0 a k = none) (hn : ∀ q, narrow (zty c k) (.ref q) = .ref q) (hfit : ∀ q, fits (zty c k) (.ref q) = true) (ha : zHas n kd a (16 + c)) (hJ : uR R a k (some b) = R')
    (kk : EV w d kc ks y (pc + 3) L st (n, kd, I, R') Q) : EV w d kc ks y pc L (.ref b :: .ref a :: st) (n, kd, I, R) Q := by
  subst hJ
  exact ev_putR hd hf hm hfl (by rw [hw]; exact hs) hn hfit ha kk
/-- rows of ints at an address that is known, or at any -/
theorem em_iald {a N : Nat} {i x : Int32} (hd : decode y.2.1 pc = .ok (.iaload, 1)) (hS : zSh n kd) (h1 : 32 ≤ a) (h2 : a < 81) (hk : zK0 a = (0, N)) (hin : zib i N = true) (hv : I a i.toNatClampNeg = x)
    (kk : EV w d kc ks y (pc + 1) L (.int x :: st) (n, kd, I, R) Q) : EV w d kc ks y pc L (.int i :: .ref a :: st) (n, kd, I, R) Q :=
  ev_iald hd (hS.has a h1 h2 (by rw [hk])) (by show vp_in i (kd a).2; rw [hS.len a h1 (Nat.lt_trans h2 (by decide)) (by rw [hk])]; exact zib_in hin) hv kk
theorem em_iast {a N : Nat} {i x : Int32} (hd : decode y.2.1 pc = .ok (.iastore, 1)) (hS : zSh n kd) (h1 : 32 ≤ a) (h2 : a < 81) (hk : zK0 a = (0, N)) (hin : zib i N = true) (hJ : uI I a i.toNatClampNeg x = J)
    (kk : EV w d kc ks y (pc + 1) L st (n, kd, J, R) Q) : EV w d kc ks y pc L (.int x :: .int i :: .ref a :: st) (n, kd, I, R) Q := by
  subst hJ
  exact ev_iast hd (hS.has a h1 h2 (by rw [hk])) (by show vp_in i (kd a).2; rw [hS.len a h1 (Nat.lt_trans h2 (by decide)) (by rw [hk])]; exact zib_in hin) kk
theorem em_ialdG {a N : Nat} {i x : Int32} (hd : decode y.2.1 pc = .ok (.iaload, 1)) (ha : zHas n kd a 0) (hN : (kd a).2 = N) (hin : zib i N = true) (hv : I a i.toNatClampNeg = x)
    (kk : EV w d kc ks y (pc + 1) L (.int x :: st) (n, kd, I, R) Q) : EV w d kc ks y pc L (.int i :: .ref a :: st) (n, kd, I, R) Q := ev_iald hd ha (by show vp_in i (kd a).2; rw [hN]; exact zib_in hin) hv kk
theorem em_iastG {a N : Nat} {i x : Int32} (hd : decode y.2.1 pc = .ok (.iastore, 1)) (ha : zHas n kd a 0) (hN : (kd a).2 = N) (hin : zib i N = true) (hJ : uI I a i.toNatClampNeg x = J)
    (kk : EV w d kc ks y (pc + 1) L st (n, kd, J, R) Q) : EV w d kc ks y pc L (.int x :: .int i :: .ref a :: st) (n, kd, I, R) Q := by
  subst hJ
  exact ev_iast hd ha (by show vp_in i (kd a).2; rw [hN]; exact zib_in hin) kk
theorem em_alen {a N : Nat} {x : Int32} {j : Nat} (hd : decode y.2.1 pc = .ok (.arraylength, 1)) (ha : zHas n kd a j) (h6 : j < 6) (hN : (kd a).2 = N) (hv : Int32.ofNat N = x)
    (kk : EV w d kc ks y (pc + 1) L (.int x :: st) (n, kd, I, R) Q) : EV w d kc ks y pc L (.ref a :: st) (n, kd, I, R) Q := ev_alen hd ha h6 (by show Int32.ofNat (kd a).2 = x; rw [hN]; exact hv) kk
/-- rows of references -/
theorem em_aaldO {a N j : Nat} {i : Int32} {o : Option Nat} (hd : decode y.2.1 pc = .ok (.aaload, 1)) (hS : zSh n kd) (h1 : 32 ≤ a) (h2 : a < 81) (hk : zK0 a = (j, N)) (h0 : 0 < j) (h6 : j < 6) (hw : zst w = zSt0) (hs : ∀ q, zSt0 a q = none) (hin : zib i N = true) (ho : R a i.toNatClampNeg = o)
    (kk : EV w d kc ks y (pc + 1) L (va_rf o :: st) (n, kd, I, R) Q) : EV w d kc ks y pc L (.int i :: .ref a :: st) (n, kd, I, R) Q :=
  ev_aald hd (hS.has a h1 h2 (by rw [hk])) h0 h6 (by show vp_in i (kd a).2; rw [hS.len a h1 (Nat.lt_trans h2 (by decide)) (by rw [hk])]; exact zib_in hin) (by rw [zrr_dy hw (hs _) (show zr (n, kd, I, R) a i.toNatClampNeg = o from ho), zva_rf]) kk
theorem em_aaldA {a N j b : Nat} {i : Int32} (hd : decode y.2.1 pc = .ok (.aaload, 1)) (hS : zSh n kd) (h1 : 32 ≤ a) (h2 : a < 81) (hk : zK0 a = (j, N)) (h0 : 0 < j) (h6 : j < 6) (hw : zst w = zSt0) (hin : zib i N = true) (hs : zSt0 a i.toNatClampNeg = some (some b))
    (kk : EV w d kc ks y (pc + 1) L (.ref b :: st) (n, kd, I, R) Q) : EV w d kc ks y pc L (.int i :: .ref a :: st) (n, kd, I, R) Q :=
  ev_aaldR hd (hS.has a h1 h2 (by rw [hk])) h0 h6 (by show vp_in i (kd a).2; rw [hS.len a h1 (Nat.lt_trans h2 (by decide)) (by rw [hk])]; exact zib_in hin) (zrr_st hw hs) kk
theorem em_aastN {a N j : Nat} {i : Int32} (hd : decode y.2.1 pc = .ok (.aastore, 1)) (hS : zSh n kd) (h1 : 32 ≤ a) (h2 : a < 81) (hk : zK0 a = (j, N)) (h0 : 1 < j) (h6 : j < 6) (hw : zst w = zSt0) (hs : ∀ q, zSt0 a q = none) (hin : zib i N = true) (hJ : uR R a i.toNatClampNeg none = R')
    (kk : EV w d kc ks y (pc + 1) L st (n, kd, I, R') Q) : EV w d kc ks y pc L (.null :: .int i :: .ref a :: st) (n, kd, I, R) Q := by
  subst hJ
  exact ev_aastN hd (hS.has a h1 h2 (by rw [hk])) h0 h6 (fun k => by rw [hw]; exact hs k) (by show vp_in i (kd a).2; rw [hS.len a h1 (Nat.lt_trans h2 (by decide)) (by rw [hk])]; exact zib_in hin) kk
theorem em_aastR {a N j b c c2 : Nat} {i : Int32} (hd : decode y.2.1 pc = .ok (.aastore, 1)) (hS : zSh n kd) (h1 : 32 ≤ a) (h2 : a < 81) (hk : zK0 a = (j, N)) (h0 : 0 < j) (h6 : j < 6) (hb : zHas n kd b (16 + c)) (hc : c < 14) (hc2 : c2 < 14) (hjC : ∀ w : zW, (zT w)[j]? = some (zcA w j, .object (zRf c2))) (hcc : c = c2 ∨ Cond.castable (zRf c) (zRf c2) ∈ zNw) (hw : zst w = zSt0) (hs : ∀ q, zSt0 a q = none) (hin : zib i N = true) (hJ : uR R a i.toNatClampNeg (some b) = R')
    (kk : EV w d kc ks y (pc + 1) L st (n, kd, I, R') Q) : EV w d kc ks y pc L (.ref b :: .int i :: .ref a :: st) (n, kd, I, R) Q := by
  subst hJ
  exact ev_aast hd (hS.has a h1 h2 (by rw [hk])) h0 h6 hb hc hc2 hjC hcc (by rw [hw]; exact hs _) (by show vp_in i (kd a).2; rw [hS.len a h1 (Nat.lt_trans h2 (by decide)) (by rw [hk])]; exact zib_in hin) kk
theorem zWc_cast {c : Nat} (h : zWc c) : c = 10 ∨ Cond.castable (zRf c) (zRf 10) ∈ zNw := by
  rcases h with rfl | rfl | rfl | rfl | rfl | rfl
  · exact Or.inr (by simp [zNw, zRf])
  · exact Or.inr (by simp [zNw, zRf])
  · exact Or.inr (by simp [zNw, zRf])
  · exact Or.inr (by simp [zNw, zRf])
  · exact Or.inr (by simp [zNw, zRf])
  · exact Or.inl rfl
/-- what may be null -/
theorem ev_aload_o {j : Nat} {o : Option Nat} (hd : decode y.2.1 pc = .ok (.aload j, 2)) (hl : L[j]? = some (some (va_rf o))) (k : EV w d kc ks y (pc + 2) L (va_rf o :: st) μ Q) : EV w d kc ks y pc L st μ Q := by
  cases o with
  | none => exact ev_aloadN hd hl k
  | some a => exact ev_aload hd hl k
theorem ev_aload_no {i : Fin 4} {j : Nat} {o : Option Nat} (hd : decode y.2.1 pc = .ok (.aload_n i, 1)) (hi : (i : Nat) = j) (hl : L[j]? = some (some (va_rf o))) (k : EV w d kc ks y (pc + 1) L (va_rf o :: st) μ Q) : EV w d kc ks y pc L st μ Q := by
  cases o with
  | none => exact ev_aload_nN hd hi hl k
  | some a => exact ev_aload_n hd hi hl k
theorem ev_aload_k {j a : Nat} {o : Option Nat} (hd : decode y.2.1 pc = .ok (.aload j, 2)) (ho : o = some a) (hl : L[j]? = some (some (va_rf o))) (k : EV w d kc ks y (pc + 2) L (.ref a :: st) μ Q) : EV w d kc ks y pc L st μ Q := by
  subst ho
  exact ev_aload hd hl k
theorem ev_aload_nk {i : Fin 4} {j a : Nat} {o : Option Nat} (hd : decode y.2.1 pc = .ok (.aload_n i, 1)) (hi : (i : Nat) = j) (ho : o = some a) (hl : L[j]? = some (some (va_rf o))) (k : EV w d kc ks y (pc + 1) L (.ref a :: st) μ Q) : EV w d kc ks y pc L st μ Q := by
  subst ho
  exact ev_aload_n hd hi hl k
theorem ev_astore_o {j : Nat} {o : Option Nat} (hd : decode y.2.1 pc = .ok (.astore j, 2)) (hn : j < y.2.2.1) (hno : zno2 L j = true) (k : EV w d kc ks y (pc + 2) (L.set j (some (va_rf o))) st μ Q) : EV w d kc ks y pc L (va_rf o :: st) μ Q := by
  cases o with
  | none => exact ev_astoreN hd hn hno k
  | some a => exact ev_astore hd hn hno k
theorem ev_astore_no {i : Fin 4} {j : Nat} {o : Option Nat} (hd : decode y.2.1 pc = .ok (.astore_n i, 1)) (hi : (i : Nat) = j) (hn : j < y.2.2.1) (hno : zno2 L j = true) (k : EV w d kc ks y (pc + 1) (L.set j (some (va_rf o))) st μ Q) : EV w d kc ks y pc L (va_rf o :: st) μ Q := by
  cases o with
  | none => exact ev_astore_nN hd hi hn hno k
  | some a => exact ev_astore_n hd hi hn hno k
theorem ev_ifnull_o {off : Int} {tgt : Nat} {o : Option Nat} (hd : decode y.2.1 pc = .ok (.ifnull off, 3)) (ht : (pc : Int) + off = (tgt : Int)) (kt : o = none → EV w d kc ks y tgt L st μ Q) (kf : ∀ a, o = some a → EV w d kc ks y (pc + 3) L st μ Q) : EV w d kc ks y pc L (va_rf o :: st) μ Q := by
  cases o with
  | none => exact ev_ifnull_n hd ht (kt rfl)
  | some a => exact ev_ifnull_r hd (kf a rfl)
theorem ev_ifnonnull_o {off : Int} {tgt : Nat} {o : Option Nat} (hd : decode y.2.1 pc = .ok (.ifnonnull off, 3)) (ht : (pc : Int) + off = (tgt : Int)) (kt : ∀ a, o = some a → EV w d kc ks y tgt L st μ Q) (kf : o = none → EV w d kc ks y (pc + 3) L st μ Q) : EV w d kc ks y pc L (va_rf o :: st) μ Q := by
  cases o with
  | none => exact ev_ifnonnull_n hd (kf rfl)
  | some a => exact ev_ifnonnull_r hd ht (kt a rfl)
theorem ev_end_o {o : Option Nat} {rt : FieldType} (hd : decode y.2.1 pc = .ok (.areturn, 1)) (ht : y.2.2.2 = some rt) (hn : (∃ n, rt = .object n) ∨ ∃ t, rt = .array t) (hQ : Q (some (va_rf o)) μ) : EV w d kc ks y pc L [va_rf o] μ Q := by
  cases o with
  | none => exact ev_end_n hd ht hn hQ
  | some a => exact ev_end_r hd ht hn hQ
/-- the machine's switch, its default -/
theorem ev_tableD {dflt lo hi : Int} {offs : Array Int} {len : Nat} {x : Int32} {tgt : Nat} (hd : decode y.2.1 pc = .ok (.tableswitch dflt lo hi offs, len)) (h : x.toInt < lo ∨ hi < x.toInt ∨ offs[(x.toInt - lo).toNat]? = some dflt) (ht : (pc : Int) + dflt = (tgt : Int)) (k : EV w d kc ks y tgt L st μ Q) : EV w d kc ks y pc L (.int x :: st) μ Q := by
  by_cases h1 : x.toInt < lo
  · exact ev_tableOut hd (Or.inl h1) ht k
  · by_cases h2 : hi < x.toInt
    · exact ev_tableOut hd (Or.inr h2) ht k
    · exact ev_tableIn hd h1 h2 (h.resolve_left h1 |>.resolve_left h2) ht k
/-- calls of methods that make no cell -/
theorem ev_callS0 {d' idx m : Nat} {y' : zY} {As rest : List Value} {L0 : List (Option Value)} {Q1 : Option Value → zM → Prop} (hd : decode y.2.1 pc = .ok (.invokestatic idx, 3)) (hm : zMeth y' m) (hl : Cond.methodLink y.1.cls idx y'.1 ∈ zGT) (hs : Cond.static y'.1 ∈ zGT)
    (hst : st = As.reverse ++ rest) (hn : As.length = m) (hr : (rest.map fun v => v.category).sum ≤ 8) (hl0 : zL0 As y'.2.2.1 = L0) (hlen : (zfa As).length ≤ y'.2.2.1) (hdd : d' + 1 ≤ d)
    (h : EV w d' 0 0 y' 0 L0 [] μ Q1) (cont : ∀ v μ', Q1 v μ' → EV w d kc ks y (pc + 3) L (v.toList ++ rest) μ' Q) : EV w d kc ks y pc L st μ Q := by
  rw [← Nat.zero_add kc, ← Nat.zero_add ks]
  exact ev_callS hd hm hl hs hst hn hr hl0 hlen hdd h cont
theorem ev_callV0 {d' idx m b : Nat} {y' : zY} {As rest : List Value} {L0 : List (Option Value)} {Q1 : Option Value → zM → Prop} (hd : decode y.2.1 pc = .ok (.invokevirtual idx, 3)) (hm : zMeth y' m) (hl : Cond.methodLink y.1.cls idx y'.1 ∈ zGT) (hi : Cond.instanceMethod y'.1 ∈ zGT) (hse : Cond.selects y'.1.cls y'.1 y'.1 ∈ zGT)
    (hb : zRcv w μ b y'.1.cls) (hst : st = As.reverse ++ .ref b :: rest) (hn : As.length = m) (hr : (rest.map fun v => v.category).sum ≤ 8) (hl0 : zL0 (.ref b :: As) y'.2.2.1 = L0) (hlen : (zfa (.ref b :: As)).length ≤ y'.2.2.1) (hdd : d' + 1 ≤ d)
    (h : EV w d' 0 0 y' 0 L0 [] μ Q1) (cont : ∀ v μ', Q1 v μ' → EV w d kc ks y (pc + 3) L (v.toList ++ rest) μ' Q) : EV w d kc ks y pc L st μ Q := by
  rw [← Nat.zero_add kc, ← Nat.zero_add ks]
  exact ev_callV hd hm hl hi hse hb hst hn hr hl0 hlen hdd h cont
end EVT

