/-! THE ABSTRACT MACHINE: a whole world in numbered cells; EV: from a place in a method's code the machine comes to the method's end with Q -/
/-- the tables' words that hold of every state of the launch -/
def zXw : List Cond := [.selects RJ4 yJ5_ensureCapacityInternal_d00df yJ5_ensureCapacityInternal_d00df, .selects RJ4 yJ5_newCapacity_0f7a4 yJ5_newCapacity_0f7a4, .selects RJ4 yJ5_putStringAt_47b60 yJ5_putStringAt_47b60, .selects RJ4 yJ5_inflateIfNeededFor_a7421 yJ5_inflateIfNeededFor_a7421]
def zGT : List Cond := zXw ++ lw_tbl.filter goodWord
theorem zin_t {c : Cond} (h : c ∈ lw_tbl) (hg : goodWord c = true) : c ∈ zGT := List.mem_append_right zXw (List.mem_filter.mpr ⟨h, hg⟩)
theorem zin {c : Cond} (i : Nat) (h : lw_tbl[i]? = some c) (hg : goodWord c = true) : c ∈ zGT := zin_t (List.mem_of_getElem? h) hg
theorem zXw_good : ∀ w ∈ zXw, goodWord w = true := by decide +kernel
theorem zGT_good : GoodIn zGT zGT := fun w h => ⟨h, good_of_word (by
  rcases List.mem_append.mp h with h1 | h1
  · exact zXw_good w h1
  · exact (List.mem_filter.mp h1).2)⟩
/-- a method: its name, code, locals, answer -/
abbrev zY : Type := MethodName × ByteArray × Nat × Option FieldType
/-- the abstract memory: how many cells, their kinds (and lengths), their ints, their references -/
abbrev zM : Type := Nat × (Nat → Nat × Nat) × (Nat → Nat → Int32) × (Nat → Nat → Option Nat)
def zn (μ : zM) : Nat := μ.1
def zk (μ : zM) (a : Nat) : Nat × Nat := μ.2.1 a
def zi (μ : zM) (a k : Nat) : Int32 := μ.2.2.1 a k
def zr (μ : zM) (a k : Nat) : Option Nat := μ.2.2.2 a k
/-- whole rows are changed: f is row a -/
def zA (μ : zM) (a : Nat) (f : Nat → Int32) : zM := (μ.1, μ.2.1, fun b => if b = a then f else μ.2.2.1 b, μ.2.2.2)
/-- one number -/
def zI (μ : zM) (a k : Nat) (x : Int32) : zM := zA μ a (upd (zi μ a) k x)
/-- one reference -/
def zR (μ : zM) (a k : Nat) (r : Option Nat) : zM := (μ.1, μ.2.1, μ.2.2.1, fun b => if b = a then va_up (μ.2.2.2 a) k r else μ.2.2.2 b)
/-- a new cell -/
def zN (μ : zM) (kd : Nat × Nat) : zM := (μ.1 + 1, fun b => if b = μ.1 then kd else μ.2.1 b, fun b => if b = μ.1 then fun _ => 0 else μ.2.2.1 b, fun b => if b = μ.1 then fun _ => none else μ.2.2.2 b)
/-- the world's constants: the heap's size at the law's entry, the state there, class numbers, array classes, old cells' addresses, what references never change, the script -/
abbrev zW : Type := Nat × State × va_G × (Nat → ClassId) × (Nat → Nat) × (Nat → Nat → Option (Option Nat)) × Nat × (Nat → Int32) × Option (Nat × (Nat → Int64))
def zb0 (w : zW) : Nat := w.1
def zs0 (w : zW) : State := w.2.1
def zD (w : zW) : va_G := w.2.2.1
def zcA (w : zW) : Nat → ClassId := w.2.2.2.1
def zca (w : zW) : Nat → Nat := w.2.2.2.2.1
def zst (w : zW) : Nat → Nat → Option (Option Nat) := w.2.2.2.2.2.1
/-- what the row of longs holds, once it is never written again -/
def zhm (w : zW) : Option (Nat × (Nat → Int64)) := w.2.2.2.2.2.2.2.2
/-- 32 .. 80 and 114 on: cells; 81 .. 113: no cells of the heap (what the reference would hold), their numbers name old ones -/
def zrl (a : Nat) : Prop := 32 ≤ a ∧ (a < 81 ∨ 114 ≤ a)
def zix (a : Nat) : Nat := if a < 81 then a - 32 else a - 65
def zun (j : Nat) : Nat := if j < 49 then j + 32 else j + 65
def zsz (n : Nat) : Nat := if n ≤ 81 then n - 32 else if n < 114 then 49 else n - 65
def zvn (n : Nat) : Prop := 32 ≤ n ∧ (n ≤ 81 ∨ 114 ≤ n)
def zad (w : zW) (a : Nat) : Nat := if a < 32 then zca w a else if a < 81 then zb0 w + (a - 32) else if a < 114 then zca w a else zb0 w + (a - 65)
/-- a long in two ints -/
def zlo (x : Int64) : Int32 := Int32.ofInt x.toInt
def zhi (x : Int64) : Int32 := Int32.ofInt (x.toInt / 4294967296)
def zpk (lo hi : Int32) : Int64 := Int64.ofInt (hi.toInt * 4294967296 + lo.toInt % 4294967296)
theorem zpk_eq (x : Int64) : zpk (zlo x) (zhi x) = x := by
  have h1 := x.le_toInt
  have h2 := x.toInt_lt
  unfold zpk zlo zhi
  rw [Int32.toInt_ofInt, Int32.toInt_ofInt]
  have e : (x.toInt / 4294967296).bmod (2 ^ 32) = x.toInt / 4294967296 := by
    rw [Int.bmod_eq_of_le (by omega) (by omega)]
  have e2 : x.toInt.bmod (2 ^ 32) % 4294967296 = x.toInt % 4294967296 := by
    rw [Int.bmod_def]
    split <;> omega
  rw [e, e2, show x.toInt / 4294967296 * 4294967296 + x.toInt % 4294967296 = x.toInt by omega, Int64.ofInt_toInt]
/-- a row of longs in a row of ints -/
def zpr (h : Nat → Int64) : Nat → Int32 := fun j => if j % 2 = 0 then zlo (h (j / 2)) else zhi (h (j / 2))
def zlg (w : zW) (a : Nat) (f : Nat → Int32) : Nat → Int64 := match zhm w with
  | none => fun k => zpk (f (2 * k)) (f (2 * k + 1))
  | some q => if a = q.1 then q.2 else fun k => zpk (f (2 * k)) (f (2 * k + 1))
theorem zlg_w {w : zW} {a : Nat} {h : Nat → Int64} (hw : zhm w = some (a, h)) (f : Nat → Int32) : zlg w a f = h := by
  unfold zlg
  rw [hw]
  exact if_pos rfl
theorem zlg_n {w : zW} (hw : zhm w = none) (a : Nat) (f : Nat → Int32) : zlg w a f = fun k => zpk (f (2 * k)) (f (2 * k + 1)) := by
  unfold zlg
  rw [hw]
theorem zlg_ne {w : zW} {a b : Nat} {h : Nat → Int64} (hw : zhm w = some (b, h)) (hab : a ≠ b) (f : Nat → Int32) : zlg w a f = fun k => zpk (f (2 * k)) (f (2 * k + 1)) := by
  unfold zlg
  rw [hw]
  exact if_neg hab
theorem zlg_pr {w : zW} (hw : zhm w = none) (a : Nat) (h : Nat → Int64) : zlg w a (zpr h) = h := by
  rw [zlg_n hw]
  funext k
  show zpk (zpr h (2 * k)) (zpr h (2 * k + 1)) = h k
  unfold zpr
  rw [if_pos (by omega), if_neg (by omega), show 2 * k / 2 = k by omega, show (2 * k + 1) / 2 = k by omega, zpk_eq]
def zva (w : zW) (v : Value) : Value := match v with
  | .ref a => .ref (zad w a)
  | v => v
theorem zva_int (w : zW) (x : Int32) : zva w (.int x) = .int x := rfl
theorem zva_long (w : zW) (x : Int64) : zva w (.long x) = .long x := rfl
theorem zva_ref (w : zW) (a : Nat) : zva w (.ref a) = .ref (zad w a) := rfl
theorem zva_null (w : zW) : zva w .null = .null := rfl
theorem zva_cat (w : zW) (v : Value) : (zva w v).category = v.category := by cases v <;> rfl
/-- classes: how many fields, of which types; is a field a reference -/
def zNf (c : Nat) : Nat := match c with
  | 0 => 13 | 1 => 11 | 2 => 7 | 3 => 5 | 4 => 11 | 5 => 11 | 6 => 3 | 7 => 10 | 8 => 11 | 9 => 11 | 10 => 11 | 11 => 20 | 12 => 4 | _ => 4
def zty (c : Nat) : Nat → FieldType := match c with
  | 0 => tyX0 | 1 => tyX1 | 2 => tyX2 | 3 => tyX3 | 4 => tyX4 | 5 => tyX5 | 6 => tyX6 | 7 => tyX7 | 8 => tyX8 | 9 => tyX9 | 10 => tyX10 | 11 => tyX11 | 12 => tyJ4 | _ => tyJ0
def zTf (c : Nat) : u_T := match c with
  | 0 => TX0 | 1 => TX1 | 2 => TX2 | 3 => TX3 | 4 => TX4 | 5 => TX5 | 6 => TX6 | 7 => TX7 | 8 => TX8 | 9 => TX9 | 10 => TX10 | 11 => TX11 | 12 => TJ4 | _ => TJ0
def zRf (c : Nat) : String := match c with
  | 0 => RX0 | 1 => RX1 | 2 => RX2 | 3 => RX3 | 4 => RX4 | 5 => RX5 | 6 => RX6 | 7 => RX7 | 8 => RX8 | 9 => RX9 | 10 => RX10 | 11 => RX11 | 12 => RJ4 | _ => RJ0
def zfl (c k : Nat) : Bool := match zty c k with
  | .int => false
  | .boolean => false
  | .byte => false
  | _ => true
theorem zcl_at : ∀ c, c < 14 → vwCl[c]? = some (zRf c, zTf c, zNf c) := fun c h => by
  match c, h with
  | 0, _ => rfl
  | 1, _ => rfl
  | 2, _ => rfl
  | 3, _ => rfl
  | 4, _ => rfl
  | 5, _ => rfl
  | 6, _ => rfl
  | 7, _ => rfl
  | 8, _ => rfl
  | 9, _ => rfl
  | 10, _ => rfl
  | 11, _ => rfl
  | 12, _ => rfl
  | 13, _ => rfl
/-- a reference as it stands: one that never changes, or the memory's -/
def zrr (w : zW) (μ : zM) (a k : Nat) : Option Nat := match zst w a k with
  | some r => r
  | none => zr μ a k
def zv (w : zW) (μ : zM) (a c k : Nat) : Value := if zfl c k = true then va_rf ((zrr w μ a k).map (zad w)) else .int (zi μ a k)
/-- a cell as the kit's worlds have it -/
def zE (w : zW) (μ : zM) (a : Nat) : va_E :=
  if (zk μ a).1 = 0 then .inl (zcA w 0, (zk μ a).2, .inl (zi μ a))
  else if (zk μ a).1 = 12 then .inl (zcA w 6, (zk μ a).2, .inl (zi μ a))
  else if (zk μ a).1 = 14 then .inl (zcA w 7, (zk μ a).2, .inr (.inl (zlg w a (zi μ a))))
  else if (zk μ a).1 < 16 then .inl (zcA w (zk μ a).1, (zk μ a).2, .inr (.inr (.inr (.inr (fun k => (zrr w μ a k).map (zad w))))))
  else .inr ((zk μ a).1 - 16, (List.range (zNf ((zk μ a).1 - 16))).map (zv w μ a ((zk μ a).1 - 16)))
def zWs (w : zW) (μ : zM) : va_W := (List.range (zsz (zn μ))).map (fun j => (zb0 w + j, zE w μ (zun j)))
def zAq (w : zW) : Nat → Prop := fun q => zb0 w ≤ q
/-- the arrays' classes: ints, rows of ints, walkers, laws, sheets, heaps; bytes, longs -/
def zT (w : zW) : List (ClassId × FieldType) := [(zcA w 0, .int), (zcA w 1, .array .int), (zcA w 2, .object RX10), (zcA w 3, .object RX3), (zcA w 4, .object RX6), (zcA w 5, .object RX2), (zcA w 6, .byte), (zcA w 7, .long)]
theorem zun_ix {a : Nat} (h : zrl a) : zun (zix a) = a := by
  obtain ⟨h1, h2⟩ := h
  unfold zun zix
  split <;> split <;> omega
theorem zix_un (j : Nat) : zix (zun j) = j := by
  unfold zun zix
  split <;> split <;> omega
theorem zun_rl (j : Nat) : zrl (zun j) := by
  unfold zrl zun
  split <;> omega
theorem zix_lt {a n : Nat} (h : zrl a) (hn : a < n) : zix a < zsz n := by
  obtain ⟨h1, h2⟩ := h
  unfold zix zsz
  split <;> split <;> (try split) <;> omega
theorem zun_lt {j n : Nat} (h : j < zsz n) : zun j < n := by
  unfold zun
  unfold zsz at h
  split at h <;> split <;> (try split at h) <;> omega
theorem zad_rl (w : zW) {a : Nat} (h : zrl a) : zad w a = zb0 w + zix a := by
  obtain ⟨h1, h2⟩ := h
  unfold zad zix
  rw [if_neg (by omega)]
  by_cases c : a < 81
  · rw [if_pos c, if_pos c]
  · rw [if_neg c, if_neg c, if_neg (by omega)]
theorem zsz_push {n : Nat} (h : zrl n) : zsz (n + 1) = zsz n + 1 := by
  obtain ⟨h1, h2⟩ := h
  unfold zsz
  split <;> split <;> (try split) <;> (try split) <;> omega
theorem zsz_ix {n : Nat} (h : zrl n) : zsz n = zix n := by
  obtain ⟨h1, h2⟩ := h
  unfold zsz zix
  split <;> split <;> (try split) <;> omega
theorem zrl_vn {n : Nat} (h : zrl n) : zvn n ∧ zvn (n + 1) ∧ n ≠ 0 := by
  obtain ⟨h1, h2⟩ := h
  unfold zvn
  omega
theorem zWs_at (w : zW) {μ : zM} {a : Nat} (h : zrl a) (hn : a < zn μ) : (zWs w μ)[zix a]? = some (zad w a, zE w μ a) := by
  unfold zWs
  rw [List.getElem?_map, List.getElem?_range (zix_lt h hn), zad_rl w h]
  show some (zb0 w + zix a, zE w μ (zun (zix a))) = _
  rw [zun_ix h]
theorem zWs_len (w : zW) (μ : zM) : (zWs w μ).length = zsz (zn μ) := by simp [zWs]
theorem zWs_apart (w : zW) (μ : zM) : va_D (zAq w) (zWs w μ) := by
  have at' : ∀ (k : Nat) (q : Nat × va_E), (zWs w μ)[k]? = some q → q.1 = zb0 w + k := by
    intro k q h
    have hl : k < zsz (zn μ) := by rw [← zWs_len w μ]; exact (List.getElem?_eq_some_iff.mp h).1
    unfold zWs at h
    rw [List.getElem?_map, List.getElem?_range hl] at h
    cases h
    rfl
  refine ⟨fun i j p q hp hq h => ?_, fun k q hq => ?_⟩
  · have h1 := at' i p hp
    have h2 := at' j q hq
    omega
  · have h1 := at' k q hq
    show zb0 w ≤ q.1
    omega
/-- one cell changes -/
theorem zWs_set (w : zW) {μ μ' : zM} {a : Nat} (h : zrl a) (hn : a < zn μ) (hn' : zn μ' = zn μ) (he : ∀ b, b ≠ a → zE w μ' b = zE w μ b) : (zWs w μ).set (zix a) (zad w a, zE w μ' a) = zWs w μ' := by
  apply List.ext_getElem?
  intro k
  by_cases hk : k < zsz (zn μ)
  · by_cases e : k = zix a
    · subst e
      rw [List.getElem?_set_self (by rw [zWs_len]; exact hk), zWs_at w h (by omega)]
    · rw [List.getElem?_set_ne (fun q => e q.symm)]
      unfold zWs
      rw [List.getElem?_map, List.getElem?_map, List.getElem?_range hk, List.getElem?_range (by rw [hn']; exact hk)]
      show some (zb0 w + k, zE w μ (zun k)) = some (zb0 w + k, zE w μ' (zun k))
      rw [he (zun k) (fun q => e (by rw [← q, zix_un]))]
  · have h1 : (zWs w μ').length ≤ k := by rw [zWs_len, hn']; omega
    have h2 : ((zWs w μ).set (zix a) (zad w a, zE w μ' a)).length ≤ k := by rw [List.length_set, zWs_len]; omega
    rw [List.getElem?_eq_none h1, List.getElem?_eq_none h2]
/-- a cell comes -/
theorem zWs_push (w : zW) {μ μ' : zM} (h : zrl (zn μ)) (hn' : zn μ' = zn μ + 1) (he : ∀ b, b < zn μ → zE w μ' b = zE w μ b) : zWs w μ' = zWs w μ ++ [(zad w (zn μ), zE w μ' (zn μ))] := by
  have hs : zsz (zn μ) = zix (zn μ) := zsz_ix h
  unfold zWs
  rw [hn', zsz_push h, List.range_succ, List.map_append, List.map_singleton, zad_rl w h, hs, zun_ix h]
  congr 1
  apply List.map_congr_left
  intro j hj
  rw [he (zun j) (zun_lt (by rw [hs]; exact List.mem_range.mp hj))]
/-- the locals, of which some aren't spoken of -/
def zLv (w : zW) : Nat → List (Option Value) → List (Nat × Value)
  | _, [] => []
  | i, none :: L => zLv w (i + 1) L
  | i, some v :: L => (i, zva w v) :: zLv w (i + 1) L
theorem zLv_mem (w : zW) : ∀ (L : List (Option Value)) (i : Nat) (q : Nat × Value), q ∈ zLv w i L ↔ ∃ (j : Nat) (v : Value), L[j]? = some (some v) ∧ q = (i + j, zva w v)
  | [], i, q => by simp [zLv]
  | none :: L, i, q => by
    rw [show zLv w i (none :: L) = zLv w (i + 1) L from rfl, zLv_mem w L]
    constructor
    · rintro ⟨j, v, h, e⟩
      exact ⟨j + 1, v, by simpa using h, by rw [e]; congr 1; omega⟩
    · rintro ⟨j, v, h, e⟩
      match j, h with
      | 0, h => simp at h
      | j + 1, h => exact ⟨j, v, by simpa using h, by rw [e]; congr 1; omega⟩
  | some u :: L, i, q => by
    rw [show zLv w i (some u :: L) = (i, zva w u) :: zLv w (i + 1) L from rfl, List.mem_cons, zLv_mem w L]
    constructor
    · rintro (e | ⟨j, v, h, e⟩)
      · exact ⟨0, u, by simp, by rw [e]; rfl⟩
      · exact ⟨j + 1, v, by simpa using h, by rw [e]; congr 1; omega⟩
    · rintro ⟨j, v, h, e⟩
      match j, h with
      | 0, h =>
        simp at h
        subst h
        exact Or.inl (by rw [e]; rfl)
      | j + 1, h => exact Or.inr ⟨j, v, by simpa using h, by rw [e]; congr 1; omega⟩
def zL (w : zW) (n : Nat) (ls : Array Slot) (L : List (Option Value)) : Prop := lv_has ls n (zLv w 0 L)
theorem zL_get {w : zW} {n : Nat} {ls : Array Slot} {L : List (Option Value)} (h : zL w n ls L) {i : Nat} {v : Value} (hi : L[i]? = some (some v)) : ls[i]? = some (.val (zva w v)) :=
  h.2.2 (i, zva w v) ((zLv_mem w L 0 _).mpr ⟨i, v, hi, by simp⟩)
theorem zL_sub {w : zW} {n : Nat} {ls : Array Slot} {l : List (Nat × Value)} {L : List (Option Value)} (h : lv_has ls n l) (hs : ∀ (j : Nat) (v : Value), L[j]? = some (some v) → (j, zva w v) ∈ l) : zL w n ls L :=
  ⟨h.1, h.2.1, fun q hq => by
    obtain ⟨j, v, h1, e⟩ := (zLv_mem w L 0 q).mp hq
    rw [e, Nat.zero_add]
    exact h.2.2 _ (hs j v h1)⟩
/-- no long stands just before place i -/
def zno2 (L : List (Option Value)) (i : Nat) : Bool := match i with
  | 0 => true
  | j + 1 => match L[j]? with
    | some (some (.long _)) => false
    | some (some (.double _)) => false
    | _ => true
theorem zno2_cat {L : List (Option Value)} {i j : Nat} {v : Value} (h : zno2 L i = true) (hj : j + 1 = i) (hv : L[j]? = some (some v)) : ¬ v.category = 2 := by
  subst hj
  simp only [zno2, hv] at h
  cases v <;> simp_all [Value.category]
theorem zL_st1 {w : zW} {n : Nat} {ls' : Array Slot} {L : List (Option Value)} {i : Nat} {v : Value} (hno : zno2 L i = true)
    (h : lv_has ls' n ((i, zva w v) :: (zLv w 0 L).filter (fun q => !(q.1 == i) && !(q.1 + 1 == i && q.2.category == 2)))) : zL w n ls' (L.set i (some v)) := by
  refine zL_sub h fun j u hu => ?_
  by_cases e : j = i
  · subst e
    by_cases hl : j < L.length
    · rw [List.getElem?_set_self hl] at hu
      cases hu
      exact List.mem_cons_self
    · rw [List.getElem?_eq_none (by rw [List.length_set]; omega)] at hu
      cases hu
  · rw [List.getElem?_set_ne (fun q => e q.symm)] at hu
    refine List.mem_cons_of_mem _ (List.mem_filter.mpr ⟨(zLv_mem w L 0 _).mpr ⟨j, u, hu, by simp⟩, ?_⟩)
    have h2 : j + 1 = i → ¬ u.category = 2 := fun q => zno2_cat hno q hu
    simp only [zva_cat, Bool.and_eq_true, Bool.not_eq_true', beq_eq_false_iff_ne, ne_eq, Bool.and_eq_false_iff]
    refine ⟨e, ?_⟩
    by_cases q : j + 1 = i
    · exact Or.inr (h2 q)
    · exact Or.inl q
theorem zL_st2 {w : zW} {n : Nat} {ls' : Array Slot} {L : List (Option Value)} {i : Nat} {v : Value} (hno : zno2 L i = true)
    (h : lv_has ls' n ((i, zva w v) :: (zLv w 0 L).filter (fun q => !(q.1 == i) && (!(q.1 == i + 1) && !(q.1 + 1 == i && q.2.category == 2))))) : zL w n ls' ((L.set i (some v)).set (i + 1) none) := by
  refine zL_sub h fun j u hu => ?_
  by_cases e1 : j = i + 1
  · subst e1
    by_cases hl : i + 1 < (L.set i (some v)).length
    · rw [List.getElem?_set_self hl] at hu
      cases hu
    · rw [List.getElem?_eq_none (by rw [List.length_set]; omega)] at hu
      cases hu
  · rw [List.getElem?_set_ne (fun q => e1 q.symm)] at hu
    by_cases e : j = i
    · subst e
      by_cases hl : j < L.length
      · rw [List.getElem?_set_self hl] at hu
        cases hu
        exact List.mem_cons_self
      · rw [List.getElem?_eq_none (by rw [List.length_set]; omega)] at hu
        cases hu
    · rw [List.getElem?_set_ne (fun q => e q.symm)] at hu
      refine List.mem_cons_of_mem _ (List.mem_filter.mpr ⟨(zLv_mem w L 0 _).mpr ⟨j, u, hu, by simp⟩, ?_⟩)
      have h2 : j + 1 = i → ¬ u.category = 2 := fun q => zno2_cat hno q hu
      simp only [zva_cat, Bool.and_eq_true, Bool.not_eq_true', beq_eq_false_iff_ne, ne_eq, Bool.and_eq_false_iff]
      refine ⟨e, e1, ?_⟩
      by_cases q : j + 1 = i
      · exact Or.inr (h2 q)
      · exact Or.inl q
