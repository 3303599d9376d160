/-! pure part: plain, or all but one -/
theorem g11_walkerOf2 {I : zMI} {R : zMR} {i : Int32} (h0 : 0 ≤ i.toInt) (h1 : i.toInt < (I 32 4).toInt) (h5 : (I 32 4).toInt ≤ 5) : f11_walkerOf I R i = some (R 35 i.toInt.toNat) := by
  unfold f11_walkerOf
  rw [if_neg (by rw [zlt_iff, z0]; omega), if_neg (by rw [zle_iff]; omega), if_neg (by rw [zle_iff, zn5i]; omega), if_pos (zib_ok h0 (by omega)), zcl_iff]
theorem g11_textOf2 {I : zMI} {R : zMR} {i : Int32} (h0 : 0 ≤ i.toInt) (h1 : i.toInt < (I 32 6).toInt) (h6 : (I 32 6).toInt ≤ 6) : f11_textOf I R i = some (R 36 i.toInt.toNat) := by
  unfold f11_textOf
  rw [if_neg (by rw [zlt_iff, z0]; omega), if_neg (by rw [zle_iff]; omega), if_neg (by rw [zle_iff, zn6i]; omega), if_pos (zib_ok h0 (by omega)), zcl_iff]
theorem zob_inj {b k k' : Nat} (h : zob b k = zob b k') : k = k' := by
  unfold zob at h
  split at h <;> split at h <;> omega
/-- the class's objects of who is there -/
def zWo (n : Nat) (kd : zMK) (A : Nat → Nat) (c : Nat) (I : zMI) (R : zMR) : Prop := ∀ w, w < c → R 35 w = some (A w) ∧ zWkB n kd (A w) = true ∧ 114 ≤ A w ∧ I (A w) 0 = Int32.ofNat w
theorem zWo_inj {n : Nat} {kd : zMK} {A : Nat → Nat} {c : Nat} {I : zMI} {R : zMR} (h : zWo n kd A c I R) (hc : c ≤ 5) {w w' : Nat} (hw : w < c) (hw' : w' < c) (e : A w = A w') : w = w' := by
  have a1 := (h w hw).2.2.2
  have a2 := (h w' hw').2.2.2
  rw [e, a2] at a1
  have := congrArg Int32.toInt a1
  rw [zofn_i (by omega), zofn_i (by omega)] at this
  omega
theorem g11_layL6 {n : Nat} {kd : zMK} {A : Nat → Nat} {b : Nat} {bt cn : Int32} {fr : Nat → Int32} (hc : 0 ≤ cn.toInt ∧ cn.toInt ≤ 5) (hb : ∀ x : Int32, 0 ≤ x.toInt → x.toInt < cn.toInt → (x = bt ↔ x.toInt = (b : Int))) : ∀ (d q : Nat) (i : Int32) (I : zMI) (R : zMR) (g : Nat), i.toInt + d = cn.toInt → 0 ≤ i.toInt → d < q → I 32 4 = cn → zWo n kd A cn.toInt.toNat I R → (∀ w, w < cn.toInt.toNat → I (A w) 2 = fr w) → (g : Int) = i.toInt - (if (b : Int) < i.toInt then 1 else 0) → zXJ A (zob b) fr g I R →
    ∃ (I' : zMI) (R' : zMR) (g' : Nat), f11_layWithout_L6 n kd q bt i I R = some (I', R') ∧ (g' : Int) = cn.toInt - (if (b : Int) < cn.toInt then 1 else 0) ∧ zXJ A (zob b) fr g' I' R' ∧ (∀ w j, w < cn.toInt.toNat → j < 3 → I' (A w) j = I (A w) j) ∧ (∀ j, j ≠ 2 → I' 42 j = I 42 j) ∧ (∀ b', (∀ w, w < cn.toInt.toNat → b' ≠ A w) → b' ≠ 42 → I' b' = I b') ∧ ∀ b', b' ≠ 44 → R' b' = R b' := by
  intro d
  induction d with
  | zero =>
    intro q i I R g e h0 hq e4 hW hf eg hX
    obtain ⟨q, rfl⟩ : ∃ p, q = p + 1 := ⟨q - 1, by omega⟩
    have ei : i.toInt = cn.toInt := by omega
    refine ⟨I, R, g, ?_, by rw [← ei]; exact eg, hX, fun _ _ _ _ => rfl, fun _ _ => rfl, fun _ _ _ => rfl, fun _ _ => rfl⟩
    unfold f11_layWithout_L6
    rw [e4, if_pos (by rw [zle_iff]; omega)]
  | succ d ih =>
    intro q i I R g e h0 hq e4 hW hf eg hX
    obtain ⟨q, rfl⟩ : ∃ p, q = p + 1 := ⟨q - 1, by omega⟩
    have e1 := zsucc e
    have hbi := hb i h0 (by omega)
    by_cases c : i = bt
    · have cb := hbi.mp c
      obtain ⟨I', R', g', u1, u2⟩ := ih q (i + 1) I R g (by omega) (by omega) (by omega) e4 hW hf (by rw [eg, e1, if_neg (by omega), if_pos (by omega)]; omega) hX
      refine ⟨I', R', g', ?_, u2⟩
      unfold f11_layWithout_L6 f11_layWithout_B31
      rw [e4, if_neg (by rw [zle_iff]; omega), if_pos c]
      exact u1
    · have cb : ¬ i.toInt = (b : Int) := fun x => c (hbi.mpr x)
      have og : zob b g = i.toInt.toNat := by
        unfold zob
        by_cases y : (b : Int) < i.toInt
        · rw [if_pos y] at eg
          rw [if_neg (by omega)]
          omega
        · rw [if_neg y] at eg
          rw [if_pos (by omega)]
          omega
      have hg4 : g ≤ 4 := by
        split at eg <;> omega
      have lt : ∀ k, k < g → zob b k < i.toInt.toNat := fun k hk => by
        rw [← og]
        unfold zob
        split <;> split <;> omega
      have hi : i.toInt.toNat < cn.toInt.toNat := by omega
      obtain ⟨w1, w2, w3, w4⟩ := hW _ hi
      obtain ⟨J, R1, j1, j2, j3, j4, j5, j6⟩ := zXJ_step hX hg4 (by rw [og]; exact w2) (by rw [og]; omega) (fun k hk q => by
        have h1 := lt k hk
        have := zWo_inj hW (by omega) (show zob b k < cn.toInt.toNat by omega) (show zob b g < cn.toInt.toNat by omega) q
        omega) (by rw [og]; exact hf _ hi) (fun k hk => by
        have h1 := lt k hk
        have := (hW (zob b k) (by omega)).2.2.1
        omega)
      rw [og] at j1 j3 j5
      have Ja : ∀ w, w < cn.toInt.toNat → ∀ j, j < 3 → J (A w) j = I (A w) j := fun w hw j hj => by
        by_cases x : A w = A i.toInt.toNat
        · rw [x]
          exact j3 j hj
        · have := (hW w hw).2.2.1
          rw [j5 _ x (by omega)]
      obtain ⟨I', R', g', u1, u2, u3, u4, u5, u6, u7⟩ := ih q (i + 1) J R1 (g + 1) (by omega) (by omega) (by omega) (by rw [j5 32 (by omega) (by decide)]; exact e4) (fun w hw => by
        obtain ⟨v1, v2, v3, v4⟩ := hW w hw
        exact ⟨by rw [j6 35 (by decide)]; exact v1, v2, v3, by rw [Ja w hw 0 (by decide)]; exact v4⟩) (fun w hw => by rw [Ja w hw 2 (by decide)]; exact hf w hw) (by
        rw [e1]
        by_cases y : (b : Int) < i.toInt
        · rw [if_pos y] at eg
          rw [if_pos (by omega)]
          omega
        · rw [if_neg y] at eg
          rw [if_neg (by omega)]
          omega) j2
      refine ⟨I', R', g', ?_, u2, u3, fun w j x y => by rw [u4 w j x y, Ja w x j y], fun j hj => by rw [u5 j hj, j4 j hj], fun b' x y => by rw [u6 b' x y, j5 b' (x _ hi) y], fun b' x => by rw [u7 b' x, j6 b' x]⟩
      unfold f11_layWithout_L6 f11_layWithout_B31
      rw [e4, if_neg (by rw [zle_iff]; omega), if_neg c, g11_walkerOf2 h0 (by rw [e4]; omega) (by rw [e4]; exact hc.2), zb_some, w1, j1, zb_some]
      exact u1
/-- the class lays heaps and law -/
def zXh (L : Nat) (I I1 : zMI) (R1 : zMR) : Prop := (∀ h, h < 9 → zhl I1 h (I 33 h) (I 34 h)) ∧ (I1 42 3 = I 32 4 ∧ I1 42 4 = I 32 2 ∧ I1 42 5 = 0 ∧ I1 42 8 = 0 ∧ I1 42 9 = 0 ∧ I1 42 10 = 0 ∧ I1 42 11 = 0 ∧ I1 42 12 = -1) ∧ R1 42 7 = some L
section
variable {n : Nat} {kd : zMK} {R : zMR} {L s t : Nat} {A : Nat → Nat} {I J : zMI}
theorem zB0_Wo (hB : zB0 n kd R L s t A I J) : zWo n kd A (J 81 3).toInt.toNat I R := fun w hw => by
  obtain ⟨w1, w2, w3, w4⟩ := hB.2.2.1 w hw
  exact ⟨w1, w2.1, zwl_big hB.1.1 w2, w2.2.2.2.1⟩
theorem zlayH (hB : zB0 n kd R L s t A I J) : ∃ I1, f11_layHeaps n kd I R = some (I1, uR R 42 7 (some L)) ∧ zXh L I I1 (uR R 42 7 (some L)) ∧ I1 42 2 = 0 ∧ (∀ b, b ≠ 42 → (b < 46 ∨ 54 < b) → I1 b = I b) ∧ ∀ h, h < 9 → I1 (46 + h) 0 = I (46 + h) 0 := by
  obtain ⟨hX, -, hw, hh, l1, l2, l3, l4, l5, l6⟩ := hB
  obtain ⟨I1, j1, j2, j3, ⟨f2, f3, f4, f5, f8, f9, f10, f11, f12⟩, j5⟩ := g0_lay (R := R) (I := I) hX.1 (some L) (I 32 2) (I 32 4)
  refine ⟨I1, ?_, ⟨j2, ⟨f3, f4, f5, f8, f9, f10, f11, f12⟩, uR_at⟩, f2, j5, j3⟩
  unfold f11_layHeaps
  have e : (I 32 7).toInt.toNat = t := by omega
  rw [g11_textOf2 (by omega) (by omega) l3, e, l4, zb_some, j1, zb_some]
theorem zlayX (hB : zB0 n kd R L s t A I J) {b : Nat} {bt : Int32} (hb : ∀ x : Int32, 0 ≤ x.toInt → x.toInt < (J 81 3).toInt → (x = bt ↔ x.toInt = (b : Int))) :
    ∃ (I1 : zMI) (R1 : zMR) (g : Nat), f11_layWithout n kd bt I R = some (I1, R1) ∧ (g : Int) = (J 81 3).toInt - (if (b : Int) < (J 81 3).toInt then 1 else 0) ∧ zXJ A (zob b) (fun w => I (A w) 2) g I1 R1 ∧ zXh L I I1 R1 ∧ zFX A s I I1 ∧ ∀ b', b' ≠ 42 → b' ≠ 44 → R1 b' = R b' := by
  obtain ⟨I0, a1, ⟨a2, ⟨f3, f4, f5, f8, f9, f10, f11, f12⟩, a4⟩, a5, a6, a7⟩ := zlayH hB
  have hW := zB0_Wo hB
  obtain ⟨hX, ⟨e4, e2, r3, r2⟩, hw, -⟩ := hB
  have wr : ∀ w, w < (J 81 3).toInt.toNat → I0 (A w) = I (A w) := fun w x => by
    have := (hW w x).2.2.1
    exact a6 _ (by omega) (by omega)
  obtain ⟨I1, R1, g, u1, u2, u3, u4, u5, u6, u7⟩ := g11_layL6 (n := n) (kd := kd) (A := A) (b := b) (bt := bt) (cn := J 81 3) (fr := fun w => I (A w) 2) r3 hb (J 81 3).toInt.toNat zF 0 I0 (uR R 42 7 (some L)) 0 (by rw [z0]; omega) (by rw [z0]; omega) (by unfold zF; omega) (by rw [a6 32 (by decide) (by decide)]; exact e4) (fun w x => by
    obtain ⟨v1, v2, v3, v4⟩ := hW w x
    exact ⟨by rw [uR_ne (by decide)]; exact v1, v2, v3, by rw [wr w x]; exact v4⟩) (fun w x => by rw [wr w x]) (by rw [z0, if_neg (by omega)]; rfl) ⟨by rw [a5, z0]; rfl, fun k hk => absurd hk (Nat.not_lt_zero k)⟩
  have hh : ∀ h, h < 9 → I1 (46 + h) = I0 (46 + h) := fun h x => u6 _ (fun w y => by
    have := (hW w y).2.2.1
    omega) (by omega)
  refine ⟨I1, R1, g, ?_, u2, u3, ⟨fun h x => ?_, ?_, by rw [u7 42 (by decide)]; exact a4⟩, ⟨fun b' x1 x2 x3 x4 x5 x6 => ?_, fun w j x y => ?_, fun h x => by rw [hh h x, a7 h x]⟩, fun b' x y => by rw [u7 b' y, uR_ne x]⟩
  · unfold f11_layWithout
    rw [a1, zb_some]
    exact u1
  · have := a2 h x
    unfold zhl at this ⊢
    rw [hh h x]
    exact this
  · rw [u5 3 (by decide), u5 4 (by decide), u5 5 (by decide), u5 8 (by decide), u5 9 (by decide), u5 10 (by decide), u5 11 (by decide), u5 12 (by decide)]
    exact ⟨f3, f4, f5, f8, f9, f10, f11, f12⟩
  · rw [u6 b' (fun w y => x4 w (by omega)) x1, a6 b' x1 x3]
  · by_cases c : w < (J 81 3).toInt.toNat
    · rw [u4 w j c y, wr w c]
    · by_cases c2 : ∃ w', w' < (J 81 3).toInt.toNat ∧ A w = A w'
      · obtain ⟨w', y1, y2⟩ := c2
        rw [y2, u4 w' j y1 y, wr w' y1]
      · have hA := hX.2.2.2.2 w x
        rw [u6 _ (fun w' y1 y2 => c2 ⟨w', y1, y2⟩) (by omega), a6 _ (by omega) (by omega)]
/-- the order told, on both sides -/
theorem zGo_of {R1 : zMR} {J1 : zMI} {b g : Nat} {fr : Nat → Int32} {I1 : zMI} {c : Int} (hg : (g : Int) = c - (if (b : Int) < c then 1 else 0)) (hc : 0 ≤ c ∧ c ≤ 5) (h34 : (J1 81 34).toInt = (g : Int)) (h99 : ∀ k : Nat, (k : Int) < (J1 81 34).toInt → (J1 99 k).toInt = (zob b k : Nat)) (hX : zXJ A (zob b) fr g I1 R1) : zGo R1 A J1 ∧ ∀ w, zgo J1 w → (w : Int) < c ∧ w ≠ b ∧ zbegun I1 (A w) (fr w) := by
  have lt : ∀ k, k < g → (zob b k : Int) < c ∧ zob b k ≠ b := fun k hk => by
    unfold zob
    split at hg <;> split <;> omega
  refine ⟨⟨⟨by omega, ?_⟩, fun k hk => ?_, fun k k' hk hk' e => ?_⟩, fun w ⟨k, k1, k2⟩ => ?_⟩
  · split at hg <;> omega
  · have := lt k (by omega)
    rw [h99 k hk]
    refine ⟨by omega, by omega, ?_⟩
    rw [Int.toNat_natCast]
    exact (hX.2 k (by omega)).1
  · rw [h99 k hk, h99 k' hk'] at e
    exact zob_inj (b := b) (by omega)
  · have l := lt k (by omega)
    rw [h99 k k1] at k2
    have : zob b k = w := by omega
    rw [← this]
    exact ⟨l.1, l.2, (hX.2 k (by omega)).2⟩
/-- all but one are laid on both sides -/
theorem zlayW (hB : zB0 n kd R L s t A I J) {b : Nat} {bt : Int32} (hb : ∀ x : Int32, 0 ≤ x.toInt → x.toInt < (J 81 3).toInt → (x = bt ↔ x.toInt = (b : Int))) :
    ∃ I1 R1 J0 J1, f11_layWithout n kd bt I R = some (I1, R1) ∧ f12_orders bt J = some J0 ∧ f12_begins J0 = some J1 ∧ zG n kd R1 L s t A I1 J1 (5 * 0) 0 ∧ zFX A s I I1 ∧ zFM J J1 ∧ (∀ b', b' ≠ 42 → b' ≠ 44 → R1 b' = R b') ∧ (∀ w, zgo J1 w ↔ ((w : Int) < (J 81 3).toInt ∧ w ≠ b)) ∧ ((J1 81 34).toInt = (J 81 3).toInt - (if (b : Int) < (J 81 3).toInt then 1 else 0) ∧ ∀ k : Nat, (k : Int) < (J1 81 34).toInt → (J1 99 k).toInt = (zob b k : Nat)) := by
  obtain ⟨I1, R1, g, x1, x2, x3, x4, x5, x6⟩ := zlayX hB hb
  obtain ⟨J0, o1, o2, o3, o4, o5⟩ := g12_orders hB.2.1.2.2.1 hb
  obtain ⟨J1, m1, m2, m3, m4, m5, m6, m7, m8⟩ := g12_begins J0
  have hM : zFM J J1 := ⟨fun b' y1 y2 => by rw [m8 b' y1 (by omega), o5 b' y1 (by omega)], fun j hj => by rw [m7 j (by omega) (by omega) (by omega), o4 j (by omega)]⟩
  have h34 : (J1 81 34).toInt = (g : Int) := by rw [m7 34 (by decide) (by decide) (by decide), o2, x2]
  have h99 : ∀ k : Nat, (k : Int) < (J1 81 34).toInt → (J1 99 k).toInt = (zob b k : Nat) := fun k hk => by
    rw [m8 99 (by decide) (by decide)]
    rw [m7 34 (by decide) (by decide) (by decide)] at hk
    exact o3 k hk
  obtain ⟨ho, hz⟩ := zGo_of x2 hB.2.1.2.2.1 h34 h99 x3
  have hB1 := zB0_keep hB x5 (zFw_M hM) x6
  obtain ⟨hX, ⟨e4, e2, r3, r2⟩, hw, hh, l1, l2, l3, l4, l5, l6⟩ := hB1
  obtain ⟨hX', ⟨e4', e2', r3', r2'⟩, hw', hh', -⟩ := hB
  have j3 : J1 81 3 = J 81 3 := hM.2 3 (by decide)
  have j2 : J1 81 2 = J 81 2 := hM.2 2 (by decide)
  refine ⟨I1, R1, J0, J1, x1, o1, m1, zGjoin ⟨x4.2.2, l5, l6, by omega, ?_, ?_, ?_, r2⟩ ho (fun w h5 q => ?_) (fun w h5 => (m2 w h5).2) (fun h h9 => ?_) x4.2.1.2.2 ⟨m4, m5, m6⟩, x5, hM, x6, fun w => ⟨fun q => ⟨(hz w q).1, (hz w q).2.1⟩, fun q => ?_⟩, ⟨by rw [h34, x2], h99⟩⟩
  · rw [x4.2.1.1, e4', j3]
  · rw [x4.2.1.2.1, e2', j2]
  · rw [zeq_iff, h34, x3.1]
  · obtain ⟨q1, q2, q3⟩ := hz w q
    obtain ⟨w1, w2, w3, w4⟩ := hw w (by rw [j3]; omega)
    obtain ⟨v1, v2, v3, v4⟩ := hw' w (by omega)
    have e100 : J1 100 w = J 86 w := by rw [(m2 w h5).1, o5 86 (by decide) (by decide)]
    rw [e100]
    refine ⟨w2, ?_, v4⟩
    rw [← v3]
    exact q3
  · obtain ⟨y1, y2, y3, y4, y5⟩ := hh' h h9
    obtain ⟨z1', z2', z3'⟩ := m3 h h9
    have e107 : J1 107 h = J 82 h := by rw [z1', o5 82 (by decide) (by decide)]
    have e83 : J1 83 h = J 83 h := by rw [hM.1 83 (by decide) (by decide)]
    rw [e107, e83, ← y1, ← y3]
    refine ⟨x4.1 h h9, by rw [x5.2.2 h h9]; exact y5, z2', z3', ?_, ?_⟩
    · rw [y1]; exact y2
    · rw [y3]; exact y4
  · obtain ⟨q1, q2⟩ := q
    by_cases y : w < b
    · refine ⟨w, ?_, ?_⟩
      · rw [h34, x2]
        split <;> omega
      · rw [h99 w (by rw [h34, x2]; split <;> omega)]
        unfold zob
        rw [if_pos y]
    · refine ⟨w - 1, ?_, ?_⟩
      · rw [h34, x2, if_pos (by omega)]
        omega
      · rw [h99 (w - 1) (by rw [h34, x2, if_pos (by omega)]; omega)]
        unfold zob
        rw [if_neg (by omega)]
        omega
end
