/-! pure part: one who goes, for a second, on both sides -/
theorem zhpAt_all : ∀ h, h < 9 → f0_heapAt (Int32.ofNat h) = some (46 + h) := by decide +kernel
theorem zhpAt {x : Int32} {h : Nat} (hh : h < 9) (e : x.toInt = (h : Int)) : f0_heapAt x = some (46 + h) := by
  have := zofn (x := x) (by omega)
  rw [e] at this
  rw [← this]
  exact zhpAt_all h hh
theorem zofw {x : Int32} {w : Nat} (e : x.toInt = (w : Int)) : Int32.ofNat w = x ∧ x.toNatClampNeg = w := by
  have := zofn (x := x) (by omega)
  rw [e] at this
  exact ⟨this, by rw [zcl_iff, e]; omega⟩
section
variable {n : Nat} {kd : zMK} {R : zMR} {L s t w : Nat} {A : Nat → Nat} {I J : zMI} {c tm : Int}
theorem zG_c {c' : Int} (hG : zG n kd R L s t A I J c tm) (h : c ≤ c') : zG n kd R L s t A I J c' tm := by
  obtain ⟨g1, g2, g3, g4, g5, g6⟩ := hG
  exact ⟨g1, g2, g3, g4, g5, zGp_eq g6 h (fun _ _ => rfl) rfl rfl rfl rfl⟩
/-- who is asked whether he must wait -/
theorem g12_mustL {K : zMI} {wi : Int32} {g : Int32} (hg : K 81 34 = g) (g5 : g.toInt ≤ 5) (hw : 0 ≤ wi.toInt ∧ wi.toInt < 5) (hk : ∀ k : Nat, (k : Int) < g.toInt → 0 ≤ (K 99 k).toInt ∧ (K 99 k).toInt < 5) : ∀ (d q : Nat) (k : Int32), k.toInt + d = g.toInt → 0 ≤ k.toInt → d < q →
    ∃ v, f12_mustWait_L14 K q wi k = some v ∧ ((v = 1 ∧ ∃ j : Nat, (j : Int) < g.toInt ∧ K 99 j ≠ wi ∧ K 101 (K 99 j).toNatClampNeg = 2 ∧ K 100 (K 99 j).toNatClampNeg = K 100 wi.toNatClampNeg) ∨ (v = 0 ∧ ∀ j : Nat, k.toInt ≤ (j : Int) → (j : Int) < g.toInt → K 99 j ≠ wi → K 101 (K 99 j).toNatClampNeg = 2 → K 100 (K 99 j).toNatClampNeg ≠ K 100 wi.toNatClampNeg)) := by
  intro d
  induction d with
  | zero =>
    intro q k e h0 hq
    obtain ⟨q, rfl⟩ : ∃ p, q = p + 1 := ⟨q - 1, by omega⟩
    refine ⟨0, ?_, Or.inr ⟨rfl, fun j x1 x2 => by omega⟩⟩
    unfold f12_mustWait_L14
    rw [hg, if_pos (by rw [zle_iff]; omega)]
  | succ d ih =>
    intro q k e h0 hq
    obtain ⟨q, rfl⟩ : ∃ p, q = p + 1 := ⟨q - 1, by omega⟩
    have e1 := zsucc e
    have nk : k.toNatClampNeg = k.toInt.toNat := zcl_iff k
    obtain ⟨r0, r5⟩ := hk k.toInt.toNat (by omega)
    obtain ⟨v, v1, v2⟩ := ih q (k + 1) (by omega) (by omega) (by omega)
    have next : (∀ (P : Prop), ¬ (K 99 k.toInt.toNat ≠ wi ∧ K 101 (K 99 k.toInt.toNat).toNatClampNeg = 2 ∧ K 100 (K 99 k.toInt.toNat).toNatClampNeg = K 100 wi.toNatClampNeg) → ((v = 1 ∧ ∃ j : Nat, (j : Int) < g.toInt ∧ K 99 j ≠ wi ∧ K 101 (K 99 j).toNatClampNeg = 2 ∧ K 100 (K 99 j).toNatClampNeg = K 100 wi.toNatClampNeg) ∨ (v = 0 ∧ ∀ j : Nat, k.toInt ≤ (j : Int) → (j : Int) < g.toInt → K 99 j ≠ wi → K 101 (K 99 j).toNatClampNeg = 2 → K 100 (K 99 j).toNatClampNeg ≠ K 100 wi.toNatClampNeg))) := fun _ no => by
      rcases v2 with ⟨x1, x2⟩ | ⟨x1, x2⟩
      · exact Or.inl ⟨x1, x2⟩
      · refine Or.inr ⟨x1, fun j y1 y2 y3 y4 y5 => ?_⟩
        by_cases q : (j : Int) = k.toInt
        · have : j = k.toInt.toNat := by omega
          subst this
          exact no ⟨y3, y4, y5⟩
        · exact x2 j (by omega) y2 y3 y4 y5
    unfold f12_mustWait_L14 f12_mustWait_B61
    rw [hg, if_neg (by rw [zle_iff]; omega), if_pos (zib_ok h0 (by omega)), nk]
    by_cases c1 : K 99 k.toInt.toNat = wi
    · rw [if_pos c1]
      exact ⟨v, v1, next True (fun x => x.1 c1)⟩
    rw [if_neg c1, if_pos (zib_ok r0 (by omega))]
    by_cases c2 : K 101 (K 99 k.toInt.toNat).toNatClampNeg = 2
    · rw [if_pos c2, if_pos (zib_ok hw.1 (by omega))]
      by_cases c3 : K 100 (K 99 k.toInt.toNat).toNatClampNeg = K 100 wi.toNatClampNeg
      · rw [if_pos c3]
        exact ⟨1, rfl, Or.inl ⟨rfl, k.toInt.toNat, by omega, c1, c2, c3⟩⟩
      · rw [if_neg c3]
        exact ⟨v, v1, next True (fun x => c3 x.2.2)⟩
    · rw [if_neg c2]
      exact ⟨v, v1, next True (fun x => c2 x.2.1)⟩
theorem ztks_pos {h : Nat} (hp : 0 < ztks J h) : ∃ w', w' < 5 ∧ J 101 w' = 2 ∧ (J 100 w').toInt = (h : Int) := by
  have key : ∀ w', ztk J h w' = 1 → J 101 w' = 2 ∧ (J 100 w').toInt = (h : Int) := fun w' e => by
    unfold ztk at e
    by_cases q : J 101 w' = 2 ∧ (J 100 w').toInt = (h : Int)
    · exact q
    · rw [if_neg q] at e
      cases e
  have a0 := ztk_01 J h 0
  have a1 := ztk_01 J h 1
  have a2 := ztk_01 J h 2
  have a3 := ztk_01 J h 3
  have a4 := ztk_01 J h 4
  unfold ztks at hp
  rcases (show ztk J h 0 = 1 ∨ ztk J h 1 = 1 ∨ ztk J h 2 = 1 ∨ ztk J h 3 = 1 ∨ ztk J h 4 = 1 by omega) with e | e | e | e | e
  · exact ⟨0, by decide, key 0 e⟩
  · exact ⟨1, by decide, key 1 e⟩
  · exact ⟨2, by decide, key 2 e⟩
  · exact ⟨3, by decide, key 3 e⟩
  · exact ⟨4, by decide, key 4 e⟩
theorem ztks_some {h w' : Nat} (hw' : w' < 5) (h2 : J 101 w' = 2) (h0 : (J 100 w').toInt = (h : Int)) : 0 < ztks J h := by
  have e : ztk J h w' = 1 := by
    unfold ztk
    rw [if_pos ⟨h2, h0⟩]
  have a0 := ztk_01 J h 0
  have a1 := ztk_01 J h 1
  have a2 := ztk_01 J h 2
  have a3 := ztk_01 J h 3
  have a4 := ztk_01 J h 4
  unfold ztks
  rcases (show w' = 0 ∨ w' = 1 ∨ w' = 2 ∨ w' = 3 ∨ w' = 4 by omega) with rfl | rfl | rfl | rfl | rfl <;> omega
/-- must he wait? -/
theorem g12_must (hG : zG n kd R L s t A I J c tm) (hw : w < 5) {h : Nat} {wi : Int32} (ew : wi.toInt = (w : Int)) (eh : (J 100 w).toInt = (h : Int)) (h2 : J 101 w ≠ 2) {K : zMI} (hK : K = uI (uI J 102 w 0) 101 w 1) : f12_mustWait K wi = some (zB (J 84 w ≠ 3 ∧ 0 < ztks J h)) := by
  obtain ⟨g1, g2, g3, g4, g5, g6⟩ := hG
  have n1 := (zofw ew).2
  have K_ne : ∀ b, b ≠ 102 → b ≠ 101 → K b = J b := fun b x y => by rw [hK, uI_ne y, uI_ne x]
  have K101 : ∀ j, j ≠ w → K 101 j = J 101 j := fun j x => by rw [hK, uI_off x, uI_ne (by decide)]
  have K99 : K 99 = J 99 := K_ne 99 (by decide) (by decide)
  have K100 : K 100 = J 100 := K_ne 100 (by decide) (by decide)
  unfold f12_mustWait
  rw [if_pos (zib_ok (by omega) (by omega)), n1, K_ne 84 (by decide) (by decide)]
  by_cases c3 : J 84 w = 3
  · rw [if_pos c3]
    unfold zB
    rw [if_neg (fun q => q.1 c3)]
  rw [if_neg c3]
  have r := g2.2.1
  obtain ⟨v, v1, v2⟩ := g12_mustL (K := K) (wi := wi) (g := J 81 34) (by rw [K_ne 81 (by decide) (by decide)]) g2.1.2 ⟨by omega, by omega⟩ (fun k hk => by rw [K99]; exact ⟨(r k hk).1, (r k hk).2.1⟩) (J 81 34).toInt.toNat zF 0 (by rw [z0]; have := g2.1.1; omega) (by rw [z0]; omega) (by have := g2.1.2; unfold zF; omega)
  rw [v1]
  congr 1
  rw [K99, K100, n1] at v2
  rcases v2 with ⟨x1, j, y1, y2, y3, y4⟩ | ⟨x1, x2⟩
  · obtain ⟨b0, b5, -⟩ := r j y1
    have nj : (J 99 j).toNatClampNeg ≠ w := fun q => y2 (by rw [zeq_iff, ew]; rw [zcl_iff] at q; omega)
    rw [K101 _ nj] at y3
    have pos : 0 < ztks J h := ztks_some (w' := (J 99 j).toNatClampNeg) (by rw [zcl_iff]; omega) y3 (by rw [y4]; exact eh)
    rw [x1]
    unfold zB
    rw [if_pos ⟨c3, pos⟩]
  · rw [x1]
    unfold zB
    rw [if_neg]
    intro q
    obtain ⟨w', u1, u2, u3⟩ := ztks_pos q.2
    have go : zgo J w' := by
      by_cases y : zgo J w'
      · exact y
      · have := ((g3 w' u1).2 y).1
        rw [u2] at this
        cases this
    obtain ⟨j, j1, j2⟩ := go
    have nw : w' ≠ w := fun y => h2 (by rw [← y]; exact u2)
    have nj : (J 99 j).toNatClampNeg = w' := by rw [zcl_iff, j2]; omega
    refine x2 j (by rw [z0]; omega) j1 (fun y => nw ?_) (by rw [nj, K101 w' nw]; exact u2) (by rw [nj, zeq_iff, u3, eh])
    rw [y, ew] at j2
    omega
end
