/-! pure part: a walker of another kind, just while one goes -/
theorem zG_R {n : Nat} {kd : zMK} {R R' : zMR} {L s t : Nat} {A : Nat → Nat} {I J : zMI} {c tm : Int} (h : zG n kd R L s t A I J c tm) (hR : ∀ b, b ≠ 35 → R' b = R b) : zG n kd R' L s t A I J c tm := by
  obtain ⟨⟨l1, l2, l3⟩, ⟨o1, o2, o3⟩, h3⟩ := h
  have hb := zLo_big l2.1
  have hl : R' L = R L := hR L (by omega)
  refine ⟨⟨by rw [hR 42 (by decide)]; exact l1, ⟨?_, l2.2⟩, l3⟩, ⟨o1, fun k hk => ?_, o3⟩, h3⟩
  · have := l2.1
    unfold zLo at this ⊢
    rw [hl]
    exact this
  · rw [hR 44 (by decide)]
    exact o2 k hk
theorem zkc_Wc {k : Int32} (h0 : 0 ≤ k.toInt) (h5 : k.toInt ≤ 5) : zWc (zkc k) := by
  rcases zsplit6 h0 h5 with rfl | rfl | rfl | rfl | rfl | rfl <;> simp [zWc, zkc]
theorem zwithL {n : Nat} {kd : zMK} {A : Nat → Nat} {w : Nat} {cn : Int32} {fr : Nat → Int32} (hc : 0 ≤ cn.toInt ∧ cn.toInt ≤ 5) (hw : w < cn.toInt.toNat) : ∀ (d q : Nat) (i : Int32) (I : zMI) (R : zMR) (g : Nat), i.toInt + d = cn.toInt → 0 ≤ i.toInt → d < q → I 32 4 = cn → zWo n kd A cn.toInt.toNat I (uR R 35 w (some (A w))) → (∀ v, v < cn.toInt.toNat → I (A v) 2 = fr v) → (g : Int) = i.toInt → zXJ A (zob 5) fr g I R →
    ∃ (I' : zMI) (R' : zMR) (g' : Nat), f11_layPlainWith_L6 n kd q (some (A w)) i I R = some (I', R') ∧ (g' : Int) = cn.toInt ∧ zXJ A (zob 5) fr g' I' R' ∧ (∀ v j, v < cn.toInt.toNat → j < 3 → I' (A v) j = I (A v) j) ∧ (∀ j, j ≠ 2 → I' 42 j = I 42 j) ∧ (∀ b', (∀ v, v < cn.toInt.toNat → b' ≠ A v) → b' ≠ 42 → I' b' = I b') ∧ ∀ b', b' ≠ 44 → R' b' = R b' := by
  intro d
  induction d with
  | zero =>
    intro q i I R g e h0 hq e4 hW hf eg hX
    obtain ⟨q, rfl⟩ : ∃ p, q = p + 1 := ⟨q - 1, by omega⟩
    have ei : i.toInt = cn.toInt := by omega
    refine ⟨I, R, g, ?_, by omega, hX, fun _ _ _ _ => rfl, fun _ _ => rfl, fun _ _ _ => rfl, fun _ _ => rfl⟩
    unfold f11_layPlainWith_L6
    rw [e4, if_pos (by rw [zle_iff]; omega)]
  | succ d ih =>
    intro q i I R g e h0 hq e4 hW hf eg hX
    obtain ⟨q, rfl⟩ : ∃ p, q = p + 1 := ⟨q - 1, by omega⟩
    have e1 := zsucc e
    have hg4 : g ≤ 4 := by omega
    have og : zob 5 g = i.toInt.toNat := by
      unfold zob
      rw [if_pos (by omega)]
      omega
    have lt : ∀ k, k < g → zob 5 k < i.toInt.toNat := fun k hk => by
      unfold zob
      rw [if_pos (by omega)]
      omega
    have hi : i.toInt.toNat < cn.toInt.toNat := by omega
    obtain ⟨w1, w2, w3, w4⟩ := hW _ hi
    obtain ⟨v1, v2, v3, v4⟩ := hW _ hw
    obtain ⟨J, R1, j1, j2, j3, j4, j5, j6⟩ := zXJ_step hX hg4 (by rw [og]; exact w2) (by rw [og]; omega) (fun k hk q => by
      have h1 := lt k hk
      have := zWo_inj hW (by omega) (show zob 5 k < cn.toInt.toNat by omega) (show zob 5 g < cn.toInt.toNat by omega) q
      omega) (by rw [og]; exact hf _ hi) (fun k hk => by
      have h1 := lt k hk
      have := (hW (zob 5 k) (by omega)).2.2.1
      omega)
    rw [og] at j1 j3 j5
    have Ja : ∀ v, v < cn.toInt.toNat → ∀ j, j < 3 → J (A v) j = I (A v) j := fun v hv j hj => by
      by_cases x : A v = A i.toInt.toNat
      · rw [x]
        exact j3 j hj
      · have := (hW v hv).2.2.1
        rw [j5 _ x (by omega)]
    obtain ⟨I', R', g', u1, u2, u3, u4, u5, u6, u7⟩ := ih q (i + 1) J R1 (g + 1) (by omega) (by omega) (by omega) (by rw [j5 32 (by omega) (by decide)]; exact e4) (fun v hv => by
      obtain ⟨x1, x2, x3, x4⟩ := hW v hv
      refine ⟨?_, x2, x3, by rw [Ja v hv 0 (by decide)]; exact x4⟩
      by_cases c : v = w
      · rw [c, uR_at]
      · rw [uR_off c] at x1 ⊢
        rw [j6 35 (by decide)]
        exact x1) (fun v hv => by rw [Ja v hv 2 (by decide)]; exact hf v hv) (by omega) j2
    refine ⟨I', R', g', ?_, u2, u3, fun v j x y => by rw [u4 v j x y, Ja v x j y], fun j hj => by rw [u5 j hj, j4 j hj], fun b' x y => by rw [u6 b' x y, j5 b' (x _ hi) y], fun b' x => by rw [u7 b' x, j6 b' x]⟩
    have n5 : w < 5 := by omega
    unfold f11_layPlainWith_L6
    rw [e4, if_neg (by rw [zle_iff]; omega), zm_some, if_pos v2, v4]
    unfold f11_layPlainWith_B34 f11_layPlainWith_B39
    by_cases c : i = Int32.ofNat w
    · have ci : i.toInt.toNat = w := by rw [c, zofn_i (by omega)]; omega
      rw [ci] at j1
      rw [if_pos c, j1, zb_some]
      exact u1
    · have ci : i.toInt.toNat ≠ w := fun q => c (by rw [zeq_iff, zofn_i (by omega)]; omega)
      rw [uR_off ci] at w1
      rw [if_neg c, g11_walkerOf2 h0 (by rw [e4]; omega) (by rw [e4]; exact hc.2), zb_some, w1, j1, zb_some]
      exact u1
theorem zB0_new {n : Nat} {kd : zMK} {R : zMR} {L s t w : Nat} {A : Nat → Nat} {I J : zMI} {k f : Int32} (hB : zB0 n kd R L s t A I J) (hw : w < (J 81 3).toInt.toNat) (hk : 0 ≤ k.toInt ∧ k.toInt ≤ 5) (hf : 0 ≤ f.toInt ∧ f.toInt ≤ 8) {I1 : zMI} {R1 : zMR} (eI : ∀ b, b ≠ n → I1 b = I b) (eR : ∀ b, b ≠ n → R1 b = R b) (e0 : I1 n 0 = I (A w) 0) (e1 : I1 n 1 = I (A w) 1) (e2 : I1 n 2 = f) : zB0 (n + 1) (uK kd n (16 + zkc k, 0)) (uR R1 35 w (some n)) L s t (fun v => if v = w then n else A v) I1 (uI (uI J 84 w k) 86 w f) := by
  have hW := zB0_Wo hB
  have hB0 := hB
  obtain ⟨⟨hS, x2, x3, x4, x5⟩, ⟨e4, e2', r3, r2⟩, hw', hh, l1, l2, l3, l4, l5, l6⟩ := hB
  have hn := hS.1
  have kne : ∀ b, b ≠ n → uK kd n (16 + zkc k, 0) b = kd b := fun b hb => if_neg hb
  have kat : uK kd n (16 + zkc k, 0) n = (16 + zkc k, 0) := if_pos rfl
  obtain ⟨g1, g2, g3, g4, g5, g6, g7, g8, g9, q2, q3, q4, q0, q1⟩ := id l5.1
  have hb := zLo_big l5.1
  have kL := zKdB_has g1
  have J81 : uI (uI J 84 w k) 86 w f 81 = J 81 := by rw [uI_ne (by decide), uI_ne (by decide)]
  have Jr : ∀ b, b ≠ 84 → b ≠ 86 → uI (uI J 84 w k) 86 w f b = J b := fun b y z => by rw [uI_ne z, uI_ne y]
  have lA : ∀ v, v < (J 81 3).toInt.toNat → A v < n := fun v hv => by
    obtain ⟨c, -, y⟩ := zWkB_has (hW v hv).2.1
    exact y.2.1
  refine ⟨⟨zSh_new hS _, x2, by rw [kne s (by omega)]; exact x3, by rw [kne (s + 1) (by omega)]; exact x4, fun v hv => ?_⟩, ⟨by rw [eI 32 (by omega), J81]; exact e4, by rw [eI 32 (by omega), J81]; exact e2', by rw [J81]; exact r3, by rw [J81]; exact r2⟩, fun v hv => ?_, fun h h9 => ?_, by rw [eI 32 (by omega)]; exact l1, by rw [eI 32 (by omega)]; exact l2, by rw [eI 32 (by omega)]; exact l3, by rw [uR_ne (by decide), eR 36 (by omega)]; exact l4, ⟨⟨?_, ?_, by omega, by rw [kne s (by omega)]; exact g4, by rw [kne (s + 1) (by omega)]; exact g5, by rw [kne (s + 2) (by omega)]; exact g6, by rw [kne (s + 3) (by omega)]; exact g7, by rw [kne (s + 3) (by omega)]; exact g8, by rw [kne (s + 4) (by omega)]; exact g9, ?_⟩, ?_⟩, by rw [J81]; exact l6⟩
  · dsimp only
    by_cases c : v = w
    · rw [if_pos c, kat]
      exact Or.inr ⟨hn, by show 16 + zkc k ≠ 0; omega⟩
    · rw [if_neg c]
      by_cases c2 : A v = n
      · rw [c2, kat]
        exact Or.inr ⟨hn, by show 16 + zkc k ≠ 0; omega⟩
      · rw [kne _ c2]
        exact x5 v hv
  · rw [J81] at hv
    obtain ⟨y1, y2, y3, y4⟩ := hw' v hv
    have v5 : v < 5 := by omega
    have nv : (Int32.ofNat v).toNatClampNeg = v := zofn_n (by omega)
    dsimp only
    by_cases c : v = w
    · rw [if_pos c]
      subst c
      unfold zwl at y2 ⊢
      rw [nv] at y2 ⊢
      refine ⟨uR_at, ⟨zW_ok hn (by omega) (by rw [kat]) (zkc_Wc hk.1 hk.2), ?_, ?_, by rw [e0]; exact y2.2.2.2.1, ?_, ?_, y2.2.2.2.2.2.2⟩, by rw [e2, uI_at], by rw [uI_at]; exact hf⟩
      · rw [kat, uI_ne (by decide), uI_at]
      · rw [uI_ne (by decide), uI_at]
        exact hk
      · rw [e1, Jr 85 (by decide) (by decide)]
        exact y2.2.2.2.2.1
      · rw [Jr 85 (by decide) (by decide)]
        exact y2.2.2.2.2.2.1
    · rw [if_neg c]
      have an := lA v hv
      have big := (hW v hv).2.2.1
      unfold zwl at y2 ⊢
      rw [nv] at y2 ⊢
      rw [kne _ (by omega), eI _ (show A v ≠ n by omega), Jr 85 (by decide) (by decide), uI_ne (show 84 ≠ 86 by decide), uI_off c, uI_off c, uI_ne (show 86 ≠ 84 by decide), uR_off c, eR 35 (by omega)]
      exact ⟨y1, ⟨zW_ok big (by omega) (by rw [kne _ (by omega)]; exact y2.2.1) (zkc_Wc y2.2.2.1.1 y2.2.2.1.2), y2.2⟩, y3, y4⟩
  · rw [eI 33 (by omega), eI 34 (by omega), eI (46 + h) (by omega), Jr 82 (by decide) (by decide), Jr 83 (by decide) (by decide)]
    exact hh h h9
  · have a1 := kL.1
    have a2 := kL.2.1
    exact zKd_ok a1 (by omega) (by rw [kne L (by omega)]; exact kL.2.2)
  · rcases g2 with x | ⟨z1', z2', z3'⟩
    · exact Or.inl x
    · exact Or.inr ⟨z1', z2', by rw [kne (L + 1) (by omega)]; exact z3'⟩
  · have a2 := kL.2.1
    rw [uR_ne (by omega), eR L (by omega)]
    exact ⟨q2, q3, q4, q0, q1⟩
  · rw [kne (s + 3) (by omega)]
    exact zLx_eq l5.2 (eI _ (by omega)) (eI _ (by omega)) (eI _ (by omega)) (Jr 88 (by decide) (by decide)) (Jr 89 (by decide) (by decide))
theorem zC_grow {n : Nat} {kd : zMK} {I J : zMI} {R R' : zMR} {v : Nat × Nat} (hC : zC zT0 n kd I R) (eI : ∀ b, b < n → J b = I b) (eR : ∀ b, b < n → R' b = R b) : zC zT0 (n + 1) (uK kd n v) J R' := by
  obtain ⟨h1, h2, h3, h4, h5, h6, h7, hT⟩ := hC
  have hn := h1.1
  have e81 : J 81 = I 81 := eI 81 (by omega)
  refine ⟨zSh_new h1 v, ?_, zCh_eq h3 (eI _ (by omega)) (eI _ (by omega)) (eI _ (by omega)) (eI _ (by omega)), zCt_eq h4 (by rw [e81]) (eI _ (by omega)) (eI _ (by omega)), zCs_eq h5 (fun a x y => eI _ (by omega)) (eI _ (by omega)) (eI _ (by omega)) (eI _ (by omega)), ?_, fun i hi => ?_, zT0_q n (n + 1) kd _ I J R R' h1 (by omega) (fun a ha => if_neg (by omega)) (fun a ha _ _ => eI a ha) (fun h hh => by rw [eI _ (by omega)]) (by rw [e81]) (fun a ha _ => eR a ha) hT⟩
  · unfold zCn at h2 ⊢
    rw [eI 32 (by omega), eI 37 (by omega), e81]
    exact h2
  · unfold zCi at h6 ⊢
    rw [eI 32 (by omega), eI 64 (by omega), eI 65 (by omega), eI 66 (by omega), eI 90 (by omega), e81]
    exact h6
  · rw [e81] at hi
    obtain ⟨a, q1, q2, q3, q4⟩ := h7 i hi
    refine ⟨a, by rw [eR 35 (by omega)]; exact q1, q2, by omega, ?_⟩
    rw [eI a q3, eI 84 (by omega), eI 85 (by omega), eI 86 (by omega), show uK kd n v a = kd a from if_neg (by omega)]
    exact q4
