/-! objects under construction: nothing of them is fixed yet -/
section
variable {w : zW} {d kc ks : Nat} {y : zY} {pc : Nat} {L : List (Option Value)} {st : List Value} {n : Nat} {kd : zMK} {I : zMI} {R R' : zMR} {Q : Option Value → zM → Prop}
theorem cm_getO {idx c k a : Nat} {o : Option Nat} (hd : decode y.2.1 pc = .ok (.getfield idx, 3)) (hf : zFL y.1.cls idx c k) (hfl : zfl c k = true) (ha : zHas n kd a (16 + c)) (hw : ∀ a k, zst w a k = none) (ho : R a k = o)
    (kk : EV w d kc ks y (pc + 3) L (va_rf o :: st) (n, kd, I, R) Q) : EV w d kc ks y pc L (.ref a :: st) (n, kd, I, R) Q := by
  refine ev_get hd hf ha ?_ kk
  unfold zv
  rw [if_pos hfl]
  unfold zrr
  rw [hw]
  show va_rf (Option.map (zad w) (R a k)) = _
  rw [ho, zva_rf]
theorem cm_putO {idx c k a : Nat} {o : Option Nat} (hd : decode y.2.1 pc = .ok (.putfield idx, 3)) (hf : zFL y.1.cls idx c k) (hm : zMay y c k) (hfl : zfl c k = true) (hw : ∀ a k, zst w a k = none) (hn : ∀ q, narrow (zty c k) (.ref q) = .ref q) (hfit : ∀ q, fits (zty c k) (.ref q) = true) (hn0 : narrow (zty c k) .null = .null) (hfit0 : fits (zty c k) .null = true) (ha : zHas n kd a (16 + c)) (hJ : uR R a k o = R')
    (kk : EV w d kc ks y (pc + 3) L st (n, kd, I, R') Q) : EV w d kc ks y pc L (va_rf o :: .ref a :: st) (n, kd, I, R) Q := by
  subst hJ
  cases o with
  | none => exact ev_putN hd hf hm hfl (hw _ _) hn0 hfit0 ha kk
  | some b => exact ev_putR hd hf hm hfl (hw _ _) hn hfit ha kk
theorem cm_aast {a j b c c2 : Nat} {i : Int32} (hd : decode y.2.1 pc = .ok (.aastore, 1)) (ha : zHas n kd a j) (h0 : 0 < j) (h6 : j < 6) (hb : zHas n kd b (16 + c)) (hc : c < 14) (hc2 : c2 < 14) (hjC : ∀ w : zW, (zT w)[j]? = some (zcA w j, .object (zRf c2))) (hcc : c = c2 ∨ Cond.castable (zRf c) (zRf c2) ∈ zNw) (hw : ∀ a k, zst w a k = none) (hin : zib i (kd a).2 = true) (hJ : uR R a i.toNatClampNeg (some b) = R')
    (kk : EV w d kc ks y (pc + 1) L st (n, kd, I, R') Q) : EV w d kc ks y pc L (.ref b :: .int i :: .ref a :: st) (n, kd, I, R) Q := by
  subst hJ
  exact ev_aast hd ha h0 h6 hb hc hc2 hjC hcc (hw _ _) (zib_in hin) kk
theorem em_newQK {kc' ks' : Nat} {x : Int32} {N idx j : Nat} {C : String} (hd : decode y.2.1 pc = .ok (.anewarray idx, 3)) (hj0 : 0 < j) (hj : j < 6) (hC0 : C ∈ [RX10, RX3, RX6, RX2]) (hjC : ∀ w : zW, (zT w)[j]? = some (zcA w j, .object C)) (hcl : Cond.classLink y.1.cls idx C ∈ zGT) (hn : ¬ x < 0) (hN : x.toNatClampNeg = N) (hb : N ≤ 100000000) (hs : ∀ k, zst w n k = none) (hrl : zrl n) (hk : kc' + 1 ≤ kc) (hz : ks' + N ≤ ks)
    (kk : EV w d kc' ks' y (pc + 3) L (.ref n :: st) (n + 1, uK kd n (j, N), uA I n (fun _ => 0), uRA R n) Q) : EV w d kc ks y pc L (.int x :: st) (n, kd, I, R) Q :=
  EV.more (ev_newQ (kc := kc') (ks := ks') hd hj0 hj hC0 hjC hcl hn hN hb hs hrl kk) (Nat.le_refl _) hk (by omega)
theorem em_mulK {kc' ks' : Nat} {x k : Int32} {N M idx : Nat} {μ1 : zM} (hd : decode y.2.1 pc = .ok (.multianewarray idx 2, 4)) (hcl : Cond.classLink y.1.cls idx ("[" ++ (FieldType.array .int).toString) ∈ zGT) (hlim : 32 ≤ n ∧ n + 1 + N ≤ 81) (hn : ¬ x < 0) (hk : ¬ k < 0) (hN : x.toNatClampNeg = N) (hM : k.toNatClampNeg = M) (hN2 : N ≤ 1000) (hM2 : M ≤ 1000) (hs : ∀ j, zst w n j = none) (hk' : kc' + (1 + N) ≤ kc) (hz : ks' + (N + N * M) ≤ ks) (hμ : zMul (n, kd, I, R) N M = μ1)
    (kk : EV w d kc' ks' y (pc + 4) L (.ref n :: st) (μ1.1, μ1.2.1, μ1.2.2.1, μ1.2.2.2) Q) : EV w d kc ks y pc L (.int k :: .int x :: st) (n, kd, I, R) Q := by
  subst hμ
  exact EV.more (ev_mul (kc := kc') (ks := ks') hd hcl zarr_int hn hk hN hM hlim hN2 hM2 hs kk) (Nat.le_refl _) hk' hz
theorem cm_cloneS {kc' ks' i idx N : Nat} {f : Nat → Int32} (hd : decode y.2.1 pc = .ok (.invokevirtual idx, 3)) (hl : Cond.methodLink y.1.cls idx ⟨"[I", "clone", "()Ljava/lang/Object;"⟩ ∈ zGT) (hi : i < 32) (hT : zGF w → zTc w i N f) (hrl : zrl n) (hd1 : 1 ≤ d) (hr : (st.map fun v => v.category).sum ≤ 8) (hk : kc' + 1 ≤ kc) (hz : ks' + N ≤ ks)
    (kk : EV w d kc' ks' y (pc + 3) L (.ref n :: st) (n + 1, uK kd n (0, N), uA I n f, uRA R n) Q) : EV w d kc ks y pc L (.ref i :: st) (n, kd, I, R) Q :=
  EV.more (ev_clone (kc := kc') (ks := ks') (N := N) (f := f) hd hl zw__I_java_lang_Object_clone zna_clone ziO_clone zsel_clone hrl hd1 hr (fun s H locs hG hF hP => zsrc_old hi (hT hG) s H locs hG hF hP) (by rw [zNA_tuple]; exact kk)) (Nat.le_refl _) hk (by omega)
end
