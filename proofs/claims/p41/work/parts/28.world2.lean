/-! the world put together -/
theorem zlen_small {args : Array Value} {s : State} {t : Term} {v : Value} {a : Nat} {cell : Cell} (h : (Term.length t).eval args s none [] s = some v) (ht : t.eval args s none [] s = some (.ref a)) (hc : s.heap[a]? = some cell) : cell.slots.size < 2147483648 := by
  simp only [Term.eval, Option.bind_eq_bind] at h
  simp [ht] at h
  obtain ⟨cell2, hcell, h⟩ := Option.bind_eq_some_iff.mp h
  by_cases hn : cell2.slots.size < 2147483648
  · have h2 := (State.arrayAt?_spec hcell).1
    rw [hc] at h2
    cases h2
    exact hn
  · rw [if_neg hn] at h
    cases h
theorem zold_row {args : Array Value} {s : State} {tm : Term} {N : Nat} {f : Nat → Int32} {cI : ClassId} (hN : N < 2 ^ 31) (harr : (Cond.arrayOf tm .int).before args s = true) (hlen : (Cond.eq (.length tm) (.int (Int32.ofNat N))).before args s = true) (hel : ∀ j, j < N → (Cond.eq (.elem tm (.int (Int32.ofNat j))) (.int (f j))).before args s = true) (hex : (Cond.exactly tm "[I").before args s = true) (hI : s.vm.findClass "[I" = some cI) :
    ∃ t, tm.eval args s none [] s = some (.ref t) ∧ ∃ cell : Cell, s.heap[t]? = some cell ∧ cell.cls = cI ∧ cell.vm ≠ .unknown ∧ (∀ k, cell.vm ≠ .statics k) ∧ cell.slots.size = N ∧ (∀ j : Nat, j < N → cell.slots[j]? = some (.int (f j))) := by
  obtain ⟨t, ht, cell, h1, h2, h3, h4, h5, h6, h7⟩ := va_Tof (f := fun j => .int (f j)) (A := fun q => s.heap.size ≤ q) hN harr (va_eqt hlen) (fun j hj => va_eqt (hel j hj)) (fun a ha => Nat.not_le.mpr ha)
  obtain ⟨a, c, cell2, k, q1, q2, q3, q4, q5, q6, -⟩ := Cond.exactly_spec (args := args) (first := s) (o := none) (s := s) (idx := []) (t := tm) (cls := "[I") hex
  have ea : a = t := by
    have e := q1.symm.trans ht
    simpa using e
  subst ea
  rw [h1] at q3
  cases q3
  have hs := zlen_small (va_eqt hlen) ht h1
  have e := congrArg Int32.toNatClampNeg h5
  have e1 : (Nat.toInt32 cell.slots.size).toNatClampNeg = cell.slots.size := nI_clamp (by omega)
  have e2 : (Int32.ofNat N).toNatClampNeg = N := nI_clamp hN
  rw [e1, e2] at e
  exact ⟨a, ht, cell, h1, by rw [q6]; exact Option.some.inj (q2.symm.trans hI), h3, h2.1, e, h6⟩
theorem zvkS {N : Nat} {len : List Nat} {byt : List (List Int32)} {aK aV aK' aV' : Nat → Nat} {A : Nat → Prop} {U : State} {H : Heap} (h : vk_S N len byt aK aV A U H) (e1 : ∀ i, i < N → aK' i = aK i) (e2 : ∀ i, i < N → aV' i = aV i) : vk_S N len byt aK' aV' A U H :=
  ⟨fun i hi => by rw [e1 i hi, e2 i hi]; exact h.1 i hi, fun i j hi hj e => h.2 i j hi hj (by rw [← e1 i hi, ← e1 j hj]; exact e)⟩
theorem zclasses {s : State} {args : Array Value} (hts : ∀ w ∈ zGT, w.before args s = true) (c0 : ClassId) : ∃ (dC : Nat → ClassId) (dI : Nat → Nat → Nat), ∀ (c : Nat) (q : vw_C), vwCl[c]? = some q → u_Kn s q.1 q.2.1 q.2.2 (dC c) (dI c) := by
  have h : ∀ c, ∃ x : ClassId × (Nat → Nat), c < 14 → u_Kn s (zRf c) (zTf c) (zNf c) x.1 x.2 := fun c => by
    by_cases hc : c < 14
    · obtain ⟨cC, iS, hk⟩ := u_known (n := zNf c) hts (zuw c hc) (hts _ (zg_inst c hc))
      exact ⟨(cC, iS), fun _ => hk⟩
    · exact ⟨(c0, fun _ => 0), fun h => absurd h hc⟩
  obtain ⟨f, hf⟩ := Classical.axiomOfChoice h
  refine ⟨fun c => (f c).1, fun c => (f c).2, fun c q hq => ?_⟩
  have hc : c < 14 := (List.getElem?_eq_some_iff.mp hq).1
  rw [zcl_at c hc] at hq
  cases hq
  exact hf c hc
theorem zover {s : State} {args : Array Value} {C : String} (h : (Cond.arrayOver (.object C)).before args s = true) : ∃ c, ArrOfT s c (.object C) ∧ va_RA s c (.object C) := by
  obtain ⟨comp, c, k, h1, -, h3, h4, h5⟩ := Cond.arrayOver_spec h
  exact ⟨c, fun n z => ⟨fun k h => (by cases h), k, h3, comp, h4⟩, k, comp, h3, h4, h1, h5⟩
theorem zselX {s : State} {args : Array Value} {y z : MethodName} {C : String} (hz : (Cond.selects C z z).before args s = true) (hyz : y.cls = z.cls) (hy : y.cls ≠ "java/lang/invoke/MethodHandle" ∧ y.cls ≠ "java/lang/invoke/VarHandle") (hpriv : (Cond.privateMethod y).before args s = true) (hinst : (Cond.instanceMethod y).before args s = true) : (Cond.selects C y y).before args s = true := by
  obtain ⟨c, r, m, hc, hr, hm, hs, mk0, hk, hni⟩ := Cond.selects_spec hz
  obtain ⟨mk, methM, hnamed, hmethM, -, -⟩ := Cond.instanceMethod_spec hinst
  have hfound := State.methodFound?_of_named hnamed hy
  have e : mk.cls = m.cls := Option.some.inj ((findClass_of_methodNamed hnamed).symm.trans (by rw [hyz]; exact findClass_of_methodNamed hm))
  have hsel : selectMethod {} s.vm c mk = .method mk := selectMethod_private hmethM (Cond.privateMethod_at hpriv mk methM hnamed hmethM)
  simp only [Cond.before, Cond.holds, Cond.value, hc, hfound, hnamed, hsel, e, hk]
  simp
  exact hni
/-- every word of zGT, out of the tables' -/
theorem zwords {s : State} {args : Array Value} (hts : ∀ w ∈ lw_tbl, w.before args s = true) : ∀ v ∈ zGT, v.before args s = true := fun v hv => by
  have ht : ∀ c ∈ tables_1, c.before args s = true := fun c hc => hts c (List.mem_append_right _ hc)
  rcases List.mem_append.mp hv with h | h
  · obtain ⟨i, hi⟩ := List.getElem?_of_mem h
    have h4 : i < 4 := (List.getElem?_eq_some_iff.mp hi).1
    obtain ⟨y, y1, y2, y3, y4⟩ := zg_xP i h4
    rw [hi] at y1
    cases y1
    exact zselX (ht _ zg_xS) y2 (by rw [y2]; decide) (ht _ y3) (ht _ y4)
  · exact hts v (List.mem_filter.mp h).1
theorem zworld {s : State} {b L : Nat} {xs : Nat → Int32} (hts : ∀ w ∈ lw_tbl, w.before #[Value.ref b] s = true) (hX : va_X b L xs s s.heap) (hbl : b < s.heap.size) (hgv : (Jvm.Cond.and given_1 narrow_1).before #[Value.ref b] s = true) :
    ∃ w : zW, zGF w ∧ zFr w s ∧ (∀ a k, zst w a k = none) ∧ zb0 w = s.heap.size ∧ zs0 w = s ∧ zxl w = L ∧ zxs w = xs ∧ zhm w = none ∧ zad w 26 = b := by
  have hg : ∀ c ∈ zGv, c.before #[Value.ref b] s = true := flat_of_before _ hgv
  have ht : ∀ c ∈ tables_1, c.before #[Value.ref b] s = true := fun c hc => hts c (List.mem_append_right _ hc)
  have hz : ∀ c ∈ zGT, c.before #[Value.ref b] s = true := zwords hts
  have hA : ∀ a : Nat, a < s.heap.size → ¬ (fun q => s.heap.size ≤ q) a := fun a ha => Nat.not_le.mpr ha
  obtain ⟨c0, k0, p0, hI, i2, i3⟩ := Cond.arrayClass_spec (ht _ zg_tAC)
  obtain ⟨cB, kB, pB, hB, b2, b3⟩ := Cond.arrayClass_spec (ht _ zg_tACb)
  obtain ⟨cG, kG, pG, hGl, g2, g3⟩ := Cond.arrayClass_spec (ht _ zg_tACl)
  obtain ⟨p1, c1, k1, -, -, j3, j4, j5⟩ := Jvm.Stand.arrayOver_specB (ht _ zg_tAA)
  obtain ⟨cW, aW, rW⟩ := zover (ht _ zg_tA0)
  obtain ⟨cL, aL, rL⟩ := zover (ht _ zg_tA1)
  obtain ⟨cS, aS, rS⟩ := zover (ht _ zg_tA2)
  obtain ⟨cH, aH, rH⟩ := zover (ht _ zg_tA3)
  obtain ⟨dC, dI, hKc⟩ := zclasses hz c0
  obtain ⟨a0, e0, t0⟩ := zold_row (f := zFl) (by decide) (hg _ zg_L1) (hg _ zg_L2) (fun j hj => hg _ (zg_L3 j hj)) (hg _ zg_L4) hI
  obtain ⟨a1, e1, t1⟩ := zold_row (f := zFs) (by decide) (hg _ zg_S1) (hg _ zg_S2) (fun j hj => hg _ (zg_S3 j hj)) (hg _ zg_S4) hI
  obtain ⟨adK, adV, hS, hev⟩ := vk_Sof (args := #[Value.ref b]) (s := s) (N := 16) (tm := zTm) (len := zSlen) (byt := zSbyt) (A := fun q => s.heap.size ≤ q) (by decide) (fun i hi => hg _ (zg_T0 i hi)) (fun i hi => hg _ (zg_T1 i hi)) (fun i hi => hg _ (zg_T2 i hi)) (fun i hi => hg _ (zg_T3 i hi)) (fun i hi j hj => hg _ (zg_T4 i hi j hj)) (fun i j hi hj hn => (zg_T5 i hi j hj hn).imp (hg _) (hg _)) hA
  obtain ⟨tq, fq, hq⟩ : ∃ tq fq : Nat, va_Z "jdk/internal/util/Preconditions" "SIOOBE_FORMATTER" "Ljava/util/function/BiFunction;" (if fq = 0 then Value.null else .ref tq) (fun q => s.heap.size ≤ q) s s.heap := by
    rcases va_Zqof (ht _ zg_tLQ) (ht _ zg_tI3) (hg _ zg_Q) hA with h | ⟨t, h⟩
    · exact ⟨0, 0, h⟩
    · exact ⟨t, 1, h⟩
  obtain ⟨aD, eD, tD⟩ := va_Tof (args := #[Value.ref b]) (s := s) (tm := zDO0) (ty := .byte) (N := 100) (f := fun j => .int (zDo j)) (A := fun q => s.heap.size ≤ q) (by decide) (hg _ zg_D1) (va_eqt (hg _ zg_D2)) (fun j hj => va_eqt (hg _ (zg_D3 j hj))) hA
  let ca : Nat → Nat := fun i => if i = 0 then a0 else if i = 1 then a1 else if i < 14 then adK (i - 2) else if i < 26 then adV (i - 14) else if i = 26 then b else if i = 27 then tq else if i = 28 then fq else if i < 85 then adK (i - 69) else if i < 89 then adV (i - 73) else aD
  let cA : Nat → ClassId := fun j => match j with | 0 => c0 | 1 => c1 | 2 => cW | 3 => cL | 4 => cS | 5 => cH | 6 => cB | _ => cG
  have eK : ∀ i, i < 16 → ca (zSa i) = adK i := fun i hi => by
    by_cases h : i < 12
    · have e : zSa i = 2 + i := if_pos h
      rw [e]
      show (if 2 + i = 0 then a0 else if 2 + i = 1 then a1 else if 2 + i < 14 then adK (2 + i - 2) else _) = _
      rw [if_neg (by omega), if_neg (by omega), if_pos (by omega), Nat.add_sub_cancel_left]
    · have e : zSa i = 69 + i := if_neg h
      rw [e]
      show (if 69 + i = 0 then a0 else if 69 + i = 1 then a1 else if 69 + i < 14 then adK (69 + i - 2) else if 69 + i < 26 then adV (69 + i - 14) else if 69 + i = 26 then b else if 69 + i = 27 then tq else if 69 + i = 28 then fq else if 69 + i < 85 then adK (69 + i - 69) else _) = _
      rw [if_neg (by omega), if_neg (by omega), if_neg (by omega), if_neg (by omega), if_neg (by omega), if_neg (by omega), if_neg (by omega), if_pos (by omega), Nat.add_sub_cancel_left]
  have eV : ∀ i, i < 16 → ca (zVa i) = adV i := fun i hi => by
    by_cases h : i < 12
    · have e : zVa i = 14 + i := if_pos h
      rw [e]
      show (if 14 + i = 0 then a0 else if 14 + i = 1 then a1 else if 14 + i < 14 then adK (14 + i - 2) else if 14 + i < 26 then adV (14 + i - 14) else _) = _
      rw [if_neg (by omega), if_neg (by omega), if_neg (by omega), if_pos (by omega), Nat.add_sub_cancel_left]
    · have e : zVa i = 73 + i := if_neg h
      rw [e]
      show (if 73 + i = 0 then a0 else if 73 + i = 1 then a1 else if 73 + i < 14 then adK (73 + i - 2) else if 73 + i < 26 then adV (73 + i - 14) else if 73 + i = 26 then b else if 73 + i = 27 then tq else if 73 + i = 28 then fq else if 73 + i < 85 then adK (73 + i - 69) else if 73 + i < 89 then adV (73 + i - 73) else _) = _
      rw [if_neg (by omega), if_neg (by omega), if_neg (by omega), if_neg (by omega), if_neg (by omega), if_neg (by omega), if_neg (by omega), if_neg (by omega), if_pos (by omega), Nat.add_sub_cancel_left]
  refine ⟨(s.heap.size, s, (dC, dI), cA, ca, fun _ _ => none, L, xs, none), ?_, ?_, fun _ _ => rfl, rfl, rfl, rfl, rfl, rfl, rfl⟩
  · refine ⟨rfl, ⟨hKc, fun k q hk => ?_⟩, ⟨hX, hbl⟩, ⟨va_Zref (ht _ zg_tL) (ht _ zg_tI1) e0 hA, t0⟩, ⟨va_Zref (ht _ zg_tLS) (ht _ zg_tI1) e1 hA, t1⟩, va_Zof (ht _ zg_tLC) (ht _ zg_tI2) (va_eqt (hg _ zg_C)) hA, zvkS hS eK eV, fun C hC => ?_, Jvm.Stand.arrayOver_alikeB (Vm.Alike.refl _) (ht _ zg_tAA), ?_, ⟨va_Zref (ht _ zg_tLD) (ht _ zg_tI4) eD hA, tD⟩⟩
    · match k, hk with
      | 0, hk => cases hk; exact ⟨fun n z => ⟨fun k h => (by cases h), k0, i2, p0, i3⟩, hI⟩
      | 1, hk => cases hk; exact ⟨fun n z => ⟨fun k h => (by cases h), k1, j3, p1, j4⟩, j5⟩
      | 2, hk => cases hk; exact ⟨aW, rW⟩
      | 3, hk => cases hk; exact ⟨aL, rL⟩
      | 4, hk => cases hk; exact ⟨aS, rS⟩
      | 5, hk => cases hk; exact ⟨aH, rH⟩
      | 6, hk => cases hk; exact ⟨fun n z => ⟨fun k h => (by cases h), kB, b2, pB, b3⟩, hB⟩
      | 7, hk => cases hk; exact ⟨fun n z => ⟨fun k h => (by cases h), kG, g2, pG, g3⟩, hGl⟩
      | k + 8, hk => simp [zT] at hk
    · simp only [List.mem_cons, List.not_mem_nil, or_false] at hC
      rcases hC with rfl | rfl | rfl | rfl
      · exact va_AO.of (ht _ zg_tA0)
      · exact va_AO.of (ht _ zg_tA1)
      · exact va_AO.of (ht _ zg_tA2)
      · exact va_AO.of (ht _ zg_tA3)
    · have e : (if fq = 0 then Value.null else .ref tq) = va_rf ((if fq = 0 then none else some 27 : Option Nat).map ca) := by
        by_cases h : fq = 0
        · rw [if_pos h, if_pos h]; rfl
        · rw [if_neg h, if_neg h]; rfl
      rw [e] at hq
      exact hq
  · refine ⟨Vm.Alike.refl _, Nat.le_refl _, fun q _ => rfl, fun i hi => ?_, fun v hv => va_Nw.of (zg_tN v hv).2 (ht _ (zg_tN v hv).1)⟩
    show vk_R (zSow i) (zSix.getD i 0) (zStx.getD i "") (ca (zSa i)) s
    rw [eK i hi]
    exact vk_R.of (ht _ (zg_tS i hi)) (hev i hi)
