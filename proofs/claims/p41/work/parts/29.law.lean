/-! THE CLAIM OUT OF ONE WALK OF THE LAW'S BODY. Your part is whole_start (and what it stands on); all else here is the same for every law, but numbers. -/
def R_law : String := "NineHeapsLaw"
def lw_P (b : Addr) (xs : List Int32) (args : Array Value) (s : State) : Prop := args = #[.ref b] ∧ s.IntsAt b xs ∧ xs.length ≤ 260 ∧ (Jvm.Cond.and given_1 narrow_1).before args s = true
def lw_Q (_ : Array Value) (s : State) (o : Outcome) (t : State) : Prop := o = .returned (some (.int 1)) ∧ Framed s o t [] 600000 7302250
def lw_Z (below : List Frame) (a : Array Value) (s : State) : State → Prop := fun t => ∃ o, t.status = .running ∧ Ended t below o ∧ lw_Q a s o t
/-- the law's own end, with 1 on the stack, nothing written that was there before, its room as the claim has it -/
theorem lw_ret {p : Program} {l : Launch} {e : Env} {s : State} {m : MethodId} {below : List Frame} {meth : Method} {c : Code} {b : Nat} (hx : p.tables.exec = Jvm.exec) (hb : c.code = code) (hr : meth.sig.returnType = ret) (hlocks : meth.locks = false) {pc : Nat} {H : Heap} {ls : Array Slot} (hdg : decode code pc = .ok (.ireturn, 1)) : W p l e room_1 s m #[Value.ref b] below meth c H [] 600000 7302250 (lw_Z below #[Value.ref b] s) (F0 m pc ls [.int 1]) := by
  intro T hT X
  obtain ⟨fs, hret, hrun, hended, hW, hframe⟩ := X.leave (v := some (.int 1)) (hlocks := hlocks) (fun h => by rw [hr] at h; cases h)
  have hmeth' : T.vm.method? m = some meth := X.method'
  refine ⟨T.setFrames fs, ?_, .returned (some (.int 1)), hrun, hended, rfl, ⟨_, rfl⟩, hW, hframe⟩
  jvm_step X.here [X.here.top, hx, hb, hdg, hmeth', hr, ret, narrow_b1]
  (try refine ⟨rfl, ?_⟩); (try refine ⟨rfl, ?_⟩)
  first | (intro acts; rw [hret _ acts rfl rfl rfl]) | rw [hret _ _ rfl rfl rfl]
  exact Steps.refl _
/-- what holds at the law's entry: the machine, the code, the tables' words (any of lw_tbl by 'hts w (by decide +kernel)'), the script of L ints xs at the cell b, what the Statement gives of the start (any of its parts by flat_of_before) -/
def lw_At (p : Program) (s : State) (m : MethodId) (meth : Method) (c : Code) (b L : Nat) (xs : Nat → Int32) : Prop :=
  p.tables.exec = Jvm.exec ∧ c.code = code ∧ meth.sig.returnType = ret ∧ c.maxLocals = 11 ∧ s.vm.findClass R_law = some m.cls ∧ (∀ w ∈ lw_tbl, w.before #[Value.ref b] s = true) ∧ va_X b L xs s s.heap ∧ b < s.heap.size ∧ meth.locks = false ∧ (Jvm.Cond.and given_1 narrow_1).before #[Value.ref b] s = true
/-- the law's function comes to 1, with some choice of ghosts -/
def zLawOk (L : Nat) (xs : Nat → Int32) : Prop := ∃ (J : zMI) (n : Nat) (kd : zMK) (I I' : zMI) (R : zMR) (h1 : zML) (m a8 : Int32) (pl : Int32 × zML) (gh : zGh), zGhe gh ∧ fL_build L xs 114 zB1k (zB1I J) zB1R = some (32, (n, kd), I, R) ∧ zSh n kd ∧ zGE I I' ∧ fL_start L xs (fun _ => 0) = some h1 ∧ fL_many L xs = some m ∧ fL_at L xs 8 = some a8 ∧
  fL_plainly L xs 9 ((a8 &&& (1023 : Int32)) - (a8 &&& (1023 : Int32)) / (601 : Int32) * (601 : Int32)) h1 = some pl ∧ fL_law (n + 1) (uK kd n (14, 130)) L xs n pl.2 gh m ((a8 &&& (1023 : Int32)) - (a8 &&& (1023 : Int32)) / (601 : Int32) * (601 : Int32)) (uA I' n (fun _ => 0)) (uRA R n) = some 1
theorem zstart {p : Program} {e : Env} {s : State} {m : MethodId} {below : List Frame} {meth : Method} {c : Code} (l : Launch) {b L : Nat} {xs : Nat → Int32} (hname : meth.name = "law") (C0 : lw_At p s m meth c b L xs) (hp : zLawOk L xs) :
    W p l e room_1 s m #[Value.ref b] below meth c s.heap [] 0 0 (lw_Z below #[Value.ref b] s) (entryFrame m ([Value.ref b] : List Value).toArray 11) := by
  obtain ⟨hx, hb, hr, hml, hown, hts, hX, hbl, hlocks, hgv⟩ := id C0
  obtain ⟨w, hG, hF, hw, hb0, hs0, hL, hxs, hhm, h26⟩ := zworld hts hX hbl hgv
  obtain ⟨J, n, kd, I, I', R, h1, mm, a8, pl, gh, o1, o2, o3, o4, o5, o6, o7, o8, o9⟩ := hp
  rw [← hL, ← hxs] at o2 o5 o6 o7 o8 o9
  have h := eL_all (w := w) (d := 139) hw hhm (Nat.le_refl _) o1 o2 o3 o4 o5 o6 o7 rfl o8 o9
  have hl := lv_entry ([.ref b]) (n := 11) (Nat.le_of_ble_eq_true rfl)
  rw [lg_entry_eq]
  generalize (lg_sl ([.ref b]) ++ List.replicate (11 - (lg_sl ([.ref b])).length) Slot.unset).toArray = ls at hl ⊢
  have hl : lv_has ls 11 [(0, .ref b)] := hl
  have hl2 : zL w 11 ls [some (.ref 26), none, none, none, none, none, none, none, none, none, none] := by
    show lv_has ls 11 [(0, .ref (zad w 26))]
    rw [h26]
    exact hl
  have hP : zRp w s (32, zD0, zI0, zR0) s.heap [] := ⟨zNm0 w s.heap hb0, va_S.rf⟩
  refine h p l e room_1 s m #[Value.ref b] below meth c s.heap [] 0 0 _ ls hG ⟨hx, hb, hml, hown, zwords hts, hr, hlocks, hname, hF⟩ hl2 hP (by decide) (by decide) (by decide) (by decide) (fun v μ' H' locs' cells' slots' pc' ls' q hP' hc hsl hret => ?_)
  subst q
  have hdg : decode code pc' = .ok (.ireturn, 1) := by
    rcases hret with ⟨x, -, h2, -⟩ | ⟨x, h1, -⟩ | ⟨x, h1, h2, -⟩ | ⟨h1, -⟩
    · exact h2
    · cases h1
    · have e := Option.some.inj h1
      rcases h2 with rfl | ⟨a, rfl⟩ <;> cases e
    · cases h1
  refine va_forget (fun q hq => by have h9 := hP'.2.2.2 q hq; unfold zAq at h9; rw [hb0] at h9; exact h9) ?_
  refine W.widen (k := 600000) (n := 7302250) (by omega) (by omega) ?_
  exact lw_ret hx hb hr hlocks hdg
