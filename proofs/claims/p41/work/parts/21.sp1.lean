/-! the machine does as the functions say: laid by program -/
abbrev qL_at (μ : zM) (r : Int32) : Option Value → zM → Prop := fun v μ1 => v = some (.int r) ∧ μ1 = μ
set_option maxHeartbeats 4000000 in
set_option maxRecDepth 100000 in
theorem eL_at {w : zW} {d : Nat} {sl : Nat} {sf : Nat → Int32} {μ : zM} {r : Int32} {l1 : Int32} (hsl : zxl w = sl) (hsf : zxs w = sf) (hd : 1 ≤ d)  (h : fL_at sl sf l1 = some r) : EV w d 0 0 YL_at 0 [some (.ref 26), some (.int l1)] [] μ (qL_at μ r) := by
  unfold fL_at at h
  refine ev_iload_n dL_at_0 rfl rfl ?_
  refine ev_aload_n dL_at_1 rfl rfl ?_
  refine ev_slen dL_at_2 (x := Int32.ofNat sl) (by rw [hsl]) ?_
  obtain ⟨x3, e4, h⟩ := zbd h
  have k5 : EV w d 0 0 YL_at 13 [some (.ref 26), some (.int l1)] [.int x3] μ (qL_at μ r) := by
    obtain rfl := Option.some.inj h
    exact ev_end_i dL_at_13 rfl rfl ⟨rfl, rfl⟩
  clear h
  have h := e4
  clear e4
  refine ev_icmp_ge dL_at_3 (tgt := 12) (by decide) (fun c1 => ?_) (fun c1 => ?_)
  · replace h := zit c1 h
    refine ev_iconst dL_at_12 (v := (0 : Int32)) zci_0 ?_
    obtain rfl := Option.some.inj h
    exact k5
  · replace h := zif c1 h
    refine ev_aload_n dL_at_6 rfl rfl ?_
    refine ev_iload_n dL_at_7 rfl rfl ?_
    obtain ⟨g2, h⟩ := zgd h
    refine ev_sld dL_at_8 (by rw [hsl]; exact zib_in g2) (x := sf l1.toNatClampNeg) (by rw [hsf]) ?_
    refine ev_goto dL_at_9 (tgt := 13) (by decide) ?_
    obtain rfl := Option.some.inj h
    exact k5
abbrev qL_plain (μ : zM) (r : Int32) : Option Value → zM → Prop := fun v μ1 => v = some (.int r) ∧ μ1 = μ
set_option maxHeartbeats 4000000 in
set_option maxRecDepth 100000 in
theorem eL_plain {w : zW} {d : Nat} {sl : Nat} {sf : Nat → Int32} {μ : zM} {r : Int32}  (hsl : zxl w = sl) (hsf : zxs w = sf) (hd : 2 ≤ d)  (h : fL_plain sl sf = some r) : EV w d 0 0 YL_plain 0 [some (.ref 26)] [] μ (qL_plain μ r) := by
  unfold fL_plain at h
  refine ev_aload_n dL_plain_0 rfl rfl ?_
  refine ev_iconst dL_plain_1 (v := (0 : Int32)) zci_0 ?_
  obtain ⟨p1, e2, h⟩ := zbd h
  refine ev_callS0 dL_plain_2 zmL_at zl_NineHeapsLaw_69 zsL_at (As := [.ref 26, .int (0 : Int32)]) (rest := []) rfl rfl (Nat.le_of_ble_eq_true rfl) rfl (Nat.le_of_ble_eq_true rfl) (d' := 1) (by omega) (eL_at hsl hsf (Nat.le_refl _) e2) (fun v μ1 q => ?_)
  obtain ⟨rfl, q2⟩ := q
  rw [q2]
  clear q2
  refine ev_bipush dL_plain_5 (v := (11 : Int32)) zcb_11 ?_
  refine ev_ishr dL_plain_7 rfl ?_
  refine ev_iconst dL_plain_8 (v := (1 : Int32)) zci_1 ?_
  refine ev_iand dL_plain_9 rfl ?_
  obtain ⟨x4, e5, h⟩ := zld h
  have k7 : EV w d 0 0 YL_plain 18 [some (.ref 26)] [.int x4] μ (qL_plain μ r) := by
    obtain ⟨g6, h⟩ := zgd h
    obtain rfl := Option.some.inj h
    exact ev_end_i dL_plain_18 rfl (zbB_n g6) ⟨rfl, rfl⟩
  clear h
  have h := e5
  clear e5
  refine ev_if_ne dL_plain_10 (tgt := 17) (by decide) (fun c3 => ?_) (fun c3 => ?_)
  · replace h := zif c3 h
    refine ev_iconst dL_plain_17 (v := (0 : Int32)) zci_0 ?_
    obtain rfl := h
    exact k7
  · replace h := zit c3 h
    refine ev_iconst dL_plain_13 (v := (1 : Int32)) zci_1 ?_
    refine ev_goto dL_plain_14 (tgt := 18) (by decide) ?_
    obtain rfl := h
    exact k7
abbrev qL_many (μ : zM) (r : Int32) : Option Value → zM → Prop := fun v μ1 => v = some (.int r) ∧ μ1 = μ
set_option maxHeartbeats 4000000 in
set_option maxRecDepth 100000 in
theorem eL_many {w : zW} {d : Nat} {sl : Nat} {sf : Nat → Int32} {μ : zM} {r : Int32}  (hsl : zxl w = sl) (hsf : zxs w = sf) (hd : 2 ≤ d)  (h : fL_many sl sf = some r) : EV w d 0 0 YL_many 0 [some (.ref 26)] [] μ (qL_many μ r) := by
  unfold fL_many at h
  refine ev_iconst dL_many_0 (v := (1 : Int32)) zci_1 ?_
  refine ev_aload_n dL_many_1 rfl rfl ?_
  refine ev_iconst dL_many_2 (v := (0 : Int32)) zci_0 ?_
  obtain ⟨p1, e2, h⟩ := zbd h
  refine ev_callS0 dL_many_3 zmL_at zl_NineHeapsLaw_69 zsL_at (As := [.ref 26, .int (0 : Int32)]) (rest := [.int (1 : Int32)]) rfl rfl (Nat.le_of_ble_eq_true rfl) rfl (Nat.le_of_ble_eq_true rfl) (d' := 1) (by omega) (eL_at hsl hsf (Nat.le_refl _) e2) (fun v μ1 q => ?_)
  obtain ⟨rfl, q2⟩ := q
  rw [q2]
  clear q2
  refine ev_iconst dL_many_6 (v := (3 : Int32)) zci_3 ?_
  refine ev_iand dL_many_7 rfl ?_
  refine ev_iconst dL_many_8 (v := (3 : Int32)) zci_3 ?_
  refine ev_irem dL_many_9 (by decide) rfl ?_
  refine ev_iadd dL_many_10 rfl ?_
  obtain rfl := Option.some.inj h
  exact ev_end_i dL_many_11 rfl rfl ⟨rfl, rfl⟩
abbrev qL_want (μ : zM) (r : Int32) : Option Value → zM → Prop := fun v μ1 => v = some (.int r) ∧ μ1 = μ
set_option maxHeartbeats 4000000 in
set_option maxRecDepth 100000 in
theorem eL_want {w : zW} {d : Nat} {sl : Nat} {sf : Nat → Int32} {μ : zM} {r : Int32}  (hsl : zxl w = sl) (hsf : zxs w = sf) (hd : 2 ≤ d)  (h : fL_want sl sf = some r) : EV w d 0 0 YL_want 0 [some (.ref 26)] [] μ (qL_want μ r) := by
  unfold fL_want at h
  refine ev_iconst dL_want_0 (v := (1 : Int32)) zci_1 ?_
  refine ev_aload_n dL_want_1 rfl rfl ?_
  refine ev_iconst dL_want_2 (v := (0 : Int32)) zci_0 ?_
  obtain ⟨p1, e2, h⟩ := zbd h
  refine ev_callS0 dL_want_3 zmL_at zl_NineHeapsLaw_69 zsL_at (As := [.ref 26, .int (0 : Int32)]) (rest := [.int (1 : Int32)]) rfl rfl (Nat.le_of_ble_eq_true rfl) rfl (Nat.le_of_ble_eq_true rfl) (d' := 1) (by omega) (eL_at hsl hsf (Nat.le_refl _) e2) (fun v μ1 q => ?_)
  obtain ⟨rfl, q2⟩ := q
  rw [q2]
  clear q2
  refine ev_iconst dL_want_6 (v := (2 : Int32)) zci_2 ?_
  refine ev_ishr dL_want_7 rfl ?_
  refine ev_bipush dL_want_8 (v := (15 : Int32)) zcb_15 ?_
  refine ev_iand dL_want_10 rfl ?_
  refine ev_iadd dL_want_11 rfl ?_
  obtain rfl := Option.some.inj h
  exact ev_end_i dL_want_12 rfl rfl ⟨rfl, rfl⟩
abbrev qL_high (μ : zM) (r : Int32) : Option Value → zM → Prop := fun v μ1 => v = some (.int r) ∧ μ1 = μ
set_option maxHeartbeats 4000000 in
set_option maxRecDepth 100000 in
theorem eL_high {w : zW} {d : Nat} {sl : Nat} {sf : Nat → Int32} {μ : zM} {r : Int32} {l1 : Int32} (hsl : zxl w = sl) (hsf : zxs w = sf) (hd : 2 ≤ d)  (h : fL_high sl sf l1 = some r) : EV w d 0 0 YL_high 0 [some (.ref 26), some (.int l1)] [] μ (qL_high μ r) := by
  unfold fL_high at h
  refine ev_aload_n dL_high_0 rfl rfl ?_
  refine ev_iconst dL_high_1 (v := (1 : Int32)) zci_1 ?_
  refine ev_iload_n dL_high_2 rfl rfl ?_
  refine ev_iconst dL_high_3 (v := (3 : Int32)) zci_3 ?_
  refine ev_idiv dL_high_4 (by decide) rfl ?_
  refine ev_iadd dL_high_5 rfl ?_
  obtain ⟨p1, e2, h⟩ := zbd h
  refine ev_callS0 dL_high_6 zmL_at zl_NineHeapsLaw_69 zsL_at (As := [.ref 26, .int ((1 : Int32) + (l1 / (3 : Int32)))]) (rest := []) rfl rfl (Nat.le_of_ble_eq_true rfl) rfl (Nat.le_of_ble_eq_true rfl) (d' := 1) (by omega) (eL_at hsl hsf (Nat.le_refl _) e2) (fun v μ1 q => ?_)
  obtain ⟨rfl, q2⟩ := q
  rw [q2]
  clear q2
  refine ev_bipush dL_high_9 (v := (7 : Int32)) zcb_7 ?_
  refine ev_iload_n dL_high_11 rfl rfl ?_
  refine ev_iconst dL_high_12 (v := (3 : Int32)) zci_3 ?_
  refine ev_irem dL_high_13 (by decide) rfl ?_
  refine ev_imul dL_high_14 rfl ?_
  refine ev_ishr dL_high_15 rfl ?_
  refine ev_bipush dL_high_16 (v := (127 : Int32)) zcb_127 ?_
  refine ev_iand dL_high_18 rfl ?_
  refine ev_aload_n dL_high_19 rfl rfl ?_
  refine ev_iconst dL_high_20 (v := (0 : Int32)) zci_0 ?_
  obtain ⟨p3, e4, h⟩ := zbd h
  refine ev_callS0 dL_high_21 zmL_at zl_NineHeapsLaw_69 zsL_at (As := [.ref 26, .int (0 : Int32)]) (rest := [.int ((p1 >>> (((7 : Int32) * (l1 - l1 / (3 : Int32) * (3 : Int32))) &&& 31)) &&& (127 : Int32))]) rfl rfl (Nat.le_of_ble_eq_true rfl) rfl (Nat.le_of_ble_eq_true rfl) (d' := 1) (by omega) (eL_at hsl hsf (Nat.le_refl _) e4) (fun v μ1 q => ?_)
  obtain ⟨rfl, q2⟩ := q
  rw [q2]
  clear q2
  refine ev_bipush dL_high_24 (v := (12 : Int32)) zcb_12 ?_
  refine ev_ishr dL_high_26 rfl ?_
  refine ev_iconst dL_high_27 (v := (1 : Int32)) zci_1 ?_
  refine ev_iand dL_high_28 rfl ?_
  obtain ⟨x6, e7, h⟩ := zld h
  have k9 : EV w d 0 0 YL_high 39 [some (.ref 26), some (.int l1)] [.int x6, .int ((p1 >>> (((7 : Int32) * (l1 - l1 / (3 : Int32) * (3 : Int32))) &&& 31)) &&& (127 : Int32))] μ (qL_high μ r) := by
    obtain ⟨g8, h⟩ := zgd h
    refine ev_irem dL_high_39 g8 rfl ?_
    obtain rfl := Option.some.inj h
    exact ev_end_i dL_high_40 rfl rfl ⟨rfl, rfl⟩
  clear h
  have h := e7
  clear e7
  refine ev_if_ne dL_high_29 (tgt := 37) (by decide) (fun c5 => ?_) (fun c5 => ?_)
  · replace h := zif c5 h
    refine ev_bipush dL_high_37 (v := (101 : Int32)) zcb_101 ?_
    obtain rfl := h
    exact k9
  · replace h := zit c5 h
    refine ev_bipush dL_high_32 (v := (25 : Int32)) zcb_25 ?_
    refine ev_goto dL_high_34 (tgt := 39) (by decide) ?_
    obtain rfl := h
    exact k9
abbrev qL_stick (μ : zM) (r : Int32) : Option Value → zM → Prop := fun v μ1 => v = some (.int r) ∧ μ1 = μ
set_option maxHeartbeats 4000000 in
set_option maxRecDepth 100000 in
theorem eL_stick {w : zW} {d : Nat} {sl : Nat} {sf : Nat → Int32} {μ : zM} {r : Int32} {l1 : Int32} (hsl : zxl w = sl) (hsf : zxs w = sf) (hd : 2 ≤ d)  (h : fL_stick sl sf l1 = some r) : EV w d 0 0 YL_stick 0 [some (.ref 26), some (.int l1)] [] μ (qL_stick μ r) := by
  unfold fL_stick at h
  refine ev_aload_n dL_stick_0 rfl rfl ?_
  refine ev_iconst dL_stick_1 (v := (4 : Int32)) zci_4 ?_
  refine ev_iload_n dL_stick_2 rfl rfl ?_
  refine ev_iconst dL_stick_3 (v := (5 : Int32)) zci_5 ?_
  refine ev_idiv dL_stick_4 (by decide) rfl ?_
  refine ev_iadd dL_stick_5 rfl ?_
  obtain ⟨p1, e2, h⟩ := zbd h
  refine ev_callS0 dL_stick_6 zmL_at zl_NineHeapsLaw_69 zsL_at (As := [.ref 26, .int ((4 : Int32) + (l1 / (5 : Int32)))]) (rest := []) rfl rfl (Nat.le_of_ble_eq_true rfl) rfl (Nat.le_of_ble_eq_true rfl) (d' := 1) (by omega) (eL_at hsl hsf (Nat.le_refl _) e2) (fun v μ1 q => ?_)
  obtain ⟨rfl, q2⟩ := q
  rw [q2]
  clear q2
  refine ev_iconst dL_stick_9 (v := (4 : Int32)) zci_4 ?_
  refine ev_iload_n dL_stick_10 rfl rfl ?_
  refine ev_iconst dL_stick_11 (v := (5 : Int32)) zci_5 ?_
  refine ev_irem dL_stick_12 (by decide) rfl ?_
  refine ev_imul dL_stick_13 rfl ?_
  refine ev_ishr dL_stick_14 rfl ?_
  refine ev_bipush dL_stick_15 (v := (15 : Int32)) zcb_15 ?_
  refine ev_iand dL_stick_17 rfl ?_
  refine ev_bipush dL_stick_18 (v := (10 : Int32)) zcb_10 ?_
  refine ev_irem dL_stick_20 (by decide) rfl ?_
  obtain rfl := Option.some.inj h
  exact ev_end_i dL_stick_21 rfl rfl ⟨rfl, rfl⟩
abbrev qL_kind (μ : zM) (r : Int32) : Option Value → zM → Prop := fun v μ1 => v = some (.int r) ∧ μ1 = μ
set_option maxHeartbeats 4000000 in
set_option maxRecDepth 100000 in
theorem eL_kind {w : zW} {d : Nat} {sl : Nat} {sf : Nat → Int32} {μ : zM} {r : Int32} {l1 : Int32} (hsl : zxl w = sl) (hsf : zxs w = sf) (hd : 2 ≤ d)  (h : fL_kind sl sf l1 = some r) : EV w d 0 0 YL_kind 0 [some (.ref 26), some (.int l1)] [] μ (qL_kind μ r) := by
  unfold fL_kind at h
  refine ev_aload_n dL_kind_0 rfl rfl ?_
  refine ev_bipush dL_kind_1 (v := (6 : Int32)) zcb_6 ?_
  obtain ⟨p1, e2, h⟩ := zbd h
  refine ev_callS0 dL_kind_3 zmL_at zl_NineHeapsLaw_69 zsL_at (As := [.ref 26, .int (6 : Int32)]) (rest := []) rfl rfl (Nat.le_of_ble_eq_true rfl) rfl (Nat.le_of_ble_eq_true rfl) (d' := 1) (by omega) (eL_at hsl hsf (Nat.le_refl _) e2) (fun v μ1 q => ?_)
  obtain ⟨rfl, q2⟩ := q
  rw [q2]
  clear q2
  refine ev_bipush dL_kind_6 (v := (10 : Int32)) zcb_10 ?_
  refine ev_iload_n dL_kind_8 rfl rfl ?_
  refine ev_imul dL_kind_9 rfl ?_
  refine ev_ishr dL_kind_10 rfl ?_
  refine ev_bipush dL_kind_11 (v := (7 : Int32)) zcb_7 ?_
  refine ev_iand dL_kind_13 rfl ?_
  refine ev_bipush dL_kind_14 (v := (6 : Int32)) zcb_6 ?_
  refine ev_irem dL_kind_16 (by decide) rfl ?_
  obtain rfl := Option.some.inj h
  exact ev_end_i dL_kind_17 rfl rfl ⟨rfl, rfl⟩
abbrev qL_more (μ : zM) (r : Int32) : Option Value → zM → Prop := fun v μ1 => v = some (.int r) ∧ μ1 = μ
set_option maxHeartbeats 4000000 in
set_option maxRecDepth 100000 in
theorem eL_more {w : zW} {d : Nat} {sl : Nat} {sf : Nat → Int32} {μ : zM} {r : Int32} {l1 : Int32} (hsl : zxl w = sl) (hsf : zxs w = sf) (hd : 2 ≤ d)  (h : fL_more sl sf l1 = some r) : EV w d 0 0 YL_more 0 [some (.ref 26), some (.int l1)] [] μ (qL_more μ r) := by
  unfold fL_more at h
  refine ev_aload_n dL_more_0 rfl rfl ?_
  refine ev_bipush dL_more_1 (v := (6 : Int32)) zcb_6 ?_
  obtain ⟨p1, e2, h⟩ := zbd h
  refine ev_callS0 dL_more_3 zmL_at zl_NineHeapsLaw_69 zsL_at (As := [.ref 26, .int (6 : Int32)]) (rest := []) rfl rfl (Nat.le_of_ble_eq_true rfl) rfl (Nat.le_of_ble_eq_true rfl) (d' := 1) (by omega) (eL_at hsl hsf (Nat.le_refl _) e2) (fun v μ1 q => ?_)
  obtain ⟨rfl, q2⟩ := q
  rw [q2]
  clear q2
  refine ev_bipush dL_more_6 (v := (10 : Int32)) zcb_10 ?_
  refine ev_iload_n dL_more_8 rfl rfl ?_
  refine ev_imul dL_more_9 rfl ?_
  refine ev_iconst dL_more_10 (v := (3 : Int32)) zci_3 ?_
  refine ev_iadd dL_more_11 rfl ?_
  refine ev_ishr dL_more_12 rfl ?_
  refine ev_bipush dL_more_13 (v := (15 : Int32)) zcb_15 ?_
  refine ev_iand dL_more_15 rfl ?_
  refine ev_bipush dL_more_16 (v := (10 : Int32)) zcb_10 ?_
  refine ev_irem dL_more_18 (by decide) rfl ?_
  obtain rfl := Option.some.inj h
  exact ev_end_i dL_more_19 rfl rfl ⟨rfl, rfl⟩
abbrev qL_from (μ : zM) (r : Int32) : Option Value → zM → Prop := fun v μ1 => v = some (.int r) ∧ μ1 = μ
set_option maxHeartbeats 4000000 in
set_option maxRecDepth 100000 in
theorem eL_from {w : zW} {d : Nat} {sl : Nat} {sf : Nat → Int32} {μ : zM} {r : Int32} {l1 : Int32} (hsl : zxl w = sl) (hsf : zxs w = sf) (hd : 2 ≤ d)  (h : fL_from sl sf l1 = some r) : EV w d 0 0 YL_from 0 [some (.ref 26), some (.int l1)] [] μ (qL_from μ r) := by
  unfold fL_from at h
  refine ev_aload_n dL_from_0 rfl rfl ?_
  refine ev_bipush dL_from_1 (v := (7 : Int32)) zcb_7 ?_
  obtain ⟨p1, e2, h⟩ := zbd h
  refine ev_callS0 dL_from_3 zmL_at zl_NineHeapsLaw_69 zsL_at (As := [.ref 26, .int (7 : Int32)]) (rest := []) rfl rfl (Nat.le_of_ble_eq_true rfl) rfl (Nat.le_of_ble_eq_true rfl) (d' := 1) (by omega) (eL_at hsl hsf (Nat.le_refl _) e2) (fun v μ1 q => ?_)
  obtain ⟨rfl, q2⟩ := q
  rw [q2]
  clear q2
  refine ev_iconst dL_from_6 (v := (4 : Int32)) zci_4 ?_
  refine ev_iload_n dL_from_7 rfl rfl ?_
  refine ev_imul dL_from_8 rfl ?_
  refine ev_ishr dL_from_9 rfl ?_
  refine ev_bipush dL_from_10 (v := (15 : Int32)) zcb_15 ?_
  refine ev_iand dL_from_12 rfl ?_
  refine ev_bipush dL_from_13 (v := (9 : Int32)) zcb_9 ?_
  refine ev_irem dL_from_15 (by decide) rfl ?_
  obtain rfl := Option.some.inj h
  exact ev_end_i dL_from_16 rfl rfl ⟨rfl, rfl⟩
abbrev qL_held (μ : zM) (r : Int32) : Option Value → zM → Prop := fun v μ1 => v = some (.int r) ∧ μ1 = μ
set_option maxHeartbeats 4000000 in
set_option maxRecDepth 100000 in
theorem eL_held {w : zW} {d : Nat} {sl : Nat} {sf : Nat → Int32} {μ : zM} {r : Int32} {l0 : Int64} {l2 : Int32} {l3 : Int32} (hsl : zxl w = sl) (hsf : zxs w = sf) (hd : 2 ≤ d)  (h : fL_held sl sf l0 l2 l3 = some r) : EV w d 0 0 YL_held 0 [some (.long l0), none, some (.int l2), some (.int l3)] [] μ (qL_held μ r) := by
  unfold fL_held at h
  refine ev_iload_n dL_held_0 rfl rfl ?_
  refine ev_i2l dL_held_1 rfl ?_
  refine ev_iload_n dL_held_2 rfl rfl ?_
  refine ev_i2l dL_held_3 rfl ?_
  refine ev_lload_n dL_held_4 rfl rfl ?_
  obtain ⟨x1, e2, h⟩ := zld h
  refine ev_minL dL_held_5 zl_NineHeapsLaw_95 zmm_minL_s zn_java_lang_Math zmm_minL_c (by omega) (Nat.le_of_ble_eq_true rfl) e2 ?_
  obtain ⟨x3, e4, h⟩ := zld h
  refine ev_maxL dL_held_8 zl_NineHeapsLaw_101 zmm_maxL_s zn_java_lang_Math zmm_maxL_c (by omega) (Nat.le_of_ble_eq_true rfl) e4 ?_
  refine ev_l2i dL_held_11 rfl ?_
  obtain rfl := Option.some.inj h
  exact ev_end_i dL_held_12 rfl rfl ⟨rfl, rfl⟩
abbrev qL_start (n : Nat) (kd : zMK) (J0 : zMI) (ah : Nat) (R : zMR) (r : zML) : Option Value → zM → Prop := fun v μ1 => v = none ∧ μ1 = zHm (n, kd, J0, R) ah r
set_option maxHeartbeats 4000000 in
set_option maxRecDepth 100000 in
theorem eL_start_L2 {w : zW} {d : Nat} {sl : Nat} {sf : Nat → Int32} {J0 : zMI} {ah : Nat} {n : Nat} {kd : zMK} {R : zMR} {r : zML} {k35 : zML → Option (zML)} (hsl : zxl w = sl) (hsf : zxs w = sf) (hh : zhm w = none) (ha : zHas n kd ah 14) (hn : (kd ah).2 = 130) (hd : 3 ≤ d)  (hk35 : ∀  (I : zML), k35 I = some r → EV w d 0 0 YL_start 35 [some (.ref 26), some (.ref ah), none] [] (zHm (n, kd, J0, R) ah I) (qL_start n kd J0 ah R r)) : ∀ (q : Nat) (l2 : Int32) (I : zML), fL_start_L2 sl sf k35 q l2 I = some r → EV w d 0 0 YL_start 2 [some (.ref 26), some (.ref ah), some (.int l2)] [] (zHm (n, kd, J0, R) ah I) (qL_start n kd J0 ah R r) := by
  intro q
  induction q with
  | zero =>
    intro l2 I h
    cases h
  | succ q ih =>
    intro l2 I h
    unfold fL_start_L2 at h
    refine ev_iload_n dL_start_2 rfl rfl ?_
    refine ev_bipush dL_start_3 (v := (9 : Int32)) zcb_9 ?_
    refine ev_icmp_ge dL_start_5 (tgt := 35) (by decide) (fun c1 => ?_) (fun c1 => ?_)
    · replace h := zit c1 h
      exact EV.mask [true, true, false] rfl (hk35 I h)
    · replace h := zif c1 h
      refine ev_aload_n dL_start_8 rfl rfl ?_
      refine ev_iload_n dL_start_9 rfl rfl ?_
      refine ev_aload_n dL_start_10 rfl rfl ?_
      refine ev_iload_n dL_start_11 rfl rfl ?_
      obtain ⟨p2, e3, h⟩ := zbd h
      refine ev_callS0 dL_start_12 zmL_high zl_NineHeapsLaw_24 zsL_high (As := [.ref 26, .int l2]) (rest := [.int l2, .ref ah]) rfl rfl (Nat.le_of_ble_eq_true rfl) rfl (Nat.le_of_ble_eq_true rfl) (d' := 2) (by omega) (eL_high hsl hsf (Nat.le_refl _) e3) (fun v μ1 q => ?_)
      obtain ⟨rfl, rfl⟩ := q
      refine ev_i2l dL_start_15 rfl ?_
      obtain ⟨g4, h⟩ := zgd h
      obtain ⟨J5, e6, h⟩ := zld h
      refine em_lastH hh dL_start_16 ha hn g4 e6 ?_
      refine ev_aload_n dL_start_17 rfl rfl ?_
      refine ev_bipush dL_start_18 (v := (9 : Int32)) zcb_9 ?_
      refine ev_iload_n dL_start_20 rfl rfl ?_
      refine ev_iadd dL_start_21 rfl ?_
      refine ev_aload_n dL_start_22 rfl rfl ?_
      refine ev_iload_n dL_start_23 rfl rfl ?_
      obtain ⟨p7, e8, h⟩ := zbd h
      refine ev_callS0 dL_start_24 zmL_stick zl_NineHeapsLaw_34 zsL_stick (As := [.ref 26, .int l2]) (rest := [.int ((9 : Int32) + l2), .ref ah]) rfl rfl (Nat.le_of_ble_eq_true rfl) rfl (Nat.le_of_ble_eq_true rfl) (d' := 2) (by omega) (eL_stick hsl hsf (Nat.le_refl _) e8) (fun v μ1 q => ?_)
      obtain ⟨rfl, rfl⟩ := q
      refine ev_i2l dL_start_27 rfl ?_
      obtain ⟨g9, h⟩ := zgd h
      obtain ⟨J10, e11, h⟩ := zld h
      refine em_lastH hh dL_start_28 ha hn g9 e11 ?_
      refine ev_iinc dL_start_29 (v := l2 + (1 : Int32)) rfl rfl (by decide) rfl ?_
      refine ev_goto dL_start_32 (tgt := 2) (by decide) ?_
      exact EV.mask [true, true, true] rfl (ih (l2 + (1 : Int32)) J10 h)
set_option maxHeartbeats 4000000 in
set_option maxRecDepth 100000 in
theorem eL_start_L37 {w : zW} {d : Nat} {sl : Nat} {sf : Nat → Int32} {J0 : zMI} {ah : Nat} {n : Nat} {kd : zMK} {R : zMR} {r : zML}  (hsl : zxl w = sl) (hsf : zxs w = sf) (hh : zhm w = none) (ha : zHas n kd ah 14) (hn : (kd ah).2 = 130) (hd : 3 ≤ d)   : ∀ (q : Nat) (l2 : Int32) (I : zML), fL_start_L37 sl sf q l2 I = some r → EV w d 0 0 YL_start 37 [some (.ref 26), some (.ref ah), some (.int l2)] [] (zHm (n, kd, J0, R) ah I) (qL_start n kd J0 ah R r) := by
  intro q
  induction q with
  | zero =>
    intro l2 I h
    cases h
  | succ q ih =>
    intro l2 I h
    unfold fL_start_L37 at h
    refine ev_iload_n dL_start_37 rfl rfl ?_
    refine ev_aload_n dL_start_38 rfl rfl ?_
    obtain ⟨p12, e13, h⟩ := zbd h
    refine ev_callS0 dL_start_39 zmL_many zl_NineHeapsLaw_41 zsL_many (As := [.ref 26]) (rest := [.int l2]) rfl rfl (Nat.le_of_ble_eq_true rfl) rfl (Nat.le_of_ble_eq_true rfl) (d' := 2) (by omega) (eL_many hsl hsf (Nat.le_refl _) e13) (fun v μ1 q => ?_)
    obtain ⟨rfl, rfl⟩ := q
    refine ev_icmp_ge dL_start_42 (tgt := 75) (by decide) (fun c14 => ?_) (fun c14 => ?_)
    · replace h := zit c14 h
      obtain rfl := Option.some.inj h
      exact ev_end_v dL_start_75 rfl ⟨rfl, rfl⟩
    · replace h := zif c14 h
      refine ev_aload_n dL_start_45 rfl rfl ?_
      refine ev_bipush dL_start_46 (v := (20 : Int32)) zcb_20 ?_
      refine ev_iload_n dL_start_48 rfl rfl ?_
      refine ev_iadd dL_start_49 rfl ?_
      refine ev_aload_n dL_start_50 rfl rfl ?_
      refine ev_iload_n dL_start_51 rfl rfl ?_
      obtain ⟨p15, e16, h⟩ := zbd h
      refine ev_callS0 dL_start_52 zmL_kind zl_NineHeapsLaw_44 zsL_kind (As := [.ref 26, .int l2]) (rest := [.int ((20 : Int32) + l2), .ref ah]) rfl rfl (Nat.le_of_ble_eq_true rfl) rfl (Nat.le_of_ble_eq_true rfl) (d' := 2) (by omega) (eL_kind hsl hsf (Nat.le_refl _) e16) (fun v μ1 q => ?_)
      obtain ⟨rfl, rfl⟩ := q
      refine ev_i2l dL_start_55 rfl ?_
      obtain ⟨g17, h⟩ := zgd h
      obtain ⟨J18, e19, h⟩ := zld h
      refine em_lastH hh dL_start_56 ha hn g17 e19 ?_
      refine ev_aload_n dL_start_57 rfl rfl ?_
      refine ev_bipush dL_start_58 (v := (25 : Int32)) zcb_25 ?_
      refine ev_iload_n dL_start_60 rfl rfl ?_
      refine ev_iadd dL_start_61 rfl ?_
      refine ev_aload_n dL_start_62 rfl rfl ?_
      refine ev_iload_n dL_start_63 rfl rfl ?_
      obtain ⟨p20, e21, h⟩ := zbd h
      refine ev_callS0 dL_start_64 zmL_from zl_NineHeapsLaw_50 zsL_from (As := [.ref 26, .int l2]) (rest := [.int ((25 : Int32) + l2), .ref ah]) rfl rfl (Nat.le_of_ble_eq_true rfl) rfl (Nat.le_of_ble_eq_true rfl) (d' := 2) (by omega) (eL_from hsl hsf (Nat.le_refl _) e21) (fun v μ1 q => ?_)
      obtain ⟨rfl, rfl⟩ := q
      refine ev_i2l dL_start_67 rfl ?_
      obtain ⟨g22, h⟩ := zgd h
      obtain ⟨J23, e24, h⟩ := zld h
      refine em_lastH hh dL_start_68 ha hn g22 e24 ?_
      refine ev_iinc dL_start_69 (v := l2 + (1 : Int32)) rfl rfl (by decide) rfl ?_
      refine ev_goto dL_start_72 (tgt := 37) (by decide) ?_
      exact EV.mask [true, true, true] rfl (ih (l2 + (1 : Int32)) J23 h)
set_option maxHeartbeats 4000000 in
set_option maxRecDepth 100000 in
theorem eL_start_B35 {w : zW} {d : Nat} {sl : Nat} {sf : Nat → Int32} {J0 : zMI} {ah : Nat} {n : Nat} {kd : zMK} {R : zMR} {r : zML}  (hsl : zxl w = sl) (hsf : zxs w = sf) (hh : zhm w = none) (ha : zHas n kd ah 14) (hn : (kd ah).2 = 130) (hd : 3 ≤ d)   : ∀  (I : zML), fL_start_B35 sl sf I = some r → EV w d 0 0 YL_start 35 [some (.ref 26), some (.ref ah), none] [] (zHm (n, kd, J0, R) ah I) (qL_start n kd J0 ah R r) := by
  intro I h
  unfold fL_start_B35 at h
  refine ev_iconst dL_start_35 (v := (0 : Int32)) zci_0 ?_
  refine ev_istore_n dL_start_36 rfl (by decide) rfl ?_
  exact EV.mask [true, true, true] rfl (eL_start_L37 hsl hsf hh ha hn hd zF (0 : Int32) I h)
set_option maxHeartbeats 4000000 in
set_option maxRecDepth 100000 in
theorem eL_start {w : zW} {d : Nat} {sl : Nat} {sf : Nat → Int32} {J0 : zMI} {ah : Nat} {n : Nat} {kd : zMK} {I : zML} {R : zMR} {r : zML}  (hsl : zxl w = sl) (hsf : zxs w = sf) (hh : zhm w = none) (ha : zHas n kd ah 14) (hn : (kd ah).2 = 130) (hd : 3 ≤ d)  (h : fL_start sl sf I = some r) : EV w d 0 0 YL_start 0 [some (.ref 26), some (.ref ah), none] [] (zHm (n, kd, J0, R) ah I) (qL_start n kd J0 ah R r) := by
  unfold fL_start at h
  refine ev_iconst dL_start_0 (v := (0 : Int32)) zci_0 ?_
  refine ev_istore_n dL_start_1 rfl (by decide) rfl ?_
  exact EV.mask [true, true, true] rfl (eL_start_L2 hsl hsf hh ha hn hd (fun I' h' => eL_start_B35 hsl hsf hh ha hn hd I' h') zF (0 : Int32) I h)
abbrev qL_begin (n : Nat) (kd : zMK) (J0 : zMI) (ah : Nat) (R : zMR) (r : zML) : Option Value → zM → Prop := fun v μ1 => v = none ∧ μ1 = zHm (n, kd, J0, R) ah r
set_option maxHeartbeats 4000000 in
set_option maxRecDepth 100000 in
theorem eL_begin_L3 {w : zW} {d : Nat} {sl : Nat} {sf : Nat → Int32} {J0 : zMI} {ah : Nat} {n : Nat} {kd : zMK} {R : zMR} {r : zML} {k19 : zML → Option (zML)} (hsl : zxl w = sl) (hsf : zxs w = sf) (hh : zhm w = none) (ha : zHas n kd ah 14) (hn : (kd ah).2 = 130) (hd : 1 ≤ d)  (hk19 : ∀  (I : zML), k19 I = some r → EV w d 0 0 YL_begin 19 [some (.ref ah), none] [] (zHm (n, kd, J0, R) ah I) (qL_begin n kd J0 ah R r)) : ∀ (q : Nat) (l1 : Int32) (I : zML), fL_begin_L3 sl sf k19 q l1 I = some r → EV w d 0 0 YL_begin 3 [some (.ref ah), some (.int l1)] [] (zHm (n, kd, J0, R) ah I) (qL_begin n kd J0 ah R r) := by
  intro q
  induction q with
  | zero =>
    intro l1 I h
    cases h
  | succ q ih =>
    intro l1 I h
    unfold fL_begin_L3 at h
    refine ev_iload_n dL_begin_3 rfl rfl ?_
    refine ev_bipush dL_begin_4 (v := (120 : Int32)) zcb_120 ?_
    refine ev_icmp_ge dL_begin_6 (tgt := 19) (by decide) (fun c1 => ?_) (fun c1 => ?_)
    · replace h := zit c1 h
      exact EV.mask [true, false] rfl (hk19 I h)
    · replace h := zif c1 h
      refine ev_aload_n dL_begin_9 rfl rfl ?_
      refine ev_iload_n dL_begin_10 rfl rfl ?_
      refine ev_lconst dL_begin_11 (v := (0 : Int64)) rfl ?_
      obtain ⟨g2, h⟩ := zgd h
      obtain ⟨J3, e4, h⟩ := zld h
      refine em_lastH hh dL_begin_12 ha hn g2 e4 ?_
      refine ev_iinc dL_begin_13 (v := l1 + (1 : Int32)) rfl rfl (by decide) rfl ?_
      refine ev_goto dL_begin_16 (tgt := 3) (by decide) ?_
      exact EV.mask [true, true] rfl (ih (l1 + (1 : Int32)) J3 h)
set_option maxHeartbeats 4000000 in
set_option maxRecDepth 100000 in
theorem eL_begin_L21 {w : zW} {d : Nat} {sl : Nat} {sf : Nat → Int32} {J0 : zMI} {ah : Nat} {n : Nat} {kd : zMK} {R : zMR} {r : zML} {k51 : zML → Option (zML)} (hsl : zxl w = sl) (hsf : zxs w = sf) (hh : zhm w = none) (ha : zHas n kd ah 14) (hn : (kd ah).2 = 130) (hd : 1 ≤ d)  (hk51 : ∀  (I : zML), k51 I = some r → EV w d 0 0 YL_begin 51 [some (.ref ah), none] [] (zHm (n, kd, J0, R) ah I) (qL_begin n kd J0 ah R r)) : ∀ (q : Nat) (l1 : Int32) (I : zML), fL_begin_L21 sl sf k51 q l1 I = some r → EV w d 0 0 YL_begin 21 [some (.ref ah), some (.int l1)] [] (zHm (n, kd, J0, R) ah I) (qL_begin n kd J0 ah R r) := by
  intro q
  induction q with
  | zero =>
    intro l1 I h
    cases h
  | succ q ih =>
    intro l1 I h
    unfold fL_begin_L21 at h
    refine ev_iload_n dL_begin_21 rfl rfl ?_
    refine ev_iconst dL_begin_22 (v := (5 : Int32)) zci_5 ?_
    refine ev_icmp_ge dL_begin_23 (tgt := 51) (by decide) (fun c5 => ?_) (fun c5 => ?_)
    · replace h := zit c5 h
      exact EV.mask [true, false] rfl (hk51 I h)
    · replace h := zif c5 h
      refine ev_aload_n dL_begin_26 rfl rfl ?_
      refine ev_bipush dL_begin_27 (v := (30 : Int32)) zcb_30 ?_
      refine ev_iload_n dL_begin_29 rfl rfl ?_
      refine ev_iadd dL_begin_30 rfl ?_
      refine ev_aload_n dL_begin_31 rfl rfl ?_
      refine ev_bipush dL_begin_32 (v := (25 : Int32)) zcb_25 ?_
      refine ev_iload_n dL_begin_34 rfl rfl ?_
      refine ev_iadd dL_begin_35 rfl ?_
      obtain ⟨g6, h⟩ := zgd h
      refine em_laldH hh dL_begin_36 ha hn g6 rfl ?_
      obtain ⟨g7, h⟩ := zgd h
      obtain ⟨J8, e9, h⟩ := zld h
      refine em_lastH hh dL_begin_37 ha hn g7 e9 ?_
      refine ev_aload_n dL_begin_38 rfl rfl ?_
      refine ev_bipush dL_begin_39 (v := (35 : Int32)) zcb_35 ?_
      refine ev_iload_n dL_begin_41 rfl rfl ?_
      refine ev_iadd dL_begin_42 rfl ?_
      refine ev_lconst dL_begin_43 (v := (1 : Int64)) rfl ?_
      obtain ⟨g10, h⟩ := zgd h
      obtain ⟨J11, e12, h⟩ := zld h
      refine em_lastH hh dL_begin_44 ha hn g10 e12 ?_
      refine ev_iinc dL_begin_45 (v := l1 + (1 : Int32)) rfl rfl (by decide) rfl ?_
      refine ev_goto dL_begin_48 (tgt := 21) (by decide) ?_
      exact EV.mask [true, true] rfl (ih (l1 + (1 : Int32)) J11 h)
set_option maxHeartbeats 4000000 in
set_option maxRecDepth 100000 in
theorem eL_begin_L53 {w : zW} {d : Nat} {sl : Nat} {sf : Nat → Int32} {J0 : zMI} {ah : Nat} {n : Nat} {kd : zMK} {R : zMR} {r : zML}  (hsl : zxl w = sl) (hsf : zxs w = sf) (hh : zhm w = none) (ha : zHas n kd ah 14) (hn : (kd ah).2 = 130) (hd : 1 ≤ d)   : ∀ (q : Nat) (l1 : Int32) (I : zML), fL_begin_L53 sl sf q l1 I = some r → EV w d 0 0 YL_begin 53 [some (.ref ah), some (.int l1)] [] (zHm (n, kd, J0, R) ah I) (qL_begin n kd J0 ah R r) := by
  intro q
  induction q with
  | zero =>
    intro l1 I h
    cases h
  | succ q ih =>
    intro l1 I h
    unfold fL_begin_L53 at h
    refine ev_iload_n dL_begin_53 rfl rfl ?_
    refine ev_bipush dL_begin_54 (v := (9 : Int32)) zcb_9 ?_
    refine ev_icmp_ge dL_begin_56 (tgt := 83) (by decide) (fun c13 => ?_) (fun c13 => ?_)
    · replace h := zit c13 h
      refine ev_aload_n dL_begin_83 rfl rfl ?_
      refine ev_bipush dL_begin_84 (v := (104 : Int32)) zcb_104 ?_
      refine ev_ldc2 dL_begin_86 zk_NineHeapsLaw_104 ?_
      obtain ⟨g14, h⟩ := zgd h
      obtain ⟨J15, e16, h⟩ := zld h
      refine em_lastH hh dL_begin_89 ha hn g14 e16 ?_
      obtain rfl := Option.some.inj h
      exact ev_end_v dL_begin_90 rfl ⟨rfl, rfl⟩
    · replace h := zif c13 h
      refine ev_aload_n dL_begin_59 rfl rfl ?_
      refine ev_bipush dL_begin_60 (v := (70 : Int32)) zcb_70 ?_
      refine ev_iload_n dL_begin_62 rfl rfl ?_
      refine ev_iadd dL_begin_63 rfl ?_
      refine ev_aload_n dL_begin_64 rfl rfl ?_
      refine ev_iload_n dL_begin_65 rfl rfl ?_
      obtain ⟨g17, h⟩ := zgd h
      refine em_laldH hh dL_begin_66 ha hn g17 rfl ?_
      obtain ⟨g18, h⟩ := zgd h
      obtain ⟨J19, e20, h⟩ := zld h
      refine em_lastH hh dL_begin_67 ha hn g18 e20 ?_
      refine ev_aload_n dL_begin_68 rfl rfl ?_
      refine ev_bipush dL_begin_69 (v := (90 : Int32)) zcb_90 ?_
      refine ev_iload_n dL_begin_71 rfl rfl ?_
      refine ev_iadd dL_begin_72 rfl ?_
      refine ev_ldc2 dL_begin_73 zk_NineHeapsLaw_104 ?_
      obtain ⟨g21, h⟩ := zgd h
      obtain ⟨J22, e23, h⟩ := zld h
      refine em_lastH hh dL_begin_76 ha hn g21 e23 ?_
      refine ev_iinc dL_begin_77 (v := l1 + (1 : Int32)) rfl rfl (by decide) rfl ?_
      refine ev_goto dL_begin_80 (tgt := 53) (by decide) ?_
      exact EV.mask [true, true] rfl (ih (l1 + (1 : Int32)) J22 h)
set_option maxHeartbeats 4000000 in
set_option maxRecDepth 100000 in
theorem eL_begin_B51 {w : zW} {d : Nat} {sl : Nat} {sf : Nat → Int32} {J0 : zMI} {ah : Nat} {n : Nat} {kd : zMK} {R : zMR} {r : zML}  (hsl : zxl w = sl) (hsf : zxs w = sf) (hh : zhm w = none) (ha : zHas n kd ah 14) (hn : (kd ah).2 = 130) (hd : 1 ≤ d)   : ∀  (I : zML), fL_begin_B51 sl sf I = some r → EV w d 0 0 YL_begin 51 [some (.ref ah), none] [] (zHm (n, kd, J0, R) ah I) (qL_begin n kd J0 ah R r) := by
  intro I h
  unfold fL_begin_B51 at h
  refine ev_iconst dL_begin_51 (v := (0 : Int32)) zci_0 ?_
  refine ev_istore_n dL_begin_52 rfl (by decide) rfl ?_
  exact EV.mask [true, true] rfl (eL_begin_L53 hsl hsf hh ha hn hd zF (0 : Int32) I h)
set_option maxHeartbeats 4000000 in
set_option maxRecDepth 100000 in
theorem eL_begin_B19 {w : zW} {d : Nat} {sl : Nat} {sf : Nat → Int32} {J0 : zMI} {ah : Nat} {n : Nat} {kd : zMK} {R : zMR} {r : zML}  (hsl : zxl w = sl) (hsf : zxs w = sf) (hh : zhm w = none) (ha : zHas n kd ah 14) (hn : (kd ah).2 = 130) (hd : 1 ≤ d)   : ∀  (I : zML), fL_begin_B19 sl sf I = some r → EV w d 0 0 YL_begin 19 [some (.ref ah), none] [] (zHm (n, kd, J0, R) ah I) (qL_begin n kd J0 ah R r) := by
  intro I h
  unfold fL_begin_B19 at h
  refine ev_iconst dL_begin_19 (v := (0 : Int32)) zci_0 ?_
  refine ev_istore_n dL_begin_20 rfl (by decide) rfl ?_
  exact EV.mask [true, true] rfl (eL_begin_L21 hsl hsf hh ha hn hd (fun I' h' => eL_begin_B51 hsl hsf hh ha hn hd I' h') zF (0 : Int32) I h)
set_option maxHeartbeats 4000000 in
set_option maxRecDepth 100000 in
theorem eL_begin {w : zW} {d : Nat} {sl : Nat} {sf : Nat → Int32} {J0 : zMI} {ah : Nat} {n : Nat} {kd : zMK} {I : zML} {R : zMR} {r : zML}  (hsl : zxl w = sl) (hsf : zxs w = sf) (hh : zhm w = none) (ha : zHas n kd ah 14) (hn : (kd ah).2 = 130) (hd : 1 ≤ d)  (h : fL_begin sl sf I = some r) : EV w d 0 0 YL_begin 0 [some (.ref ah), none] [] (zHm (n, kd, J0, R) ah I) (qL_begin n kd J0 ah R r) := by
  unfold fL_begin at h
  refine ev_bipush dL_begin_0 (v := (30 : Int32)) zcb_30 ?_
  refine ev_istore_n dL_begin_2 rfl (by decide) rfl ?_
  exact EV.mask [true, true] rfl (eL_begin_L3 hsl hsf hh ha hn hd (fun I' h' => eL_begin_B19 hsl hsf hh ha hn hd I' h') zF (30 : Int32) I h)
abbrev qL_takes (n : Nat) (kd : zMK) (J0 : zMI) (ah : Nat) (I : zML) (R : zMR) (r : Int32) : Option Value → zM → Prop := fun v μ1 => v = some (.int r) ∧ μ1 = zHm (n, kd, J0, R) ah I
set_option maxHeartbeats 4000000 in
set_option maxRecDepth 100000 in
theorem eL_takes_B108 {w : zW} {d : Nat} {sl : Nat} {sf : Nat → Int32} {J0 : zMI} {ah : Nat} {n : Nat} {kd : zMK} {I : zML} {R : zMR} {r : Int32}  (hsl : zxl w = sl) (hsf : zxs w = sf) (hh : zhm w = none) (ha : zHas n kd ah 14) (hn : (kd ah).2 = 130) (hd : 3 ≤ d)   : ∀ (l5 : Int64) (l7 : Int32) (l8 : Int32) (l9 : Int32) , fL_takes_B108 I sl sf l5 l7 l8 l9 = some r → EV w d 0 0 YL_takes 108 [none, none, none, none, none, some (.long l5), none, some (.int l7), some (.int l8), some (.int l9)] [] (zHm (n, kd, J0, R) ah I) (qL_takes n kd J0 ah I R r) := by
  intro l5 l7 l8 l9 h
  unfold fL_takes_B108 at h
  refine ev_iload dL_takes_108 rfl ?_
  refine ev_iconst dL_takes_110 (v := (5 : Int32)) zci_5 ?_
  refine ev_icmp_ne dL_takes_111 (tgt := 129) (by decide) (fun c1 => ?_) (fun c1 => ?_)
  · replace h := zif c1 h
    refine ev_iconst dL_takes_129 (v := (1 : Int32)) zci_1 ?_
    refine ev_iload dL_takes_130 rfl ?_
    obtain ⟨x2, e3, h⟩ := zld h
    refine ev_max dL_takes_132 zl_NineHeapsLaw_110 zmm_max_s zn_java_lang_Math zmm_max_c (by omega) (Nat.le_of_ble_eq_true rfl) e3 ?_
    obtain rfl := Option.some.inj h
    exact ev_end_i dL_takes_135 rfl rfl ⟨rfl, rfl⟩
  · replace h := zit c1 h
    refine ev_lload dL_takes_114 rfl ?_
    refine ev_iload dL_takes_116 rfl ?_
    refine ev_i2l dL_takes_118 rfl ?_
    refine ev_lcmp dL_takes_119 rfl ?_
    refine ev_if_lt dL_takes_120 (tgt := 129) (by decide) (fun c4 => ?_) (fun c4 => ?_)
    · replace h := zit c4 h
      refine ev_iconst dL_takes_129 (v := (1 : Int32)) zci_1 ?_
      refine ev_iload dL_takes_130 rfl ?_
      obtain ⟨x5, e6, h⟩ := zld h
      refine ev_max dL_takes_132 zl_NineHeapsLaw_110 zmm_max_s zn_java_lang_Math zmm_max_c (by omega) (Nat.le_of_ble_eq_true rfl) e6 ?_
      obtain rfl := Option.some.inj h
      exact ev_end_i dL_takes_135 rfl rfl ⟨rfl, rfl⟩
    · replace h := zif c4 h
      refine ev_iload dL_takes_123 rfl ?_
      refine ev_iconst dL_takes_125 (v := (2 : Int32)) zci_2 ?_
      refine ev_idiv dL_takes_126 (by decide) rfl ?_
      refine ev_istore dL_takes_127 (by decide) rfl ?_
      refine ev_iconst dL_takes_129 (v := (1 : Int32)) zci_1 ?_
      refine ev_iload dL_takes_130 rfl ?_
      obtain ⟨x7, e8, h⟩ := zld h
      refine ev_max dL_takes_132 zl_NineHeapsLaw_110 zmm_max_s zn_java_lang_Math zmm_max_c (by omega) (Nat.le_of_ble_eq_true rfl) e8 ?_
      obtain rfl := Option.some.inj h
      exact ev_end_i dL_takes_135 rfl rfl ⟨rfl, rfl⟩
set_option maxHeartbeats 4000000 in
set_option maxRecDepth 100000 in
theorem eL_takes_B83 {w : zW} {d : Nat} {sl : Nat} {sf : Nat → Int32} {J0 : zMI} {ah : Nat} {n : Nat} {kd : zMK} {I : zML} {R : zMR} {r : Int32}  (hsl : zxl w = sl) (hsf : zxs w = sf) (hh : zhm w = none) (ha : zHas n kd ah 14) (hn : (kd ah).2 = 130) (hd : 3 ≤ d)   : ∀ (l5 : Int64) (l7 : Int32) (l8 : Int32) (l9 : Int32) , fL_takes_B83 I sl sf l5 l7 l8 l9 = some r → EV w d 0 0 YL_takes 83 [none, none, none, none, none, some (.long l5), none, some (.int l7), some (.int l8), some (.int l9)] [] (zHm (n, kd, J0, R) ah I) (qL_takes n kd J0 ah I R r) := by
  intro l5 l7 l8 l9 h
  unfold fL_takes_B83 at h
  refine ev_iload dL_takes_83 rfl ?_
  refine ev_iconst dL_takes_85 (v := (4 : Int32)) zci_4 ?_
  refine ev_icmp_ne dL_takes_86 (tgt := 108) (by decide) (fun c9 => ?_) (fun c9 => ?_)
  · replace h := zif c9 h
    exact EV.mask [false, false, false, false, false, true, false, true, true, true] rfl (eL_takes_B108 hsl hsf hh ha hn hd l5 l7 l8 l9 h)
  · replace h := zit c9 h
    refine ev_iload dL_takes_89 rfl ?_
    refine ev_lload dL_takes_91 rfl ?_
    refine ev_iload dL_takes_93 rfl ?_
    refine ev_i2l dL_takes_95 rfl ?_
    refine ev_lcmp dL_takes_96 rfl ?_
    obtain ⟨x11, e12, h⟩ := zld h
    have k13 : EV w d 0 0 YL_takes 105 [none, none, none, none, none, some (.long l5), none, some (.int l7), some (.int l8), some (.int l9)] [.int x11, .int l7] (zHm (n, kd, J0, R) ah I) (qL_takes n kd J0 ah I R r) := by
      refine ev_iadd dL_takes_105 rfl ?_
      refine ev_istore dL_takes_106 (by decide) rfl ?_
      exact EV.mask [false, false, false, false, false, true, false, true, true, true] rfl (eL_takes_B108 hsl hsf hh ha hn hd l5 (l7 + x11) l8 l9 h)
    clear h
    have h := e12
    clear e12
    refine ev_if_le dL_takes_97 (tgt := 104) (by decide) (fun c10 => ?_) (fun c10 => ?_)
    · replace h := zit c10 h
      refine ev_iconst dL_takes_104 (v := (1 : Int32)) zci_1 ?_
      obtain rfl := h
      exact k13
    · replace h := zif c10 h
      refine ev_iconst dL_takes_100 (v := (2 : Int32)) zci_2 ?_
      refine ev_goto dL_takes_101 (tgt := 105) (by decide) ?_
      obtain rfl := h
      exact k13
set_option maxHeartbeats 4000000 in
set_option maxRecDepth 100000 in
theorem eL_takes_B74 {w : zW} {d : Nat} {sl : Nat} {sf : Nat → Int32} {J0 : zMI} {ah : Nat} {n : Nat} {kd : zMK} {I : zML} {R : zMR} {r : Int32}  (hsl : zxl w = sl) (hsf : zxs w = sf) (hh : zhm w = none) (ha : zHas n kd ah 14) (hn : (kd ah).2 = 130) (hd : 3 ≤ d)   : ∀ (l5 : Int64) (l7 : Int32) (l8 : Int32) (l9 : Int32) , fL_takes_B74 I sl sf l5 l7 l8 l9 = some r → EV w d 0 0 YL_takes 74 [none, none, none, none, none, some (.long l5), none, some (.int l7), some (.int l8), some (.int l9)] [] (zHm (n, kd, J0, R) ah I) (qL_takes n kd J0 ah I R r) := by
  intro l5 l7 l8 l9 h
  unfold fL_takes_B74 at h
  refine ev_iload dL_takes_74 rfl ?_
  refine ev_iconst dL_takes_76 (v := (3 : Int32)) zci_3 ?_
  refine ev_icmp_ne dL_takes_77 (tgt := 83) (by decide) (fun c14 => ?_) (fun c14 => ?_)
  · replace h := zif c14 h
    exact EV.mask [false, false, false, false, false, true, false, true, true, true] rfl (eL_takes_B83 hsl hsf hh ha hn hd l5 l7 l8 l9 h)
  · replace h := zit c14 h
    refine ev_iinc dL_takes_80 (v := l7 + (1 : Int32)) rfl rfl (by decide) rfl ?_
    exact EV.mask [false, false, false, false, false, true, false, true, true, true] rfl (eL_takes_B83 hsl hsf hh ha hn hd l5 (l7 + (1 : Int32)) l8 l9 h)
set_option maxHeartbeats 4000000 in
set_option maxRecDepth 100000 in
theorem eL_takes_B65 {w : zW} {d : Nat} {sl : Nat} {sf : Nat → Int32} {J0 : zMI} {ah : Nat} {n : Nat} {kd : zMK} {I : zML} {R : zMR} {r : Int32}  (hsl : zxl w = sl) (hsf : zxs w = sf) (hh : zhm w = none) (ha : zHas n kd ah 14) (hn : (kd ah).2 = 130) (hd : 3 ≤ d)   : ∀ (l5 : Int64) (l7 : Int32) (l8 : Int32) (l9 : Int32) , fL_takes_B65 I sl sf l5 l7 l8 l9 = some r → EV w d 0 0 YL_takes 65 [none, none, none, none, none, some (.long l5), none, some (.int l7), some (.int l8), some (.int l9)] [] (zHm (n, kd, J0, R) ah I) (qL_takes n kd J0 ah I R r) := by
  intro l5 l7 l8 l9 h
  unfold fL_takes_B65 at h
  refine ev_iload dL_takes_65 rfl ?_
  refine ev_iload dL_takes_67 rfl ?_
  refine ev_iconst dL_takes_69 (v := (2 : Int32)) zci_2 ?_
  refine ev_idiv dL_takes_70 (by decide) rfl ?_
  refine ev_iadd dL_takes_71 rfl ?_
  obtain ⟨x15, e16, h⟩ := zld h
  refine ev_nm e16 ?_
  refine ev_istore dL_takes_72 (by decide) rfl ?_
  exact EV.mask [false, false, false, false, false, true, false, true, true, true] rfl (eL_takes_B74 hsl hsf hh ha hn hd l5 x15 l8 l9 h)
set_option maxHeartbeats 4000000 in
set_option maxRecDepth 100000 in
theorem eL_takes_B35 {w : zW} {d : Nat} {sl : Nat} {sf : Nat → Int32} {J0 : zMI} {ah : Nat} {n : Nat} {kd : zMK} {I : zML} {R : zMR} {r : Int32}  (hsl : zxl w = sl) (hsf : zxs w = sf) (hh : zhm w = none) (ha : zHas n kd ah 14) (hn : (kd ah).2 = 130) (hd : 3 ≤ d)   : ∀ (l2 : Int32) (l5 : Int64) (s0 : Int32) , fL_takes_B35 I sl sf l2 l5 s0 = some r → EV w d 0 0 YL_takes 35 [some (.ref 26), some (.ref ah), some (.int l2), none, none, some (.long l5), none, none, none, none] [.int s0] (zHm (n, kd, J0, R) ah I) (qL_takes n kd J0 ah I R r) := by
  intro l2 l5 s0 h
  unfold fL_takes_B35 at h
  refine ev_istore dL_takes_35 (by decide) rfl ?_
  refine ev_aload_n dL_takes_37 rfl rfl ?_
  refine ev_bipush dL_takes_38 (v := (20 : Int32)) zcb_20 ?_
  refine ev_iload_n dL_takes_40 rfl rfl ?_
  refine ev_iadd dL_takes_41 rfl ?_
  obtain ⟨g17, h⟩ := zgd h
  refine em_laldH hh dL_takes_42 ha hn g17 rfl ?_
  refine ev_l2i dL_takes_43 rfl ?_
  obtain ⟨x18, e19, h⟩ := zld h
  refine ev_nm e19 ?_
  refine ev_istore dL_takes_44 (by decide) rfl ?_
  refine ev_aload_n dL_takes_46 rfl rfl ?_
  refine ev_iload_n dL_takes_47 rfl rfl ?_
  obtain ⟨p20, e21, h⟩ := zbd h
  refine ev_callS0 dL_takes_48 zmL_more zl_NineHeapsLaw_47 zsL_more (As := [.ref 26, .int l2]) (rest := []) rfl rfl (Nat.le_of_ble_eq_true rfl) rfl (Nat.le_of_ble_eq_true rfl) (d' := 2) (by omega) (eL_more hsl hsf (Nat.le_refl _) e21) (fun v μ1 q => ?_)
  obtain ⟨rfl, rfl⟩ := q
  refine ev_istore dL_takes_51 (by decide) rfl ?_
  refine ev_iload dL_takes_53 rfl ?_
  refine ev_iconst dL_takes_55 (v := (2 : Int32)) zci_2 ?_
  refine ev_icmp_eq dL_takes_56 (tgt := 65) (by decide) (fun c22 => ?_) (fun c22 => ?_)
  · replace h := zit c22 h
    exact EV.mask [false, false, false, false, false, true, false, true, true, true] rfl (eL_takes_B65 hsl hsf hh ha hn hd l5 s0 x18 p20 h)
  · replace h := zif c22 h
    refine ev_iload dL_takes_59 rfl ?_
    refine ev_iconst dL_takes_61 (v := (4 : Int32)) zci_4 ?_
    refine ev_icmp_ne dL_takes_62 (tgt := 74) (by decide) (fun c23 => ?_) (fun c23 => ?_)
    · replace h := zif c23 h
      exact EV.mask [false, false, false, false, false, true, false, true, true, true] rfl (eL_takes_B74 hsl hsf hh ha hn hd l5 s0 x18 p20 h)
    · replace h := zit c23 h
      exact EV.mask [false, false, false, false, false, true, false, true, true, true] rfl (eL_takes_B65 hsl hsf hh ha hn hd l5 s0 x18 p20 h)
set_option maxHeartbeats 4000000 in
set_option maxRecDepth 100000 in
theorem eL_takes {w : zW} {d : Nat} {sl : Nat} {sf : Nat → Int32} {J0 : zMI} {ah : Nat} {n : Nat} {kd : zMK} {I : zML} {R : zMR} {r : Int32} {l2 : Int32} {l3 : Int64} {l5 : Int64} (hsl : zxl w = sl) (hsf : zxs w = sf) (hh : zhm w = none) (ha : zHas n kd ah 14) (hn : (kd ah).2 = 130) (hd : 3 ≤ d)  (h : fL_takes I sl sf l2 l3 l5 = some r) : EV w d 0 0 YL_takes 0 [some (.ref 26), some (.ref ah), some (.int l2), some (.long l3), none, some (.long l5), none, none, none, none] [] (zHm (n, kd, J0, R) ah I) (qL_takes n kd J0 ah I R r) := by
  unfold fL_takes at h
  refine ev_aload_n dL_takes_0 rfl rfl ?_
  obtain ⟨p24, e25, h⟩ := zbd h
  refine ev_callS0 dL_takes_1 zmL_plain zl_NineHeapsLaw_56 zsL_plain (As := [.ref 26]) (rest := []) rfl rfl (Nat.le_of_ble_eq_true rfl) rfl (Nat.le_of_ble_eq_true rfl) (d' := 2) (by omega) (eL_plain hsl hsf (Nat.le_refl _) e25) (fun v μ1 q => ?_)
  obtain ⟨rfl, rfl⟩ := q
  refine ev_if_eq dL_takes_4 (tgt := 11) (by decide) (fun c26 => ?_) (fun c26 => ?_)
  · replace h := zit c26 h
    refine ev_lconst dL_takes_11 (v := (1 : Int64)) rfl ?_
    refine ev_lload_n dL_takes_12 rfl rfl ?_
    refine ev_aload_n dL_takes_13 rfl rfl ?_
    refine ev_iconst dL_takes_14 (v := (0 : Int32)) zci_0 ?_
    obtain ⟨p27, e28, h⟩ := zbd h
    refine ev_callS0 dL_takes_15 zmL_at zl_NineHeapsLaw_69 zsL_at (As := [.ref 26, .int (0 : Int32)]) (rest := [.long l3, .long (1 : Int64)]) rfl rfl (Nat.le_of_ble_eq_true rfl) rfl (Nat.le_of_ble_eq_true rfl) (d' := 1) (by omega) (eL_at hsl hsf (Nat.le_refl _) e28) (fun v μ1 q => ?_)
    obtain ⟨rfl, rfl⟩ := q
    refine ev_bipush dL_takes_18 (v := (6 : Int32)) zcb_6 ?_
    refine ev_ishr dL_takes_20 rfl ?_
    refine ev_iconst dL_takes_21 (v := (1 : Int32)) zci_1 ?_
    refine ev_iand dL_takes_22 rfl ?_
    refine ev_i2l dL_takes_23 rfl ?_
    refine ev_lmul dL_takes_24 rfl ?_
    refine ev_ladd dL_takes_25 rfl ?_
    refine ev_lload dL_takes_26 rfl ?_
    refine ev_ladd dL_takes_28 rfl ?_
    refine ev_iconst dL_takes_29 (v := (1 : Int32)) zci_1 ?_
    refine ev_bipush dL_takes_30 (v := (20 : Int32)) zcb_20 ?_
    obtain ⟨p29, e30, h⟩ := zbd h
    refine ev_callS0 dL_takes_32 zmL_held zl_NineHeapsLaw_106 zsL_held (As := [.long (((1 : Int64) + (l3 * (((p27 >>> ((6 : Int32) &&& 31)) &&& (1 : Int32)).toInt64))) + l5), .int (1 : Int32), .int (20 : Int32)]) (rest := []) rfl rfl (Nat.le_of_ble_eq_true rfl) rfl (Nat.le_of_ble_eq_true rfl) (d' := 2) (by omega) (eL_held hsl hsf (Nat.le_refl _) e30) (fun v μ1 q => ?_)
    obtain ⟨rfl, rfl⟩ := q
    exact EV.mask [true, true, true, false, false, true, false, false, false, false] rfl (eL_takes_B35 hsl hsf hh ha hn hd l2 l5 p29 h)
  · replace h := zif c26 h
    refine ev_iconst dL_takes_7 (v := (2 : Int32)) zci_2 ?_
    refine ev_goto dL_takes_8 (tgt := 35) (by decide) ?_
    exact EV.mask [true, true, true, false, false, true, false, false, false, false] rfl (eL_takes_B35 hsl hsf hh ha hn hd l2 l5 (2 : Int32) h)
abbrev qL_steps (n : Nat) (kd : zMK) (J0 : zMI) (ah : Nat) (I : zML) (R : zMR) (r : Int32) : Option Value → zM → Prop := fun v μ1 => v = some (.int r) ∧ μ1 = zHm (n, kd, J0, R) ah I
set_option maxHeartbeats 4000000 in
set_option maxRecDepth 100000 in
theorem eL_steps_B61 {w : zW} {d : Nat} {sl : Nat} {sf : Nat → Int32} {J0 : zMI} {ah : Nat} {n : Nat} {kd : zMK} {I : zML} {R : zMR} {r : Int32}  (hsl : zxl w = sl) (hsf : zxs w = sf) (hh : zhm w = none) (ha : zHas n kd ah 14) (hn : (kd ah).2 = 130) (hd : 3 ≤ d)   : ∀ (l2 : Int32) (l5 : Int32) (s0 : Int32) , fL_steps_B61 I sl sf l2 l5 s0 = some r → EV w d 0 0 YL_steps 61 [some (.ref 26), none, some (.int l2), none, none, some (.int l5), none] [.int s0] (zHm (n, kd, J0, R) ah I) (qL_steps n kd J0 ah I R r) := by
  intro l2 l5 s0 h
  unfold fL_steps_B61 at h
  refine ev_iload dL_steps_61 rfl ?_
  refine ev_aload_n dL_steps_63 rfl rfl ?_
  refine ev_iload_n dL_steps_64 rfl rfl ?_
  obtain ⟨p1, e2, h⟩ := zbd h
  refine ev_callS0 dL_steps_65 zmL_more zl_NineHeapsLaw_47 zsL_more (As := [.ref 26, .int l2]) (rest := [.int l5, .int s0]) rfl rfl (Nat.le_of_ble_eq_true rfl) rfl (Nat.le_of_ble_eq_true rfl) (d' := 2) (by omega) (eL_more hsl hsf (Nat.le_refl _) e2) (fun v μ1 q => ?_)
  obtain ⟨rfl, rfl⟩ := q
  refine ev_iconst dL_steps_68 (v := (3 : Int32)) zci_3 ?_
  refine ev_idiv dL_steps_69 (by decide) rfl ?_
  refine ev_isub dL_steps_70 rfl ?_
  refine ev_goto dL_steps_71 (tgt := 89) (by decide) ?_
  obtain ⟨x3, e4, h⟩ := zld h
  refine ev_max dL_steps_89 zl_NineHeapsLaw_110 zmm_max_s zn_java_lang_Math zmm_max_c (by omega) (Nat.le_of_ble_eq_true rfl) e4 ?_
  obtain rfl := Option.some.inj h
  exact ev_end_i dL_steps_92 rfl rfl ⟨rfl, rfl⟩
set_option maxHeartbeats 4000000 in
set_option maxRecDepth 100000 in
theorem eL_steps_B37 {w : zW} {d : Nat} {sl : Nat} {sf : Nat → Int32} {J0 : zMI} {ah : Nat} {n : Nat} {kd : zMK} {I : zML} {R : zMR} {r : Int32}  (hsl : zxl w = sl) (hsf : zxs w = sf) (hh : zhm w = none) (ha : zHas n kd ah 14) (hn : (kd ah).2 = 130) (hd : 3 ≤ d)   : ∀ (l2 : Int32) (s0 : Int32) , fL_steps_B37 I sl sf l2 s0 = some r → EV w d 0 0 YL_steps 37 [some (.ref 26), some (.ref ah), some (.int l2), none, none, none, none] [.int s0] (zHm (n, kd, J0, R) ah I) (qL_steps n kd J0 ah I R r) := by
  intro l2 s0 h
  unfold fL_steps_B37 at h
  refine ev_istore dL_steps_37 (by decide) rfl ?_
  refine ev_aload_n dL_steps_39 rfl rfl ?_
  refine ev_bipush dL_steps_40 (v := (20 : Int32)) zcb_20 ?_
  refine ev_iload_n dL_steps_42 rfl rfl ?_
  refine ev_iadd dL_steps_43 rfl ?_
  obtain ⟨g5, h⟩ := zgd h
  refine em_laldH hh dL_steps_44 ha hn g5 rfl ?_
  refine ev_l2i dL_steps_45 rfl ?_
  obtain ⟨x6, e7, h⟩ := zld h
  refine ev_nm e7 ?_
  refine ev_istore dL_steps_46 (by decide) rfl ?_
  refine ev_iconst dL_steps_48 (v := (1 : Int32)) zci_1 ?_
  refine ev_iload dL_steps_49 rfl ?_
  refine ev_iconst dL_steps_51 (v := (1 : Int32)) zci_1 ?_
  refine ev_icmp_eq dL_steps_52 (tgt := 61) (by decide) (fun c8 => ?_) (fun c8 => ?_)
  · replace h := zit c8 h
    exact EV.mask [true, false, true, false, false, true, false] rfl (eL_steps_B61 hsl hsf hh ha hn hd l2 s0 (1 : Int32) h)
  · replace h := zif c8 h
    refine ev_iload dL_steps_55 rfl ?_
    refine ev_iconst dL_steps_57 (v := (3 : Int32)) zci_3 ?_
    refine ev_icmp_ne dL_steps_58 (tgt := 74) (by decide) (fun c9 => ?_) (fun c9 => ?_)
    · replace h := zif c9 h
      refine ev_iload dL_steps_74 rfl ?_
      refine ev_iconst dL_steps_76 (v := (4 : Int32)) zci_4 ?_
      refine ev_icmp_ne dL_steps_77 (tgt := 87) (by decide) (fun c10 => ?_) (fun c10 => ?_)
      · replace h := zif c10 h
        refine ev_iload dL_steps_87 rfl ?_
        obtain ⟨x11, e12, h⟩ := zld h
        refine ev_max dL_steps_89 zl_NineHeapsLaw_110 zmm_max_s zn_java_lang_Math zmm_max_c (by omega) (Nat.le_of_ble_eq_true rfl) e12 ?_
        obtain rfl := Option.some.inj h
        exact ev_end_i dL_steps_92 rfl rfl ⟨rfl, rfl⟩
      · replace h := zit c10 h
        refine ev_iconst dL_steps_80 (v := (2 : Int32)) zci_2 ?_
        refine ev_iload dL_steps_81 rfl ?_
        refine ev_imul dL_steps_83 rfl ?_
        refine ev_goto dL_steps_84 (tgt := 89) (by decide) ?_
        obtain ⟨x13, e14, h⟩ := zld h
        refine ev_max dL_steps_89 zl_NineHeapsLaw_110 zmm_max_s zn_java_lang_Math zmm_max_c (by omega) (Nat.le_of_ble_eq_true rfl) e14 ?_
        obtain rfl := Option.some.inj h
        exact ev_end_i dL_steps_92 rfl rfl ⟨rfl, rfl⟩
    · replace h := zit c9 h
      exact EV.mask [true, false, true, false, false, true, false] rfl (eL_steps_B61 hsl hsf hh ha hn hd l2 s0 (1 : Int32) h)
set_option maxHeartbeats 4000000 in
set_option maxRecDepth 100000 in
theorem eL_steps {w : zW} {d : Nat} {sl : Nat} {sf : Nat → Int32} {J0 : zMI} {ah : Nat} {n : Nat} {kd : zMK} {I : zML} {R : zMR} {r : Int32} {l2 : Int32} {l3 : Int64} (hsl : zxl w = sl) (hsf : zxs w = sf) (hh : zhm w = none) (ha : zHas n kd ah 14) (hn : (kd ah).2 = 130) (hd : 3 ≤ d)  (h : fL_steps I sl sf l2 l3 = some r) : EV w d 0 0 YL_steps 0 [some (.ref 26), some (.ref ah), some (.int l2), some (.long l3), none, none, none] [] (zHm (n, kd, J0, R) ah I) (qL_steps n kd J0 ah I R r) := by
  unfold fL_steps at h
  refine ev_aload_n dL_steps_0 rfl rfl ?_
  obtain ⟨p15, e16, h⟩ := zbd h
  refine ev_callS0 dL_steps_1 zmL_plain zl_NineHeapsLaw_56 zsL_plain (As := [.ref 26]) (rest := []) rfl rfl (Nat.le_of_ble_eq_true rfl) rfl (Nat.le_of_ble_eq_true rfl) (d' := 2) (by omega) (eL_plain hsl hsf (Nat.le_refl _) e16) (fun v μ1 q => ?_)
  obtain ⟨rfl, rfl⟩ := q
  refine ev_if_eq dL_steps_4 (tgt := 11) (by decide) (fun c17 => ?_) (fun c17 => ?_)
  · replace h := zit c17 h
    refine ev_aload_n dL_steps_11 rfl rfl ?_
    obtain ⟨p18, e19, h⟩ := zbd h
    refine ev_callS0 dL_steps_12 zmL_many zl_NineHeapsLaw_41 zsL_many (As := [.ref 26]) (rest := []) rfl rfl (Nat.le_of_ble_eq_true rfl) rfl (Nat.le_of_ble_eq_true rfl) (d' := 2) (by omega) (eL_many hsl hsf (Nat.le_refl _) e19) (fun v μ1 q => ?_)
    obtain ⟨rfl, rfl⟩ := q
    refine ev_iload_n dL_steps_15 rfl rfl ?_
    refine ev_aload_n dL_steps_16 rfl rfl ?_
    refine ev_iconst dL_steps_17 (v := (0 : Int32)) zci_0 ?_
    obtain ⟨p20, e21, h⟩ := zbd h
    refine ev_callS0 dL_steps_18 zmL_at zl_NineHeapsLaw_69 zsL_at (As := [.ref 26, .int (0 : Int32)]) (rest := [.int l2, .int p18]) rfl rfl (Nat.le_of_ble_eq_true rfl) rfl (Nat.le_of_ble_eq_true rfl) (d' := 1) (by omega) (eL_at hsl hsf (Nat.le_refl _) e21) (fun v μ1 q => ?_)
    obtain ⟨rfl, rfl⟩ := q
    refine ev_bipush dL_steps_21 (v := (7 : Int32)) zcb_7 ?_
    refine ev_ishr dL_steps_23 rfl ?_
    refine ev_iconst dL_steps_24 (v := (3 : Int32)) zci_3 ?_
    refine ev_iand dL_steps_25 rfl ?_
    refine ev_imul dL_steps_26 rfl ?_
    refine ev_iadd dL_steps_27 rfl ?_
    refine ev_i2l dL_steps_28 rfl ?_
    refine ev_lload_n dL_steps_29 rfl rfl ?_
    refine ev_lsub dL_steps_30 rfl ?_
    refine ev_iconst dL_steps_31 (v := (1 : Int32)) zci_1 ?_
    refine ev_bipush dL_steps_32 (v := (20 : Int32)) zcb_20 ?_
    obtain ⟨p22, e23, h⟩ := zbd h
    refine ev_callS0 dL_steps_34 zmL_held zl_NineHeapsLaw_106 zsL_held (As := [.long (((p18 + (l2 * ((p20 >>> ((7 : Int32) &&& 31)) &&& (3 : Int32)))).toInt64) - l3), .int (1 : Int32), .int (20 : Int32)]) (rest := []) rfl rfl (Nat.le_of_ble_eq_true rfl) rfl (Nat.le_of_ble_eq_true rfl) (d' := 2) (by omega) (eL_held hsl hsf (Nat.le_refl _) e23) (fun v μ1 q => ?_)
    obtain ⟨rfl, rfl⟩ := q
    exact EV.mask [true, true, true, false, false, false, false] rfl (eL_steps_B37 hsl hsf hh ha hn hd l2 p22 h)
  · replace h := zif c17 h
    refine ev_iconst dL_steps_7 (v := (1 : Int32)) zci_1 ?_
    refine ev_goto dL_steps_8 (tgt := 37) (by decide) ?_
    exact EV.mask [true, true, true, false, false, false, false] rfl (eL_steps_B37 hsl hsf hh ha hn hd l2 (1 : Int32) h)
abbrev qL_lift (n : Nat) (kd : zMK) (J0 : zMI) (ah : Nat) (R : zMR) (r : zML) : Option Value → zM → Prop := fun v μ1 => v = none ∧ μ1 = zHm (n, kd, J0, R) ah r
set_option maxHeartbeats 4000000 in
set_option maxRecDepth 100000 in
theorem eL_lift_B274 {w : zW} {d : Nat} {sl : Nat} {sf : Nat → Int32} {J0 : zMI} {ah : Nat} {n : Nat} {kd : zMK} {R : zMR} {r : zML}  (hsl : zxl w = sl) (hsf : zxs w = sf) (hh : zhm w = none) (ha : zHas n kd ah 14) (hn : (kd ah).2 = 130) (hd : 3 ≤ d)   : ∀ (l2 : Int32) (I : zML), fL_lift_B274 sl sf l2 I = some r → EV w d 0 0 YL_lift 274 [none, some (.ref ah), some (.int l2), none, none, none] [] (zHm (n, kd, J0, R) ah I) (qL_lift n kd J0 ah R r) := by
  intro l2 I h
  unfold fL_lift_B274 at h
  refine ev_aload_n dL_lift_274 rfl rfl ?_
  refine ev_bipush dL_lift_275 (v := (50 : Int32)) zcb_50 ?_
  refine ev_iload_n dL_lift_277 rfl rfl ?_
  refine ev_iadd dL_lift_278 rfl ?_
  refine ev_dup2 dL_lift_279 rfl rfl ?_
  obtain ⟨g1, h⟩ := zgd h
  refine em_laldH hh dL_lift_280 ha hn g1 rfl ?_
  refine ev_lconst dL_lift_281 (v := (1 : Int64)) rfl ?_
  refine ev_ladd dL_lift_282 rfl ?_
  obtain ⟨J2, e3, h⟩ := zld h
  refine em_lastH hh dL_lift_283 ha hn g1 e3 ?_
  refine ev_aload_n dL_lift_284 rfl rfl ?_
  refine ev_bipush dL_lift_285 (v := (45 : Int32)) zcb_45 ?_
  refine ev_iload_n dL_lift_287 rfl rfl ?_
  refine ev_iadd dL_lift_288 rfl ?_
  refine ev_lconst dL_lift_289 (v := (0 : Int64)) rfl ?_
  obtain ⟨g4, h⟩ := zgd h
  obtain ⟨J5, e6, h⟩ := zld h
  refine em_lastH hh dL_lift_290 ha hn g4 e6 ?_
  refine ev_aload_n dL_lift_291 rfl rfl ?_
  refine ev_bipush dL_lift_292 (v := (60 : Int32)) zcb_60 ?_
  refine ev_iload_n dL_lift_294 rfl rfl ?_
  refine ev_iadd dL_lift_295 rfl ?_
  refine ev_lconst dL_lift_296 (v := (0 : Int64)) rfl ?_
  obtain ⟨g7, h⟩ := zgd h
  obtain ⟨J8, e9, h⟩ := zld h
  refine em_lastH hh dL_lift_297 ha hn g7 e9 ?_
  obtain rfl := Option.some.inj h
  exact ev_end_v dL_lift_298 rfl ⟨rfl, rfl⟩
set_option maxHeartbeats 4000000 in
set_option maxRecDepth 100000 in
theorem eL_lift_B247 {w : zW} {d : Nat} {sl : Nat} {sf : Nat → Int32} {J0 : zMI} {ah : Nat} {n : Nat} {kd : zMK} {R : zMR} {r : zML}  (hsl : zxl w = sl) (hsf : zxs w = sf) (hh : zhm w = none) (ha : zHas n kd ah 14) (hn : (kd ah).2 = 130) (hd : 3 ≤ d)   : ∀ (l2 : Int32) (l3 : Int32) (I : zML), fL_lift_B247 sl sf l2 l3 I = some r → EV w d 0 0 YL_lift 247 [some (.ref 26), some (.ref ah), some (.int l2), some (.int l3), none, none] [] (zHm (n, kd, J0, R) ah I) (qL_lift n kd J0 ah R r) := by
  intro l2 l3 I h
  unfold fL_lift_B247 at h
  refine ev_aload_n dL_lift_247 rfl rfl ?_
  refine ev_bipush dL_lift_248 (v := (101 : Int32)) zcb_101 ?_
  refine ev_dup2 dL_lift_250 rfl rfl ?_
  obtain ⟨g10, h⟩ := zgd h
  refine em_laldH hh dL_lift_251 ha hn g10 rfl ?_
  refine ev_lconst dL_lift_252 (v := (1 : Int64)) rfl ?_
  refine ev_ladd dL_lift_253 rfl ?_
  obtain ⟨J11, e12, h⟩ := zld h
  refine em_lastH hh dL_lift_254 ha hn g10 e12 ?_
  refine ev_aload_n dL_lift_255 rfl rfl ?_
  refine ev_bipush dL_lift_256 (v := (101 : Int32)) zcb_101 ?_
  refine em_laldH hh dL_lift_258 ha hn g10 rfl ?_
  refine ev_aload_n dL_lift_259 rfl rfl ?_
  obtain ⟨p13, e14, h⟩ := zbd h
  refine ev_callS0 dL_lift_260 zmL_want zl_NineHeapsLaw_37 zsL_want (As := [.ref 26]) (rest := [.long (J11 (101 : Int32).toNatClampNeg)]) rfl rfl (Nat.le_of_ble_eq_true rfl) rfl (Nat.le_of_ble_eq_true rfl) (d' := 2) (by omega) (eL_want hsl hsf (Nat.le_refl _) e14) (fun v μ1 q => ?_)
  obtain ⟨rfl, rfl⟩ := q
  refine ev_i2l dL_lift_263 rfl ?_
  refine ev_lcmp dL_lift_264 rfl ?_
  refine ev_if_ne dL_lift_265 (tgt := 274) (by decide) (fun c15 => ?_) (fun c15 => ?_)
  · replace h := zif c15 h
    exact EV.mask [false, true, true, false, false, false] rfl (eL_lift_B274 hsl hsf hh ha hn hd l2 J11 h)
  · replace h := zit c15 h
    refine ev_aload_n dL_lift_268 rfl rfl ?_
    refine ev_bipush dL_lift_269 (v := (104 : Int32)) zcb_104 ?_
    refine ev_iload_n dL_lift_271 rfl rfl ?_
    refine ev_i2l dL_lift_272 rfl ?_
    obtain ⟨g16, h⟩ := zgd h
    obtain ⟨J17, e18, h⟩ := zld h
    refine em_lastH hh dL_lift_273 ha hn g16 e18 ?_
    exact EV.mask [false, true, true, false, false, false] rfl (eL_lift_B274 hsl hsf hh ha hn hd l2 J17 h)
set_option maxHeartbeats 4000000 in
set_option maxRecDepth 100000 in
theorem eL_lift_B180 {w : zW} {d : Nat} {sl : Nat} {sf : Nat → Int32} {J0 : zMI} {ah : Nat} {n : Nat} {kd : zMK} {R : zMR} {r : zML}  (hsl : zxl w = sl) (hsf : zxs w = sf) (hh : zhm w = none) (ha : zHas n kd ah 14) (hn : (kd ah).2 = 130) (hd : 3 ≤ d)   : ∀ (l2 : Int32) (l3 : Int32) (I : zML), fL_lift_B180 sl sf l2 l3 I = some r → EV w d 0 0 YL_lift 180 [some (.ref 26), some (.ref ah), some (.int l2), some (.int l3), none, none] [] (zHm (n, kd, J0, R) ah I) (qL_lift n kd J0 ah R r) := by
  intro l2 l3 I h
  unfold fL_lift_B180 at h
  refine ev_aload_n dL_lift_180 rfl rfl ?_
  refine ev_bipush dL_lift_181 (v := (45 : Int32)) zcb_45 ?_
  refine ev_iload_n dL_lift_183 rfl rfl ?_
  refine ev_iadd dL_lift_184 rfl ?_
  obtain ⟨g19, h⟩ := zgd h
  refine em_laldH hh dL_lift_185 ha hn g19 rfl ?_
  refine ev_ldc2 dL_lift_186 zk_NineHeapsLaw_115 ?_
  refine ev_lcmp dL_lift_189 rfl ?_
  refine ev_if_ge dL_lift_190 (tgt := 194) (by decide) (fun c20 => ?_) (fun c20 => ?_)
  · replace h := zit c20 h
    refine ev_aload_n dL_lift_194 rfl rfl ?_
    refine ev_bipush dL_lift_195 (v := (60 : Int32)) zcb_60 ?_
    refine ev_iload_n dL_lift_197 rfl rfl ?_
    refine ev_iadd dL_lift_198 rfl ?_
    obtain ⟨g21, h⟩ := zgd h
    refine em_laldH hh dL_lift_199 ha hn g21 rfl ?_
    refine ev_lconst dL_lift_200 (v := (0 : Int64)) rfl ?_
    refine ev_lcmp dL_lift_201 rfl ?_
    refine ev_if_le dL_lift_202 (tgt := 247) (by decide) (fun c22 => ?_) (fun c22 => ?_)
    · replace h := zit c22 h
      exact EV.mask [true, true, true, true, false, false] rfl (eL_lift_B247 hsl hsf hh ha hn hd l2 l3 I h)
    · replace h := zif c22 h
      refine ev_aload_n dL_lift_205 rfl rfl ?_
      refine ev_bipush dL_lift_206 (v := (110 : Int32)) zcb_110 ?_
      refine ev_aload_n dL_lift_208 rfl rfl ?_
      refine ev_bipush dL_lift_209 (v := (101 : Int32)) zcb_101 ?_
      obtain ⟨g23, h⟩ := zgd h
      refine em_laldH hh dL_lift_211 ha hn g23 rfl ?_
      refine ev_l2i dL_lift_212 rfl ?_
      refine ev_bipush dL_lift_213 (v := (60 : Int32)) zcb_60 ?_
      refine ev_idiv dL_lift_215 (by decide) rfl ?_
      refine ev_iadd dL_lift_216 rfl ?_
      refine ev_dup2 dL_lift_217 rfl rfl ?_
      obtain ⟨g24, h⟩ := zgd h
      refine em_laldH hh dL_lift_218 ha hn g24 rfl ?_
      refine ev_lconst dL_lift_219 (v := (1 : Int64)) rfl ?_
      refine ev_aload_n dL_lift_220 rfl rfl ?_
      refine ev_bipush dL_lift_221 (v := (101 : Int32)) zcb_101 ?_
      refine em_laldH hh dL_lift_223 ha hn g23 rfl ?_
      refine ev_l2i dL_lift_224 rfl ?_
      refine ev_bipush dL_lift_225 (v := (60 : Int32)) zcb_60 ?_
      refine ev_irem dL_lift_227 (by decide) rfl ?_
      refine ev_lshl dL_lift_228 rfl ?_
      refine ev_lor dL_lift_229 rfl ?_
      obtain ⟨J25, e26, h⟩ := zld h
      refine em_lastH hh dL_lift_230 ha hn g24 e26 ?_
      refine ev_aload_n dL_lift_231 rfl rfl ?_
      refine ev_bipush dL_lift_232 (v := (101 : Int32)) zcb_101 ?_
      refine ev_aload_n dL_lift_234 rfl rfl ?_
      refine ev_bipush dL_lift_235 (v := (60 : Int32)) zcb_60 ?_
      refine ev_iload_n dL_lift_237 rfl rfl ?_
      refine ev_iadd dL_lift_238 rfl ?_
      refine em_laldH hh dL_lift_239 ha hn g21 rfl ?_
      refine ev_l2i dL_lift_240 rfl ?_
      refine ev_iadd dL_lift_241 rfl ?_
      refine ev_dup2 dL_lift_242 rfl rfl ?_
      obtain ⟨g27, h⟩ := zgd h
      refine em_laldH hh dL_lift_243 ha hn g27 rfl ?_
      refine ev_lconst dL_lift_244 (v := (1 : Int64)) rfl ?_
      refine ev_ladd dL_lift_245 rfl ?_
      obtain ⟨J28, e29, h⟩ := zld h
      refine em_lastH hh dL_lift_246 ha hn g27 e29 ?_
      exact EV.mask [true, true, true, true, false, false] rfl (eL_lift_B247 hsl hsf hh ha hn hd l2 l3 J28 h)
  · replace h := zif c20 h
    obtain rfl := Option.some.inj h
    exact ev_end_v dL_lift_193 rfl ⟨rfl, rfl⟩
set_option maxHeartbeats 4000000 in
set_option maxRecDepth 100000 in
theorem eL_lift_B159 {w : zW} {d : Nat} {sl : Nat} {sf : Nat → Int32} {J0 : zMI} {ah : Nat} {n : Nat} {kd : zMK} {R : zMR} {r : zML}  (hsl : zxl w = sl) (hsf : zxs w = sf) (hh : zhm w = none) (ha : zHas n kd ah 14) (hn : (kd ah).2 = 130) (hd : 3 ≤ d)   : ∀ (l2 : Int32) (l3 : Int32) (l4 : Int32) (I : zML), fL_lift_B159 sl sf l2 l3 l4 I = some r → EV w d 0 0 YL_lift 159 [some (.ref 26), some (.ref ah), some (.int l2), some (.int l3), some (.int l4), none] [] (zHm (n, kd, J0, R) ah I) (qL_lift n kd J0 ah R r) := by
  intro l2 l3 l4 I h
  unfold fL_lift_B159 at h
  refine ev_aload_n dL_lift_159 rfl rfl ?_
  refine ev_bipush dL_lift_160 (v := (70 : Int32)) zcb_70 ?_
  refine ev_iload dL_lift_162 rfl ?_
  refine ev_iadd dL_lift_164 rfl ?_
  obtain ⟨g30, h⟩ := zgd h
  refine em_laldH hh dL_lift_165 ha hn g30 rfl ?_
  refine ev_lconst dL_lift_166 (v := (0 : Int64)) rfl ?_
  refine ev_lcmp dL_lift_167 rfl ?_
  refine ev_if_ne dL_lift_168 (tgt := 180) (by decide) (fun c31 => ?_) (fun c31 => ?_)
  · replace h := zif c31 h
    exact EV.mask [true, true, true, true, false, false] rfl (eL_lift_B180 hsl hsf hh ha hn hd l2 l3 I h)
  · replace h := zit c31 h
    refine ev_aload_n dL_lift_171 rfl rfl ?_
    refine ev_bipush dL_lift_172 (v := (90 : Int32)) zcb_90 ?_
    refine ev_iload dL_lift_174 rfl ?_
    refine ev_iadd dL_lift_176 rfl ?_
    refine ev_iload_n dL_lift_177 rfl rfl ?_
    refine ev_i2l dL_lift_178 rfl ?_
    obtain ⟨g32, h⟩ := zgd h
    obtain ⟨J33, e34, h⟩ := zld h
    refine em_lastH hh dL_lift_179 ha hn g32 e34 ?_
    exact EV.mask [true, true, true, true, false, false] rfl (eL_lift_B180 hsl hsf hh ha hn hd l2 l3 J33 h)
set_option maxHeartbeats 4000000 in
set_option maxRecDepth 100000 in
theorem eL_lift_B136 {w : zW} {d : Nat} {sl : Nat} {sf : Nat → Int32} {J0 : zMI} {ah : Nat} {n : Nat} {kd : zMK} {R : zMR} {r : zML}  (hsl : zxl w = sl) (hsf : zxs w = sf) (hh : zhm w = none) (ha : zHas n kd ah 14) (hn : (kd ah).2 = 130) (hd : 3 ≤ d)   : ∀ (l2 : Int32) (l3 : Int32) (l4 : Int32) (l5 : Int32) (s1 : Int32) (s2 : Int64) (s3 : Int64) (I : zML), fL_lift_B136 sl sf l2 l3 l4 l5 s1 s2 s3 I = some r → EV w d 0 0 YL_lift 136 [some (.ref 26), some (.ref ah), some (.int l2), some (.int l3), some (.int l4), some (.int l5)] [.long s3, .long s2, .int s1, .ref ah] (zHm (n, kd, J0, R) ah I) (qL_lift n kd J0 ah R r) := by
  intro l2 l3 l4 l5 s1 s2 s3 I h
  unfold fL_lift_B136 at h
  refine ev_lsub dL_lift_136 rfl ?_
  obtain ⟨g35, h⟩ := zgd h
  obtain ⟨J36, e37, h⟩ := zld h
  refine em_lastH hh dL_lift_137 ha hn g35 e37 ?_
  refine ev_iload dL_lift_138 rfl ?_
  refine ev_if_eq dL_lift_140 (tgt := 159) (by decide) (fun c38 => ?_) (fun c38 => ?_)
  · replace h := zit c38 h
    exact EV.mask [true, true, true, true, true, false] rfl (eL_lift_B159 hsl hsf hh ha hn hd l2 l3 l4 J36 h)
  · replace h := zif c38 h
    refine ev_aload_n dL_lift_143 rfl rfl ?_
    refine ev_bipush dL_lift_144 (v := (60 : Int32)) zcb_60 ?_
    refine ev_iload_n dL_lift_146 rfl rfl ?_
    refine ev_iadd dL_lift_147 rfl ?_
    refine ev_aload_n dL_lift_148 rfl rfl ?_
    refine ev_bipush dL_lift_149 (v := (60 : Int32)) zcb_60 ?_
    refine ev_iload_n dL_lift_151 rfl rfl ?_
    refine ev_iadd dL_lift_152 rfl ?_
    obtain ⟨g39, h⟩ := zgd h
    refine em_laldH hh dL_lift_153 ha hn g39 rfl ?_
    refine ev_lconst dL_lift_154 (v := (1 : Int64)) rfl ?_
    obtain ⟨x40, e41, h⟩ := zld h
    refine ev_maxL dL_lift_155 zl_NineHeapsLaw_101 zmm_maxL_s zn_java_lang_Math zmm_maxL_c (by omega) (Nat.le_of_ble_eq_true rfl) e41 ?_
    obtain ⟨J42, e43, h⟩ := zld h
    refine em_lastH hh dL_lift_158 ha hn g39 e43 ?_
    exact EV.mask [true, true, true, true, true, false] rfl (eL_lift_B159 hsl hsf hh ha hn hd l2 l3 l4 J42 h)
set_option maxHeartbeats 4000000 in
set_option maxRecDepth 100000 in
theorem eL_lift_B114 {w : zW} {d : Nat} {sl : Nat} {sf : Nat → Int32} {J0 : zMI} {ah : Nat} {n : Nat} {kd : zMK} {R : zMR} {r : zML}  (hsl : zxl w = sl) (hsf : zxs w = sf) (hh : zhm w = none) (ha : zHas n kd ah 14) (hn : (kd ah).2 = 130) (hd : 3 ≤ d)   : ∀ (l2 : Int32) (l3 : Int32) (l4 : Int32) (s0 : Int32) (I : zML), fL_lift_B114 sl sf l2 l3 l4 s0 I = some r → EV w d 0 0 YL_lift 114 [some (.ref 26), some (.ref ah), some (.int l2), some (.int l3), some (.int l4), none] [.int s0] (zHm (n, kd, J0, R) ah I) (qL_lift n kd J0 ah R r) := by
  intro l2 l3 l4 s0 I h
  unfold fL_lift_B114 at h
  refine ev_istore dL_lift_114 (by decide) rfl ?_
  refine ev_aload_n dL_lift_116 rfl rfl ?_
  refine ev_bipush dL_lift_117 (v := (70 : Int32)) zcb_70 ?_
  refine ev_iload dL_lift_119 rfl ?_
  refine ev_iadd dL_lift_121 rfl ?_
  refine ev_dup2 dL_lift_122 rfl rfl ?_
  obtain ⟨g44, h⟩ := zgd h
  refine em_laldH hh dL_lift_123 ha hn g44 rfl ?_
  refine ev_iload dL_lift_124 rfl ?_
  refine ev_if_eq dL_lift_126 (tgt := 135) (by decide) (fun c45 => ?_) (fun c45 => ?_)
  · replace h := zit c45 h
    refine ev_lconst dL_lift_135 (v := (1 : Int64)) rfl ?_
    exact EV.mask [true, true, true, true, true, true] rfl (eL_lift_B136 hsl hsf hh ha hn hd l2 l3 l4 s0 ((70 : Int32) + l4) (I ((70 : Int32) + l4).toNatClampNeg) (1 : Int64) I h)
  · replace h := zif c45 h
    refine ev_ldc2 dL_lift_129 zk_NineHeapsLaw_113 ?_
    refine ev_goto dL_lift_132 (tgt := 136) (by decide) ?_
    exact EV.mask [true, true, true, true, true, true] rfl (eL_lift_B136 hsl hsf hh ha hn hd l2 l3 l4 s0 ((70 : Int32) + l4) (I ((70 : Int32) + l4).toNatClampNeg) (2 : Int64) I h)
set_option maxHeartbeats 4000000 in
set_option maxRecDepth 100000 in
theorem eL_lift_B113 {w : zW} {d : Nat} {sl : Nat} {sf : Nat → Int32} {J0 : zMI} {ah : Nat} {n : Nat} {kd : zMK} {R : zMR} {r : zML}  (hsl : zxl w = sl) (hsf : zxs w = sf) (hh : zhm w = none) (ha : zHas n kd ah 14) (hn : (kd ah).2 = 130) (hd : 3 ≤ d)   : ∀ (l2 : Int32) (l3 : Int32) (l4 : Int32) (I : zML), fL_lift_B113 sl sf l2 l3 l4 I = some r → EV w d 0 0 YL_lift 113 [some (.ref 26), some (.ref ah), some (.int l2), some (.int l3), some (.int l4), none] [] (zHm (n, kd, J0, R) ah I) (qL_lift n kd J0 ah R r) := by
  intro l2 l3 l4 I h
  unfold fL_lift_B113 at h
  refine ev_iconst dL_lift_113 (v := (0 : Int32)) zci_0 ?_
  exact EV.mask [true, true, true, true, true, false] rfl (eL_lift_B114 hsl hsf hh ha hn hd l2 l3 l4 (0 : Int32) I h)
set_option maxHeartbeats 4000000 in
set_option maxRecDepth 100000 in
theorem eL_lift {w : zW} {d : Nat} {sl : Nat} {sf : Nat → Int32} {J0 : zMI} {ah : Nat} {n : Nat} {kd : zMK} {I : zML} {R : zMR} {r : zML} {l2 : Int32} {l3 : Int32} (hsl : zxl w = sl) (hsf : zxs w = sf) (hh : zhm w = none) (ha : zHas n kd ah 14) (hn : (kd ah).2 = 130) (hd : 3 ≤ d)  (h : fL_lift sl sf l2 l3 I = some r) : EV w d 0 0 YL_lift 0 [some (.ref 26), some (.ref ah), some (.int l2), some (.int l3), none, none] [] (zHm (n, kd, J0, R) ah I) (qL_lift n kd J0 ah R r) := by
  unfold fL_lift at h
  refine ev_aload_n dL_lift_0 rfl rfl ?_
  refine ev_bipush dL_lift_1 (v := (30 : Int32)) zcb_30 ?_
  refine ev_iload_n dL_lift_3 rfl rfl ?_
  refine ev_iadd dL_lift_4 rfl ?_
  obtain ⟨g46, h⟩ := zgd h
  refine em_laldH hh dL_lift_5 ha hn g46 rfl ?_
  refine ev_l2i dL_lift_6 rfl ?_
  obtain ⟨x47, e48, h⟩ := zld h
  refine ev_nm e48 ?_
  refine ev_istore dL_lift_7 (by decide) rfl ?_
  refine ev_aload_n dL_lift_9 rfl rfl ?_
  refine ev_bipush dL_lift_10 (v := (45 : Int32)) zcb_45 ?_
  refine ev_iload_n dL_lift_12 rfl rfl ?_
  refine ev_iadd dL_lift_13 rfl ?_
  refine ev_dup2 dL_lift_14 rfl rfl ?_
  obtain ⟨g49, h⟩ := zgd h
  refine em_laldH hh dL_lift_15 ha hn g49 rfl ?_
  refine ev_lconst dL_lift_16 (v := (1 : Int64)) rfl ?_
  refine ev_ladd dL_lift_17 rfl ?_
  obtain ⟨J50, e51, h⟩ := zld h
  refine em_lastH hh dL_lift_18 ha hn g49 e51 ?_
  refine ev_aload_n dL_lift_19 rfl rfl ?_
  refine ev_bipush dL_lift_20 (v := (70 : Int32)) zcb_70 ?_
  refine ev_iload dL_lift_22 rfl ?_
  refine ev_iadd dL_lift_24 rfl ?_
  obtain ⟨g52, h⟩ := zgd h
  refine em_laldH hh dL_lift_25 ha hn g52 rfl ?_
  refine ev_lconst dL_lift_26 (v := (0 : Int64)) rfl ?_
  refine ev_lcmp dL_lift_27 rfl ?_
  refine ev_if_ne dL_lift_28 (tgt := 54) (by decide) (fun c53 => ?_) (fun c53 => ?_)
  · replace h := zif c53 h
    refine ev_aload_n dL_lift_54 rfl rfl ?_
    refine ev_bipush dL_lift_55 (v := (80 : Int32)) zcb_80 ?_
    refine ev_iload dL_lift_57 rfl ?_
    refine ev_iadd dL_lift_59 rfl ?_
    refine ev_dup2 dL_lift_60 rfl rfl ?_
    obtain ⟨g54, h⟩ := zgd h
    refine em_laldH hh dL_lift_61 ha hn g54 rfl ?_
    refine ev_lconst dL_lift_62 (v := (1 : Int64)) rfl ?_
    refine ev_ladd dL_lift_63 rfl ?_
    obtain ⟨J55, e56, h⟩ := zld h
    refine em_lastH hh dL_lift_64 ha hn g54 e56 ?_
    refine ev_aload_n dL_lift_65 rfl rfl ?_
    refine ev_bipush dL_lift_66 (v := (9 : Int32)) zcb_9 ?_
    refine ev_iload dL_lift_68 rfl ?_
    refine ev_iadd dL_lift_70 rfl ?_
    obtain ⟨g57, h⟩ := zgd h
    refine em_laldH hh dL_lift_71 ha hn g57 rfl ?_
    refine ev_lconst dL_lift_72 (v := (0 : Int64)) rfl ?_
    refine ev_lcmp dL_lift_73 rfl ?_
    refine ev_if_le dL_lift_74 (tgt := 113) (by decide) (fun c58 => ?_) (fun c58 => ?_)
    · replace h := zit c58 h
      exact EV.mask [true, true, true, true, true, false] rfl (eL_lift_B113 hsl hsf hh ha hn hd l2 l3 x47 J55 h)
    · replace h := zif c58 h
      refine ev_aload_n dL_lift_77 rfl rfl ?_
      refine ev_bipush dL_lift_78 (v := (80 : Int32)) zcb_80 ?_
      refine ev_iload dL_lift_80 rfl ?_
      refine ev_iadd dL_lift_82 rfl ?_
      refine em_laldH hh dL_lift_83 ha hn g54 rfl ?_
      refine ev_aload_n dL_lift_84 rfl rfl ?_
      refine ev_bipush dL_lift_85 (v := (9 : Int32)) zcb_9 ?_
      refine ev_iload dL_lift_87 rfl ?_
      refine ev_iadd dL_lift_89 rfl ?_
      refine em_laldH hh dL_lift_90 ha hn g57 rfl ?_
      obtain ⟨g59, h⟩ := zgd h
      refine ev_lrem dL_lift_91 g59 rfl ?_
      refine ev_lconst dL_lift_92 (v := (0 : Int64)) rfl ?_
      refine ev_lcmp dL_lift_93 rfl ?_
      refine ev_if_ne dL_lift_94 (tgt := 113) (by decide) (fun c60 => ?_) (fun c60 => ?_)
      · replace h := zif c60 h
        exact EV.mask [true, true, true, true, true, false] rfl (eL_lift_B113 hsl hsf hh ha hn hd l2 l3 x47 J55 h)
      · replace h := zit c60 h
        refine ev_aload_n dL_lift_97 rfl rfl ?_
        refine ev_bipush dL_lift_98 (v := (70 : Int32)) zcb_70 ?_
        refine ev_iload dL_lift_100 rfl ?_
        refine ev_iadd dL_lift_102 rfl ?_
        refine em_laldH hh dL_lift_103 ha hn g52 rfl ?_
        refine ev_lconst dL_lift_104 (v := (1 : Int64)) rfl ?_
        refine ev_lcmp dL_lift_105 rfl ?_
        refine ev_if_le dL_lift_106 (tgt := 113) (by decide) (fun c61 => ?_) (fun c61 => ?_)
        · replace h := zit c61 h
          exact EV.mask [true, true, true, true, true, false] rfl (eL_lift_B113 hsl hsf hh ha hn hd l2 l3 x47 J55 h)
        · replace h := zif c61 h
          refine ev_iconst dL_lift_109 (v := (1 : Int32)) zci_1 ?_
          refine ev_goto dL_lift_110 (tgt := 114) (by decide) ?_
          exact EV.mask [true, true, true, true, true, false] rfl (eL_lift_B114 hsl hsf hh ha hn hd l2 l3 x47 (1 : Int32) J55 h)
  · replace h := zit c53 h
    refine ev_aload_n dL_lift_31 rfl rfl ?_
    refine ev_bipush dL_lift_32 (v := (100 : Int32)) zcb_100 ?_
    refine ev_dup2 dL_lift_34 rfl rfl ?_
    obtain ⟨g62, h⟩ := zgd h
    refine em_laldH hh dL_lift_35 ha hn g62 rfl ?_
    refine ev_lconst dL_lift_36 (v := (1 : Int64)) rfl ?_
    refine ev_iload dL_lift_37 rfl ?_
    refine ev_lshl dL_lift_39 rfl ?_
    refine ev_lor dL_lift_40 rfl ?_
    obtain ⟨J63, e64, h⟩ := zld h
    refine em_lastH hh dL_lift_41 ha hn g62 e64 ?_
    refine ev_aload_n dL_lift_42 rfl rfl ?_
    refine ev_bipush dL_lift_43 (v := (60 : Int32)) zcb_60 ?_
    refine ev_iload_n dL_lift_45 rfl rfl ?_
    refine ev_iadd dL_lift_46 rfl ?_
    refine ev_ldc2 dL_lift_47 zk_NineHeapsLaw_113 ?_
    obtain ⟨g65, h⟩ := zgd h
    obtain ⟨J66, e67, h⟩ := zld h
    refine em_lastH hh dL_lift_50 ha hn g65 e67 ?_
    refine ev_goto dL_lift_51 (tgt := 180) (by decide) ?_
    exact EV.mask [true, true, true, true, false, false] rfl (eL_lift_B180 hsl hsf hh ha hn hd l2 l3 J66 h)
abbrev qL_second (n : Nat) (kd : zMK) (J0 : zMI) (ah : Nat) (R : zMR) (r : zML) : Option Value → zM → Prop := fun v μ1 => v = none ∧ μ1 = zHm (n, kd, J0, R) ah r
set_option maxHeartbeats 4000000 in
set_option maxRecDepth 100000 in
theorem eL_second_B324 {w : zW} {d : Nat} {sl : Nat} {sf : Nat → Int32} {J0 : zMI} {ah : Nat} {n : Nat} {kd : zMK} {R : zMR} {r : zML} {k3 : Int32 → Int32 → Int32 → Int32 → zML → Option (zML)} (hsl : zxl w = sl) (hsf : zxs w = sf) (hh : zhm w = none) (ha : zHas n kd ah 14) (hn : (kd ah).2 = 130) (hd : 4 ≤ d)  (hk3 : ∀ (l2 : Int32) (l3 : Int32) (l4 : Int32) (l5 : Int32) (I : zML), k3 l2 l3 l4 l5 I = some r → EV w d 0 0 YL_second 3 [some (.ref 26), some (.ref ah), some (.int l2), some (.int l3), some (.int l4), some (.int l5), none, none, none, none] [] (zHm (n, kd, J0, R) ah I) (qL_second n kd J0 ah R r)) : ∀ (l2 : Int32) (l3 : Int32) (l4 : Int32) (l5 : Int32) (I : zML), fL_second_B324 sl sf k3 l2 l3 l4 l5 I = some r → EV w d 0 0 YL_second 324 [some (.ref 26), some (.ref ah), some (.int l2), some (.int l3), some (.int l4), some (.int l5), none, none, none, none] [] (zHm (n, kd, J0, R) ah I) (qL_second n kd J0 ah R r) := by
  intro l2 l3 l4 l5 I h
  unfold fL_second_B324 at h
  refine ev_iinc dL_second_324 (v := l5 + (1 : Int32)) rfl rfl (by decide) rfl ?_
  refine ev_goto dL_second_327 (tgt := 3) (by decide) ?_
  exact EV.mask [true, true, true, true, true, true, false, false, false, false] rfl (hk3 l2 l3 l4 (l5 + (1 : Int32)) I h)
set_option maxHeartbeats 4000000 in
set_option maxRecDepth 100000 in
theorem eL_second_B243 {w : zW} {d : Nat} {sl : Nat} {sf : Nat → Int32} {J0 : zMI} {ah : Nat} {n : Nat} {kd : zMK} {R : zMR} {r : zML} {k180 : Int32 → Int32 → Int32 → Int32 → Int32 → Int32 → Int32 → zML → Option (zML)} (hsl : zxl w = sl) (hsf : zxs w = sf) (hh : zhm w = none) (ha : zHas n kd ah 14) (hn : (kd ah).2 = 130) (hd : 4 ≤ d)  (hk180 : ∀ (l2 : Int32) (l3 : Int32) (l4 : Int32) (l5 : Int32) (l6 : Int32) (l7 : Int32) (l8 : Int32) (I : zML), k180 l2 l3 l4 l5 l6 l7 l8 I = some r → EV w d 0 0 YL_second 180 [some (.ref 26), some (.ref ah), some (.int l2), some (.int l3), some (.int l4), some (.int l5), some (.int l6), some (.int l7), some (.int l8), none] [] (zHm (n, kd, J0, R) ah I) (qL_second n kd J0 ah R r)) : ∀ (l2 : Int32) (l3 : Int32) (l4 : Int32) (l5 : Int32) (l6 : Int32) (l8 : Int32) (s0 : Int32) (s1 : Int32) (I : zML), fL_second_B243 sl sf k180 l2 l3 l4 l5 l6 l8 s0 s1 I = some r → EV w d 0 0 YL_second 243 [some (.ref 26), some (.ref ah), some (.int l2), some (.int l3), some (.int l4), some (.int l5), some (.int l6), none, some (.int l8), none] [.int s1, .int s0] (zHm (n, kd, J0, R) ah I) (qL_second n kd J0 ah R r) := by
  intro l2 l3 l4 l5 l6 l8 s0 s1 I h
  unfold fL_second_B243 at h
  refine ev_ior dL_second_243 rfl ?_
  refine ev_istore dL_second_244 (by decide) rfl ?_
  refine ev_iinc dL_second_246 (v := l8 + (1 : Int32)) rfl rfl (by decide) rfl ?_
  refine ev_goto dL_second_249 (tgt := 180) (by decide) ?_
  exact EV.mask [true, true, true, true, true, true, true, true, true, false] rfl (hk180 l2 l3 l4 l5 l6 (s0 ||| s1) (l8 + (1 : Int32)) I h)
set_option maxHeartbeats 4000000 in
set_option maxRecDepth 100000 in
theorem eL_second_B242 {w : zW} {d : Nat} {sl : Nat} {sf : Nat → Int32} {J0 : zMI} {ah : Nat} {n : Nat} {kd : zMK} {R : zMR} {r : zML} {k180 : Int32 → Int32 → Int32 → Int32 → Int32 → Int32 → Int32 → zML → Option (zML)} (hsl : zxl w = sl) (hsf : zxs w = sf) (hh : zhm w = none) (ha : zHas n kd ah 14) (hn : (kd ah).2 = 130) (hd : 4 ≤ d)  (hk180 : ∀ (l2 : Int32) (l3 : Int32) (l4 : Int32) (l5 : Int32) (l6 : Int32) (l7 : Int32) (l8 : Int32) (I : zML), k180 l2 l3 l4 l5 l6 l7 l8 I = some r → EV w d 0 0 YL_second 180 [some (.ref 26), some (.ref ah), some (.int l2), some (.int l3), some (.int l4), some (.int l5), some (.int l6), some (.int l7), some (.int l8), none] [] (zHm (n, kd, J0, R) ah I) (qL_second n kd J0 ah R r)) : ∀ (l2 : Int32) (l3 : Int32) (l4 : Int32) (l5 : Int32) (l6 : Int32) (l8 : Int32) (s0 : Int32) (I : zML), fL_second_B242 sl sf k180 l2 l3 l4 l5 l6 l8 s0 I = some r → EV w d 0 0 YL_second 242 [some (.ref 26), some (.ref ah), some (.int l2), some (.int l3), some (.int l4), some (.int l5), some (.int l6), none, some (.int l8), none] [.int s0] (zHm (n, kd, J0, R) ah I) (qL_second n kd J0 ah R r) := by
  intro l2 l3 l4 l5 l6 l8 s0 I h
  unfold fL_second_B242 at h
  refine ev_iconst dL_second_242 (v := (0 : Int32)) zci_0 ?_
  exact EV.mask [true, true, true, true, true, true, true, false, true, false] rfl (eL_second_B243 hsl hsf hh ha hn hd hk180 l2 l3 l4 l5 l6 l8 s0 (0 : Int32) I h)
set_option maxHeartbeats 4000000 in
set_option maxRecDepth 100000 in
theorem eL_second_L180 {w : zW} {d : Nat} {sl : Nat} {sf : Nat → Int32} {J0 : zMI} {ah : Nat} {n : Nat} {kd : zMK} {R : zMR} {r : zML} {k252 : Int32 → Int32 → Int32 → Int32 → Int32 → Int32 → zML → Option (zML)} (hsl : zxl w = sl) (hsf : zxs w = sf) (hh : zhm w = none) (ha : zHas n kd ah 14) (hn : (kd ah).2 = 130) (hd : 4 ≤ d)  (hk252 : ∀ (l2 : Int32) (l3 : Int32) (l4 : Int32) (l5 : Int32) (l6 : Int32) (l7 : Int32) (I : zML), k252 l2 l3 l4 l5 l6 l7 I = some r → EV w d 0 0 YL_second 252 [some (.ref 26), some (.ref ah), some (.int l2), some (.int l3), some (.int l4), some (.int l5), some (.int l6), some (.int l7), none, none] [] (zHm (n, kd, J0, R) ah I) (qL_second n kd J0 ah R r)) : ∀ (q : Nat) (l2 : Int32) (l3 : Int32) (l4 : Int32) (l5 : Int32) (l6 : Int32) (l7 : Int32) (l8 : Int32) (I : zML), fL_second_L180 sl sf k252 q l2 l3 l4 l5 l6 l7 l8 I = some r → EV w d 0 0 YL_second 180 [some (.ref 26), some (.ref ah), some (.int l2), some (.int l3), some (.int l4), some (.int l5), some (.int l6), some (.int l7), some (.int l8), none] [] (zHm (n, kd, J0, R) ah I) (qL_second n kd J0 ah R r) := by
  intro q
  induction q with
  | zero =>
    intro l2 l3 l4 l5 l6 l7 l8 I h
    cases h
  | succ q ih =>
    intro l2 l3 l4 l5 l6 l7 l8 I h
    unfold fL_second_L180 at h
    refine ev_iload dL_second_180 rfl ?_
    refine ev_iload_n dL_second_182 rfl rfl ?_
    refine ev_icmp_ge dL_second_183 (tgt := 252) (by decide) (fun c1 => ?_) (fun c1 => ?_)
    · replace h := zit c1 h
      exact EV.mask [true, true, true, true, true, true, true, true, false, false] rfl (hk252 l2 l3 l4 l5 l6 l7 I h)
    · replace h := zif c1 h
      refine ev_iload_n dL_second_186 rfl rfl ?_
      refine ev_iconst dL_second_187 (v := (3 : Int32)) zci_3 ?_
      refine ev_iload dL_second_188 rfl ?_
      refine ev_imul dL_second_190 rfl ?_
      refine ev_ishr dL_second_191 rfl ?_
      refine ev_bipush dL_second_192 (v := (7 : Int32)) zcb_7 ?_
      refine ev_iand dL_second_194 rfl ?_
      obtain ⟨x2, e3, h⟩ := zld h
      refine ev_nm e3 ?_
      refine ev_istore dL_second_195 (by decide) rfl ?_
      refine ev_iload dL_second_197 rfl ?_
      refine ev_iload dL_second_199 rfl ?_
      refine ev_iload dL_second_201 rfl ?_
      refine ev_icmp_eq dL_second_203 (tgt := 242) (by decide) (fun c4 => ?_) (fun c4 => ?_)
      · replace h := zit c4 h
        exact EV.mask [true, true, true, true, true, true, true, false, true, false] rfl (eL_second_B242 hsl hsf hh ha hn hd (fun l2' l3' l4' l5' l6' l7' l8' I' h' => ih l2' l3' l4' l5' l6' l7' l8' I' h') l2 l3 l4 l5 l6 l8 l7 I h)
      · replace h := zif c4 h
        refine ev_aload_n dL_second_206 rfl rfl ?_
        refine ev_bipush dL_second_207 (v := (35 : Int32)) zcb_35 ?_
        refine ev_iload dL_second_209 rfl ?_
        refine ev_iadd dL_second_211 rfl ?_
        obtain ⟨g5, h⟩ := zgd h
        refine em_laldH hh dL_second_212 ha hn g5 rfl ?_
        refine ev_ldc2 dL_second_213 zk_NineHeapsLaw_113 ?_
        refine ev_lcmp dL_second_216 rfl ?_
        refine ev_if_ne dL_second_217 (tgt := 242) (by decide) (fun c6 => ?_) (fun c6 => ?_)
        · replace h := zif c6 h
          exact EV.mask [true, true, true, true, true, true, true, false, true, false] rfl (eL_second_B242 hsl hsf hh ha hn hd (fun l2' l3' l4' l5' l6' l7' l8' I' h' => ih l2' l3' l4' l5' l6' l7' l8' I' h') l2 l3 l4 l5 l6 l8 l7 I h)
        · replace h := zit c6 h
          refine ev_aload_n dL_second_220 rfl rfl ?_
          refine ev_bipush dL_second_221 (v := (30 : Int32)) zcb_30 ?_
          refine ev_iload dL_second_223 rfl ?_
          refine ev_iadd dL_second_225 rfl ?_
          obtain ⟨g7, h⟩ := zgd h
          refine em_laldH hh dL_second_226 ha hn g7 rfl ?_
          refine ev_aload_n dL_second_227 rfl rfl ?_
          refine ev_bipush dL_second_228 (v := (30 : Int32)) zcb_30 ?_
          refine ev_iload dL_second_230 rfl ?_
          refine ev_iadd dL_second_232 rfl ?_
          obtain ⟨g8, h⟩ := zgd h
          refine em_laldH hh dL_second_233 ha hn g8 rfl ?_
          refine ev_lcmp dL_second_234 rfl ?_
          refine ev_if_ne dL_second_235 (tgt := 242) (by decide) (fun c9 => ?_) (fun c9 => ?_)
          · replace h := zif c9 h
            exact EV.mask [true, true, true, true, true, true, true, false, true, false] rfl (eL_second_B242 hsl hsf hh ha hn hd (fun l2' l3' l4' l5' l6' l7' l8' I' h' => ih l2' l3' l4' l5' l6' l7' l8' I' h') l2 l3 l4 l5 l6 l8 l7 I h)
          · replace h := zit c9 h
            refine ev_iconst dL_second_238 (v := (1 : Int32)) zci_1 ?_
            refine ev_goto dL_second_239 (tgt := 243) (by decide) ?_
            exact EV.mask [true, true, true, true, true, true, true, false, true, false] rfl (eL_second_B243 hsl hsf hh ha hn hd (fun l2' l3' l4' l5' l6' l7' l8' I' h' => ih l2' l3' l4' l5' l6' l7' l8' I' h') l2 l3 l4 l5 l6 l8 l7 (1 : Int32) I h)
set_option maxHeartbeats 4000000 in
set_option maxRecDepth 100000 in
theorem eL_second_B285 {w : zW} {d : Nat} {sl : Nat} {sf : Nat → Int32} {J0 : zMI} {ah : Nat} {n : Nat} {kd : zMK} {R : zMR} {r : zML} {k3 : Int32 → Int32 → Int32 → Int32 → zML → Option (zML)} (hsl : zxl w = sl) (hsf : zxs w = sf) (hh : zhm w = none) (ha : zHas n kd ah 14) (hn : (kd ah).2 = 130) (hd : 4 ≤ d)  (hk3 : ∀ (l2 : Int32) (l3 : Int32) (l4 : Int32) (l5 : Int32) (I : zML), k3 l2 l3 l4 l5 I = some r → EV w d 0 0 YL_second 3 [some (.ref 26), some (.ref ah), some (.int l2), some (.int l3), some (.int l4), some (.int l5), none, none, none, none] [] (zHm (n, kd, J0, R) ah I) (qL_second n kd J0 ah R r)) : ∀ (l2 : Int32) (l3 : Int32) (l4 : Int32) (l5 : Int32) (l6 : Int32) (I : zML), fL_second_B285 sl sf k3 l2 l3 l4 l5 l6 I = some r → EV w d 0 0 YL_second 285 [some (.ref 26), some (.ref ah), some (.int l2), some (.int l3), some (.int l4), some (.int l5), some (.int l6), none, none, none] [] (zHm (n, kd, J0, R) ah I) (qL_second n kd J0 ah R r) := by
  intro l2 l3 l4 l5 l6 I h
  unfold fL_second_B285 at h
  refine ev_aload_n dL_second_285 rfl rfl ?_
  refine ev_bipush dL_second_286 (v := (35 : Int32)) zcb_35 ?_
  refine ev_iload dL_second_288 rfl ?_
  refine ev_iadd dL_second_290 rfl ?_
  refine ev_ldc2 dL_second_291 zk_NineHeapsLaw_113 ?_
  obtain ⟨g10, h⟩ := zgd h
  obtain ⟨J11, e12, h⟩ := zld h
  refine em_lastH hh dL_second_294 ha hn g10 e12 ?_
  refine ev_aload_n dL_second_295 rfl rfl ?_
  refine ev_bipush dL_second_296 (v := (40 : Int32)) zcb_40 ?_
  refine ev_iload dL_second_298 rfl ?_
  refine ev_iadd dL_second_300 rfl ?_
  refine ev_aload_n dL_second_301 rfl rfl ?_
  refine ev_aload_n dL_second_302 rfl rfl ?_
  refine ev_iload dL_second_303 rfl ?_
  refine ev_aload_n dL_second_305 rfl rfl ?_
  refine ev_bipush dL_second_306 (v := (30 : Int32)) zcb_30 ?_
  refine ev_iload dL_second_308 rfl ?_
  refine ev_iadd dL_second_310 rfl ?_
  obtain ⟨g13, h⟩ := zgd h
  refine em_laldH hh dL_second_311 ha hn g13 rfl ?_
  refine ev_aload_n dL_second_312 rfl rfl ?_
  refine ev_bipush dL_second_313 (v := (50 : Int32)) zcb_50 ?_
  refine ev_iload dL_second_315 rfl ?_
  refine ev_iadd dL_second_317 rfl ?_
  obtain ⟨g14, h⟩ := zgd h
  refine em_laldH hh dL_second_318 ha hn g14 rfl ?_
  obtain ⟨p15, e16, h⟩ := zbd h
  refine ev_callS0 dL_second_319 zmL_takes zl_NineHeapsLaw_127 zsL_takes (As := [.ref 26, .ref ah, .int l6, .long (J11 ((30 : Int32) + l6).toNatClampNeg), .long (J11 ((50 : Int32) + l6).toNatClampNeg)]) (rest := [.int ((40 : Int32) + l6), .ref ah]) rfl rfl (Nat.le_of_ble_eq_true rfl) rfl (Nat.le_of_ble_eq_true rfl) (d' := 3) (by omega) (eL_takes hsl hsf hh ha hn (Nat.le_refl _) e16) (fun v μ1 q => ?_)
  obtain ⟨rfl, rfl⟩ := q
  refine ev_i2l dL_second_322 rfl ?_
  obtain ⟨g17, h⟩ := zgd h
  obtain ⟨J18, e19, h⟩ := zld h
  refine em_lastH hh dL_second_323 ha hn g17 e19 ?_
  exact EV.mask [true, true, true, true, true, true, false, false, false, false] rfl (eL_second_B324 hsl hsf hh ha hn hd hk3 l2 l3 l4 l5 J18 h)
set_option maxHeartbeats 4000000 in
set_option maxRecDepth 100000 in
theorem eL_second_B252 {w : zW} {d : Nat} {sl : Nat} {sf : Nat → Int32} {J0 : zMI} {ah : Nat} {n : Nat} {kd : zMK} {R : zMR} {r : zML} {k3 : Int32 → Int32 → Int32 → Int32 → zML → Option (zML)} (hsl : zxl w = sl) (hsf : zxs w = sf) (hh : zhm w = none) (ha : zHas n kd ah 14) (hn : (kd ah).2 = 130) (hd : 4 ≤ d)  (hk3 : ∀ (l2 : Int32) (l3 : Int32) (l4 : Int32) (l5 : Int32) (I : zML), k3 l2 l3 l4 l5 I = some r → EV w d 0 0 YL_second 3 [some (.ref 26), some (.ref ah), some (.int l2), some (.int l3), some (.int l4), some (.int l5), none, none, none, none] [] (zHm (n, kd, J0, R) ah I) (qL_second n kd J0 ah R r)) : ∀ (l2 : Int32) (l3 : Int32) (l4 : Int32) (l5 : Int32) (l6 : Int32) (l7 : Int32) (I : zML), fL_second_B252 sl sf k3 l2 l3 l4 l5 l6 l7 I = some r → EV w d 0 0 YL_second 252 [some (.ref 26), some (.ref ah), some (.int l2), some (.int l3), some (.int l4), some (.int l5), some (.int l6), some (.int l7), none, none] [] (zHm (n, kd, J0, R) ah I) (qL_second n kd J0 ah R r) := by
  intro l2 l3 l4 l5 l6 l7 I h
  unfold fL_second_B252 at h
  refine ev_iload dL_second_252 rfl ?_
  refine ev_if_eq dL_second_254 (tgt := 285) (by decide) (fun c20 => ?_) (fun c20 => ?_)
  · replace h := zit c20 h
    exact EV.mask [true, true, true, true, true, true, true, false, false, false] rfl (eL_second_B285 hsl hsf hh ha hn hd hk3 l2 l3 l4 l5 l6 I h)
  · replace h := zif c20 h
    refine ev_aload_n dL_second_257 rfl rfl ?_
    refine ev_bipush dL_second_258 (v := (20 : Int32)) zcb_20 ?_
    refine ev_iload dL_second_260 rfl ?_
    refine ev_iadd dL_second_262 rfl ?_
    obtain ⟨g21, h⟩ := zgd h
    refine em_laldH hh dL_second_263 ha hn g21 rfl ?_
    refine ev_ldc2 dL_second_264 zk_NineHeapsLaw_125 ?_
    refine ev_lcmp dL_second_267 rfl ?_
    refine ev_if_eq dL_second_268 (tgt := 285) (by decide) (fun c22 => ?_) (fun c22 => ?_)
    · replace h := zit c22 h
      exact EV.mask [true, true, true, true, true, true, true, false, false, false] rfl (eL_second_B285 hsl hsf hh ha hn hd hk3 l2 l3 l4 l5 l6 I h)
    · replace h := zif c22 h
      refine ev_aload_n dL_second_271 rfl rfl ?_
      refine ev_bipush dL_second_272 (v := (55 : Int32)) zcb_55 ?_
      refine ev_iload dL_second_274 rfl ?_
      refine ev_iadd dL_second_276 rfl ?_
      refine ev_dup2 dL_second_277 rfl rfl ?_
      obtain ⟨g23, h⟩ := zgd h
      refine em_laldH hh dL_second_278 ha hn g23 rfl ?_
      refine ev_lconst dL_second_279 (v := (1 : Int64)) rfl ?_
      refine ev_ladd dL_second_280 rfl ?_
      obtain ⟨J24, e25, h⟩ := zld h
      refine em_lastH hh dL_second_281 ha hn g23 e25 ?_
      refine ev_goto dL_second_282 (tgt := 324) (by decide) ?_
      exact EV.mask [true, true, true, true, true, true, false, false, false, false] rfl (eL_second_B324 hsl hsf hh ha hn hd hk3 l2 l3 l4 l5 J24 h)
set_option maxHeartbeats 4000000 in
set_option maxRecDepth 100000 in
theorem eL_second_B174 {w : zW} {d : Nat} {sl : Nat} {sf : Nat → Int32} {J0 : zMI} {ah : Nat} {n : Nat} {kd : zMK} {R : zMR} {r : zML} {k3 : Int32 → Int32 → Int32 → Int32 → zML → Option (zML)} (hsl : zxl w = sl) (hsf : zxs w = sf) (hh : zhm w = none) (ha : zHas n kd ah 14) (hn : (kd ah).2 = 130) (hd : 4 ≤ d)  (hk3 : ∀ (l2 : Int32) (l3 : Int32) (l4 : Int32) (l5 : Int32) (I : zML), k3 l2 l3 l4 l5 I = some r → EV w d 0 0 YL_second 3 [some (.ref 26), some (.ref ah), some (.int l2), some (.int l3), some (.int l4), some (.int l5), none, none, none, none] [] (zHm (n, kd, J0, R) ah I) (qL_second n kd J0 ah R r)) : ∀ (l2 : Int32) (l3 : Int32) (l4 : Int32) (l5 : Int32) (l6 : Int32) (I : zML), fL_second_B174 sl sf k3 l2 l3 l4 l5 l6 I = some r → EV w d 0 0 YL_second 174 [some (.ref 26), some (.ref ah), some (.int l2), some (.int l3), some (.int l4), some (.int l5), some (.int l6), none, none, none] [] (zHm (n, kd, J0, R) ah I) (qL_second n kd J0 ah R r) := by
  intro l2 l3 l4 l5 l6 I h
  unfold fL_second_B174 at h
  refine ev_iconst dL_second_174 (v := (0 : Int32)) zci_0 ?_
  refine ev_istore dL_second_175 (by decide) rfl ?_
  refine ev_iconst dL_second_177 (v := (0 : Int32)) zci_0 ?_
  refine ev_istore dL_second_178 (by decide) rfl ?_
  exact EV.mask [true, true, true, true, true, true, true, true, true, false] rfl (eL_second_L180 hsl hsf hh ha hn hd (fun l2' l3' l4' l5' l6' l7' I' h' => eL_second_B252 hsl hsf hh ha hn hd hk3 l2' l3' l4' l5' l6' l7' I' h') zF l2 l3 l4 l5 l6 (0 : Int32) (0 : Int32) I h)
set_option maxHeartbeats 4000000 in
set_option maxRecDepth 100000 in
theorem eL_second_L3 {w : zW} {d : Nat} {sl : Nat} {sf : Nat → Int32} {J0 : zMI} {ah : Nat} {n : Nat} {kd : zMK} {R : zMR} {r : zML}  (hsl : zxl w = sl) (hsf : zxs w = sf) (hh : zhm w = none) (ha : zHas n kd ah 14) (hn : (kd ah).2 = 130) (hd : 4 ≤ d)   : ∀ (q : Nat) (l2 : Int32) (l3 : Int32) (l4 : Int32) (l5 : Int32) (I : zML), fL_second_L3 sl sf q l2 l3 l4 l5 I = some r → EV w d 0 0 YL_second 3 [some (.ref 26), some (.ref ah), some (.int l2), some (.int l3), some (.int l4), some (.int l5), none, none, none, none] [] (zHm (n, kd, J0, R) ah I) (qL_second n kd J0 ah R r) := by
  intro q
  induction q with
  | zero =>
    intro l2 l3 l4 l5 I h
    cases h
  | succ q ih =>
    intro l2 l3 l4 l5 I h
    unfold fL_second_L3 at h
    refine ev_iload dL_second_3 rfl ?_
    refine ev_iload_n dL_second_5 rfl rfl ?_
    refine ev_icmp_ge dL_second_6 (tgt := 330) (by decide) (fun c26 => ?_) (fun c26 => ?_)
    · replace h := zit c26 h
      obtain rfl := Option.some.inj h
      exact ev_end_v dL_second_330 rfl ⟨rfl, rfl⟩
    · replace h := zif c26 h
      refine ev_iload_n dL_second_9 rfl rfl ?_
      refine ev_iconst dL_second_10 (v := (3 : Int32)) zci_3 ?_
      refine ev_iload dL_second_11 rfl ?_
      refine ev_imul dL_second_13 rfl ?_
      refine ev_ishr dL_second_14 rfl ?_
      refine ev_bipush dL_second_15 (v := (7 : Int32)) zcb_7 ?_
      refine ev_iand dL_second_17 rfl ?_
      obtain ⟨x27, e28, h⟩ := zld h
      refine ev_nm e28 ?_
      refine ev_istore dL_second_18 (by decide) rfl ?_
      refine ev_aload_n dL_second_20 rfl rfl ?_
      refine ev_bipush dL_second_21 (v := (35 : Int32)) zcb_35 ?_
      refine ev_iload dL_second_23 rfl ?_
      refine ev_iadd dL_second_25 rfl ?_
      obtain ⟨g29, h⟩ := zgd h
      refine em_laldH hh dL_second_26 ha hn g29 rfl ?_
      refine ev_ldc2 dL_second_27 zk_NineHeapsLaw_113 ?_
      refine ev_lcmp dL_second_30 rfl ?_
      refine ev_if_ne dL_second_31 (tgt := 128) (by decide) (fun c30 => ?_) (fun c30 => ?_)
      · replace h := zif c30 h
        refine ev_aload_n dL_second_128 rfl rfl ?_
        refine ev_bipush dL_second_129 (v := (35 : Int32)) zcb_35 ?_
        refine ev_iload dL_second_131 rfl ?_
        refine ev_iadd dL_second_133 rfl ?_
        refine em_laldH hh dL_second_134 ha hn g29 rfl ?_
        refine ev_lconst dL_second_135 (v := (0 : Int64)) rfl ?_
        refine ev_lcmp dL_second_136 rfl ?_
        refine ev_if_ne dL_second_137 (tgt := 174) (by decide) (fun c31 => ?_) (fun c31 => ?_)
        · replace h := zif c31 h
          exact EV.mask [true, true, true, true, true, true, true, false, false, false] rfl (eL_second_B174 hsl hsf hh ha hn hd (fun l2' l3' l4' l5' I' h' => ih l2' l3' l4' l5' I' h') l2 l3 l4 l5 x27 I h)
        · replace h := zit c31 h
          refine ev_aload_n dL_second_140 rfl rfl ?_
          refine ev_bipush dL_second_141 (v := (40 : Int32)) zcb_40 ?_
          refine ev_iload dL_second_143 rfl ?_
          refine ev_iadd dL_second_145 rfl ?_
          refine ev_dup2 dL_second_146 rfl rfl ?_
          obtain ⟨g32, h⟩ := zgd h
          refine em_laldH hh dL_second_147 ha hn g32 rfl ?_
          refine ev_lconst dL_second_148 (v := (1 : Int64)) rfl ?_
          refine ev_lsub dL_second_149 rfl ?_
          obtain ⟨J33, e34, h⟩ := zld h
          refine em_lastH hh dL_second_150 ha hn g32 e34 ?_
          refine ev_aload_n dL_second_151 rfl rfl ?_
          refine ev_bipush dL_second_152 (v := (40 : Int32)) zcb_40 ?_
          refine ev_iload dL_second_154 rfl ?_
          refine ev_iadd dL_second_156 rfl ?_
          refine em_laldH hh dL_second_157 ha hn g32 rfl ?_
          refine ev_lconst dL_second_158 (v := (0 : Int64)) rfl ?_
          refine ev_lcmp dL_second_159 rfl ?_
          refine ev_if_le dL_second_160 (tgt := 166) (by decide) (fun c35 => ?_) (fun c35 => ?_)
          · replace h := zit c35 h
            refine ev_aload_n dL_second_166 rfl rfl ?_
            refine ev_bipush dL_second_167 (v := (35 : Int32)) zcb_35 ?_
            refine ev_iload dL_second_169 rfl ?_
            refine ev_iadd dL_second_171 rfl ?_
            refine ev_lconst dL_second_172 (v := (1 : Int64)) rfl ?_
            obtain ⟨J36, e37, h⟩ := zld h
            refine em_lastH hh dL_second_173 ha hn g29 e37 ?_
            exact EV.mask [true, true, true, true, true, true, true, false, false, false] rfl (eL_second_B174 hsl hsf hh ha hn hd (fun l2' l3' l4' l5' I' h' => ih l2' l3' l4' l5' I' h') l2 l3 l4 l5 x27 J36 h)
          · replace h := zif c35 h
            refine ev_goto dL_second_163 (tgt := 324) (by decide) ?_
            exact EV.mask [true, true, true, true, true, true, false, false, false, false] rfl (eL_second_B324 hsl hsf hh ha hn hd (fun l2' l3' l4' l5' I' h' => ih l2' l3' l4' l5' I' h') l2 l3 l4 l5 J33 h)
      · replace h := zit c30 h
        refine ev_aload_n dL_second_34 rfl rfl ?_
        refine ev_bipush dL_second_35 (v := (40 : Int32)) zcb_40 ?_
        refine ev_iload dL_second_37 rfl ?_
        refine ev_iadd dL_second_39 rfl ?_
        refine ev_dup2 dL_second_40 rfl rfl ?_
        obtain ⟨g38, h⟩ := zgd h
        refine em_laldH hh dL_second_41 ha hn g38 rfl ?_
        refine ev_lconst dL_second_42 (v := (1 : Int64)) rfl ?_
        refine ev_lsub dL_second_43 rfl ?_
        obtain ⟨J39, e40, h⟩ := zld h
        refine em_lastH hh dL_second_44 ha hn g38 e40 ?_
        refine ev_aload_n dL_second_45 rfl rfl ?_
        refine ev_bipush dL_second_46 (v := (40 : Int32)) zcb_40 ?_
        refine ev_iload dL_second_48 rfl ?_
        refine ev_iadd dL_second_50 rfl ?_
        refine em_laldH hh dL_second_51 ha hn g38 rfl ?_
        refine ev_lconst dL_second_52 (v := (0 : Int64)) rfl ?_
        refine ev_lcmp dL_second_53 rfl ?_
        refine ev_if_le dL_second_54 (tgt := 60) (by decide) (fun c41 => ?_) (fun c41 => ?_)
        · replace h := zit c41 h
          refine ev_aload_n dL_second_60 rfl rfl ?_
          refine ev_aload_n dL_second_61 rfl rfl ?_
          refine ev_iload dL_second_62 rfl ?_
          refine ev_iload dL_second_64 rfl ?_
          obtain ⟨p42, e43, h⟩ := zbd h
          refine ev_callS0 dL_second_66 zmL_lift zl_NineHeapsLaw_117 zsL_lift (As := [.ref 26, .ref ah, .int x27, .int l4]) (rest := []) rfl rfl (Nat.le_of_ble_eq_true rfl) rfl (Nat.le_of_ble_eq_true rfl) (d' := 3) (by omega) (eL_lift hsl hsf hh ha hn (Nat.le_refl _) e43) (fun v μ1 q => ?_)
          obtain ⟨rfl, rfl⟩ := q
          refine ev_aload_n dL_second_69 rfl rfl ?_
          refine ev_bipush dL_second_70 (v := (40 : Int32)) zcb_40 ?_
          refine ev_iload dL_second_72 rfl ?_
          refine ev_iadd dL_second_74 rfl ?_
          refine ev_aload_n dL_second_75 rfl rfl ?_
          refine ev_aload_n dL_second_76 rfl rfl ?_
          refine ev_iload dL_second_77 rfl ?_
          refine ev_aload_n dL_second_79 rfl rfl ?_
          refine ev_bipush dL_second_80 (v := (70 : Int32)) zcb_70 ?_
          refine ev_aload_n dL_second_82 rfl rfl ?_
          refine ev_bipush dL_second_83 (v := (30 : Int32)) zcb_30 ?_
          refine ev_iload dL_second_85 rfl ?_
          refine ev_iadd dL_second_87 rfl ?_
          obtain ⟨g44, h⟩ := zgd h
          refine em_laldH hh dL_second_88 ha hn g44 rfl ?_
          refine ev_l2i dL_second_89 rfl ?_
          refine ev_iadd dL_second_90 rfl ?_
          obtain ⟨g45, h⟩ := zgd h
          refine em_laldH hh dL_second_91 ha hn g45 rfl ?_
          obtain ⟨p46, e47, h⟩ := zbd h
          refine ev_callS0 dL_second_92 zmL_steps zl_NineHeapsLaw_121 zsL_steps (As := [.ref 26, .ref ah, .int x27, .long (p42 ((70 : Int32) + ((p42 ((30 : Int32) + x27).toNatClampNeg).toInt32)).toNatClampNeg)]) (rest := [.int ((40 : Int32) + x27), .ref ah]) rfl rfl (Nat.le_of_ble_eq_true rfl) rfl (Nat.le_of_ble_eq_true rfl) (d' := 3) (by omega) (eL_steps hsl hsf hh ha hn (Nat.le_refl _) e47) (fun v μ1 q => ?_)
          obtain ⟨rfl, rfl⟩ := q
          refine ev_i2l dL_second_95 rfl ?_
          obtain ⟨J48, e49, h⟩ := zld h
          refine em_lastH hh dL_second_96 ha hn g38 e49 ?_
          refine ev_aload_n dL_second_97 rfl rfl ?_
          refine ev_bipush dL_second_98 (v := (30 : Int32)) zcb_30 ?_
          refine ev_iload dL_second_100 rfl ?_
          refine ev_iadd dL_second_102 rfl ?_
          refine ev_aload_n dL_second_103 rfl rfl ?_
          refine ev_bipush dL_second_104 (v := (30 : Int32)) zcb_30 ?_
          refine ev_iload dL_second_106 rfl ?_
          refine ev_iadd dL_second_108 rfl ?_
          refine em_laldH hh dL_second_109 ha hn g44 rfl ?_
          refine ev_lconst dL_second_110 (v := (1 : Int64)) rfl ?_
          refine ev_ladd dL_second_111 rfl ?_
          refine ev_ldc2 dL_second_112 zk_NineHeapsLaw_115 ?_
          refine ev_lrem dL_second_115 (by decide) rfl ?_
          obtain ⟨J50, e51, h⟩ := zld h
          refine em_lastH hh dL_second_116 ha hn g44 e51 ?_
          refine ev_aload_n dL_second_117 rfl rfl ?_
          refine ev_bipush dL_second_118 (v := (35 : Int32)) zcb_35 ?_
          refine ev_iload dL_second_120 rfl ?_
          refine ev_iadd dL_second_122 rfl ?_
          refine ev_lconst dL_second_123 (v := (0 : Int64)) rfl ?_
          obtain ⟨J52, e53, h⟩ := zld h
          refine em_lastH hh dL_second_124 ha hn g29 e53 ?_
          refine ev_goto dL_second_125 (tgt := 324) (by decide) ?_
          exact EV.mask [true, true, true, true, true, true, false, false, false, false] rfl (eL_second_B324 hsl hsf hh ha hn hd (fun l2' l3' l4' l5' I' h' => ih l2' l3' l4' l5' I' h') l2 l3 l4 l5 J52 h)
        · replace h := zif c41 h
          refine ev_goto dL_second_57 (tgt := 324) (by decide) ?_
          exact EV.mask [true, true, true, true, true, true, false, false, false, false] rfl (eL_second_B324 hsl hsf hh ha hn hd (fun l2' l3' l4' l5' I' h' => ih l2' l3' l4' l5' I' h') l2 l3 l4 l5 J39 h)
set_option maxHeartbeats 4000000 in
set_option maxRecDepth 100000 in
theorem eL_second {w : zW} {d : Nat} {sl : Nat} {sf : Nat → Int32} {J0 : zMI} {ah : Nat} {n : Nat} {kd : zMK} {I : zML} {R : zMR} {r : zML} {l2 : Int32} {l3 : Int32} {l4 : Int32} (hsl : zxl w = sl) (hsf : zxs w = sf) (hh : zhm w = none) (ha : zHas n kd ah 14) (hn : (kd ah).2 = 130) (hd : 4 ≤ d)  (h : fL_second sl sf l2 l3 l4 I = some r) : EV w d 0 0 YL_second 0 [some (.ref 26), some (.ref ah), some (.int l2), some (.int l3), some (.int l4), none, none, none, none, none] [] (zHm (n, kd, J0, R) ah I) (qL_second n kd J0 ah R r) := by
  unfold fL_second at h
  refine ev_iconst dL_second_0 (v := (0 : Int32)) zci_0 ?_
  refine ev_istore dL_second_1 (by decide) rfl ?_
  exact EV.mask [true, true, true, true, true, true, false, false, false, false] rfl (eL_second_L3 hsl hsf hh ha hn hd zF l2 l3 l4 (0 : Int32) I h)
abbrev qL_go (n : Nat) (kd : zMK) (J0 : zMI) (ah : Nat) (R : zMR) (r : Int32 × zML) : Option Value → zM → Prop := fun v μ1 => v = some (.int r.1) ∧ μ1 = zHm (n, kd, J0, R) ah r.2
set_option maxHeartbeats 4000000 in
set_option maxRecDepth 100000 in
theorem eL_go_L7 {w : zW} {d : Nat} {sl : Nat} {sf : Nat → Int32} {J0 : zMI} {ah : Nat} {n : Nat} {kd : zMK} {R : zMR} {r : Int32 × zML}  (hsl : zxl w = sl) (hsf : zxs w = sf) (hh : zhm w = none) (ha : zHas n kd ah 14) (hn : (kd ah).2 = 130) (hd : 5 ≤ d)   : ∀ (q : Nat) (l2 : Int32) (l3 : Int32) (l4 : Int32) (l5 : Int32) (I : zML), fL_go_L7 sl sf q l2 l3 l4 l5 I = some r → EV w d 0 0 YL_go 7 [some (.ref 26), some (.ref ah), some (.int l2), some (.int l3), some (.int l4), some (.int l5)] [] (zHm (n, kd, J0, R) ah I) (qL_go n kd J0 ah R r) := by
  intro q
  induction q with
  | zero =>
    intro l2 l3 l4 l5 I h
    cases h
  | succ q ih =>
    intro l2 l3 l4 l5 I h
    unfold fL_go_L7 at h
    refine ev_iload dL_go_7 rfl ?_
    refine ev_iload dL_go_9 rfl ?_
    refine ev_icmp_ge dL_go_11 (tgt := 29) (by decide) (fun c1 => ?_) (fun c1 => ?_)
    · replace h := zit c1 h
      refine ev_aload_n dL_go_29 rfl rfl ?_
      refine ev_bipush dL_go_30 (v := (101 : Int32)) zcb_101 ?_
      obtain ⟨g2, h⟩ := zgd h
      refine em_laldH hh dL_go_32 ha hn g2 rfl ?_
      refine ev_l2i dL_go_33 rfl ?_
      obtain rfl := Option.some.inj h
      exact ev_end_i dL_go_34 rfl rfl ⟨rfl, rfl⟩
    · replace h := zif c1 h
      refine ev_aload_n dL_go_14 rfl rfl ?_
      refine ev_aload_n dL_go_15 rfl rfl ?_
      refine ev_iload_n dL_go_16 rfl rfl ?_
      refine ev_iload_n dL_go_17 rfl rfl ?_
      refine ev_iload dL_go_18 rfl ?_
      obtain ⟨p3, e4, h⟩ := zbd h
      refine ev_callS0 dL_go_20 zmL_second zl_NineHeapsLaw_135 zsL_second (As := [.ref 26, .ref ah, .int l2, .int l3, .int l5]) (rest := []) rfl rfl (Nat.le_of_ble_eq_true rfl) rfl (Nat.le_of_ble_eq_true rfl) (d' := 4) (by omega) (eL_second hsl hsf hh ha hn (Nat.le_refl _) e4) (fun v μ1 q => ?_)
      obtain ⟨rfl, rfl⟩ := q
      refine ev_iinc dL_go_23 (v := l5 + (1 : Int32)) rfl rfl (by decide) rfl ?_
      refine ev_goto dL_go_26 (tgt := 7) (by decide) ?_
      exact EV.mask [true, true, true, true, true, true] rfl (ih l2 l3 l4 (l5 + (1 : Int32)) p3 h)
set_option maxHeartbeats 4000000 in
set_option maxRecDepth 100000 in
theorem eL_go {w : zW} {d : Nat} {sl : Nat} {sf : Nat → Int32} {J0 : zMI} {ah : Nat} {n : Nat} {kd : zMK} {I : zML} {R : zMR} {r : Int32 × zML} {l2 : Int32} {l3 : Int32} {l4 : Int32} (hsl : zxl w = sl) (hsf : zxs w = sf) (hh : zhm w = none) (ha : zHas n kd ah 14) (hn : (kd ah).2 = 130) (hd : 5 ≤ d)  (h : fL_go sl sf l2 l3 l4 I = some r) : EV w d 0 0 YL_go 0 [some (.ref 26), some (.ref ah), some (.int l2), some (.int l3), some (.int l4), none] [] (zHm (n, kd, J0, R) ah I) (qL_go n kd J0 ah R r) := by
  unfold fL_go at h
  refine ev_aload_n dL_go_0 rfl rfl ?_
  obtain ⟨p5, e6, h⟩ := zbd h
  refine ev_callS0 dL_go_1 zmL_begin zl_NineHeapsLaw_131 zsL_begin (As := [.ref ah]) (rest := []) rfl rfl (Nat.le_of_ble_eq_true rfl) rfl (Nat.le_of_ble_eq_true rfl) (d' := 1) (by omega) (eL_begin hsl hsf hh ha hn (Nat.le_refl _) e6) (fun v μ1 q => ?_)
  obtain ⟨rfl, rfl⟩ := q
  refine ev_iconst dL_go_4 (v := (0 : Int32)) zci_0 ?_
  refine ev_istore dL_go_5 (by decide) rfl ?_
  exact EV.mask [true, true, true, true, true, true] rfl (eL_go_L7 hsl hsf hh ha hn hd zF l2 l3 l4 (0 : Int32) p5 h)
abbrev qL_plainly (n : Nat) (kd : zMK) (J0 : zMI) (ah : Nat) (R : zMR) (r : Int32 × zML) : Option Value → zM → Prop := fun v μ1 => v = some (.int r.1) ∧ μ1 = zHm (n, kd, J0, R) ah r.2
set_option maxHeartbeats 4000000 in
set_option maxRecDepth 100000 in
theorem eL_plainly_B42 {w : zW} {d : Nat} {sl : Nat} {sf : Nat → Int32} {J0 : zMI} {ah : Nat} {n : Nat} {kd : zMK} {R : zMR} {r : Int32 × zML} {k9 : Int32 → Int32 → Int32 → Int32 → Int32 → zML → Option (Int32 × zML)} (hsl : zxl w = sl) (hsf : zxs w = sf) (hh : zhm w = none) (ha : zHas n kd ah 14) (hn : (kd ah).2 = 130) (hd : 6 ≤ d)  (hk9 : ∀ (l2 : Int32) (l3 : Int32) (l4 : Int32) (l5 : Int32) (l6 : Int32) (I : zML), k9 l2 l3 l4 l5 l6 I = some r → EV w d 0 0 YL_plainly 9 [some (.ref 26), some (.ref ah), some (.int l2), some (.int l3), some (.int l4), some (.int l5), some (.int l6)] [] (zHm (n, kd, J0, R) ah I) (qL_plainly n kd J0 ah R r)) : ∀ (l2 : Int32) (l3 : Int32) (l4 : Int32) (l5 : Int32) (l6 : Int32) (I : zML), fL_plainly_B42 sl sf k9 l2 l3 l4 l5 l6 I = some r → EV w d 0 0 YL_plainly 42 [some (.ref 26), some (.ref ah), some (.int l2), some (.int l3), some (.int l4), some (.int l5), some (.int l6)] [] (zHm (n, kd, J0, R) ah I) (qL_plainly n kd J0 ah R r) := by
  intro l2 l3 l4 l5 l6 I h
  unfold fL_plainly_B42 at h
  refine ev_iinc dL_plainly_42 (v := l6 + (1 : Int32)) rfl rfl (by decide) rfl ?_
  refine ev_goto dL_plainly_45 (tgt := 9) (by decide) ?_
  exact EV.mask [true, true, true, true, true, true, true] rfl (hk9 l2 l3 l4 l5 (l6 + (1 : Int32)) I h)
set_option maxHeartbeats 4000000 in
set_option maxRecDepth 100000 in
theorem eL_plainly_L9 {w : zW} {d : Nat} {sl : Nat} {sf : Nat → Int32} {J0 : zMI} {ah : Nat} {n : Nat} {kd : zMK} {R : zMR} {r : Int32 × zML} {k48 : Int32 → Int32 → Int32 → zML → Option (Int32 × zML)} (hsl : zxl w = sl) (hsf : zxs w = sf) (hh : zhm w = none) (ha : zHas n kd ah 14) (hn : (kd ah).2 = 130) (hd : 6 ≤ d)  (hk48 : ∀ (l3 : Int32) (l4 : Int32) (l5 : Int32) (I : zML), k48 l3 l4 l5 I = some r → EV w d 0 0 YL_plainly 48 [some (.ref 26), some (.ref ah), none, some (.int l3), some (.int l4), some (.int l5), none] [] (zHm (n, kd, J0, R) ah I) (qL_plainly n kd J0 ah R r)) : ∀ (q : Nat) (l2 : Int32) (l3 : Int32) (l4 : Int32) (l5 : Int32) (l6 : Int32) (I : zML), fL_plainly_L9 sl sf k48 q l2 l3 l4 l5 l6 I = some r → EV w d 0 0 YL_plainly 9 [some (.ref 26), some (.ref ah), some (.int l2), some (.int l3), some (.int l4), some (.int l5), some (.int l6)] [] (zHm (n, kd, J0, R) ah I) (qL_plainly n kd J0 ah R r) := by
  intro q
  induction q with
  | zero =>
    intro l2 l3 l4 l5 l6 I h
    cases h
  | succ q ih =>
    intro l2 l3 l4 l5 l6 I h
    unfold fL_plainly_L9 at h
    refine ev_iload dL_plainly_9 rfl ?_
    refine ev_aload_n dL_plainly_11 rfl rfl ?_
    obtain ⟨p1, e2, h⟩ := zbd h
    refine ev_callS0 dL_plainly_12 zmL_many zl_NineHeapsLaw_41 zsL_many (As := [.ref 26]) (rest := [.int l6]) rfl rfl (Nat.le_of_ble_eq_true rfl) rfl (Nat.le_of_ble_eq_true rfl) (d' := 2) (by omega) (eL_many hsl hsf (Nat.le_refl _) e2) (fun v μ1 q => ?_)
    obtain ⟨rfl, rfl⟩ := q
    refine ev_icmp_ge dL_plainly_15 (tgt := 48) (by decide) (fun c3 => ?_) (fun c3 => ?_)
    · replace h := zit c3 h
      exact EV.mask [true, true, false, true, true, true, false] rfl (hk48 l3 l4 l5 I h)
    · replace h := zif c3 h
      refine ev_iload dL_plainly_18 rfl ?_
      refine ev_iload_n dL_plainly_20 rfl rfl ?_
      refine ev_icmp_ne dL_plainly_21 (tgt := 27) (by decide) (fun c4 => ?_) (fun c4 => ?_)
      · replace h := zif c4 h
        refine ev_iload dL_plainly_27 rfl ?_
        refine ev_iload dL_plainly_29 rfl ?_
        refine ev_iconst dL_plainly_31 (v := (3 : Int32)) zci_3 ?_
        refine ev_iload dL_plainly_32 rfl ?_
        refine ev_imul dL_plainly_34 rfl ?_
        refine ev_ishl dL_plainly_35 rfl ?_
        refine ev_ior dL_plainly_36 rfl ?_
        obtain ⟨x5, e6, h⟩ := zld h
        refine ev_nm e6 ?_
        refine ev_istore dL_plainly_37 (by decide) rfl ?_
        refine ev_iinc dL_plainly_39 (v := l5 + (1 : Int32)) rfl rfl (by decide) rfl ?_
        exact EV.mask [true, true, true, true, true, true, true] rfl (eL_plainly_B42 hsl hsf hh ha hn hd (fun l2' l3' l4' l5' l6' I' h' => ih l2' l3' l4' l5' l6' I' h') l2 l3 x5 (l5 + (1 : Int32)) l6 I h)
      · replace h := zit c4 h
        refine ev_goto dL_plainly_24 (tgt := 42) (by decide) ?_
        exact EV.mask [true, true, true, true, true, true, true] rfl (eL_plainly_B42 hsl hsf hh ha hn hd (fun l2' l3' l4' l5' l6' I' h' => ih l2' l3' l4' l5' l6' I' h') l2 l3 l4 l5 l6 I h)
set_option maxHeartbeats 4000000 in
set_option maxRecDepth 100000 in
theorem eL_plainly_B48 {w : zW} {d : Nat} {sl : Nat} {sf : Nat → Int32} {J0 : zMI} {ah : Nat} {n : Nat} {kd : zMK} {R : zMR} {r : Int32 × zML}  (hsl : zxl w = sl) (hsf : zxs w = sf) (hh : zhm w = none) (ha : zHas n kd ah 14) (hn : (kd ah).2 = 130) (hd : 6 ≤ d)   : ∀ (l3 : Int32) (l4 : Int32) (l5 : Int32) (I : zML), fL_plainly_B48 sl sf l3 l4 l5 I = some r → EV w d 0 0 YL_plainly 48 [some (.ref 26), some (.ref ah), none, some (.int l3), some (.int l4), some (.int l5), none] [] (zHm (n, kd, J0, R) ah I) (qL_plainly n kd J0 ah R r) := by
  intro l3 l4 l5 I h
  unfold fL_plainly_B48 at h
  refine ev_aload_n dL_plainly_48 rfl rfl ?_
  refine ev_aload_n dL_plainly_49 rfl rfl ?_
  refine ev_iload dL_plainly_50 rfl ?_
  refine ev_iload dL_plainly_52 rfl ?_
  refine ev_iload_n dL_plainly_54 rfl rfl ?_
  obtain ⟨p7, e8, h⟩ := zbd h
  refine ev_callS0 dL_plainly_55 zmL_go zl_NineHeapsLaw_139 zsL_go (As := [.ref 26, .ref ah, .int l4, .int l5, .int l3]) (rest := []) rfl rfl (Nat.le_of_ble_eq_true rfl) rfl (Nat.le_of_ble_eq_true rfl) (d' := 5) (by omega) (eL_go hsl hsf hh ha hn (Nat.le_refl _) e8) (fun v μ1 q => ?_)
  obtain ⟨rfl, rfl⟩ := q
  obtain rfl := Option.some.inj h
  exact ev_end_i dL_plainly_58 rfl rfl ⟨rfl, rfl⟩
set_option maxHeartbeats 4000000 in
set_option maxRecDepth 100000 in
theorem eL_plainly {w : zW} {d : Nat} {sl : Nat} {sf : Nat → Int32} {J0 : zMI} {ah : Nat} {n : Nat} {kd : zMK} {I : zML} {R : zMR} {r : Int32 × zML} {l2 : Int32} {l3 : Int32} (hsl : zxl w = sl) (hsf : zxs w = sf) (hh : zhm w = none) (ha : zHas n kd ah 14) (hn : (kd ah).2 = 130) (hd : 6 ≤ d)  (h : fL_plainly sl sf l2 l3 I = some r) : EV w d 0 0 YL_plainly 0 [some (.ref 26), some (.ref ah), some (.int l2), some (.int l3), none, none, none] [] (zHm (n, kd, J0, R) ah I) (qL_plainly n kd J0 ah R r) := by
  unfold fL_plainly at h
  refine ev_iconst dL_plainly_0 (v := (0 : Int32)) zci_0 ?_
  refine ev_istore dL_plainly_1 (by decide) rfl ?_
  refine ev_iconst dL_plainly_3 (v := (0 : Int32)) zci_0 ?_
  refine ev_istore dL_plainly_4 (by decide) rfl ?_
  refine ev_iconst dL_plainly_6 (v := (0 : Int32)) zci_0 ?_
  refine ev_istore dL_plainly_7 (by decide) rfl ?_
  exact EV.mask [true, true, true, true, true, true, true] rfl (eL_plainly_L9 hsl hsf hh ha hn hd (fun l3' l4' l5' I' h' => eL_plainly_B48 hsl hsf hh ha hn hd l3' l4' l5' I' h') zF l2 l3 (0 : Int32) (0 : Int32) (0 : Int32) I h)
