/-! the machine does as the functions say: laid by program -/
abbrev qJ0_coder_7d493T (n : Nat) (kd : zMK) (I : zMI) (R : zMR) (r : Int32) : Option Value → zM → Prop := fun v μ1 => v = some (.int r) ∧ μ1 = (n, kd, I, R)
set_option maxHeartbeats 4000000 in
set_option maxRecDepth 100000 in
theorem eJ0_coder_7d493T {w : zW} {d : Nat} {n : Nat} {kd : zMK} {I : zMI} {R : zMR} {r : Int32} {l0 : Nat} (hw : zst w = zSt0) (hS : zSh n kd) (hd : 1 ≤ d)  (h : fJ0_coder_7d493T l0 = some r) : EV w d 0 0 YJ0_coder_7d493 0 [some (.ref (81 + l0))] [] (n, kd, I, R) (qJ0_coder_7d493T n kd I R r) := by
  unfold fJ0_coder_7d493T at h
  refine ev_getsC dJ0_coder_7d493_0 zf_java_lang_String_38 ?_
  obtain ⟨x3, e4, h⟩ := zbd h
  have k6 : EV w d 0 0 YJ0_coder_7d493 14 [some (.ref (81 + l0))] [.int x3] (n, kd, I, R) (qJ0_coder_7d493T n kd I R r) := by
    obtain ⟨g5, h⟩ := zgd h
    obtain rfl := Option.some.inj h
    exact ev_end_i dJ0_coder_7d493_14 rfl (zbyt_n g5) ⟨rfl, rfl⟩
  clear h
  have h := e4
  clear e4
  refine ev_if_eq_f dJ0_coder_7d493_3 (tgt := 13) (by decide) (by decide) ?_
  refine ev_aload_n dJ0_coder_7d493_6 rfl rfl ?_
  obtain ⟨g2, h⟩ := zgd h
  refine ev_strTC (i := l0) dJ0_coder_7d493_7 (of_decide_eq_true g2) zf_java_lang_String_15 ?_
  refine ev_goto dJ0_coder_7d493_10 (tgt := 14) (by decide) ?_
  obtain rfl := Option.some.inj h
  exact k6
abbrev qJ0_coder_7d493D (n : Nat) (kd : zMK) (I : zMI) (R : zMR) (r : Int32) : Option Value → zM → Prop := fun v μ1 => v = some (.int r) ∧ μ1 = (n, kd, I, R)
set_option maxHeartbeats 4000000 in
set_option maxRecDepth 100000 in
theorem eJ0_coder_7d493D {w : zW} {d : Nat} {n : Nat} {kd : zMK} {I : zMI} {R : zMR} {r : Int32} {l0 : Nat} (hw : zst w = zSt0) (hS : zSh n kd) (hd : 1 ≤ d)  (h : fJ0_coder_7d493D n kd I l0 = some r) : EV w d 0 0 YJ0_coder_7d493 0 [some (.ref l0)] [] (n, kd, I, R) (qJ0_coder_7d493D n kd I R r) := by
  unfold fJ0_coder_7d493D at h
  refine ev_getsC dJ0_coder_7d493_0 zf_java_lang_String_38 ?_
  obtain ⟨x3, e4, h⟩ := zbd h
  have k6 : EV w d 0 0 YJ0_coder_7d493 14 [some (.ref l0)] [.int x3] (n, kd, I, R) (qJ0_coder_7d493D n kd I R r) := by
    obtain ⟨g5, h⟩ := zgd h
    obtain rfl := Option.some.inj h
    exact ev_end_i dJ0_coder_7d493_14 rfl (zbyt_n g5) ⟨rfl, rfl⟩
  clear h
  have h := e4
  clear e4
  refine ev_if_eq_f dJ0_coder_7d493_3 (tgt := 13) (by decide) (by decide) ?_
  refine ev_aload_n dJ0_coder_7d493_6 rfl rfl ?_
  obtain ⟨g2, h⟩ := zgd h
  refine em_getI dJ0_coder_7d493_7 zg_java_lang_String_15 rfl (zKdB_hasR hS (by decide) g2) rfl ?_
  refine ev_goto dJ0_coder_7d493_10 (tgt := 14) (by decide) ?_
  obtain rfl := Option.some.inj h
  exact k6
abbrev qJ0_length_8abf5T (n : Nat) (kd : zMK) (I : zMI) (R : zMR) (r : Int32) : Option Value → zM → Prop := fun v μ1 => v = some (.int r) ∧ μ1 = (n, kd, I, R)
set_option maxHeartbeats 4000000 in
set_option maxRecDepth 100000 in
theorem eJ0_length_8abf5T {w : zW} {d : Nat} {n : Nat} {kd : zMK} {I : zMI} {R : zMR} {r : Int32} {l0 : Nat} (hw : zst w = zSt0) (hS : zSh n kd) (hd : 2 ≤ d)  (h : fJ0_length_8abf5T l0 = some r) : EV w d 0 0 YJ0_length_8abf5 0 [some (.ref (81 + l0))] [] (n, kd, I, R) (qJ0_length_8abf5T n kd I R r) := by
  unfold fJ0_length_8abf5T at h
  refine ev_aload_n dJ0_length_8abf5_0 rfl rfl ?_
  obtain ⟨g1, h⟩ := zgd h
  refine ev_strTV (i := l0) dJ0_length_8abf5_1 (of_decide_eq_true g1) zf_java_lang_String_9 ?_
  refine ev_bTlen (i := l0) dJ0_length_8abf5_4 (of_decide_eq_true g1) rfl ?_
  refine ev_aload_n dJ0_length_8abf5_5 rfl rfl ?_
  obtain ⟨p2, e3, h⟩ := zbd h
  refine ev_callV0 dJ0_length_8abf5_6 zmJ0_coder_7d493 zl_java_lang_String_335 ziJ0_coder_7d493 zvJ0_coder_7d493 (zrcv_strT (of_decide_eq_true g1)) (As := []) (rest := [.int (Int32.ofNat (zSlen.getD (12 + l0) 0))]) rfl rfl (Nat.le_of_ble_eq_true rfl) rfl (Nat.le_of_ble_eq_true rfl) (d' := 1) (by omega) (eJ0_coder_7d493T hw hS (Nat.le_refl _) e3) (fun v μ1 q => ?_)
  obtain ⟨rfl, rfl⟩ := q
  refine ev_ishr dJ0_length_8abf5_9 rfl ?_
  obtain rfl := Option.some.inj h
  exact ev_end_i dJ0_length_8abf5_10 rfl rfl ⟨rfl, rfl⟩
abbrev qJ0_length_8abf5D (n : Nat) (kd : zMK) (I : zMI) (R : zMR) (r : Int32) : Option Value → zM → Prop := fun v μ1 => v = some (.int r) ∧ μ1 = (n, kd, I, R)
set_option maxHeartbeats 4000000 in
set_option maxRecDepth 100000 in
theorem eJ0_length_8abf5D {w : zW} {d : Nat} {n : Nat} {kd : zMK} {I : zMI} {R : zMR} {r : Int32} {l0 : Nat} (hw : zst w = zSt0) (hS : zSh n kd) (hd : 2 ≤ d)  (h : fJ0_length_8abf5D n kd I R l0 = some r) : EV w d 0 0 YJ0_length_8abf5 0 [some (.ref l0)] [] (n, kd, I, R) (qJ0_length_8abf5D n kd I R r) := by
  unfold fJ0_length_8abf5D at h
  refine ev_aload_n dJ0_length_8abf5_0 rfl rfl ?_
  obtain ⟨g1, h⟩ := zgd h
  rcases zopt (R l0 0) with o3 | ⟨a2, o3⟩
  · have h9 := zmn o3 h
    cases h9
  replace h := zms o3 h
  refine em_getO (o := some a2) dJ0_length_8abf5_1 zg_java_lang_String_9 rfl (zKdB_hasR hS (by decide) g1) hw (hS.st (zKdB_hasR hS (by decide) g1) (by decide +kernel) _) o3 ?_
  obtain ⟨g4, h⟩ := zgd h
  refine em_alenB dJ0_length_8abf5_4 (zKdB_hasR hS (by decide) g4) rfl rfl ?_
  refine ev_aload_n dJ0_length_8abf5_5 rfl rfl ?_
  obtain ⟨p5, e6, h⟩ := zbd h
  refine ev_callV0 dJ0_length_8abf5_6 zmJ0_coder_7d493 zl_java_lang_String_335 ziJ0_coder_7d493 zvJ0_coder_7d493 (zrcDS hS g1) (As := []) (rest := [.int (Int32.ofNat ((kd a2).2))]) rfl rfl (Nat.le_of_ble_eq_true rfl) rfl (Nat.le_of_ble_eq_true rfl) (d' := 1) (by omega) (eJ0_coder_7d493D hw hS (Nat.le_refl _) e6) (fun v μ1 q => ?_)
  obtain ⟨rfl, rfl⟩ := q
  refine ev_ishr dJ0_length_8abf5_9 rfl ?_
  obtain rfl := Option.some.inj h
  exact ev_end_i dJ0_length_8abf5_10 rfl rfl ⟨rfl, rfl⟩
abbrev qJ0_isLatin1_aae02D (n : Nat) (kd : zMK) (I : zMI) (R : zMR) (r : Int32) : Option Value → zM → Prop := fun v μ1 => v = some (.int r) ∧ μ1 = (n, kd, I, R)
set_option maxHeartbeats 4000000 in
set_option maxRecDepth 100000 in
theorem eJ0_isLatin1_aae02D {w : zW} {d : Nat} {n : Nat} {kd : zMK} {I : zMI} {R : zMR} {r : Int32} {l0 : Nat} (hw : zst w = zSt0) (hS : zSh n kd) (hd : 1 ≤ d)  (h : fJ0_isLatin1_aae02D n kd I l0 = some r) : EV w d 0 0 YJ0_isLatin1_aae02 0 [some (.ref l0)] [] (n, kd, I, R) (qJ0_isLatin1_aae02D n kd I R r) := by
  unfold fJ0_isLatin1_aae02D at h
  refine ev_getsC dJ0_isLatin1_aae02_0 zf_java_lang_String_38 ?_
  obtain ⟨x4, e5, h⟩ := zbd h
  have k7 : EV w d 0 0 YJ0_isLatin1_aae02 18 [some (.ref l0)] [.int x4] (n, kd, I, R) (qJ0_isLatin1_aae02D n kd I R r) := by
    obtain ⟨g6, h⟩ := zgd h
    obtain rfl := Option.some.inj h
    exact ev_end_i dJ0_isLatin1_aae02_18 rfl (zbB_n g6) ⟨rfl, rfl⟩
  clear h
  have h := e5
  clear e5
  refine ev_if_eq_f dJ0_isLatin1_aae02_3 (tgt := 17) (by decide) (by decide) ?_
  refine ev_aload_n dJ0_isLatin1_aae02_6 rfl rfl ?_
  obtain ⟨g2, h⟩ := zgd h
  refine em_getI dJ0_isLatin1_aae02_7 zg_java_lang_String_15 rfl (zKdB_hasR hS (by decide) g2) rfl ?_
  refine ev_if_ne dJ0_isLatin1_aae02_10 (tgt := 17) (by decide) (fun c3 => ?_) (fun c3 => ?_)
  · replace h := zif c3 h
    refine ev_iconst dJ0_isLatin1_aae02_17 (v := (0 : Int32)) zci_0 ?_
    obtain rfl := Option.some.inj h
    exact k7
  · replace h := zit c3 h
    refine ev_iconst dJ0_isLatin1_aae02_13 (v := (1 : Int32)) zci_1 ?_
    refine ev_goto dJ0_isLatin1_aae02_14 (tgt := 18) (by decide) ?_
    obtain rfl := Option.some.inj h
    exact k7
abbrev qJ1_charAt_3b067D (n : Nat) (kd : zMK) (I : zMI) (R : zMR) (r : Int32) : Option Value → zM → Prop := fun v μ1 => v = some (.int r) ∧ μ1 = (n, kd, I, R)
set_option maxHeartbeats 4000000 in
set_option maxRecDepth 100000 in
theorem eJ1_charAt_3b067D {w : zW} {d : Nat} {n : Nat} {kd : zMK} {I : zMI} {R : zMR} {r : Int32} {l0 : Nat} {l1 : Int32} (hw : zst w = zSt0) (hS : zSh n kd) (hd : 3 ≤ d)  (h : fJ1_charAt_3b067D n kd I l0 l1 = some r) : EV w d 0 0 YJ1_charAt_3b067 0 [some (.ref l0), some (.int l1)] [] (n, kd, I, R) (qJ1_charAt_3b067D n kd I R r) := by
  unfold fJ1_charAt_3b067D at h
  refine ev_iload_n dJ1_charAt_3b067_0 rfl rfl ?_
  refine ev_aload_n dJ1_charAt_3b067_1 rfl rfl ?_
  obtain ⟨g1, h⟩ := zgd h
  refine em_alenB dJ1_charAt_3b067_2 (zKdB_hasR hS (by decide) g1) rfl rfl ?_
  obtain ⟨g2, h⟩ := zgd h
  refine ev_callS0 dJ1_charAt_3b067_3 zmJ0_checkIndex_df160 zl_java_lang_StringLatin1_9 zsJ0_checkIndex_df160 (As := [.int l1, .int (Int32.ofNat ((kd l0).2))]) (rest := []) rfl rfl (Nat.le_of_ble_eq_true rfl) rfl (Nat.le_of_ble_eq_true rfl) (d' := 2) (by omega) (eJ0_checkIndex (zckB_ok g2).1 (zckB_ok g2).2 (Nat.le_refl _)) (fun v μ1 q => ?_)
  obtain ⟨rfl, rfl⟩ := q
  refine ev_aload_n dJ1_charAt_3b067_6 rfl rfl ?_
  refine ev_iload_n dJ1_charAt_3b067_7 rfl rfl ?_
  obtain ⟨g3, h⟩ := zgd h
  refine em_baldB dJ1_charAt_3b067_8 (zKdB_hasR hS (by decide) g1) (N := (kd l0).2) rfl g3 rfl ?_
  refine ev_sipush dJ1_charAt_3b067_9 (v := (255 : Int32)) zcs_255 ?_
  refine ev_iand dJ1_charAt_3b067_12 rfl ?_
  refine ev_i2c dJ1_charAt_3b067_13 rfl ?_
  obtain rfl := Option.some.inj h
  exact ev_end_i dJ1_charAt_3b067_14 rfl (pk_nc _) ⟨rfl, rfl⟩
abbrev qJ0_charAt_5068eD (n : Nat) (kd : zMK) (I : zMI) (R : zMR) (r : Int32) : Option Value → zM → Prop := fun v μ1 => v = some (.int r) ∧ μ1 = (n, kd, I, R)
set_option maxHeartbeats 4000000 in
set_option maxRecDepth 100000 in
theorem eJ0_charAt_5068eD {w : zW} {d : Nat} {n : Nat} {kd : zMK} {I : zMI} {R : zMR} {r : Int32} {l0 : Nat} {l1 : Int32} (hw : zst w = zSt0) (hS : zSh n kd) (hd : 4 ≤ d)  (h : fJ0_charAt_5068eD n kd I R l0 l1 = some r) : EV w d 0 0 YJ0_charAt_5068e 0 [some (.ref l0), some (.int l1)] [] (n, kd, I, R) (qJ0_charAt_5068eD n kd I R r) := by
  unfold fJ0_charAt_5068eD at h
  refine ev_aload_n dJ0_charAt_5068e_0 rfl rfl ?_
  obtain ⟨g1, h⟩ := zgd h
  obtain ⟨p2, e3, h⟩ := zbd h
  refine ev_callV0 dJ0_charAt_5068e_1 zmJ0_isLatin1_aae02 zl_java_lang_String_492 ziJ0_isLatin1_aae02 zvJ0_isLatin1_aae02 (zrcDS hS g1) (As := []) (rest := []) rfl rfl (Nat.le_of_ble_eq_true rfl) rfl (Nat.le_of_ble_eq_true rfl) (d' := 1) (by omega) (eJ0_isLatin1_aae02D hw hS (Nat.le_refl _) e3) (fun v μ1 q => ?_)
  obtain ⟨rfl, rfl⟩ := q
  refine ev_if_eq dJ0_charAt_5068e_4 (tgt := 16) (by decide) (fun c4 => ?_) (fun c4 => ?_)
  · replace h := zit c4 h
    refine ev_aload_n dJ0_charAt_5068e_16 rfl rfl ?_
    rcases zopt (R l0 0) with o6 | ⟨a5, o6⟩
    · have h9 := zmn o6 h
      cases h9
    replace h := zms o6 h
    refine em_getO (o := some a5) dJ0_charAt_5068e_17 zg_java_lang_String_9 rfl (zKdB_hasR hS (by decide) g1) hw (hS.st (zKdB_hasR hS (by decide) g1) (by decide +kernel) _) o6 ?_
    refine ev_iload_n dJ0_charAt_5068e_20 rfl rfl ?_
    cases h
  · replace h := zif c4 h
    refine ev_aload_n dJ0_charAt_5068e_7 rfl rfl ?_
    rcases zopt (R l0 0) with o8 | ⟨a7, o8⟩
    · have h9 := zmn o8 h
      cases h9
    replace h := zms o8 h
    refine em_getO (o := some a7) dJ0_charAt_5068e_8 zg_java_lang_String_9 rfl (zKdB_hasR hS (by decide) g1) hw (hS.st (zKdB_hasR hS (by decide) g1) (by decide +kernel) _) o8 ?_
    refine ev_iload_n dJ0_charAt_5068e_11 rfl rfl ?_
    obtain ⟨p9, e10, h⟩ := zbd h
    refine ev_callS0 dJ0_charAt_5068e_12 zmJ1_charAt_3b067 zl_java_lang_String_495 zsJ1_charAt_3b067 (As := [.ref a7, .int l1]) (rest := []) rfl rfl (Nat.le_of_ble_eq_true rfl) rfl (Nat.le_of_ble_eq_true rfl) (d' := 3) (by omega) (eJ1_charAt_3b067D hw hS (Nat.le_refl _) e10) (fun v μ1 q => ?_)
    obtain ⟨rfl, rfl⟩ := q
    obtain ⟨g11, h⟩ := zgd h
    obtain rfl := Option.some.inj h
    exact ev_end_i dJ0_charAt_5068e_15 rfl (zchr_n g11) ⟨rfl, rfl⟩
abbrev qJ5_isLatin1_aae02j (n : Nat) (kd : zMK) (I : zMI) (R : zMR) (r : Int32) : Option Value → zM → Prop := fun v μ1 => v = some (.int r) ∧ μ1 = (n, kd, I, R)
set_option maxHeartbeats 4000000 in
set_option maxRecDepth 100000 in
theorem eJ5_isLatin1_aae02j {w : zW} {d : Nat} {n : Nat} {kd : zMK} {I : zMI} {R : zMR} {r : Int32} {l0 : Nat} (hw : zst w = zSt0) (hS : zSh n kd) (hd : 1 ≤ d)  (h : fJ5_isLatin1_aae02j n kd I l0 = some r) : EV w d 0 0 YJ5_isLatin1_aae02 0 [some (.ref l0)] [] (n, kd, I, R) (qJ5_isLatin1_aae02j n kd I R r) := by
  unfold fJ5_isLatin1_aae02j at h
  refine ev_getsC dJ5_isLatin1_aae02_0 zf_java_lang_AbstractStringBuilder_18 ?_
  obtain ⟨x4, e5, h⟩ := zbd h
  have k7 : EV w d 0 0 YJ5_isLatin1_aae02 18 [some (.ref l0)] [.int x4] (n, kd, I, R) (qJ5_isLatin1_aae02j n kd I R r) := by
    obtain ⟨g6, h⟩ := zgd h
    obtain rfl := Option.some.inj h
    exact ev_end_i dJ5_isLatin1_aae02_18 rfl (zbB_n g6) ⟨rfl, rfl⟩
  clear h
  have h := e5
  clear e5
  refine ev_if_eq_f dJ5_isLatin1_aae02_3 (tgt := 17) (by decide) (by decide) ?_
  refine ev_aload_n dJ5_isLatin1_aae02_6 rfl rfl ?_
  obtain ⟨g2, h⟩ := zgd h
  refine em_getI dJ5_isLatin1_aae02_7 zf_java_lang_AbstractStringBuilder_22 rfl (zKdB_hasR hS (by decide) g2) rfl ?_
  refine ev_if_ne dJ5_isLatin1_aae02_10 (tgt := 17) (by decide) (fun c3 => ?_) (fun c3 => ?_)
  · replace h := zif c3 h
    refine ev_iconst dJ5_isLatin1_aae02_17 (v := (0 : Int32)) zci_0 ?_
    obtain rfl := Option.some.inj h
    exact k7
  · replace h := zit c3 h
    refine ev_iconst dJ5_isLatin1_aae02_13 (v := (1 : Int32)) zci_1 ?_
    refine ev_goto dJ5_isLatin1_aae02_14 (tgt := 18) (by decide) ?_
    obtain rfl := Option.some.inj h
    exact k7
abbrev qJ5_getValue_6d5f1j (n : Nat) (kd : zMK) (I : zMI) (R : zMR) (r : Nat) : Option Value → zM → Prop := fun v μ1 => v = some (.ref r) ∧ μ1 = (n, kd, I, R)
set_option maxHeartbeats 4000000 in
set_option maxRecDepth 100000 in
theorem eJ5_getValue_6d5f1j {w : zW} {d : Nat} {n : Nat} {kd : zMK} {I : zMI} {R : zMR} {r : Nat} {l0 : Nat} (hw : zst w = zSt0) (hS : zSh n kd) (hd : 1 ≤ d)  (h : fJ5_getValue_6d5f1j n kd R l0 = some r) : EV w d 0 0 YJ5_getValue_6d5f1 0 [some (.ref l0)] [] (n, kd, I, R) (qJ5_getValue_6d5f1j n kd I R r) := by
  unfold fJ5_getValue_6d5f1j at h
  refine ev_aload_n dJ5_getValue_6d5f1_0 rfl rfl ?_
  obtain ⟨g1, h⟩ := zgd h
  rcases zopt (R l0 0) with o3 | ⟨a2, o3⟩
  · have h9 := zmn o3 h
    cases h9
  replace h := zms o3 h
  refine em_getO (o := some a2) dJ5_getValue_6d5f1_1 zf_java_lang_AbstractStringBuilder_15 rfl (zKdB_hasR hS (by decide) g1) hw (hS.st (zKdB_hasR hS (by decide) g1) (by decide +kernel) _) o3 ?_
  obtain rfl := Option.some.inj h
  exact ev_end_r dJ5_getValue_6d5f1_4 rfl (Or.inr ⟨_, rfl⟩) ⟨rfl, rfl⟩
abbrev qJ5_length_8abf5j (n : Nat) (kd : zMK) (I : zMI) (R : zMR) (r : Int32) : Option Value → zM → Prop := fun v μ1 => v = some (.int r) ∧ μ1 = (n, kd, I, R)
set_option maxHeartbeats 4000000 in
set_option maxRecDepth 100000 in
theorem eJ5_length_8abf5j {w : zW} {d : Nat} {n : Nat} {kd : zMK} {I : zMI} {R : zMR} {r : Int32} {l0 : Nat} (hw : zst w = zSt0) (hS : zSh n kd) (hd : 1 ≤ d)  (h : fJ5_length_8abf5j n kd I l0 = some r) : EV w d 0 0 YJ5_length_8abf5 0 [some (.ref l0)] [] (n, kd, I, R) (qJ5_length_8abf5j n kd I R r) := by
  unfold fJ5_length_8abf5j at h
  refine ev_aload_n dJ5_length_8abf5_0 rfl rfl ?_
  obtain ⟨g1, h⟩ := zgd h
  refine em_getI dJ5_length_8abf5_1 zf_java_lang_AbstractStringBuilder_79 rfl (zKdB_hasR hS (by decide) g1) rfl ?_
  obtain rfl := Option.some.inj h
  exact ev_end_i dJ5_length_8abf5_4 rfl rfl ⟨rfl, rfl⟩
abbrev qJ4_length_8abf5j (n : Nat) (kd : zMK) (I : zMI) (R : zMR) (r : Int32) : Option Value → zM → Prop := fun v μ1 => v = some (.int r) ∧ μ1 = (n, kd, I, R)
set_option maxHeartbeats 4000000 in
set_option maxRecDepth 100000 in
theorem eJ4_length_8abf5j {w : zW} {d : Nat} {n : Nat} {kd : zMK} {I : zMI} {R : zMR} {r : Int32} {l0 : Nat} (hw : zst w = zSt0) (hS : zSh n kd) (hd : 2 ≤ d)  (h : fJ4_length_8abf5j n kd I l0 = some r) : EV w d 0 0 YJ4_length_8abf5 0 [some (.ref l0)] [] (n, kd, I, R) (qJ4_length_8abf5j n kd I R r) := by
  unfold fJ4_length_8abf5j at h
  refine ev_aload_n dJ4_length_8abf5_0 rfl rfl ?_
  obtain ⟨g1, h⟩ := zgd h
  obtain ⟨p2, e3, h⟩ := zbd h
  refine ev_callP0 dJ4_length_8abf5_1 zmJ5_length_8abf5 zl_java_lang_StringBuilder_343 zw_java_lang_AbstractStringBuilder_java_lang_AbstractStringBuilder_length zu12 ziJ5_length_8abf5 (by decide) (zrc12 hS g1) (As := []) (rest := []) rfl rfl (Nat.le_of_ble_eq_true rfl) rfl (Nat.le_of_ble_eq_true rfl) (d' := 1) (by omega) (eJ5_length_8abf5j hw hS (Nat.le_refl _) e3) (fun v μ1 q => ?_)
  obtain ⟨rfl, rfl⟩ := q
  obtain rfl := Option.some.inj h
  exact ev_end_i dJ4_length_8abf5_4 rfl rfl ⟨rfl, rfl⟩
abbrev qJ8_newLength_cabccj (n : Nat) (kd : zMK) (I : zMI) (R : zMR) (r : Int32) : Option Value → zM → Prop := fun v μ1 => v = some (.int r) ∧ μ1 = (n, kd, I, R)
set_option maxHeartbeats 4000000 in
set_option maxRecDepth 100000 in
theorem eJ8_newLength_cabccj {w : zW} {d : Nat} {n : Nat} {kd : zMK} {I : zMI} {R : zMR} {r : Int32} {l0 : Int32} {l1 : Int32} {l2 : Int32} (hw : zst w = zSt0) (hS : zSh n kd) (hd : 3 ≤ d)  (h : fJ8_newLength_cabccj l0 l1 l2 = some r) : EV w d 0 0 YJ8_newLength_cabcc 0 [some (.int l0), some (.int l1), some (.int l2), none] [] (n, kd, I, R) (qJ8_newLength_cabccj n kd I R r) := by
  unfold fJ8_newLength_cabccj at h
  refine ev_iload_n dJ8_newLength_cabcc_0 rfl rfl ?_
  refine ev_iload_n dJ8_newLength_cabcc_1 rfl rfl ?_
  refine ev_iload_n dJ8_newLength_cabcc_2 rfl rfl ?_
  obtain ⟨x1, e2, h⟩ := zld h
  refine ev_max dJ8_newLength_cabcc_3 zl_jdk_internal_util_ArraysSupport_194 zmm_max_s zn_java_lang_Math zmm_max_c (by omega) (Nat.le_of_ble_eq_true rfl) e2 ?_
  refine ev_iadd dJ8_newLength_cabcc_6 rfl ?_
  refine ev_istore_n dJ8_newLength_cabcc_7 rfl (by decide) rfl ?_
  refine ev_iconst dJ8_newLength_cabcc_8 (v := (0 : Int32)) zci_0 ?_
  refine ev_iload_n dJ8_newLength_cabcc_9 rfl rfl ?_
  refine ev_icmp_ge dJ8_newLength_cabcc_10 (tgt := 21) (by decide) (fun c3 => ?_) (fun c3 => ?_)
  · replace h := zit c3 h
    refine ev_iload_n dJ8_newLength_cabcc_21 rfl rfl ?_
    refine ev_iload_n dJ8_newLength_cabcc_22 rfl rfl ?_
    cases h
  · replace h := zif c3 h
    refine ev_iload_n dJ8_newLength_cabcc_13 rfl rfl ?_
    refine ev_ldc dJ8_newLength_cabcc_14 zk_jdk_internal_util_ArraysSupport_200 ?_
    refine ev_icmp_gt dJ8_newLength_cabcc_16 (tgt := 21) (by decide) (fun c4 => ?_) (fun c4 => ?_)
    · replace h := zit c4 h
      refine ev_iload_n dJ8_newLength_cabcc_21 rfl rfl ?_
      refine ev_iload_n dJ8_newLength_cabcc_22 rfl rfl ?_
      cases h
    · replace h := zif c4 h
      refine ev_iload_n dJ8_newLength_cabcc_19 rfl rfl ?_
      obtain rfl := Option.some.inj h
      exact ev_end_i dJ8_newLength_cabcc_20 rfl rfl ⟨rfl, rfl⟩
abbrev qJ5_newCapacity_0f7a4j (n : Nat) (kd : zMK) (I : zMI) (R : zMR) (r : Int32) : Option Value → zM → Prop := fun v μ1 => v = some (.int r) ∧ μ1 = (n, kd, I, R)
set_option maxHeartbeats 4000000 in
set_option maxRecDepth 100000 in
theorem eJ5_newCapacity_0f7a4j {w : zW} {d : Nat} {n : Nat} {kd : zMK} {I : zMI} {R : zMR} {r : Int32} {l0 : Nat} {l1 : Int32} (hw : zst w = zSt0) (hS : zSh n kd) (hd : 4 ≤ d)  (h : fJ5_newCapacity_0f7a4j n kd I R l0 l1 = some r) : EV w d 0 0 YJ5_newCapacity_0f7a4 0 [some (.ref l0), some (.int l1), none, none, none, none] [] (n, kd, I, R) (qJ5_newCapacity_0f7a4j n kd I R r) := by
  unfold fJ5_newCapacity_0f7a4j at h
  refine ev_aload_n dJ5_newCapacity_0f7a4_0 rfl rfl ?_
  obtain ⟨g1, h⟩ := zgd h
  rcases zopt (R l0 0) with o3 | ⟨a2, o3⟩
  · have h9 := zmn o3 h
    cases h9
  replace h := zms o3 h
  refine em_getO (o := some a2) dJ5_newCapacity_0f7a4_1 zf_java_lang_AbstractStringBuilder_15 rfl (zKdB_hasR hS (by decide) g1) hw (hS.st (zKdB_hasR hS (by decide) g1) (by decide +kernel) _) o3 ?_
  obtain ⟨g4, h⟩ := zgd h
  refine em_alenB dJ5_newCapacity_0f7a4_4 (zKdB_hasR hS (by decide) g4) rfl rfl ?_
  obtain ⟨x5, e6, h⟩ := zld h
  refine ev_nm e6 ?_
  refine ev_istore_n dJ5_newCapacity_0f7a4_5 rfl (by decide) rfl ?_
  refine ev_iload_n dJ5_newCapacity_0f7a4_6 rfl rfl ?_
  refine ev_aload_n dJ5_newCapacity_0f7a4_7 rfl rfl ?_
  refine em_getI dJ5_newCapacity_0f7a4_8 zf_java_lang_AbstractStringBuilder_22 rfl (zKdB_hasR hS (by decide) g1) rfl ?_
  refine ev_ishl dJ5_newCapacity_0f7a4_11 rfl ?_
  obtain ⟨x7, e8, h⟩ := zld h
  refine ev_nm e8 ?_
  refine ev_istore_n dJ5_newCapacity_0f7a4_12 rfl (by decide) rfl ?_
  refine ev_iload_n dJ5_newCapacity_0f7a4_13 rfl rfl ?_
  refine ev_iload_n dJ5_newCapacity_0f7a4_14 rfl rfl ?_
  refine ev_isub dJ5_newCapacity_0f7a4_15 rfl ?_
  refine ev_istore dJ5_newCapacity_0f7a4_16 (by decide) rfl ?_
  refine ev_iload_n dJ5_newCapacity_0f7a4_18 rfl rfl ?_
  refine ev_iload dJ5_newCapacity_0f7a4_19 rfl ?_
  refine ev_iload_n dJ5_newCapacity_0f7a4_21 rfl rfl ?_
  refine ev_iconst dJ5_newCapacity_0f7a4_22 (v := (2 : Int32)) zci_2 ?_
  refine ev_aload_n dJ5_newCapacity_0f7a4_23 rfl rfl ?_
  refine em_getI dJ5_newCapacity_0f7a4_24 zf_java_lang_AbstractStringBuilder_22 rfl (zKdB_hasR hS (by decide) g1) rfl ?_
  refine ev_ishl dJ5_newCapacity_0f7a4_27 rfl ?_
  refine ev_iadd dJ5_newCapacity_0f7a4_28 rfl ?_
  obtain ⟨p9, e10, h⟩ := zbd h
  refine ev_callS0 dJ5_newCapacity_0f7a4_29 zmJ8_newLength_cabcc zl_java_lang_AbstractStringBuilder_114 zsJ8_newLength_cabcc (As := [.int x5, .int (x7 - x5), .int (x5 + ((2 : Int32) <<< ((I l0 1) &&& 31)))]) (rest := []) rfl rfl (Nat.le_of_ble_eq_true rfl) rfl (Nat.le_of_ble_eq_true rfl) (d' := 3) (by omega) (eJ8_newLength_cabccj hw hS (Nat.le_refl _) e10) (fun v μ1 q => ?_)
  obtain ⟨rfl, rfl⟩ := q
  refine ev_istore dJ5_newCapacity_0f7a4_32 (by decide) rfl ?_
  refine ev_iload dJ5_newCapacity_0f7a4_34 rfl ?_
  refine ev_ldc dJ5_newCapacity_0f7a4_36 zk_java_lang_AbstractStringBuilder_39 ?_
  refine ev_icmp_ne dJ5_newCapacity_0f7a4_38 (tgt := 51) (by decide) (fun c11 => ?_) (fun c11 => ?_)
  · replace h := zif c11 h
    refine ev_iload dJ5_newCapacity_0f7a4_51 rfl ?_
    refine ev_aload_n dJ5_newCapacity_0f7a4_53 rfl rfl ?_
    refine em_getI dJ5_newCapacity_0f7a4_54 zf_java_lang_AbstractStringBuilder_22 rfl (zKdB_hasR hS (by decide) g1) rfl ?_
    refine ev_ishr dJ5_newCapacity_0f7a4_57 rfl ?_
    obtain rfl := Option.some.inj h
    exact ev_end_i dJ5_newCapacity_0f7a4_58 rfl rfl ⟨rfl, rfl⟩
  · replace h := zit c11 h
    cases h
abbrev qJ7_copyOf_9075bj  (r : Nat × (Nat × zMK) × zMI × zMR) : Option Value → zM → Prop := fun v μ1 => v = some (.ref r.1) ∧ μ1 = ((r.2.1).1, (r.2.1).2, r.2.2.1, r.2.2.2)
set_option maxHeartbeats 4000000 in
set_option maxRecDepth 100000 in
theorem eJ7_copyOf_9075bj {w : zW} {d : Nat} {n : Nat} {kd : zMK} {I : zMI} {R : zMR} {r : Nat × (Nat × zMK) × zMI × zMR} {l0 : Nat} {l1 : Int32} (hw : zst w = zSt0) (hS : zSh n kd) (hd : 2 ≤ d) (h : fJ7_copyOf_9075bj l0 l1 n kd I R = some r) : EV w d 1 160 YJ7_copyOf_9075b 0 [some (.ref l0), some (.int l1), none] [] (n, kd, I, R) (qJ7_copyOf_9075bj  r) := by
  unfold fJ7_copyOf_9075bj at h
  refine ev_iload_n dJ7_copyOf_9075b_0 rfl rfl ?_
  refine ev_aload_n dJ7_copyOf_9075b_1 rfl rfl ?_
  obtain ⟨g1, h⟩ := zgd h
  refine em_alenB dJ7_copyOf_9075b_2 (zKdB_hasR hS (by decide) g1) rfl rfl ?_
  refine ev_icmp_ne dJ7_copyOf_9075b_3 (tgt := 14) (by decide) (fun c2 => ?_) (fun c2 => ?_)
  · replace h := zif c2 h
    refine ev_iload_n dJ7_copyOf_9075b_14 rfl rfl ?_
    obtain ⟨g3, h⟩ := zgd h
    obtain ⟨D6, e7, h⟩ := zld h
    obtain ⟨J8, e9, h⟩ := zld h
    obtain ⟨T10, e11, h⟩ := zld h
    refine em_newBK (kc' := 0) (ks' := 0) dJ7_copyOf_9075b_15 (zib_new g3).1 rfl (Nat.le_trans (zib_new g3).2 (by decide)) hS.top (by omega) (by have := (zib_new g3).2; omega) ?_
    rw [e7, e9, e11]
    obtain ⟨g12, h⟩ := zgd h
    have hS := zShB_sh g12
    refine ev_astore_n dJ7_copyOf_9075b_17 rfl (by decide) rfl ?_
    refine ev_aload_n dJ7_copyOf_9075b_18 rfl rfl ?_
    refine ev_iconst dJ7_copyOf_9075b_19 (v := (0 : Int32)) zci_0 ?_
    refine ev_aload_n dJ7_copyOf_9075b_20 rfl rfl ?_
    refine ev_iconst dJ7_copyOf_9075b_21 (v := (0 : Int32)) zci_0 ?_
    refine ev_aload_n dJ7_copyOf_9075b_22 rfl rfl ?_
    obtain ⟨g13, h⟩ := zgd h
    refine em_alenB dJ7_copyOf_9075b_23 (zKdB_hasR hS (by decide) g13) rfl rfl ?_
    refine ev_iload_n dJ7_copyOf_9075b_24 rfl rfl ?_
    obtain ⟨x14, e15, h⟩ := zld h
    refine ev_min dJ7_copyOf_9075b_25 zl_java_util_Arrays_304 zmm_min_s zn_java_lang_Math zmm_min_c (by omega) (Nat.le_of_ble_eq_true rfl) e15 ?_
    obtain ⟨g16, h⟩ := zgd h
    obtain ⟨g17, h⟩ := zgd h
    obtain ⟨g18, h⟩ := zgd h
    obtain ⟨J19, e20, h⟩ := zld h
    refine em_copyX dJ7_copyOf_9075b_28 zl_java_util_Arrays_150 (em_srcB (zKdB_hasR hS (by decide) g13) rfl) (zKdB_hasR hS (by decide) g16) rfl g17 g18 (by omega) (Nat.le_of_ble_eq_true rfl) e20 ?_
    refine ev_aload_n dJ7_copyOf_9075b_31 rfl rfl ?_
    obtain rfl := Option.some.inj h
    exact ev_end_r dJ7_copyOf_9075b_32 rfl (Or.inr ⟨_, rfl⟩) ⟨rfl, rfl⟩
  · replace h := zit c2 h
    refine ev_aload_n dJ7_copyOf_9075b_6 rfl rfl ?_
    cases h
abbrev qJ5_ensureCapacityInternal_d00dfj  (r : (Nat × zMK) × zMI × zMR) : Option Value → zM → Prop := fun v μ1 => v = none ∧ μ1 = ((r.1).1, (r.1).2, r.2.1, r.2.2)
set_option maxHeartbeats 4000000 in
set_option maxRecDepth 100000 in
theorem eJ5_ensureCapacityInternal_d00dfj {w : zW} {d : Nat} {n : Nat} {kd : zMK} {I : zMI} {R : zMR} {r : (Nat × zMK) × zMI × zMR} {l0 : Nat} {l1 : Int32} (hw : zst w = zSt0) (hS : zSh n kd) (hd : 5 ≤ d) (h : fJ5_ensureCapacityInternal_d00dfj l0 l1 n kd I R = some r) : EV w d 1 160 YJ5_ensureCapacityInternal_d00df 0 [some (.ref l0), some (.int l1), none] [] (n, kd, I, R) (qJ5_ensureCapacityInternal_d00dfj  r) := by
  unfold fJ5_ensureCapacityInternal_d00dfj at h
  refine ev_aload_n dJ5_ensureCapacityInternal_d00df_0 rfl rfl ?_
  obtain ⟨g1, h⟩ := zgd h
  rcases zopt (R l0 0) with o3 | ⟨a2, o3⟩
  · have h9 := zmn o3 h
    cases h9
  replace h := zms o3 h
  refine em_getO (o := some a2) dJ5_ensureCapacityInternal_d00df_1 zf_java_lang_AbstractStringBuilder_15 rfl (zKdB_hasR hS (by decide) g1) hw (hS.st (zKdB_hasR hS (by decide) g1) (by decide +kernel) _) o3 ?_
  obtain ⟨g4, h⟩ := zgd h
  refine em_alenB dJ5_ensureCapacityInternal_d00df_4 (zKdB_hasR hS (by decide) g4) rfl rfl ?_
  refine ev_aload_n dJ5_ensureCapacityInternal_d00df_5 rfl rfl ?_
  refine em_getI dJ5_ensureCapacityInternal_d00df_6 zf_java_lang_AbstractStringBuilder_22 rfl (zKdB_hasR hS (by decide) g1) rfl ?_
  refine ev_ishr dJ5_ensureCapacityInternal_d00df_9 rfl ?_
  obtain ⟨x5, e6, h⟩ := zld h
  refine ev_nm e6 ?_
  refine ev_istore_n dJ5_ensureCapacityInternal_d00df_10 rfl (by decide) rfl ?_
  refine ev_iload_n dJ5_ensureCapacityInternal_d00df_11 rfl rfl ?_
  refine ev_iload_n dJ5_ensureCapacityInternal_d00df_12 rfl rfl ?_
  refine ev_isub dJ5_ensureCapacityInternal_d00df_13 rfl ?_
  refine ev_if_le dJ5_ensureCapacityInternal_d00df_14 (tgt := 38) (by decide) (fun c7 => ?_) (fun c7 => ?_)
  · replace h := zit c7 h
    obtain rfl := Option.some.inj h
    exact ev_end_v dJ5_ensureCapacityInternal_d00df_38 rfl ⟨rfl, rfl⟩
  · replace h := zif c7 h
    refine ev_aload_n dJ5_ensureCapacityInternal_d00df_17 rfl rfl ?_
    refine ev_aload_n dJ5_ensureCapacityInternal_d00df_18 rfl rfl ?_
    refine em_getO (o := some a2) dJ5_ensureCapacityInternal_d00df_19 zf_java_lang_AbstractStringBuilder_15 rfl (zKdB_hasR hS (by decide) g1) hw (hS.st (zKdB_hasR hS (by decide) g1) (by decide +kernel) _) o3 ?_
    refine ev_aload_n dJ5_ensureCapacityInternal_d00df_22 rfl rfl ?_
    refine ev_iload_n dJ5_ensureCapacityInternal_d00df_23 rfl rfl ?_
    obtain ⟨p8, e9, h⟩ := zbd h
    refine ev_callU0 (x := yJ5_newCapacity_0f7a4) (C := "java/lang/StringBuilder") dJ5_ensureCapacityInternal_d00df_24 zmJ5_newCapacity_0f7a4 zl_java_lang_AbstractStringBuilder_104 zw_java_lang_AbstractStringBuilder_java_lang_AbstractStringBuilder_newCapacity ziJ5_newCapacity_0f7a4 zmJ5_newCapacity_0f7a4.1 zv_J5_newCapacity_0f7a4_java_lang_StringBuilder_J5_newCapacity_0f7a4 ziJ5_newCapacity_0f7a4 (by decide) rfl (zrcSB hS g1) (As := [.int l1]) (rest := [.ref a2, .ref l0]) rfl rfl (Nat.le_of_ble_eq_true rfl) rfl (Nat.le_of_ble_eq_true rfl) (d' := 4) (by omega) (eJ5_newCapacity_0f7a4j hw hS (Nat.le_refl _) e9) (fun v μ1 q => ?_)
    obtain ⟨rfl, rfl⟩ := q
    refine ev_aload_n dJ5_ensureCapacityInternal_d00df_27 rfl rfl ?_
    refine em_getI dJ5_ensureCapacityInternal_d00df_28 zf_java_lang_AbstractStringBuilder_22 rfl (zKdB_hasR hS (by decide) g1) rfl ?_
    refine ev_ishl dJ5_ensureCapacityInternal_d00df_31 rfl ?_
    obtain ⟨p10, e11, h⟩ := zbd h
    refine ev_callSK (k2 := 0) (z2 := 0) dJ5_ensureCapacityInternal_d00df_32 zmJ7_copyOf_9075b zl_java_lang_AbstractStringBuilder_108 zsJ7_copyOf_9075b (As := [.ref a2, .int (p8 <<< ((I l0 1) &&& 31))]) (rest := [.ref l0]) rfl rfl (Nat.le_of_ble_eq_true rfl) rfl (Nat.le_of_ble_eq_true rfl) (d' := 2) (by omega) (eJ7_copyOf_9075bj hw hS (Nat.le_refl _) e11) (by omega) (by omega) (fun v μ1 q => ?_)
    obtain ⟨rfl, rfl⟩ := q
    obtain ⟨g12, h⟩ := zgd h
    have hS := zShB_sh g12
    obtain ⟨g13, h⟩ := zgd h
    obtain ⟨T14, e15, h⟩ := zld h
    refine em_putO (o := some p10.1) dJ5_ensureCapacityInternal_d00df_35 zf_java_lang_AbstractStringBuilder_15 (Or.inl rfl) rfl hw (hS.st (zKdB_hasR hS (by decide) g13) (by decide +kernel) _) (fun _ => rfl) (fun _ => rfl) rfl rfl (zKdB_hasR hS (by decide) g13) e15 ?_
    obtain rfl := Option.some.inj h
    exact ev_end_v dJ5_ensureCapacityInternal_d00df_38 rfl ⟨rfl, rfl⟩
abbrev qJ5_inflateIfNeededFor_a7421j (n : Nat) (kd : zMK) (I : zMI) (R : zMR) (r : Unit) : Option Value → zM → Prop := fun v μ1 => v = none ∧ μ1 = (n, kd, I, R)
set_option maxHeartbeats 4000000 in
set_option maxRecDepth 100000 in
theorem eJ5_inflateIfNeededFor_a7421j {w : zW} {d : Nat} {n : Nat} {kd : zMK} {I : zMI} {R : zMR} {r : Unit} {l0 : Nat} {l1 : Nat} (hw : zst w = zSt0) (hS : zSh n kd) (hd : 3 ≤ d)  (h : fJ5_inflateIfNeededFor_a7421j n kd I l0 l1 = some r) : EV w d 0 0 YJ5_inflateIfNeededFor_a7421 0 [some (.ref l0), some (.ref (81 + l1))] [] (n, kd, I, R) (qJ5_inflateIfNeededFor_a7421j n kd I R r) := by
  unfold fJ5_inflateIfNeededFor_a7421j at h
  refine ev_getsC dJ5_inflateIfNeededFor_a7421_0 zf_java_lang_AbstractStringBuilder_18 ?_
  refine ev_if_eq_f dJ5_inflateIfNeededFor_a7421_3 (tgt := 21) (by decide) (by decide) ?_
  refine ev_aload_n dJ5_inflateIfNeededFor_a7421_6 rfl rfl ?_
  obtain ⟨g2, h⟩ := zgd h
  refine em_getI dJ5_inflateIfNeededFor_a7421_7 zf_java_lang_AbstractStringBuilder_22 rfl (zKdB_hasR hS (by decide) g2) rfl ?_
  refine ev_aload_n dJ5_inflateIfNeededFor_a7421_10 rfl rfl ?_
  obtain ⟨g3, h⟩ := zgd h
  obtain ⟨p4, e5, h⟩ := zbd h
  refine ev_callV0 dJ5_inflateIfNeededFor_a7421_11 zmJ0_coder_7d493 zl_java_lang_AbstractStringBuilder_40 ziJ0_coder_7d493 zvJ0_coder_7d493 (zrcv_strT (of_decide_eq_true g3)) (As := []) (rest := [.int (I l0 1)]) rfl rfl (Nat.le_of_ble_eq_true rfl) rfl (Nat.le_of_ble_eq_true rfl) (d' := 1) (by omega) (eJ0_coder_7d493T hw hS (Nat.le_refl _) e5) (fun v μ1 q => ?_)
  obtain ⟨rfl, rfl⟩ := q
  refine ev_icmp_eq dJ5_inflateIfNeededFor_a7421_14 (tgt := 21) (by decide) (fun c6 => ?_) (fun c6 => ?_)
  · replace h := zit c6 h
    obtain rfl := Option.some.inj h
    exact ev_end_v dJ5_inflateIfNeededFor_a7421_21 rfl ⟨rfl, rfl⟩
  · replace h := zif c6 h
    refine ev_aload_n dJ5_inflateIfNeededFor_a7421_17 rfl rfl ?_
    cases h
abbrev qJ0_getBytes_840e7T (n : Nat) (kd : zMK) (R : zMR) (r : zMI) : Option Value → zM → Prop := fun v μ1 => v = none ∧ μ1 = (n, kd, r, R)
set_option maxHeartbeats 4000000 in
set_option maxRecDepth 100000 in
theorem eJ0_getBytes_840e7T {w : zW} {d : Nat} {n : Nat} {kd : zMK} {I : zMI} {R : zMR} {r : zMI} {l0 : Nat} {l1 : Nat} {l2 : Int32} {l3 : Int32} (hw : zst w = zSt0) (hS : zSh n kd) (hd : 2 ≤ d)  (h : fJ0_getBytes_840e7T n kd l0 l1 l2 l3 I = some r) : EV w d 0 0 YJ0_getBytes_840e7 0 [some (.ref (81 + l0)), some (.ref l1), some (.int l2), some (.int l3)] [] (n, kd, I, R) (qJ0_getBytes_840e7T n kd R r) := by
  unfold fJ0_getBytes_840e7T at h
  refine ev_aload_n dJ0_getBytes_840e7_0 rfl rfl ?_
  obtain ⟨g1, h⟩ := zgd h
  obtain ⟨p2, e3, h⟩ := zbd h
  refine ev_callV0 dJ0_getBytes_840e7_1 zmJ0_coder_7d493 zl_java_lang_String_335 ziJ0_coder_7d493 zvJ0_coder_7d493 (zrcv_strT (of_decide_eq_true g1)) (As := []) (rest := []) rfl rfl (Nat.le_of_ble_eq_true rfl) rfl (Nat.le_of_ble_eq_true rfl) (d' := 1) (by omega) (eJ0_coder_7d493T hw hS (Nat.le_refl _) e3) (fun v μ1 q => ?_)
  obtain ⟨rfl, rfl⟩ := q
  refine ev_iload_n dJ0_getBytes_840e7_4 rfl rfl ?_
  refine ev_icmp_ne dJ0_getBytes_840e7_5 (tgt := 28) (by decide) (fun c4 => ?_) (fun c4 => ?_)
  · replace h := zif c4 h
    refine ev_aload_n dJ0_getBytes_840e7_28 rfl rfl ?_
    refine ev_strTV (i := l0) dJ0_getBytes_840e7_29 (of_decide_eq_true g1) zf_java_lang_String_9 ?_
    refine ev_iconst dJ0_getBytes_840e7_32 (v := (0 : Int32)) zci_0 ?_
    refine ev_aload_n dJ0_getBytes_840e7_33 rfl rfl ?_
    refine ev_iload_n dJ0_getBytes_840e7_34 rfl rfl ?_
    refine ev_aload_n dJ0_getBytes_840e7_35 rfl rfl ?_
    refine ev_strTV (i := l0) dJ0_getBytes_840e7_36 (of_decide_eq_true g1) zf_java_lang_String_9 ?_
    refine ev_bTlen (i := l0) dJ0_getBytes_840e7_39 (of_decide_eq_true g1) rfl ?_
    cases h
  · replace h := zit c4 h
    refine ev_aload_n dJ0_getBytes_840e7_8 rfl rfl ?_
    refine ev_strTV (i := l0) dJ0_getBytes_840e7_9 (of_decide_eq_true g1) zf_java_lang_String_9 ?_
    refine ev_iconst dJ0_getBytes_840e7_12 (v := (0 : Int32)) zci_0 ?_
    refine ev_aload_n dJ0_getBytes_840e7_13 rfl rfl ?_
    refine ev_iload_n dJ0_getBytes_840e7_14 rfl rfl ?_
    refine ev_iload_n dJ0_getBytes_840e7_15 rfl rfl ?_
    refine ev_ishl dJ0_getBytes_840e7_16 rfl ?_
    refine ev_aload_n dJ0_getBytes_840e7_17 rfl rfl ?_
    refine ev_strTV (i := l0) dJ0_getBytes_840e7_18 (of_decide_eq_true g1) zf_java_lang_String_9 ?_
    refine ev_bTlen (i := l0) dJ0_getBytes_840e7_21 (of_decide_eq_true g1) rfl ?_
    obtain ⟨g5, h⟩ := zgd h
    obtain ⟨g6, h⟩ := zgd h
    obtain ⟨g7, h⟩ := zgd h
    obtain ⟨J8, e9, h⟩ := zld h
    refine em_copyX dJ0_getBytes_840e7_22 zl_java_lang_String_212 (zSrc_str (of_decide_eq_true g1)) (zKdB_hasR hS (by decide) g5) rfl g6 g7 (by omega) (Nat.le_of_ble_eq_true rfl) e9 ?_
    refine ev_goto dJ0_getBytes_840e7_25 (tgt := 43) (by decide) ?_
    obtain rfl := Option.some.inj h
    exact ev_end_v dJ0_getBytes_840e7_43 rfl ⟨rfl, rfl⟩
abbrev qJ5_putStringAt_47b60j (n : Nat) (kd : zMK) (R : zMR) (r : zMI) : Option Value → zM → Prop := fun v μ1 => v = none ∧ μ1 = (n, kd, r, R)
set_option maxHeartbeats 4000000 in
set_option maxRecDepth 100000 in
theorem eJ5_putStringAt_47b60j {w : zW} {d : Nat} {n : Nat} {kd : zMK} {I : zMI} {R : zMR} {r : zMI} {l0 : Nat} {l1 : Int32} {l2 : Nat} (hw : zst w = zSt0) (hS : zSh n kd) (hd : 4 ≤ d)  (h : fJ5_putStringAt_47b60j n kd R l0 l1 l2 I = some r) : EV w d 0 0 YJ5_putStringAt_47b60 0 [some (.ref l0), some (.int l1), some (.ref (81 + l2))] [] (n, kd, I, R) (qJ5_putStringAt_47b60j n kd R r) := by
  unfold fJ5_putStringAt_47b60j at h
  refine ev_aload_n dJ5_putStringAt_47b60_0 rfl rfl ?_
  refine ev_aload_n dJ5_putStringAt_47b60_1 rfl rfl ?_
  obtain ⟨g1, h⟩ := zgd h
  obtain ⟨p2, e3, h⟩ := zbd h
  refine ev_callU0 (x := yJ5_inflateIfNeededFor_a7421) (C := "java/lang/StringBuilder") dJ5_putStringAt_47b60_2 zmJ5_inflateIfNeededFor_a7421 zl_java_lang_AbstractStringBuilder_397 zw_java_lang_AbstractStringBuilder_java_lang_AbstractStringBuilder_inflateIfNeededFor ziJ5_inflateIfNeededFor_a7421 zmJ5_inflateIfNeededFor_a7421.1 zv_J5_inflateIfNeededFor_a7421_java_lang_StringBuilder_J5_inflateIfNeededFor_a7421 ziJ5_inflateIfNeededFor_a7421 (by decide) rfl (zrcSB hS g1) (As := [.ref (81 + l2)]) (rest := []) rfl rfl (Nat.le_of_ble_eq_true rfl) rfl (Nat.le_of_ble_eq_true rfl) (d' := 3) (by omega) (eJ5_inflateIfNeededFor_a7421j hw hS (Nat.le_refl _) e3) (fun v μ1 q => ?_)
  obtain ⟨rfl, rfl⟩ := q
  refine ev_aload_n dJ5_putStringAt_47b60_5 rfl rfl ?_
  refine ev_aload_n dJ5_putStringAt_47b60_6 rfl rfl ?_
  rcases zopt (R l0 0) with o5 | ⟨a4, o5⟩
  · have h9 := zmn o5 h
    cases h9
  replace h := zms o5 h
  refine em_getO (o := some a4) dJ5_putStringAt_47b60_7 zf_java_lang_AbstractStringBuilder_15 rfl (zKdB_hasR hS (by decide) g1) hw (hS.st (zKdB_hasR hS (by decide) g1) (by decide +kernel) _) o5 ?_
  refine ev_iload_n dJ5_putStringAt_47b60_10 rfl rfl ?_
  refine ev_aload_n dJ5_putStringAt_47b60_11 rfl rfl ?_
  refine em_getI dJ5_putStringAt_47b60_12 zf_java_lang_AbstractStringBuilder_22 rfl (zKdB_hasR hS (by decide) g1) rfl ?_
  obtain ⟨g6, h⟩ := zgd h
  obtain ⟨p7, e8, h⟩ := zbd h
  refine ev_callV0 dJ5_putStringAt_47b60_15 zmJ0_getBytes_840e7 zl_java_lang_AbstractStringBuilder_399 ziJ0_getBytes_840e7 zvJ0_getBytes_840e7 (zrcv_strT (of_decide_eq_true g6)) (As := [.ref a4, .int l1, .int (I l0 1)]) (rest := []) rfl rfl (Nat.le_of_ble_eq_true rfl) rfl (Nat.le_of_ble_eq_true rfl) (d' := 2) (by omega) (eJ0_getBytes_840e7T hw hS (Nat.le_refl _) e8) (fun v μ1 q => ?_)
  obtain ⟨rfl, rfl⟩ := q
  obtain rfl := Option.some.inj h
  exact ev_end_v dJ5_putStringAt_47b60_18 rfl ⟨rfl, rfl⟩
abbrev qJ5_append_cf1cej  (r : Nat × (Nat × zMK) × zMI × zMR) : Option Value → zM → Prop := fun v μ1 => v = some (.ref r.1) ∧ μ1 = ((r.2.1).1, (r.2.1).2, r.2.2.1, r.2.2.2)
set_option maxHeartbeats 4000000 in
set_option maxRecDepth 100000 in
theorem eJ5_append_cf1cej {w : zW} {d : Nat} {n : Nat} {kd : zMK} {I : zMI} {R : zMR} {r : Nat × (Nat × zMK) × zMI × zMR} {l0 : Nat} {l1 : Nat} (hw : zst w = zSt0) (hS : zSh n kd) (hd : 7 ≤ d) (h : fJ5_append_cf1cej l0 l1 n kd I R = some r) : EV w d 1 160 YJ5_append_cf1ce 0 [some (.ref l0), some (.ref (81 + l1)), none] [] (n, kd, I, R) (qJ5_append_cf1cej  r) := by
  unfold fJ5_append_cf1cej at h
  refine ev_aload_n dJ5_append_cf1ce_0 rfl rfl ?_
  refine ev_ifnonnull_r dJ5_append_cf1ce_1 (tgt := 9) (by decide) ?_
  refine ev_aload_n dJ5_append_cf1ce_9 rfl rfl ?_
  obtain ⟨g1, h⟩ := zgd h
  obtain ⟨p2, e3, h⟩ := zbd h
  refine ev_callV0 dJ5_append_cf1ce_10 zmJ0_length_8abf5 zl_java_lang_AbstractStringBuilder_32 ziJ0_length_8abf5 zvJ0_length_8abf5 (zrcv_strT (of_decide_eq_true g1)) (As := []) (rest := []) rfl rfl (Nat.le_of_ble_eq_true rfl) rfl (Nat.le_of_ble_eq_true rfl) (d' := 2) (by omega) (eJ0_length_8abf5T hw hS (Nat.le_refl _) e3) (fun v μ1 q => ?_)
  obtain ⟨rfl, rfl⟩ := q
  refine ev_istore_n dJ5_append_cf1ce_13 rfl (by decide) rfl ?_
  refine ev_aload_n dJ5_append_cf1ce_14 rfl rfl ?_
  refine ev_aload_n dJ5_append_cf1ce_15 rfl rfl ?_
  obtain ⟨g4, h⟩ := zgd h
  refine em_getI dJ5_append_cf1ce_16 zf_java_lang_AbstractStringBuilder_79 rfl (zKdB_hasR hS (by decide) g4) rfl ?_
  refine ev_iload_n dJ5_append_cf1ce_19 rfl rfl ?_
  refine ev_iadd dJ5_append_cf1ce_20 rfl ?_
  obtain ⟨p5, e6, h⟩ := zbd h
  refine ev_callUK (k2 := 0) (z2 := 0) (x := yJ5_ensureCapacityInternal_d00df) (C := "java/lang/StringBuilder") dJ5_append_cf1ce_21 zmJ5_ensureCapacityInternal_d00df zl_java_lang_AbstractStringBuilder_100 zw_java_lang_AbstractStringBuilder_java_lang_AbstractStringBuilder_ensureCapacityInternal ziJ5_ensureCapacityInternal_d00df zmJ5_ensureCapacityInternal_d00df.1 zv_J5_ensureCapacityInternal_d00df_java_lang_StringBuilder_J5_ensureCapacityInternal_d00df ziJ5_ensureCapacityInternal_d00df (by decide) rfl (zrcSB hS g4) (As := [.int ((I l0 3) + p2)]) (rest := []) rfl rfl (Nat.le_of_ble_eq_true rfl) rfl (Nat.le_of_ble_eq_true rfl) (d' := 5) (by omega) (eJ5_ensureCapacityInternal_d00dfj hw hS (Nat.le_refl _) e6) (by omega) (by omega) (fun v μ1 q => ?_)
  obtain ⟨rfl, rfl⟩ := q
  obtain ⟨g7, h⟩ := zgd h
  have hS := zShB_sh g7
  refine ev_aload_n dJ5_append_cf1ce_24 rfl rfl ?_
  refine ev_aload_n dJ5_append_cf1ce_25 rfl rfl ?_
  obtain ⟨g8, h⟩ := zgd h
  refine em_getI dJ5_append_cf1ce_26 zf_java_lang_AbstractStringBuilder_79 rfl (zKdB_hasR hS (by decide) g8) rfl ?_
  refine ev_aload_n dJ5_append_cf1ce_29 rfl rfl ?_
  obtain ⟨p9, e10, h⟩ := zbd h
  refine ev_callU0 (x := yJ5_putStringAt_47b60) (C := "java/lang/StringBuilder") dJ5_append_cf1ce_30 zmJ5_putStringAt_47b60 zl_java_lang_AbstractStringBuilder_208 zw_java_lang_AbstractStringBuilder_java_lang_AbstractStringBuilder_putStringAt ziJ5_putStringAt_47b60 zmJ5_putStringAt_47b60.1 zv_J5_putStringAt_47b60_java_lang_StringBuilder_J5_putStringAt_47b60 ziJ5_putStringAt_47b60 (by decide) rfl (zrcSB hS g8) (As := [.int (p5.2.1 l0 3), .ref (81 + l1)]) (rest := []) rfl rfl (Nat.le_of_ble_eq_true rfl) rfl (Nat.le_of_ble_eq_true rfl) (d' := 4) (by omega) (eJ5_putStringAt_47b60j hw hS (Nat.le_refl _) e10) (fun v μ1 q => ?_)
  obtain ⟨rfl, rfl⟩ := q
  refine ev_aload_n dJ5_append_cf1ce_33 rfl rfl ?_
  refine ev_dup dJ5_append_cf1ce_34 rfl ?_
  refine em_getI dJ5_append_cf1ce_35 zf_java_lang_AbstractStringBuilder_79 rfl (zKdB_hasR hS (by decide) g8) rfl ?_
  refine ev_iload_n dJ5_append_cf1ce_38 rfl rfl ?_
  refine ev_iadd dJ5_append_cf1ce_39 rfl ?_
  obtain ⟨J11, e12, h⟩ := zld h
  refine em_putI dJ5_append_cf1ce_40 zf_java_lang_AbstractStringBuilder_79 (Or.inl rfl) rfl rfl rfl (zKdB_hasR hS (by decide) g8) e12 ?_
  refine ev_aload_n dJ5_append_cf1ce_43 rfl rfl ?_
  obtain rfl := Option.some.inj h
  exact ev_end_r dJ5_append_cf1ce_44 rfl (Or.inl ⟨_, rfl⟩) ⟨rfl, rfl⟩
abbrev qJ4_append_15ec4j  (r : Nat × (Nat × zMK) × zMI × zMR) : Option Value → zM → Prop := fun v μ1 => v = some (.ref r.1) ∧ μ1 = ((r.2.1).1, (r.2.1).2, r.2.2.1, r.2.2.2)
set_option maxHeartbeats 4000000 in
set_option maxRecDepth 100000 in
theorem eJ4_append_15ec4j {w : zW} {d : Nat} {n : Nat} {kd : zMK} {I : zMI} {R : zMR} {r : Nat × (Nat × zMK) × zMI × zMR} {l0 : Nat} {l1 : Nat} (hw : zst w = zSt0) (hS : zSh n kd) (hd : 8 ≤ d) (h : fJ4_append_15ec4j l0 l1 n kd I R = some r) : EV w d 1 160 YJ4_append_15ec4 0 [some (.ref l0), some (.ref (81 + l1))] [] (n, kd, I, R) (qJ4_append_15ec4j  r) := by
  unfold fJ4_append_15ec4j at h
  refine ev_aload_n dJ4_append_15ec4_0 rfl rfl ?_
  refine ev_aload_n dJ4_append_15ec4_1 rfl rfl ?_
  obtain ⟨g1, h⟩ := zgd h
  obtain ⟨p2, e3, h⟩ := zbd h
  refine ev_callPK (k2 := 0) (z2 := 0) dJ4_append_15ec4_2 zmJ5_append_cf1ce zl_java_lang_StringBuilder_29 zw_java_lang_AbstractStringBuilder_java_lang_AbstractStringBuilder_append zu12 ziJ5_append_cf1ce (by decide) (zrc12 hS g1) (As := [.ref (81 + l1)]) (rest := []) rfl rfl (Nat.le_of_ble_eq_true rfl) rfl (Nat.le_of_ble_eq_true rfl) (d' := 7) (by omega) (eJ5_append_cf1cej hw hS (Nat.le_refl _) e3) (by omega) (by omega) (fun v μ1 q => ?_)
  obtain ⟨rfl, rfl⟩ := q
  obtain ⟨g4, h⟩ := zgd h
  have hS := zShB_sh g4
  refine ev_pop dJ4_append_15ec4_5 rfl ?_
  refine ev_aload_n dJ4_append_15ec4_6 rfl rfl ?_
  obtain rfl := Option.some.inj h
  exact ev_end_r dJ4_append_15ec4_7 rfl (Or.inl ⟨_, rfl⟩) ⟨rfl, rfl⟩
abbrev qJ6_stringSize_0f7a4j (n : Nat) (kd : zMK) (I : zMI) (R : zMR) (r : Int32) : Option Value → zM → Prop := fun v μ1 => v = some (.int r) ∧ μ1 = (n, kd, I, R)
set_option maxHeartbeats 4000000 in
set_option maxRecDepth 100000 in
theorem eJ6_stringSize_0f7a4j_L16 {w : zW} {d : Nat} {n : Nat} {kd : zMK} {I : zMI} {R : zMR} {r : Int32}  (hw : zst w = zSt0) (hS : zSh n kd) (hd : 1 ≤ d)   : ∀ (q : Nat) (l0 : Int32) (l1 : Int32) (l2 : Int32) (l3 : Int32) , fJ6_stringSize_0f7a4j_L16  q l0 l1 l2 l3 = some r → EV w d 0 0 YJ6_stringSize_0f7a4 16 [some (.int l0), some (.int l1), some (.int l2), some (.int l3)] [] (n, kd, I, R) (qJ6_stringSize_0f7a4j n kd I R r) := by
  intro q
  induction q with
  | zero =>
    intro l0 l1 l2 l3 h
    cases h
  | succ q ih =>
    intro l0 l1 l2 l3 h
    unfold fJ6_stringSize_0f7a4j_L16 at h
    refine ev_iload_n dJ6_stringSize_0f7a4_16 rfl rfl ?_
    refine ev_bipush dJ6_stringSize_0f7a4_17 (v := (10 : Int32)) zcb_10 ?_
    refine ev_icmp_ge dJ6_stringSize_0f7a4_19 (tgt := 42) (by decide) (fun c1 => ?_) (fun c1 => ?_)
    · replace h := zit c1 h
      refine ev_bipush dJ6_stringSize_0f7a4_42 (v := (10 : Int32)) zcb_10 ?_
      refine ev_iload_n dJ6_stringSize_0f7a4_44 rfl rfl ?_
      refine ev_iadd dJ6_stringSize_0f7a4_45 rfl ?_
      obtain rfl := Option.some.inj h
      exact ev_end_i dJ6_stringSize_0f7a4_46 rfl rfl ⟨rfl, rfl⟩
    · replace h := zif c1 h
      refine ev_iload_n dJ6_stringSize_0f7a4_22 rfl rfl ?_
      refine ev_iload_n dJ6_stringSize_0f7a4_23 rfl rfl ?_
      refine ev_icmp_le dJ6_stringSize_0f7a4_24 (tgt := 31) (by decide) (fun c2 => ?_) (fun c2 => ?_)
      · replace h := zit c2 h
        refine ev_bipush dJ6_stringSize_0f7a4_31 (v := (10 : Int32)) zcb_10 ?_
        refine ev_iload_n dJ6_stringSize_0f7a4_33 rfl rfl ?_
        refine ev_imul dJ6_stringSize_0f7a4_34 rfl ?_
        refine ev_istore_n dJ6_stringSize_0f7a4_35 rfl (by decide) rfl ?_
        refine ev_iinc dJ6_stringSize_0f7a4_36 (v := l3 + (1 : Int32)) rfl rfl (by decide) rfl ?_
        refine ev_goto dJ6_stringSize_0f7a4_39 (tgt := 16) (by decide) ?_
        exact EV.mask [true, true, true, true] rfl (ih l0 l1 ((10 : Int32) * l2) (l3 + (1 : Int32)) h)
      · replace h := zif c2 h
        refine ev_iload_n dJ6_stringSize_0f7a4_27 rfl rfl ?_
        refine ev_iload_n dJ6_stringSize_0f7a4_28 rfl rfl ?_
        refine ev_iadd dJ6_stringSize_0f7a4_29 rfl ?_
        obtain rfl := Option.some.inj h
        exact ev_end_i dJ6_stringSize_0f7a4_30 rfl rfl ⟨rfl, rfl⟩
set_option maxHeartbeats 4000000 in
set_option maxRecDepth 100000 in
theorem eJ6_stringSize_0f7a4j_B11 {w : zW} {d : Nat} {n : Nat} {kd : zMK} {I : zMI} {R : zMR} {r : Int32}  (hw : zst w = zSt0) (hS : zSh n kd) (hd : 1 ≤ d)   : ∀ (l0 : Int32) (l1 : Int32) , fJ6_stringSize_0f7a4j_B11 l0 l1 = some r → EV w d 0 0 YJ6_stringSize_0f7a4 11 [some (.int l0), some (.int l1), none, none] [] (n, kd, I, R) (qJ6_stringSize_0f7a4j n kd I R r) := by
  intro l0 l1 h
  unfold fJ6_stringSize_0f7a4j_B11 at h
  refine ev_bipush dJ6_stringSize_0f7a4_11 (v := (-10 : Int32)) zcb_m10 ?_
  refine ev_istore_n dJ6_stringSize_0f7a4_13 rfl (by decide) rfl ?_
  refine ev_iconst dJ6_stringSize_0f7a4_14 (v := (1 : Int32)) zci_1 ?_
  refine ev_istore_n dJ6_stringSize_0f7a4_15 rfl (by decide) rfl ?_
  exact EV.mask [true, true, true, true] rfl (eJ6_stringSize_0f7a4j_L16 hw hS hd zF l0 l1 (-10 : Int32) (1 : Int32) h)
set_option maxHeartbeats 4000000 in
set_option maxRecDepth 100000 in
theorem eJ6_stringSize_0f7a4j {w : zW} {d : Nat} {n : Nat} {kd : zMK} {I : zMI} {R : zMR} {r : Int32} {l0 : Int32} (hw : zst w = zSt0) (hS : zSh n kd) (hd : 1 ≤ d)  (h : fJ6_stringSize_0f7a4j l0 = some r) : EV w d 0 0 YJ6_stringSize_0f7a4 0 [some (.int l0), none, none, none] [] (n, kd, I, R) (qJ6_stringSize_0f7a4j n kd I R r) := by
  unfold fJ6_stringSize_0f7a4j at h
  refine ev_iconst dJ6_stringSize_0f7a4_0 (v := (1 : Int32)) zci_1 ?_
  refine ev_istore_n dJ6_stringSize_0f7a4_1 rfl (by decide) rfl ?_
  refine ev_iload_n dJ6_stringSize_0f7a4_2 rfl rfl ?_
  refine ev_if_lt dJ6_stringSize_0f7a4_3 (tgt := 11) (by decide) (fun c3 => ?_) (fun c3 => ?_)
  · replace h := zit c3 h
    exact EV.mask [true, true, false, false] rfl (eJ6_stringSize_0f7a4j_B11 hw hS hd l0 (1 : Int32) h)
  · replace h := zif c3 h
    refine ev_iconst dJ6_stringSize_0f7a4_6 (v := (0 : Int32)) zci_0 ?_
    refine ev_istore_n dJ6_stringSize_0f7a4_7 rfl (by decide) rfl ?_
    refine ev_iload_n dJ6_stringSize_0f7a4_8 rfl rfl ?_
    refine ev_ineg dJ6_stringSize_0f7a4_9 rfl ?_
    refine ev_istore_n dJ6_stringSize_0f7a4_10 rfl (by decide) rfl ?_
    exact EV.mask [true, true, false, false] rfl (eJ6_stringSize_0f7a4j_B11 hw hS hd (-l0) (0 : Int32) h)
abbrev qJ6_getChars_ba4f3j (n : Nat) (kd : zMK) (R : zMR) (r : Int32 × zMI) : Option Value → zM → Prop := fun v μ1 => v = some (.int r.1) ∧ μ1 = (n, kd, r.2, R)
set_option maxHeartbeats 4000000 in
set_option maxRecDepth 100000 in
theorem eJ6_getChars_ba4f3j_L22 {w : zW} {d : Nat} {n : Nat} {kd : zMK} {R : zMR} {r : Int32 × zMI} {k72 : Int32 → Nat → Int32 → Int32 → zMI → Option (Int32 × zMI)} (hw : zst w = zSt0) (hS : zSh n kd) (hd : 1 ≤ d)  (hk72 : ∀ (l0 : Int32) (l2 : Nat) (l5 : Int32) (l6 : Int32) (I : zMI), k72 l0 l2 l5 l6 I = some r → EV w d 0 0 YJ6_getChars_ba4f3 72 [some (.int l0), none, some (.ref l2), none, none, some (.int l5), some (.int l6)] [] (n, kd, I, R) (qJ6_getChars_ba4f3j n kd R r)) : ∀ (q : Nat) (l0 : Int32) (l2 : Nat) (l5 : Int32) (l6 : Int32) (I : zMI), fJ6_getChars_ba4f3j_L22 n kd k72 q l0 l2 l5 l6 I = some r → EV w d 0 0 YJ6_getChars_ba4f3 22 [some (.int l0), none, some (.ref l2), none, none, some (.int l5), some (.int l6)] [] (n, kd, I, R) (qJ6_getChars_ba4f3j n kd R r) := by
  intro q
  induction q with
  | zero =>
    intro l0 l2 l5 l6 I h
    cases h
  | succ q ih =>
    intro l0 l2 l5 l6 I h
    unfold fJ6_getChars_ba4f3j_L22 at h
    refine ev_iload_n dJ6_getChars_ba4f3_22 rfl rfl ?_
    refine ev_bipush dJ6_getChars_ba4f3_23 (v := (-100 : Int32)) zcb_m100 ?_
    refine ev_icmp_gt dJ6_getChars_ba4f3_25 (tgt := 72) (by decide) (fun c1 => ?_) (fun c1 => ?_)
    · replace h := zit c1 h
      exact EV.mask [true, false, true, false, false, true, true] rfl (hk72 l0 l2 l5 l6 I h)
    · replace h := zif c1 h
      refine ev_iload_n dJ6_getChars_ba4f3_28 rfl rfl ?_
      refine ev_bipush dJ6_getChars_ba4f3_29 (v := (100 : Int32)) zcb_100 ?_
      refine ev_idiv dJ6_getChars_ba4f3_31 (by decide) rfl ?_
      refine ev_istore_n dJ6_getChars_ba4f3_32 rfl (by decide) rfl ?_
      refine ev_iload_n dJ6_getChars_ba4f3_33 rfl rfl ?_
      refine ev_bipush dJ6_getChars_ba4f3_34 (v := (100 : Int32)) zcb_100 ?_
      refine ev_imul dJ6_getChars_ba4f3_36 rfl ?_
      refine ev_iload_n dJ6_getChars_ba4f3_37 rfl rfl ?_
      refine ev_isub dJ6_getChars_ba4f3_38 rfl ?_
      obtain ⟨x2, e3, h⟩ := zld h
      refine ev_nm e3 ?_
      refine ev_istore dJ6_getChars_ba4f3_39 (by decide) rfl ?_
      refine ev_iload_n dJ6_getChars_ba4f3_41 rfl rfl ?_
      refine ev_istore_n dJ6_getChars_ba4f3_42 rfl (by decide) rfl ?_
      refine ev_aload_n dJ6_getChars_ba4f3_43 rfl rfl ?_
      refine ev_iinc dJ6_getChars_ba4f3_44 (v := l5 + (-1 : Int32)) rfl rfl (by decide) rfl ?_
      refine ev_iload dJ6_getChars_ba4f3_47 rfl ?_
      refine ev_getsD dJ6_getChars_ba4f3_49 zf_java_lang_Integer_83 ?_
      refine ev_iload dJ6_getChars_ba4f3_52 rfl ?_
      obtain ⟨g4, h⟩ := zgd h
      refine ev_baldD dJ6_getChars_ba4f3_54 (zib_in g4) rfl ?_
      obtain ⟨g5, h⟩ := zgd h
      obtain ⟨g6, h⟩ := zgd h
      obtain ⟨J7, e8, h⟩ := zld h
      refine em_bastB dJ6_getChars_ba4f3_55 (zKdB_hasR hS (by decide) g5) (N := (kd l2).2) rfl g6 e8 ?_
      refine ev_aload_n dJ6_getChars_ba4f3_56 rfl rfl ?_
      refine ev_iinc dJ6_getChars_ba4f3_57 (v := (l5 + (-1 : Int32)) + (-1 : Int32)) rfl rfl (by decide) rfl ?_
      refine ev_iload dJ6_getChars_ba4f3_60 rfl ?_
      cases h
set_option maxHeartbeats 4000000 in
set_option maxRecDepth 100000 in
theorem eJ6_getChars_ba4f3j_B104 {w : zW} {d : Nat} {n : Nat} {kd : zMK} {R : zMR} {r : Int32 × zMI}  (hw : zst w = zSt0) (hS : zSh n kd) (hd : 1 ≤ d)   : ∀ (l2 : Nat) (l5 : Int32) (l6 : Int32) (I : zMI), fJ6_getChars_ba4f3j_B104 n kd l2 l5 l6 I = some r → EV w d 0 0 YJ6_getChars_ba4f3 104 [none, none, some (.ref l2), none, none, some (.int l5), some (.int l6)] [] (n, kd, I, R) (qJ6_getChars_ba4f3j n kd R r) := by
  intro l2 l5 l6 I h
  unfold fJ6_getChars_ba4f3j_B104 at h
  refine ev_iload dJ6_getChars_ba4f3_104 rfl ?_
  refine ev_if_eq dJ6_getChars_ba4f3_106 (tgt := 118) (by decide) (fun c9 => ?_) (fun c9 => ?_)
  · replace h := zit c9 h
    refine ev_iload dJ6_getChars_ba4f3_118 rfl ?_
    obtain rfl := Option.some.inj h
    exact ev_end_i dJ6_getChars_ba4f3_120 rfl rfl ⟨rfl, rfl⟩
  · replace h := zif c9 h
    refine ev_aload_n dJ6_getChars_ba4f3_109 rfl rfl ?_
    refine ev_iinc dJ6_getChars_ba4f3_110 (v := l5 + (-1 : Int32)) rfl rfl (by decide) rfl ?_
    refine ev_iload dJ6_getChars_ba4f3_113 rfl ?_
    refine ev_bipush dJ6_getChars_ba4f3_115 (v := (45 : Int32)) zcb_45 ?_
    obtain ⟨g10, h⟩ := zgd h
    obtain ⟨g11, h⟩ := zgd h
    obtain ⟨J12, e13, h⟩ := zld h
    refine em_bastB dJ6_getChars_ba4f3_117 (zKdB_hasR hS (by decide) g10) (N := (kd l2).2) rfl g11 e13 ?_
    refine ev_iload dJ6_getChars_ba4f3_118 rfl ?_
    obtain rfl := Option.some.inj h
    exact ev_end_i dJ6_getChars_ba4f3_120 rfl rfl ⟨rfl, rfl⟩
set_option maxHeartbeats 4000000 in
set_option maxRecDepth 100000 in
theorem eJ6_getChars_ba4f3j_B72 {w : zW} {d : Nat} {n : Nat} {kd : zMK} {R : zMR} {r : Int32 × zMI}  (hw : zst w = zSt0) (hS : zSh n kd) (hd : 1 ≤ d)   : ∀ (l0 : Int32) (l2 : Nat) (l5 : Int32) (l6 : Int32) (I : zMI), fJ6_getChars_ba4f3j_B72 n kd l0 l2 l5 l6 I = some r → EV w d 0 0 YJ6_getChars_ba4f3 72 [some (.int l0), none, some (.ref l2), none, none, some (.int l5), some (.int l6)] [] (n, kd, I, R) (qJ6_getChars_ba4f3j n kd R r) := by
  intro l0 l2 l5 l6 I h
  unfold fJ6_getChars_ba4f3j_B72 at h
  refine ev_aload_n dJ6_getChars_ba4f3_72 rfl rfl ?_
  refine ev_iinc dJ6_getChars_ba4f3_73 (v := l5 + (-1 : Int32)) rfl rfl (by decide) rfl ?_
  refine ev_iload dJ6_getChars_ba4f3_76 rfl ?_
  refine ev_getsD dJ6_getChars_ba4f3_78 zf_java_lang_Integer_83 ?_
  refine ev_iload_n dJ6_getChars_ba4f3_81 rfl rfl ?_
  refine ev_ineg dJ6_getChars_ba4f3_82 rfl ?_
  obtain ⟨g14, h⟩ := zgd h
  refine ev_baldD dJ6_getChars_ba4f3_83 (zib_in g14) rfl ?_
  obtain ⟨g15, h⟩ := zgd h
  obtain ⟨g16, h⟩ := zgd h
  obtain ⟨J17, e18, h⟩ := zld h
  refine em_bastB dJ6_getChars_ba4f3_84 (zKdB_hasR hS (by decide) g15) (N := (kd l2).2) rfl g16 e18 ?_
  refine ev_iload_n dJ6_getChars_ba4f3_85 rfl rfl ?_
  refine ev_bipush dJ6_getChars_ba4f3_86 (v := (-9 : Int32)) zcb_m9 ?_
  refine ev_icmp_ge dJ6_getChars_ba4f3_88 (tgt := 104) (by decide) (fun c19 => ?_) (fun c19 => ?_)
  · replace h := zit c19 h
    exact EV.mask [false, false, true, false, false, true, true] rfl (eJ6_getChars_ba4f3j_B104 hw hS hd l2 (l5 + (-1 : Int32)) l6 J17 h)
  · replace h := zif c19 h
    refine ev_aload_n dJ6_getChars_ba4f3_91 rfl rfl ?_
    refine ev_iinc dJ6_getChars_ba4f3_92 (v := (l5 + (-1 : Int32)) + (-1 : Int32)) rfl rfl (by decide) rfl ?_
    refine ev_iload dJ6_getChars_ba4f3_95 rfl ?_
    cases h
set_option maxHeartbeats 4000000 in
set_option maxRecDepth 100000 in
theorem eJ6_getChars_ba4f3j {w : zW} {d : Nat} {n : Nat} {kd : zMK} {I : zMI} {R : zMR} {r : Int32 × zMI} {l0 : Int32} {l1 : Int32} {l2 : Nat} (hw : zst w = zSt0) (hS : zSh n kd) (hd : 1 ≤ d)  (h : fJ6_getChars_ba4f3j n kd l0 l1 l2 I = some r) : EV w d 0 0 YJ6_getChars_ba4f3 0 [some (.int l0), some (.int l1), some (.ref l2), none, none, none, none] [] (n, kd, I, R) (qJ6_getChars_ba4f3j n kd R r) := by
  unfold fJ6_getChars_ba4f3j at h
  refine ev_iload_n dJ6_getChars_ba4f3_0 rfl rfl ?_
  refine ev_istore dJ6_getChars_ba4f3_1 (by decide) rfl ?_
  refine ev_iload_n dJ6_getChars_ba4f3_3 rfl rfl ?_
  obtain ⟨x21, e22, h⟩ := zld h
  have k24 : EV w d 0 0 YJ6_getChars_ba4f3 12 [some (.int l0), some (.int l1), some (.ref l2), none, none, some (.int l1), none] [.int x21] (n, kd, I, R) (qJ6_getChars_ba4f3j n kd R r) := by
    refine ev_istore dJ6_getChars_ba4f3_12 (by decide) rfl ?_
    refine ev_iload dJ6_getChars_ba4f3_14 rfl ?_
    refine ev_if_ne dJ6_getChars_ba4f3_16 (tgt := 22) (by decide) (fun c23 => ?_) (fun c23 => ?_)
    · replace h := zif c23 h
      exact EV.mask [true, false, true, false, false, true, true] rfl (eJ6_getChars_ba4f3j_L22 hw hS hd (fun l0' l2' l5' l6' I' h' => eJ6_getChars_ba4f3j_B72 hw hS hd l0' l2' l5' l6' I' h') zF l0 l2 l1 x21 I h)
    · replace h := zit c23 h
      refine ev_iload_n dJ6_getChars_ba4f3_19 rfl rfl ?_
      refine ev_ineg dJ6_getChars_ba4f3_20 rfl ?_
      refine ev_istore_n dJ6_getChars_ba4f3_21 rfl (by decide) rfl ?_
      exact EV.mask [true, false, true, false, false, true, true] rfl (eJ6_getChars_ba4f3j_L22 hw hS hd (fun l0' l2' l5' l6' I' h' => eJ6_getChars_ba4f3j_B72 hw hS hd l0' l2' l5' l6' I' h') zF (-l0) l2 l1 x21 I h)
  clear h
  have h := e22
  clear e22
  refine ev_if_ge dJ6_getChars_ba4f3_4 (tgt := 11) (by decide) (fun c20 => ?_) (fun c20 => ?_)
  · replace h := zit c20 h
    refine ev_iconst dJ6_getChars_ba4f3_11 (v := (0 : Int32)) zci_0 ?_
    obtain rfl := h
    exact k24
  · replace h := zif c20 h
    refine ev_iconst dJ6_getChars_ba4f3_7 (v := (1 : Int32)) zci_1 ?_
    refine ev_goto dJ6_getChars_ba4f3_8 (tgt := 12) (by decide) ?_
    obtain rfl := h
    exact k24
abbrev qJ5_append_c97b9j  (r : Nat × (Nat × zMK) × zMI × zMR) : Option Value → zM → Prop := fun v μ1 => v = some (.ref r.1) ∧ μ1 = ((r.2.1).1, (r.2.1).2, r.2.2.1, r.2.2.2)
set_option maxHeartbeats 4000000 in
set_option maxRecDepth 100000 in
theorem eJ5_append_c97b9j {w : zW} {d : Nat} {n : Nat} {kd : zMK} {I : zMI} {R : zMR} {r : Nat × (Nat × zMK) × zMI × zMR} {l0 : Nat} {l1 : Int32} (hw : zst w = zSt0) (hS : zSh n kd) (hd : 6 ≤ d) (h : fJ5_append_c97b9j l0 l1 n kd I R = some r) : EV w d 1 160 YJ5_append_c97b9 0 [some (.ref l0), some (.int l1), none, none] [] (n, kd, I, R) (qJ5_append_c97b9j  r) := by
  unfold fJ5_append_c97b9j at h
  refine ev_aload_n dJ5_append_c97b9_0 rfl rfl ?_
  obtain ⟨g1, h⟩ := zgd h
  refine em_getI dJ5_append_c97b9_1 zf_java_lang_AbstractStringBuilder_79 rfl (zKdB_hasR hS (by decide) g1) rfl ?_
  refine ev_istore_n dJ5_append_c97b9_4 rfl (by decide) rfl ?_
  refine ev_iload_n dJ5_append_c97b9_5 rfl rfl ?_
  refine ev_iload_n dJ5_append_c97b9_6 rfl rfl ?_
  obtain ⟨p2, e3, h⟩ := zbd h
  refine ev_callS0 dJ5_append_c97b9_7 zmJ6_stringSize_0f7a4 zl_java_lang_AbstractStringBuilder_245 zsJ6_stringSize_0f7a4 (As := [.int l1]) (rest := [.int (I l0 3)]) rfl rfl (Nat.le_of_ble_eq_true rfl) rfl (Nat.le_of_ble_eq_true rfl) (d' := 1) (by omega) (eJ6_stringSize_0f7a4j hw hS (Nat.le_refl _) e3) (fun v μ1 q => ?_)
  obtain ⟨rfl, rfl⟩ := q
  refine ev_iadd dJ5_append_c97b9_10 rfl ?_
  refine ev_istore_n dJ5_append_c97b9_11 rfl (by decide) rfl ?_
  refine ev_aload_n dJ5_append_c97b9_12 rfl rfl ?_
  refine ev_iload_n dJ5_append_c97b9_13 rfl rfl ?_
  obtain ⟨p4, e5, h⟩ := zbd h
  refine ev_callUK (k2 := 0) (z2 := 0) (x := yJ5_ensureCapacityInternal_d00df) (C := "java/lang/StringBuilder") dJ5_append_c97b9_14 zmJ5_ensureCapacityInternal_d00df zl_java_lang_AbstractStringBuilder_100 zw_java_lang_AbstractStringBuilder_java_lang_AbstractStringBuilder_ensureCapacityInternal ziJ5_ensureCapacityInternal_d00df zmJ5_ensureCapacityInternal_d00df.1 zv_J5_ensureCapacityInternal_d00df_java_lang_StringBuilder_J5_ensureCapacityInternal_d00df ziJ5_ensureCapacityInternal_d00df (by decide) rfl (zrcSB hS g1) (As := [.int ((I l0 3) + p2)]) (rest := []) rfl rfl (Nat.le_of_ble_eq_true rfl) rfl (Nat.le_of_ble_eq_true rfl) (d' := 5) (by omega) (eJ5_ensureCapacityInternal_d00dfj hw hS (Nat.le_refl _) e5) (by omega) (by omega) (fun v μ1 q => ?_)
  obtain ⟨rfl, rfl⟩ := q
  obtain ⟨g6, h⟩ := zgd h
  have hS := zShB_sh g6
  refine ev_aload_n dJ5_append_c97b9_17 rfl rfl ?_
  obtain ⟨g7, h⟩ := zgd h
  obtain ⟨p8, e9, h⟩ := zbd h
  refine ev_callU0 (x := yJ5_isLatin1_aae02) (C := "java/lang/StringBuilder") dJ5_append_c97b9_18 zmJ5_isLatin1_aae02 zl_java_lang_AbstractStringBuilder_83 zw_java_lang_AbstractStringBuilder_java_lang_AbstractStringBuilder_isLatin1 ziJ5_isLatin1_aae02 zmJ5_isLatin1_aae02.1 zv_J5_isLatin1_aae02_java_lang_StringBuilder_J5_isLatin1_aae02 ziJ5_isLatin1_aae02 (by decide) rfl (zrcSB hS g7) (As := []) (rest := []) rfl rfl (Nat.le_of_ble_eq_true rfl) rfl (Nat.le_of_ble_eq_true rfl) (d' := 1) (by omega) (eJ5_isLatin1_aae02j hw hS (Nat.le_refl _) e9) (fun v μ1 q => ?_)
  obtain ⟨rfl, rfl⟩ := q
  refine ev_if_eq dJ5_append_c97b9_21 (tgt := 37) (by decide) (fun c10 => ?_) (fun c10 => ?_)
  · replace h := zit c10 h
    refine ev_iload_n dJ5_append_c97b9_37 rfl rfl ?_
    refine ev_iload_n dJ5_append_c97b9_38 rfl rfl ?_
    refine ev_iload_n dJ5_append_c97b9_39 rfl rfl ?_
    refine ev_aload_n dJ5_append_c97b9_40 rfl rfl ?_
    rcases zopt (p4.2.2 l0 0) with o12 | ⟨a11, o12⟩
    · have h9 := zmn o12 h
      cases h9
    replace h := zms o12 h
    refine em_getO (o := some a11) dJ5_append_c97b9_41 zf_java_lang_AbstractStringBuilder_15 rfl (zKdB_hasR hS (by decide) g7) hw (hS.st (zKdB_hasR hS (by decide) g7) (by decide +kernel) _) o12 ?_
    cases h
  · replace h := zif c10 h
    refine ev_iload_n dJ5_append_c97b9_24 rfl rfl ?_
    refine ev_iload_n dJ5_append_c97b9_25 rfl rfl ?_
    refine ev_aload_n dJ5_append_c97b9_26 rfl rfl ?_
    rcases zopt (p4.2.2 l0 0) with o14 | ⟨a13, o14⟩
    · have h9 := zmn o14 h
      cases h9
    replace h := zms o14 h
    refine em_getO (o := some a13) dJ5_append_c97b9_27 zf_java_lang_AbstractStringBuilder_15 rfl (zKdB_hasR hS (by decide) g7) hw (hS.st (zKdB_hasR hS (by decide) g7) (by decide +kernel) _) o14 ?_
    obtain ⟨p15, e16, h⟩ := zbd h
    refine ev_callS0 dJ5_append_c97b9_30 zmJ6_getChars_ba4f3 zl_java_lang_AbstractStringBuilder_248 zsJ6_getChars_ba4f3 (As := [.int l1, .int ((I l0 3) + p2), .ref a13]) (rest := []) rfl rfl (Nat.le_of_ble_eq_true rfl) rfl (Nat.le_of_ble_eq_true rfl) (d' := 1) (by omega) (eJ6_getChars_ba4f3j hw hS (Nat.le_refl _) e16) (fun v μ1 q => ?_)
    obtain ⟨rfl, rfl⟩ := q
    refine ev_pop dJ5_append_c97b9_33 rfl ?_
    refine ev_goto dJ5_append_c97b9_34 (tgt := 48) (by decide) ?_
    refine ev_aload_n dJ5_append_c97b9_48 rfl rfl ?_
    refine ev_iload_n dJ5_append_c97b9_49 rfl rfl ?_
    obtain ⟨J17, e18, h⟩ := zld h
    refine em_putI dJ5_append_c97b9_50 zf_java_lang_AbstractStringBuilder_79 (Or.inl rfl) rfl rfl rfl (zKdB_hasR hS (by decide) g7) e18 ?_
    refine ev_aload_n dJ5_append_c97b9_53 rfl rfl ?_
    obtain rfl := Option.some.inj h
    exact ev_end_r dJ5_append_c97b9_54 rfl (Or.inl ⟨_, rfl⟩) ⟨rfl, rfl⟩
abbrev qJ4_append_bf812j  (r : Nat × (Nat × zMK) × zMI × zMR) : Option Value → zM → Prop := fun v μ1 => v = some (.ref r.1) ∧ μ1 = ((r.2.1).1, (r.2.1).2, r.2.2.1, r.2.2.2)
set_option maxHeartbeats 4000000 in
set_option maxRecDepth 100000 in
theorem eJ4_append_bf812j {w : zW} {d : Nat} {n : Nat} {kd : zMK} {I : zMI} {R : zMR} {r : Nat × (Nat × zMK) × zMI × zMR} {l0 : Nat} {l1 : Int32} (hw : zst w = zSt0) (hS : zSh n kd) (hd : 7 ≤ d) (h : fJ4_append_bf812j l0 l1 n kd I R = some r) : EV w d 1 160 YJ4_append_bf812 0 [some (.ref l0), some (.int l1)] [] (n, kd, I, R) (qJ4_append_bf812j  r) := by
  unfold fJ4_append_bf812j at h
  refine ev_aload_n dJ4_append_bf812_0 rfl rfl ?_
  refine ev_iload_n dJ4_append_bf812_1 rfl rfl ?_
  obtain ⟨g1, h⟩ := zgd h
  obtain ⟨p2, e3, h⟩ := zbd h
  refine ev_callPK (k2 := 0) (z2 := 0) dJ4_append_bf812_2 zmJ5_append_c97b9 zl_java_lang_StringBuilder_53 zw_java_lang_AbstractStringBuilder_java_lang_AbstractStringBuilder_append_i zu12 ziJ5_append_c97b9 (by decide) (zrc12 hS g1) (As := [.int l1]) (rest := []) rfl rfl (Nat.le_of_ble_eq_true rfl) rfl (Nat.le_of_ble_eq_true rfl) (d' := 6) (by omega) (eJ5_append_c97b9j hw hS (Nat.le_refl _) e3) (by omega) (by omega) (fun v μ1 q => ?_)
  obtain ⟨rfl, rfl⟩ := q
  obtain ⟨g4, h⟩ := zgd h
  have hS := zShB_sh g4
  refine ev_pop dJ4_append_bf812_5 rfl ?_
  refine ev_aload_n dJ4_append_bf812_6 rfl rfl ?_
  obtain rfl := Option.some.inj h
  exact ev_end_r dJ4_append_bf812_7 rfl (Or.inl ⟨_, rfl⟩) ⟨rfl, rfl⟩
abbrev qJ7_checkLength_df160j (n : Nat) (kd : zMK) (I : zMI) (R : zMR) (r : Unit) : Option Value → zM → Prop := fun v μ1 => v = none ∧ μ1 = (n, kd, I, R)
set_option maxHeartbeats 4000000 in
set_option maxRecDepth 100000 in
theorem eJ7_checkLength_df160j {w : zW} {d : Nat} {n : Nat} {kd : zMK} {I : zMI} {R : zMR} {r : Unit} {l0 : Int32} {l1 : Int32} (hw : zst w = zSt0) (hS : zSh n kd) (hd : 2 ≤ d)  (h : fJ7_checkLength_df160j l0 l1 = some r) : EV w d 0 0 YJ7_checkLength_df160 0 [some (.int l0), some (.int l1)] [] (n, kd, I, R) (qJ7_checkLength_df160j n kd I R r) := by
  unfold fJ7_checkLength_df160j at h
  refine ev_iload_n dJ7_checkLength_df160_0 rfl rfl ?_
  refine ev_iload_n dJ7_checkLength_df160_1 rfl rfl ?_
  refine ev_icmp_ge dJ7_checkLength_df160_2 (tgt := 37) (by decide) (fun c1 => ?_) (fun c1 => ?_)
  · replace h := zit c1 h
    obtain rfl := Option.some.inj h
    exact ev_end_v dJ7_checkLength_df160_37 rfl ⟨rfl, rfl⟩
  · replace h := zif c1 h
    cases h
abbrev qJ7_copyOfRangeByte_39247j  (r : Nat × (Nat × zMK) × zMI × zMR) : Option Value → zM → Prop := fun v μ1 => v = some (.ref r.1) ∧ μ1 = ((r.2.1).1, (r.2.1).2, r.2.2.1, r.2.2.2)
set_option maxHeartbeats 4000000 in
set_option maxRecDepth 100000 in
theorem eJ7_copyOfRangeByte_39247j {w : zW} {d : Nat} {n : Nat} {kd : zMK} {I : zMI} {R : zMR} {r : Nat × (Nat × zMK) × zMI × zMR} {l0 : Nat} {l1 : Int32} {l2 : Int32} (hw : zst w = zSt0) (hS : zSh n kd) (hd : 3 ≤ d) (h : fJ7_copyOfRangeByte_39247j l0 l1 l2 n kd I R = some r) : EV w d 1 160 YJ7_copyOfRangeByte_39247 0 [some (.ref l0), some (.int l1), some (.int l2), none, none] [] (n, kd, I, R) (qJ7_copyOfRangeByte_39247j  r) := by
  unfold fJ7_copyOfRangeByte_39247j at h
  refine ev_iload_n dJ7_copyOfRangeByte_39247_0 rfl rfl ?_
  refine ev_iload_n dJ7_copyOfRangeByte_39247_1 rfl rfl ?_
  obtain ⟨p1, e2, h⟩ := zbd h
  refine ev_callS0 dJ7_copyOfRangeByte_39247_2 zmJ7_checkLength_df160 zl_java_util_Arrays_343 zsJ7_checkLength_df160 (As := [.int l1, .int l2]) (rest := []) rfl rfl (Nat.le_of_ble_eq_true rfl) rfl (Nat.le_of_ble_eq_true rfl) (d' := 2) (by omega) (eJ7_checkLength_df160j hw hS (Nat.le_refl _) e2) (fun v μ1 q => ?_)
  obtain ⟨rfl, rfl⟩ := q
  refine ev_iload_n dJ7_copyOfRangeByte_39247_5 rfl rfl ?_
  refine ev_iload_n dJ7_copyOfRangeByte_39247_6 rfl rfl ?_
  refine ev_isub dJ7_copyOfRangeByte_39247_7 rfl ?_
  refine ev_istore_n dJ7_copyOfRangeByte_39247_8 rfl (by decide) rfl ?_
  refine ev_iload_n dJ7_copyOfRangeByte_39247_9 rfl rfl ?_
  obtain ⟨g3, h⟩ := zgd h
  obtain ⟨D6, e7, h⟩ := zld h
  obtain ⟨J8, e9, h⟩ := zld h
  obtain ⟨T10, e11, h⟩ := zld h
  refine em_newBK (kc' := 0) (ks' := 0) dJ7_copyOfRangeByte_39247_10 (zib_new g3).1 rfl (Nat.le_trans (zib_new g3).2 (by decide)) hS.top (by omega) (by have := (zib_new g3).2; omega) ?_
  rw [e7, e9, e11]
  obtain ⟨g12, h⟩ := zgd h
  have hS := zShB_sh g12
  refine ev_astore dJ7_copyOfRangeByte_39247_12 (by decide) rfl ?_
  refine ev_aload_n dJ7_copyOfRangeByte_39247_14 rfl rfl ?_
  refine ev_iload_n dJ7_copyOfRangeByte_39247_15 rfl rfl ?_
  refine ev_aload dJ7_copyOfRangeByte_39247_16 rfl ?_
  refine ev_iconst dJ7_copyOfRangeByte_39247_18 (v := (0 : Int32)) zci_0 ?_
  refine ev_aload_n dJ7_copyOfRangeByte_39247_19 rfl rfl ?_
  obtain ⟨g13, h⟩ := zgd h
  refine em_alenB dJ7_copyOfRangeByte_39247_20 (zKdB_hasR hS (by decide) g13) rfl rfl ?_
  refine ev_iload_n dJ7_copyOfRangeByte_39247_21 rfl rfl ?_
  refine ev_isub dJ7_copyOfRangeByte_39247_22 rfl ?_
  refine ev_iload_n dJ7_copyOfRangeByte_39247_23 rfl rfl ?_
  obtain ⟨x14, e15, h⟩ := zld h
  refine ev_min dJ7_copyOfRangeByte_39247_24 zl_java_util_Arrays_304 zmm_min_s zn_java_lang_Math zmm_min_c (by omega) (Nat.le_of_ble_eq_true rfl) e15 ?_
  obtain ⟨g16, h⟩ := zgd h
  obtain ⟨g17, h⟩ := zgd h
  obtain ⟨g18, h⟩ := zgd h
  obtain ⟨J19, e20, h⟩ := zld h
  refine em_copyX dJ7_copyOfRangeByte_39247_27 zl_java_util_Arrays_150 (em_srcB (zKdB_hasR hS (by decide) g13) rfl) (zKdB_hasR hS (by decide) g16) rfl g17 g18 (by omega) (Nat.le_of_ble_eq_true rfl) e20 ?_
  refine ev_aload dJ7_copyOfRangeByte_39247_30 rfl ?_
  obtain rfl := Option.some.inj h
  exact ev_end_r dJ7_copyOfRangeByte_39247_32 rfl (Or.inr ⟨_, rfl⟩) ⟨rfl, rfl⟩
abbrev qJ7_copyOfRange_39247j  (r : Nat × (Nat × zMK) × zMI × zMR) : Option Value → zM → Prop := fun v μ1 => v = some (.ref r.1) ∧ μ1 = ((r.2.1).1, (r.2.1).2, r.2.2.1, r.2.2.2)
set_option maxHeartbeats 4000000 in
set_option maxRecDepth 100000 in
theorem eJ7_copyOfRange_39247j {w : zW} {d : Nat} {n : Nat} {kd : zMK} {I : zMI} {R : zMR} {r : Nat × (Nat × zMK) × zMI × zMR} {l0 : Nat} {l1 : Int32} {l2 : Int32} (hw : zst w = zSt0) (hS : zSh n kd) (hd : 4 ≤ d) (h : fJ7_copyOfRange_39247j l0 l1 l2 n kd I R = some r) : EV w d 1 160 YJ7_copyOfRange_39247 0 [some (.ref l0), some (.int l1), some (.int l2)] [] (n, kd, I, R) (qJ7_copyOfRange_39247j  r) := by
  unfold fJ7_copyOfRange_39247j at h
  refine ev_iload_n dJ7_copyOfRange_39247_0 rfl rfl ?_
  refine ev_if_ne dJ7_copyOfRange_39247_1 (tgt := 10) (by decide) (fun c1 => ?_) (fun c1 => ?_)
  · replace h := zif c1 h
    refine ev_aload_n dJ7_copyOfRange_39247_10 rfl rfl ?_
    refine ev_iload_n dJ7_copyOfRange_39247_11 rfl rfl ?_
    refine ev_iload_n dJ7_copyOfRange_39247_12 rfl rfl ?_
    obtain ⟨p2, e3, h⟩ := zbd h
    refine ev_callSK (k2 := 0) (z2 := 0) dJ7_copyOfRange_39247_13 zmJ7_copyOfRangeByte_39247 zl_java_util_Arrays_339 zsJ7_copyOfRangeByte_39247 (As := [.ref l0, .int l1, .int l2]) (rest := []) rfl rfl (Nat.le_of_ble_eq_true rfl) rfl (Nat.le_of_ble_eq_true rfl) (d' := 3) (by omega) (eJ7_copyOfRangeByte_39247j hw hS (Nat.le_refl _) e3) (by omega) (by omega) (fun v μ1 q => ?_)
    obtain ⟨rfl, rfl⟩ := q
    obtain ⟨g4, h⟩ := zgd h
    have hS := zShB_sh g4
    obtain rfl := Option.some.inj h
    exact ev_end_r dJ7_copyOfRange_39247_16 rfl (Or.inr ⟨_, rfl⟩) ⟨rfl, rfl⟩
  · replace h := zit c1 h
    refine ev_iload_n dJ7_copyOfRange_39247_4 rfl rfl ?_
    refine ev_aload_n dJ7_copyOfRange_39247_5 rfl rfl ?_
    obtain ⟨g5, h⟩ := zgd h
    refine em_alenB dJ7_copyOfRange_39247_6 (zKdB_hasR hS (by decide) g5) rfl rfl ?_
    refine ev_icmp_eq dJ7_copyOfRange_39247_7 (tgt := 17) (by decide) (fun c6 => ?_) (fun c6 => ?_)
    · replace h := zit c6 h
      refine ev_aload_n dJ7_copyOfRange_39247_17 rfl rfl ?_
      cases h
    · replace h := zif c6 h
      refine ev_aload_n dJ7_copyOfRange_39247_10 rfl rfl ?_
      refine ev_iload_n dJ7_copyOfRange_39247_11 rfl rfl ?_
      refine ev_iload_n dJ7_copyOfRange_39247_12 rfl rfl ?_
      obtain ⟨p7, e8, h⟩ := zbd h
      refine ev_callSK (k2 := 0) (z2 := 0) dJ7_copyOfRange_39247_13 zmJ7_copyOfRangeByte_39247 zl_java_util_Arrays_339 zsJ7_copyOfRangeByte_39247 (As := [.ref l0, .int l1, .int l2]) (rest := []) rfl rfl (Nat.le_of_ble_eq_true rfl) rfl (Nat.le_of_ble_eq_true rfl) (d' := 3) (by omega) (eJ7_copyOfRangeByte_39247j hw hS (Nat.le_refl _) e8) (by omega) (by omega) (fun v μ1 q => ?_)
      obtain ⟨rfl, rfl⟩ := q
      obtain ⟨g9, h⟩ := zgd h
      have hS := zShB_sh g9
      obtain rfl := Option.some.inj h
      exact ev_end_r dJ7_copyOfRange_39247_16 rfl (Or.inr ⟨_, rfl⟩) ⟨rfl, rfl⟩
abbrev qJ5_init_d00dfj  (r : (Nat × zMK) × zMI × zMR) : Option Value → zM → Prop := fun v μ1 => v = none ∧ μ1 = ((r.1).1, (r.1).2, r.2.1, r.2.2)
set_option maxHeartbeats 4000000 in
set_option maxRecDepth 100000 in
theorem eJ5_init_d00dfj {w : zW} {d : Nat} {n : Nat} {kd : zMK} {I : zMI} {R : zMR} {r : (Nat × zMK) × zMI × zMR} {l0 : Nat} {l1 : Int32} (hw : zst w = zSt0) (hS : zSh n kd) (hd : 2 ≤ d) (h : fJ5_init_d00dfj l0 l1 n kd I R = some r) : EV w d 1 160 YJ5_init_d00df 0 [some (.ref l0), some (.int l1)] [] (n, kd, I, R) (qJ5_init_d00dfj  r) := by
  unfold fJ5_init_d00dfj at h
  refine ev_aload_n dJ5_init_d00df_0 rfl rfl ?_
  refine ev_objInit dJ5_init_d00df_1 zl_java_lang_AbstractStringBuilder_3 ziO_init zOco (by omega) (Nat.le_of_ble_eq_true rfl) ?_
  refine ev_getsC dJ5_init_d00df_4 zf_java_lang_AbstractStringBuilder_18 ?_
  refine ev_if_eq_f dJ5_init_d00df_7 (tgt := 25) (by decide) (by decide) ?_
  refine ev_aload_n dJ5_init_d00df_10 rfl rfl ?_
  refine ev_iload_n dJ5_init_d00df_11 rfl rfl ?_
  obtain ⟨g2, h⟩ := zgd h
  obtain ⟨D5, e6, h⟩ := zld h
  obtain ⟨J7, e8, h⟩ := zld h
  obtain ⟨T9, e10, h⟩ := zld h
  refine em_newBK (kc' := 0) (ks' := 0) dJ5_init_d00df_12 (zib_new g2).1 rfl (Nat.le_trans (zib_new g2).2 (by decide)) hS.top (by omega) (by have := (zib_new g2).2; omega) ?_
  rw [e6, e8, e10]
  obtain ⟨g11, h⟩ := zgd h
  have hS := zShB_sh g11
  obtain ⟨g12, h⟩ := zgd h
  obtain ⟨T13, e14, h⟩ := zld h
  refine em_putO (o := some n) dJ5_init_d00df_14 zf_java_lang_AbstractStringBuilder_15 (Or.inl rfl) rfl hw (hS.st (zKdB_hasR hS (by decide) g12) (by decide +kernel) _) (fun _ => rfl) (fun _ => rfl) rfl rfl (zKdB_hasR hS (by decide) g12) e14 ?_
  refine ev_aload_n dJ5_init_d00df_17 rfl rfl ?_
  refine ev_iconst dJ5_init_d00df_18 (v := (0 : Int32)) zci_0 ?_
  obtain ⟨J15, e16, h⟩ := zld h
  refine em_putI dJ5_init_d00df_19 zf_java_lang_AbstractStringBuilder_22 (Or.inl rfl) rfl rfl rfl (zKdB_hasR hS (by decide) g12) e16 ?_
  refine ev_goto dJ5_init_d00df_22 (tgt := 38) (by decide) ?_
  obtain rfl := Option.some.inj h
  exact ev_end_v dJ5_init_d00df_38 rfl ⟨rfl, rfl⟩
abbrev qJ4_init_da8c8j  (r : (Nat × zMK) × zMI × zMR) : Option Value → zM → Prop := fun v μ1 => v = none ∧ μ1 = ((r.1).1, (r.1).2, r.2.1, r.2.2)
set_option maxHeartbeats 4000000 in
set_option maxRecDepth 100000 in
theorem eJ4_init_da8c8j {w : zW} {d : Nat} {n : Nat} {kd : zMK} {I : zMI} {R : zMR} {r : (Nat × zMK) × zMI × zMR} {l0 : Nat} (hw : zst w = zSt0) (hS : zSh n kd) (hd : 3 ≤ d) (h : fJ4_init_da8c8j l0 n kd I R = some r) : EV w d 1 160 YJ4_init_da8c8 0 [some (.ref l0)] [] (n, kd, I, R) (qJ4_init_da8c8j  r) := by
  unfold fJ4_init_da8c8j at h
  refine ev_aload_n dJ4_init_da8c8_0 rfl rfl ?_
  refine ev_bipush dJ4_init_da8c8_1 (v := (16 : Int32)) zcb_16 ?_
  obtain ⟨p1, e2, h⟩ := zbd h
  refine ev_callIK (k2 := 0) (z2 := 0) dJ4_init_da8c8_3 zmJ5_init_d00df zl_java_lang_StringBuilder_1 ziJ5_init_d00df rfl rfl (As := [.int (16 : Int32)]) (rest := []) rfl rfl (Nat.le_of_ble_eq_true rfl) rfl (Nat.le_of_ble_eq_true rfl) (d' := 2) (by omega) (eJ5_init_d00dfj hw hS (Nat.le_refl _) e2) (by omega) (by omega) (fun v μ1 q => ?_)
  obtain ⟨rfl, rfl⟩ := q
  obtain ⟨g3, h⟩ := zgd h
  have hS := zShB_sh g3
  obtain rfl := Option.some.inj h
  exact ev_end_v dJ4_init_da8c8_6 rfl ⟨rfl, rfl⟩
abbrev qJ0_init_db425j  (r : (Nat × zMK) × zMI × zMR) : Option Value → zM → Prop := fun v μ1 => v = none ∧ μ1 = ((r.1).1, (r.1).2, r.2.1, r.2.2)
set_option maxHeartbeats 4000000 in
set_option maxRecDepth 100000 in
theorem eJ0_init_db425j_B79 {w : zW} {d : Nat}  {r : (Nat × zMK) × zMI × zMR}  (hw : zst w = zSt0) (hd : 5 ≤ d)  : ∀ (l0 : Nat) (l3 : Nat) (l4 : Int32) (n : Nat) (kd : zMK) (I : zMI) (R : zMR), fJ0_init_db425j_B79 l0 l3 l4 n kd I R = some r → EV w d 1 160 YJ0_init_db425 79 [some (.ref l0), none, none, some (.ref l3), some (.int l4)] [] (n, kd, I, R) (qJ0_init_db425j  r) := by
  intro l0 l3 l4 n kd I R h
  unfold fJ0_init_db425j_B79 at h
  obtain ⟨g1, h⟩ := zgd h
  have hS := zShB_sh g1
  refine ev_aload_n dJ0_init_db425_79 rfl rfl ?_
  refine ev_iconst dJ0_init_db425_80 (v := (1 : Int32)) zci_1 ?_
  obtain ⟨g2, h⟩ := zgd h
  obtain ⟨J3, e4, h⟩ := zld h
  refine em_putI dJ0_init_db425_81 zg_java_lang_String_15 (Or.inr ⟨rfl, rfl, rfl⟩) rfl rfl rfl (zKdB_hasR hS (by decide) g2) e4 ?_
  refine ev_aload_n dJ0_init_db425_84 rfl rfl ?_
  refine ev_aload_n dJ0_init_db425_85 rfl rfl ?_
  refine ev_iconst dJ0_init_db425_86 (v := (0 : Int32)) zci_0 ?_
  refine ev_iload dJ0_init_db425_87 rfl ?_
  refine ev_iconst dJ0_init_db425_89 (v := (1 : Int32)) zci_1 ?_
  refine ev_ishl dJ0_init_db425_90 rfl ?_
  obtain ⟨p5, e6, h⟩ := zbd h
  refine ev_callSK (k2 := 0) (z2 := 0) dJ0_init_db425_91 zmJ7_copyOfRange_39247 zl_java_lang_String_54 zsJ7_copyOfRange_39247 (As := [.ref l3, .int (0 : Int32), .int (l4 <<< ((1 : Int32) &&& 31))]) (rest := [.ref l0]) rfl rfl (Nat.le_of_ble_eq_true rfl) rfl (Nat.le_of_ble_eq_true rfl) (d' := 4) (by omega) (eJ7_copyOfRange_39247j hw hS (Nat.le_refl _) e6) (by omega) (by omega) (fun v μ1 q => ?_)
  obtain ⟨rfl, rfl⟩ := q
  obtain ⟨g7, h⟩ := zgd h
  have hS := zShB_sh g7
  obtain ⟨g8, h⟩ := zgd h
  obtain ⟨T9, e10, h⟩ := zld h
  refine em_putO (o := some p5.1) dJ0_init_db425_94 zg_java_lang_String_9 (Or.inr ⟨rfl, rfl, rfl⟩) rfl hw (hS.st (zKdB_hasR hS (by decide) g8) (by decide +kernel) _) (fun _ => rfl) (fun _ => rfl) rfl rfl (zKdB_hasR hS (by decide) g8) e10 ?_
  obtain rfl := Option.some.inj h
  exact ev_end_v dJ0_init_db425_97 rfl ⟨rfl, rfl⟩
set_option maxHeartbeats 4000000 in
set_option maxRecDepth 100000 in
theorem eJ0_init_db425j {w : zW} {d : Nat} {n : Nat} {kd : zMK} {I : zMI} {R : zMR} {r : (Nat × zMK) × zMI × zMR} {l0 : Nat} {l1 : Nat} (hw : zst w = zSt0) (hS : zSh n kd) (hd : 5 ≤ d) (h : fJ0_init_db425j l0 l1 n kd I R = some r) : EV w d 1 160 YJ0_init_db425 0 [some (.ref l0), some (.ref l1), some (.null), none, none] [] (n, kd, I, R) (qJ0_init_db425j  r) := by
  unfold fJ0_init_db425j at h
  refine ev_aload_n dJ0_init_db425_0 rfl rfl ?_
  refine ev_objInit dJ0_init_db425_1 zl_java_lang_String_1 ziO_init zOco (by omega) (Nat.le_of_ble_eq_true rfl) ?_
  refine ev_aload_n dJ0_init_db425_4 rfl rfl ?_
  obtain ⟨g11, h⟩ := zgd h
  obtain ⟨p12, e13, h⟩ := zbd h
  refine ev_callU0 (x := yJ5_getValue_6d5f1) (C := "java/lang/StringBuilder") dJ0_init_db425_5 zmJ5_getValue_6d5f1 zl_java_lang_String_552 zw_java_lang_AbstractStringBuilder_java_lang_AbstractStringBuilder_getValue ziJ5_getValue_6d5f1 zmJ5_getValue_6d5f1.1 zv_J5_getValue_6d5f1_java_lang_StringBuilder_J5_getValue_6d5f1 ziJ5_getValue_6d5f1 (by decide) rfl (zrcSB hS g11) (As := []) (rest := []) rfl rfl (Nat.le_of_ble_eq_true rfl) rfl (Nat.le_of_ble_eq_true rfl) (d' := 1) (by omega) (eJ5_getValue_6d5f1j hw hS (Nat.le_refl _) e13) (fun v μ1 q => ?_)
  obtain ⟨rfl, rfl⟩ := q
  refine ev_astore_n dJ0_init_db425_8 rfl (by decide) rfl ?_
  refine ev_aload_n dJ0_init_db425_9 rfl rfl ?_
  obtain ⟨p14, e15, h⟩ := zbd h
  refine ev_callU0 (x := yJ5_length_8abf5) (C := "java/lang/StringBuilder") dJ0_init_db425_10 zmJ4_length_8abf5 zl_java_lang_String_549 zw_java_lang_AbstractStringBuilder_java_lang_AbstractStringBuilder_length ziJ5_length_8abf5 zmJ5_length_8abf5.1 zv_J4_length_8abf5_java_lang_StringBuilder_J5_length_8abf5 ziJ4_length_8abf5 (by decide) rfl (zrcSB hS g11) (As := []) (rest := []) rfl rfl (Nat.le_of_ble_eq_true rfl) rfl (Nat.le_of_ble_eq_true rfl) (d' := 2) (by omega) (eJ4_length_8abf5j hw hS (Nat.le_refl _) e15) (fun v μ1 q => ?_)
  obtain ⟨rfl, rfl⟩ := q
  refine ev_istore dJ0_init_db425_13 (by decide) rfl ?_
  refine ev_aload_n dJ0_init_db425_15 rfl rfl ?_
  obtain ⟨p16, e17, h⟩ := zbd h
  refine ev_callU0 (x := yJ5_isLatin1_aae02) (C := "java/lang/StringBuilder") dJ0_init_db425_16 zmJ5_isLatin1_aae02 zl_java_lang_String_1047 zw_java_lang_AbstractStringBuilder_java_lang_AbstractStringBuilder_isLatin1 ziJ5_isLatin1_aae02 zmJ5_isLatin1_aae02.1 zv_J5_isLatin1_aae02_java_lang_StringBuilder_J5_isLatin1_aae02 ziJ5_isLatin1_aae02 (by decide) rfl (zrcSB hS g11) (As := []) (rest := []) rfl rfl (Nat.le_of_ble_eq_true rfl) rfl (Nat.le_of_ble_eq_true rfl) (d' := 1) (by omega) (eJ5_isLatin1_aae02j hw hS (Nat.le_refl _) e17) (fun v μ1 q => ?_)
  obtain ⟨rfl, rfl⟩ := q
  refine ev_if_eq dJ0_init_db425_19 (tgt := 41) (by decide) (fun c18 => ?_) (fun c18 => ?_)
  · replace h := zit c18 h
    refine ev_getsC dJ0_init_db425_41 zf_java_lang_String_38 ?_
    refine ev_if_eq_f dJ0_init_db425_44 (tgt := 79) (by decide) (by decide) ?_
    refine ev_aload_n dJ0_init_db425_47 rfl rfl ?_
    refine em_getI dJ0_init_db425_48 zf_java_lang_String_1048 rfl (zKdB_hasR hS (by decide) g11) rfl ?_
    refine ev_if_eq dJ0_init_db425_51 (tgt := 79) (by decide) (fun c20 => ?_) (fun c20 => ?_)
    · replace h := zit c20 h
      exact EV.mask [true, false, false, true, true] rfl (EV.more (eJ0_init_db425j_B79 hw hd l0 p12 p14 n kd I R h) (Nat.le_refl _) (by omega) (by omega))
    · replace h := zif c20 h
      refine ev_aload_n dJ0_init_db425_54 rfl rfl ?_
      refine ev_aload_n dJ0_init_db425_55 rfl rfl ?_
      refine ev_iconst dJ0_init_db425_56 (v := (0 : Int32)) zci_0 ?_
      refine ev_iload dJ0_init_db425_57 rfl ?_
      cases h
  · replace h := zif c18 h
    refine ev_aload_n dJ0_init_db425_22 rfl rfl ?_
    refine ev_iconst dJ0_init_db425_23 (v := (0 : Int32)) zci_0 ?_
    obtain ⟨g21, h⟩ := zgd h
    obtain ⟨J22, e23, h⟩ := zld h
    refine em_putI dJ0_init_db425_24 zg_java_lang_String_15 (Or.inr ⟨rfl, rfl, rfl⟩) rfl rfl rfl (zKdB_hasR hS (by decide) g21) e23 ?_
    refine ev_aload_n dJ0_init_db425_27 rfl rfl ?_
    refine ev_aload_n dJ0_init_db425_28 rfl rfl ?_
    refine ev_iconst dJ0_init_db425_29 (v := (0 : Int32)) zci_0 ?_
    refine ev_iload dJ0_init_db425_30 rfl ?_
    obtain ⟨p24, e25, h⟩ := zbd h
    refine ev_callSK (k2 := 0) (z2 := 0) dJ0_init_db425_32 zmJ7_copyOfRange_39247 zl_java_lang_String_54 zsJ7_copyOfRange_39247 (As := [.ref p12, .int (0 : Int32), .int p14]) (rest := [.ref l0]) rfl rfl (Nat.le_of_ble_eq_true rfl) rfl (Nat.le_of_ble_eq_true rfl) (d' := 4) (by omega) (eJ7_copyOfRange_39247j hw hS (Nat.le_refl _) e25) (by omega) (by omega) (fun v μ1 q => ?_)
    obtain ⟨rfl, rfl⟩ := q
    obtain ⟨g26, h⟩ := zgd h
    have hS := zShB_sh g26
    obtain ⟨g27, h⟩ := zgd h
    obtain ⟨T28, e29, h⟩ := zld h
    refine em_putO (o := some p24.1) dJ0_init_db425_35 zg_java_lang_String_9 (Or.inr ⟨rfl, rfl, rfl⟩) rfl hw (hS.st (zKdB_hasR hS (by decide) g27) (by decide +kernel) _) (fun _ => rfl) (fun _ => rfl) rfl rfl (zKdB_hasR hS (by decide) g27) e29 ?_
    refine ev_goto dJ0_init_db425_38 (tgt := 97) (by decide) ?_
    obtain rfl := Option.some.inj h
    exact ev_end_v dJ0_init_db425_97 rfl ⟨rfl, rfl⟩
abbrev qJ0_init_81219j  (r : (Nat × zMK) × zMI × zMR) : Option Value → zM → Prop := fun v μ1 => v = none ∧ μ1 = ((r.1).1, (r.1).2, r.2.1, r.2.2)
set_option maxHeartbeats 4000000 in
set_option maxRecDepth 100000 in
theorem eJ0_init_81219j {w : zW} {d : Nat} {n : Nat} {kd : zMK} {I : zMI} {R : zMR} {r : (Nat × zMK) × zMI × zMR} {l0 : Nat} {l1 : Nat} (hw : zst w = zSt0) (hS : zSh n kd) (hd : 6 ≤ d) (h : fJ0_init_81219j l0 l1 n kd I R = some r) : EV w d 1 160 YJ0_init_81219 0 [some (.ref l0), some (.ref l1)] [] (n, kd, I, R) (qJ0_init_81219j  r) := by
  unfold fJ0_init_81219j at h
  refine ev_aload_n dJ0_init_81219_0 rfl rfl ?_
  refine ev_aload_n dJ0_init_81219_1 rfl rfl ?_
  refine ev_null dJ0_init_81219_2 ?_
  obtain ⟨p1, e2, h⟩ := zbd h
  refine ev_callIK (k2 := 0) (z2 := 0) dJ0_init_81219_3 zmJ0_init_db425 zl_java_lang_String_489 ziJ0_init_db425 rfl rfl (As := [.ref l1, .null]) (rest := []) rfl rfl (Nat.le_of_ble_eq_true rfl) rfl (Nat.le_of_ble_eq_true rfl) (d' := 5) (by omega) (eJ0_init_db425j hw hS (Nat.le_refl _) e2) (by omega) (by omega) (fun v μ1 q => ?_)
  obtain ⟨rfl, rfl⟩ := q
  obtain ⟨g3, h⟩ := zgd h
  have hS := zShB_sh g3
  obtain rfl := Option.some.inj h
  exact ev_end_v dJ0_init_81219_6 rfl ⟨rfl, rfl⟩
abbrev qJ4_toString_0e30dj  (r : Nat × (Nat × zMK) × zMI × zMR) : Option Value → zM → Prop := fun v μ1 => v = some (.ref r.1) ∧ μ1 = ((r.2.1).1, (r.2.1).2, r.2.2.1, r.2.2.2)
set_option maxHeartbeats 4000000 in
set_option maxRecDepth 100000 in
theorem eJ4_toString_0e30dj {w : zW} {d : Nat} {n : Nat} {kd : zMK} {I : zMI} {R : zMR} {r : Nat × (Nat × zMK) × zMI × zMR} {l0 : Nat} (hw : zst w = zSt0) (hS : zSh n kd) (hd : 7 ≤ d) (h : fJ4_toString_0e30dj l0 n kd I R = some r) : EV w d 2 164 YJ4_toString_0e30d 0 [some (.ref l0)] [] (n, kd, I, R) (qJ4_toString_0e30dj  r) := by
  unfold fJ4_toString_0e30dj at h
  obtain ⟨D3, e4, h⟩ := zld h
  obtain ⟨J5, e6, h⟩ := zld h
  obtain ⟨T7, e8, h⟩ := zld h
  refine em_newK (kc' := 1) (ks' := 160) dJ4_toString_0e30d_0 (c := 13) (N := 4) (by decide) zc_java_lang_StringBuilder_18 zj13 zn_java_lang_String rfl (fun k => by rw [hw]; exact zSt0_big (Nat.le_trans hS.1 (by omega)) k) hS.top (by omega) (by omega) ?_
  rw [e4, e6, e8]
  obtain ⟨g9, h⟩ := zgd h
  have hS := zShB_sh g9
  refine ev_dup dJ4_toString_0e30d_3 rfl ?_
  refine ev_aload_n dJ4_toString_0e30d_4 rfl rfl ?_
  obtain ⟨p10, e11, h⟩ := zbd h
  refine ev_callIK (k2 := 0) (z2 := 0) dJ4_toString_0e30d_5 zmJ0_init_81219 zl_java_lang_StringBuilder_137 ziJ0_init_81219 rfl rfl (As := [.ref l0]) (rest := [.ref n]) rfl rfl (Nat.le_of_ble_eq_true rfl) rfl (Nat.le_of_ble_eq_true rfl) (d' := 6) (by omega) (eJ0_init_81219j hw hS (Nat.le_refl _) e11) (by omega) (by omega) (fun v μ1 q => ?_)
  obtain ⟨rfl, rfl⟩ := q
  obtain ⟨g12, h⟩ := zgd h
  have hS := zShB_sh g12
  obtain rfl := Option.some.inj h
  exact ev_end_r dJ4_toString_0e30d_8 rfl (Or.inl ⟨_, rfl⟩) ⟨rfl, rfl⟩
