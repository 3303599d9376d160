/-! texts that are made, as functions: laid by program out of the JDK's bytecode -/
theorem zcb_m10 : (Int8.ofInt (-10)).toInt32 = (-10 : Int32) := by decide
theorem zcb_m9 : (Int8.ofInt (-9)).toInt32 = (-9 : Int32) := by decide
def fJ0_coder_7d493T   (l0 : Nat)  : Option (Int32) :=
    zb (if decide (l0 < 4) = true then
    some ((0 : Int32))
    else none) fun x3 =>
    if zbyB x3 = true then
    some (x3)
    else none
def fJ0_coder_7d493D (n : Nat) (kd : zMK) (I : zMI)  (l0 : Nat)  : Option (Int32) :=
    zb (if zKdB n kd l0 29 = true then
    some ((I l0 1))
    else none) fun x3 =>
    if zbyB x3 = true then
    some (x3)
    else none
def fJ0_length_8abf5T   (l0 : Nat)  : Option (Int32) :=
    if decide (l0 < 4) = true then
    zb (fJ0_coder_7d493T l0) fun p2 =>
    some (((Int32.ofNat (zSlen.getD (12 + l0) 0)) >>> (p2 &&& 31)))
    else none
def fJ0_length_8abf5D (n : Nat) (kd : zMK) (I : zMI) (R : zMR)  (l0 : Nat)  : Option (Int32) :=
    if zKdB n kd l0 29 = true then
    zm (R l0 0) none fun a2 =>
    if zKdB n kd a2 12 = true then
    zb (fJ0_coder_7d493D n kd I l0) fun p5 =>
    some (((Int32.ofNat ((kd a2).2)) >>> (p5 &&& 31)))
    else none
    else none
def fJ0_isLatin1_aae02D (n : Nat) (kd : zMK) (I : zMI)  (l0 : Nat)  : Option (Int32) :=
    zb (if zKdB n kd l0 29 = true then
    if (I l0 1) = (0 : Int32) then
    some ((1 : Int32))
    else
    some ((0 : Int32))
    else none) fun x4 =>
    if zbB x4 = true then
    some (x4)
    else none
def fJ1_charAt_3b067D (n : Nat) (kd : zMK) (I : zMI)  (l0 : Nat) (l1 : Int32)  : Option (Int32) :=
    if zKdB n kd l0 12 = true then
    if zckB l1 (Int32.ofNat ((kd l0).2)) = true then
    if zib l1 ((kd l0).2) = true then
    some ((((I l0 l1.toNatClampNeg) &&& (255 : Int32)).toUInt32 % 65536).toInt32)
    else none
    else none
    else none
def fJ0_charAt_5068eD (n : Nat) (kd : zMK) (I : zMI) (R : zMR)  (l0 : Nat) (l1 : Int32)  : Option (Int32) :=
    if zKdB n kd l0 29 = true then
    zb (fJ0_isLatin1_aae02D n kd I l0) fun p2 =>
    if p2 = (0 : Int32) then
    zm (R l0 0) none fun a5 =>
    none
    else
    zm (R l0 0) none fun a7 =>
    zb (fJ1_charAt_3b067D n kd I a7 l1) fun p9 =>
    if zchB p9 = true then
    some (p9)
    else none
    else none
def fJ5_isLatin1_aae02j (n : Nat) (kd : zMK) (I : zMI)  (l0 : Nat)  : Option (Int32) :=
    zb (if zKdB n kd l0 28 = true then
    if (I l0 1) = (0 : Int32) then
    some ((1 : Int32))
    else
    some ((0 : Int32))
    else none) fun x4 =>
    if zbB x4 = true then
    some (x4)
    else none
def fJ5_getValue_6d5f1j (n : Nat) (kd : zMK) (R : zMR)  (l0 : Nat)  : Option (Nat) :=
    if zKdB n kd l0 28 = true then
    zm (R l0 0) none fun a2 =>
    some (a2)
    else none
def fJ5_length_8abf5j (n : Nat) (kd : zMK) (I : zMI)  (l0 : Nat)  : Option (Int32) :=
    if zKdB n kd l0 28 = true then
    some ((I l0 3))
    else none
def fJ4_length_8abf5j (n : Nat) (kd : zMK) (I : zMI)  (l0 : Nat)  : Option (Int32) :=
    if zKdB n kd l0 28 = true then
    zb (fJ5_length_8abf5j n kd I l0) fun p2 =>
    some (p2)
    else none
def fJ8_newLength_cabccj   (l0 : Int32) (l1 : Int32) (l2 : Int32)  : Option (Int32) :=
    zl (if l1 < l2 then l2 else l1) fun x1 =>
    if (l0 + x1) ≤ (0 : Int32) then
    none
    else
    if (2147483639 : Int32) < (l0 + x1) then
    none
    else
    some ((l0 + x1))
def fJ5_newCapacity_0f7a4j (n : Nat) (kd : zMK) (I : zMI) (R : zMR)  (l0 : Nat) (l1 : Int32)  : Option (Int32) :=
    if zKdB n kd l0 28 = true then
    zm (R l0 0) none fun a2 =>
    if zKdB n kd a2 12 = true then
    zl (Int32.ofNat ((kd a2).2)) fun x5 =>
    zl (l1 <<< ((I l0 1) &&& 31)) fun x7 =>
    zb (fJ8_newLength_cabccj x5 (x7 - x5) (x5 + ((2 : Int32) <<< ((I l0 1) &&& 31)))) fun p9 =>
    if p9 = (2147483647 : Int32) then
    none
    else
    some ((p9 >>> ((I l0 1) &&& 31)))
    else none
    else none
def fJ7_copyOf_9075bj  (l0 : Nat) (l1 : Int32) (n : Nat) (kd : zMK) (I : zMI) (R : zMR) : Option (Nat × (Nat × zMK) × zMI × zMR) :=
    if zKdB n kd l0 12 = true then
    if l1 = (Int32.ofNat ((kd l0).2)) then
    none
    else
    if zib l1 161 = true then
    zl (uK kd n (12, l1.toNatClampNeg)) fun D6 =>
    zl (uA I n (fun _ => 0)) fun J8 =>
    zl (uRA R n) fun T10 =>
    if zShB (n + 1) D6 = true then
    if zKdB (n + 1) D6 l0 12 = true then
    zl (if l1 < (Int32.ofNat ((D6 l0).2)) then l1 else (Int32.ofNat ((D6 l0).2))) fun x14 =>
    if zKdB (n + 1) D6 n 12 = true then
    if zcpB (0 : Int32) (0 : Int32) x14 ((D6 l0).2) ((D6 n).2) = true then
    if zbfB (J8 l0) (0 : Int32).toNatClampNeg x14.toNatClampNeg = true then
    zl (uA J8 n (va_cpy (J8 l0) (J8 n) (0 : Int32).toNatClampNeg (0 : Int32).toNatClampNeg x14.toNatClampNeg)) fun J19 =>
    some (n, ((n + 1), D6), J19, T10)
    else none
    else none
    else none
    else none
    else none
    else none
    else none
def fJ5_ensureCapacityInternal_d00dfj  (l0 : Nat) (l1 : Int32) (n : Nat) (kd : zMK) (I : zMI) (R : zMR) : Option ((Nat × zMK) × zMI × zMR) :=
    if zKdB n kd l0 28 = true then
    zm (R l0 0) none fun a2 =>
    if zKdB n kd a2 12 = true then
    zl ((Int32.ofNat ((kd a2).2)) >>> ((I l0 1) &&& 31)) fun x5 =>
    if (l1 - x5) ≤ (0 : Int32) then
    some ((n, kd), I, R)
    else
    zb (fJ5_newCapacity_0f7a4j n kd I R l0 l1) fun p8 =>
    zb (fJ7_copyOf_9075bj a2 (p8 <<< ((I l0 1) &&& 31)) n kd I R) fun p10 =>
    if zShB p10.2.1.1 p10.2.1.2 = true then
    if zKdB p10.2.1.1 p10.2.1.2 l0 28 = true then
    zl (uR p10.2.2.2 l0 0 (some p10.1)) fun T14 =>
    some ((p10.2.1.1, p10.2.1.2), p10.2.2.1, T14)
    else none
    else none
    else none
    else none
def fJ5_inflateIfNeededFor_a7421j (n : Nat) (kd : zMK) (I : zMI)  (l0 : Nat) (l1 : Nat)  : Option (Unit) :=
    if zKdB n kd l0 28 = true then
    if decide (l1 < 4) = true then
    zb (fJ0_coder_7d493T l1) fun p4 =>
    if (I l0 1) = p4 then
    some ()
    else
    none
    else none
    else none
def fJ0_getBytes_840e7T (n : Nat) (kd : zMK)  (l0 : Nat) (l1 : Nat) (l2 : Int32) (l3 : Int32) (I : zMI) : Option (zMI) :=
    if decide (l0 < 4) = true then
    zb (fJ0_coder_7d493T l0) fun p2 =>
    if p2 = l3 then
    if zKdB n kd l1 12 = true then
    if zcpB (0 : Int32) (l2 <<< (l3 &&& 31)) (Int32.ofNat (zSlen.getD (12 + l0) 0)) (zSlen.getD (12 + l0) 0) ((kd l1).2) = true then
    if zbfB (fun k => (zSbyt.getD (12 + l0) []).getD k 0) (0 : Int32).toNatClampNeg (Int32.ofNat (zSlen.getD (12 + l0) 0)).toNatClampNeg = true then
    zl (uA I l1 (va_cpy (fun k => (zSbyt.getD (12 + l0) []).getD k 0) (I l1) (0 : Int32).toNatClampNeg (l2 <<< (l3 &&& 31)).toNatClampNeg (Int32.ofNat (zSlen.getD (12 + l0) 0)).toNatClampNeg)) fun J8 =>
    some (J8)
    else none
    else none
    else none
    else
    none
    else none
def fJ5_putStringAt_47b60j (n : Nat) (kd : zMK) (R : zMR)  (l0 : Nat) (l1 : Int32) (l2 : Nat) (I : zMI) : Option (zMI) :=
    if zKdB n kd l0 28 = true then
    zb (fJ5_inflateIfNeededFor_a7421j n kd I l0 l2) fun _ =>
    zm (R l0 0) none fun a4 =>
    if decide (l2 < 4) = true then
    zb (fJ0_getBytes_840e7T n kd l2 a4 l1 (I l0 1) I) fun p7 =>
    some (p7)
    else none
    else none
def fJ5_append_cf1cej  (l0 : Nat) (l1 : Nat) (n : Nat) (kd : zMK) (I : zMI) (R : zMR) : Option (Nat × (Nat × zMK) × zMI × zMR) :=
    if decide (l1 < 4) = true then
    zb (fJ0_length_8abf5T l1) fun p2 =>
    if zKdB n kd l0 28 = true then
    zb (fJ5_ensureCapacityInternal_d00dfj l0 ((I l0 3) + p2) n kd I R) fun p5 =>
    if zShB p5.1.1 p5.1.2 = true then
    if zKdB p5.1.1 p5.1.2 l0 28 = true then
    zb (fJ5_putStringAt_47b60j p5.1.1 p5.1.2 p5.2.2 l0 (p5.2.1 l0 3) l1 p5.2.1) fun p9 =>
    zl (uI p9 l0 3 ((p9 l0 3) + p2)) fun J11 =>
    some (l0, (p5.1.1, p5.1.2), J11, p5.2.2)
    else none
    else none
    else none
    else none
def fJ4_append_15ec4j  (l0 : Nat) (l1 : Nat) (n : Nat) (kd : zMK) (I : zMI) (R : zMR) : Option (Nat × (Nat × zMK) × zMI × zMR) :=
    if zKdB n kd l0 28 = true then
    zb (fJ5_append_cf1cej l0 l1 n kd I R) fun p2 =>
    if zShB p2.2.1.1 p2.2.1.2 = true then
    some (l0, (p2.2.1.1, p2.2.1.2), p2.2.2.1, p2.2.2.2)
    else none
    else none
def fJ6_stringSize_0f7a4j_L16    : Nat → Int32 → Int32 → Int32 → Int32 → Option (Int32)
  | 0, _, _, _, _ => none
  | q + 1, l0, l1, l2, l3 =>
    if (10 : Int32) ≤ l3 then
    some (((10 : Int32) + l1))
    else
    if l0 ≤ l2 then
    fJ6_stringSize_0f7a4j_L16  q l0 l1 ((10 : Int32) * l2) (l3 + (1 : Int32))
    else
    some ((l3 + l1))
def fJ6_stringSize_0f7a4j_B11    (l0 : Int32) (l1 : Int32)  : Option (Int32) :=
    fJ6_stringSize_0f7a4j_L16 zF l0 l1 (-10 : Int32) (1 : Int32)
def fJ6_stringSize_0f7a4j   (l0 : Int32)  : Option (Int32) :=
    if l0 < (0 : Int32) then
    fJ6_stringSize_0f7a4j_B11 l0 (1 : Int32)
    else
    fJ6_stringSize_0f7a4j_B11 (-l0) (0 : Int32)
def fJ6_getChars_ba4f3j_L22 (n : Nat) (kd : zMK)  (k72 : Int32 → Nat → Int32 → Int32 → zMI → Option (Int32 × zMI)) : Nat → Int32 → Nat → Int32 → Int32 → zMI → Option (Int32 × zMI)
  | 0, _, _, _, _, _ => none
  | q + 1, l0, l2, l5, l6, I =>
    if (-100 : Int32) < l0 then
    k72 l0 l2 l5 l6 I
    else
    zl (((l0 / (100 : Int32)) * (100 : Int32)) - l0) fun x2 =>
    if zib x2 100 = true then
    if zKdB n kd l2 12 = true then
    if zib (l5 + (-1 : Int32)) ((kd l2).2) = true then
    zl (uI I l2 (l5 + (-1 : Int32)).toNatClampNeg (zDo x2.toNatClampNeg).toInt8.toInt32) fun J7 =>
    none
    else none
    else none
    else none
def fJ6_getChars_ba4f3j_B104 (n : Nat) (kd : zMK)   (l2 : Nat) (l5 : Int32) (l6 : Int32) (I : zMI) : Option (Int32 × zMI) :=
    if l6 = (0 : Int32) then
    some (l5, I)
    else
    if zKdB n kd l2 12 = true then
    if zib (l5 + (-1 : Int32)) ((kd l2).2) = true then
    zl (uI I l2 (l5 + (-1 : Int32)).toNatClampNeg (45 : Int32).toInt8.toInt32) fun J12 =>
    some ((l5 + (-1 : Int32)), J12)
    else none
    else none
def fJ6_getChars_ba4f3j_B72 (n : Nat) (kd : zMK)   (l0 : Int32) (l2 : Nat) (l5 : Int32) (l6 : Int32) (I : zMI) : Option (Int32 × zMI) :=
    if zib (-l0) 100 = true then
    if zKdB n kd l2 12 = true then
    if zib (l5 + (-1 : Int32)) ((kd l2).2) = true then
    zl (uI I l2 (l5 + (-1 : Int32)).toNatClampNeg (zDo (-l0).toNatClampNeg).toInt8.toInt32) fun J17 =>
    if (-9 : Int32) ≤ l0 then
    fJ6_getChars_ba4f3j_B104 n kd l2 (l5 + (-1 : Int32)) l6 J17
    else
    none
    else none
    else none
    else none
def fJ6_getChars_ba4f3j (n : Nat) (kd : zMK)  (l0 : Int32) (l1 : Int32) (l2 : Nat) (I : zMI) : Option (Int32 × zMI) :=
    zl (if (0 : Int32) ≤ l0 then
    ((0 : Int32))
    else
    ((1 : Int32))) fun x21 =>
    if x21 = (0 : Int32) then
    fJ6_getChars_ba4f3j_L22 n kd (fJ6_getChars_ba4f3j_B72 n kd) zF (-l0) l2 l1 x21 I
    else
    fJ6_getChars_ba4f3j_L22 n kd (fJ6_getChars_ba4f3j_B72 n kd) zF l0 l2 l1 x21 I
def fJ5_append_c97b9j  (l0 : Nat) (l1 : Int32) (n : Nat) (kd : zMK) (I : zMI) (R : zMR) : Option (Nat × (Nat × zMK) × zMI × zMR) :=
    if zKdB n kd l0 28 = true then
    zb (fJ6_stringSize_0f7a4j l1) fun p2 =>
    zb (fJ5_ensureCapacityInternal_d00dfj l0 ((I l0 3) + p2) n kd I R) fun p4 =>
    if zShB p4.1.1 p4.1.2 = true then
    if zKdB p4.1.1 p4.1.2 l0 28 = true then
    zb (fJ5_isLatin1_aae02j p4.1.1 p4.1.2 p4.2.1 l0) fun p8 =>
    if p8 = (0 : Int32) then
    zm (p4.2.2 l0 0) none fun a11 =>
    none
    else
    zm (p4.2.2 l0 0) none fun a13 =>
    zb (fJ6_getChars_ba4f3j p4.1.1 p4.1.2 l1 ((I l0 3) + p2) a13 p4.2.1) fun p15 =>
    zl (uI p15.2 l0 3 ((I l0 3) + p2)) fun J17 =>
    some (l0, (p4.1.1, p4.1.2), J17, p4.2.2)
    else none
    else none
    else none
def fJ4_append_bf812j  (l0 : Nat) (l1 : Int32) (n : Nat) (kd : zMK) (I : zMI) (R : zMR) : Option (Nat × (Nat × zMK) × zMI × zMR) :=
    if zKdB n kd l0 28 = true then
    zb (fJ5_append_c97b9j l0 l1 n kd I R) fun p2 =>
    if zShB p2.2.1.1 p2.2.1.2 = true then
    some (l0, (p2.2.1.1, p2.2.1.2), p2.2.2.1, p2.2.2.2)
    else none
    else none
def fJ7_checkLength_df160j   (l0 : Int32) (l1 : Int32)  : Option (Unit) :=
    if l0 ≤ l1 then
    some ()
    else
    none
def fJ7_copyOfRangeByte_39247j  (l0 : Nat) (l1 : Int32) (l2 : Int32) (n : Nat) (kd : zMK) (I : zMI) (R : zMR) : Option (Nat × (Nat × zMK) × zMI × zMR) :=
    zb (fJ7_checkLength_df160j l1 l2) fun _ =>
    if zib (l2 - l1) 161 = true then
    zl (uK kd n (12, (l2 - l1).toNatClampNeg)) fun D6 =>
    zl (uA I n (fun _ => 0)) fun J8 =>
    zl (uRA R n) fun T10 =>
    if zShB (n + 1) D6 = true then
    if zKdB (n + 1) D6 l0 12 = true then
    zl (if (l2 - l1) < ((Int32.ofNat ((D6 l0).2)) - l1) then (l2 - l1) else ((Int32.ofNat ((D6 l0).2)) - l1)) fun x14 =>
    if zKdB (n + 1) D6 n 12 = true then
    if zcpB l1 (0 : Int32) x14 ((D6 l0).2) ((D6 n).2) = true then
    if zbfB (J8 l0) l1.toNatClampNeg x14.toNatClampNeg = true then
    zl (uA J8 n (va_cpy (J8 l0) (J8 n) l1.toNatClampNeg (0 : Int32).toNatClampNeg x14.toNatClampNeg)) fun J19 =>
    some (n, ((n + 1), D6), J19, T10)
    else none
    else none
    else none
    else none
    else none
    else none
def fJ7_copyOfRange_39247j  (l0 : Nat) (l1 : Int32) (l2 : Int32) (n : Nat) (kd : zMK) (I : zMI) (R : zMR) : Option (Nat × (Nat × zMK) × zMI × zMR) :=
    if l1 = (0 : Int32) then
    if zKdB n kd l0 12 = true then
    if l2 = (Int32.ofNat ((kd l0).2)) then
    none
    else
    zb (fJ7_copyOfRangeByte_39247j l0 l1 l2 n kd I R) fun p7 =>
    if zShB p7.2.1.1 p7.2.1.2 = true then
    some (p7.1, (p7.2.1.1, p7.2.1.2), p7.2.2.1, p7.2.2.2)
    else none
    else none
    else
    zb (fJ7_copyOfRangeByte_39247j l0 l1 l2 n kd I R) fun p2 =>
    if zShB p2.2.1.1 p2.2.1.2 = true then
    some (p2.1, (p2.2.1.1, p2.2.1.2), p2.2.2.1, p2.2.2.2)
    else none
def fJ5_init_d00dfj  (l0 : Nat) (l1 : Int32) (n : Nat) (kd : zMK) (I : zMI) (R : zMR) : Option ((Nat × zMK) × zMI × zMR) :=
    if zib l1 161 = true then
    zl (uK kd n (12, l1.toNatClampNeg)) fun D5 =>
    zl (uA I n (fun _ => 0)) fun J7 =>
    zl (uRA R n) fun T9 =>
    if zShB (n + 1) D5 = true then
    if zKdB (n + 1) D5 l0 28 = true then
    zl (uR T9 l0 0 (some n)) fun T13 =>
    zl (uI J7 l0 1 (0 : Int32)) fun J15 =>
    some (((n + 1), D5), J15, T13)
    else none
    else none
    else none
def fJ4_init_da8c8j  (l0 : Nat) (n : Nat) (kd : zMK) (I : zMI) (R : zMR) : Option ((Nat × zMK) × zMI × zMR) :=
    zb (fJ5_init_d00dfj l0 (16 : Int32) n kd I R) fun p1 =>
    if zShB p1.1.1 p1.1.2 = true then
    some ((p1.1.1, p1.1.2), p1.2.1, p1.2.2)
    else none
def fJ0_init_db425j_B79   (l0 : Nat) (l3 : Nat) (l4 : Int32) (n : Nat) (kd : zMK) (I : zMI) (R : zMR) : Option ((Nat × zMK) × zMI × zMR) :=
    if zShB n kd = true then
    if zKdB n kd l0 29 = true then
    zl (uI I l0 1 (1 : Int32)) fun J3 =>
    zb (fJ7_copyOfRange_39247j l3 (0 : Int32) (l4 <<< ((1 : Int32) &&& 31)) n kd J3 R) fun p5 =>
    if zShB p5.2.1.1 p5.2.1.2 = true then
    if zKdB p5.2.1.1 p5.2.1.2 l0 29 = true then
    zl (uR p5.2.2.2 l0 0 (some p5.1)) fun T9 =>
    some ((p5.2.1.1, p5.2.1.2), p5.2.2.1, T9)
    else none
    else none
    else none
    else none
def fJ0_init_db425j  (l0 : Nat) (l1 : Nat) (n : Nat) (kd : zMK) (I : zMI) (R : zMR) : Option ((Nat × zMK) × zMI × zMR) :=
    if zKdB n kd l1 28 = true then
    zb (fJ5_getValue_6d5f1j n kd R l1) fun p12 =>
    zb (fJ4_length_8abf5j n kd I l1) fun p14 =>
    zb (fJ5_isLatin1_aae02j n kd I l1) fun p16 =>
    if p16 = (0 : Int32) then
    if (I l1 2) = (0 : Int32) then
    fJ0_init_db425j_B79 l0 p12 p14 n kd I R
    else
    none
    else
    if zKdB n kd l0 29 = true then
    zl (uI I l0 1 (0 : Int32)) fun J22 =>
    zb (fJ7_copyOfRange_39247j p12 (0 : Int32) p14 n kd J22 R) fun p24 =>
    if zShB p24.2.1.1 p24.2.1.2 = true then
    if zKdB p24.2.1.1 p24.2.1.2 l0 29 = true then
    zl (uR p24.2.2.2 l0 0 (some p24.1)) fun T28 =>
    some ((p24.2.1.1, p24.2.1.2), p24.2.2.1, T28)
    else none
    else none
    else none
    else none
def fJ0_init_81219j  (l0 : Nat) (l1 : Nat) (n : Nat) (kd : zMK) (I : zMI) (R : zMR) : Option ((Nat × zMK) × zMI × zMR) :=
    zb (fJ0_init_db425j l0 l1 n kd I R) fun p1 =>
    if zShB p1.1.1 p1.1.2 = true then
    some ((p1.1.1, p1.1.2), p1.2.1, p1.2.2)
    else none
def fJ4_toString_0e30dj  (l0 : Nat) (n : Nat) (kd : zMK) (I : zMI) (R : zMR) : Option (Nat × (Nat × zMK) × zMI × zMR) :=
    zl (uK kd n (29, 0)) fun D3 =>
    zl (uA I n (fun _ => 0)) fun J5 =>
    zl (uRA R n) fun T7 =>
    if zShB (n + 1) D3 = true then
    zb (fJ0_init_81219j n l0 (n + 1) D3 J5 T7) fun p10 =>
    if zShB p10.1.1 p10.1.2 = true then
    some (n, (p10.1.1, p10.1.2), p10.2.1, p10.2.2)
    else none
    else none
