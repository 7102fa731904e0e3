noncomputable section
def f1_figureOf (σ : St) (x1 : Int32) (x2 : Int32) : Option (Int32) := gi ((x1 * 3) + x2) 18 (
  some (σ.1 16 ((x1 * 3) + x2).toNatClampNeg))
def L0_suppose_2 (x2 : Int32) (k : St → Option (St)) : Nat → Int32 → St → Option (St)
  | 0, _, _ => none
  | n + 1, x3_1, σ_2 => (if 3 ≤ x3_1 then
  k σ_2
  else
  b1 (f1_figureOf σ_2 x2 x3_1) fun r_4 =>
  gi x3_1 3 (bnd (wI σ_2 32 x3_1.toNatClampNeg r_4) fun σ_5 =>
  bnd (x3_1 + 1) fun x3_6 =>
  L0_suppose_2 x2 k n x3_6 σ_5))
def f0_suppose (σ : St) (x2 : Int32) : Option (St) := L0_suppose_2 x2 (fun (σ_8 : St) =>
  some σ_8) FU 0 σ
def f3_sizeOf (σ : St) (c0 : Nat) (x1 : Int32) : Option (Int32) := (if x1 < 0 then
  some ((-1))
  else
  (if (Int32.ofNat (lnC (c0 + 2))) ≤ x1 then
  some ((-1))
  else
  gi x1 (lnC (c0 + 2)) (
  some (σ.1 (c0 + 2) x1.toNatClampNeg))))
def f3_spans (σ : St) (c0 : Nat) (x1 : Int32) (x2 : Int32) (x3 : Int32) : Option (Int32) := (if x2 < 0 then
  some 0
  else
  (if x3 < 0 then
  some 0
  else
  b1 (f3_sizeOf σ c0 x1) fun r_2 =>
  (if r_2 < x2 then
  some 0
  else
  b1 (f3_sizeOf σ c0 x1) fun r_4 =>
  (if (r_4 - x2) < x3 then
  some 0
  else
  some 1))))
def f3_get (σ : St) (c0 : Nat) (x1 : Int32) (x2 : Int32) : Option (Int32) := b1 (f3_spans σ c0 x1 x2 1) fun r_2 =>
  (if r_2 = 0 then
  some 0
  else
  gi ((x1 * (σ.1 c0 2)) + x2) (lnC (c0 + 1)) (
  some (σ.1 (c0 + 1) ((x1 * (σ.1 c0 2)) + x2).toNatClampNeg)))
def f5_wornBy (x0 : Int32) (x1 : Int32) : Option (Int32) := some (if (0 : Int32) < (x0 - (x1 / 4)) then (x0 - (x1 / 4)) else 0)
def f5_doubled (σ : St) (a0 : Nat) (x1 : Int32) (x2 : Int32) : Option (Int32) := gi (x1 + x2) (lnC a0) (
  bnd (σ.1 a0 (x1 + x2).toNatClampNeg) fun x3_1 =>
  gi (x1 + ((x2 + 1) - (x2 + 1) / 3 * 3)) (lnC a0) (
  bnd (σ.1 a0 (x1 + ((x2 + 1) - (x2 + 1) / 3 * 3)).toNatClampNeg) fun x4_2 =>
  (if x3_1 ≤ x4_2 then
  some x4_2
  else
  some x3_1)))
def f5_reading (σ : St) (x0 : Int32) (a1 : Nat) (x2 : Int32) (x3 : Int32) (x4 : Int32) : Option (Int32) := gi (x2 + x3) (lnC a1) (
  bnd (σ.1 a1 (x2 + x3).toNatClampNeg) fun x5_1 =>
  (if x0 = 1 then
  gi (((x2 + 3) - 1) - x3) (lnC a1) (
  some (σ.1 a1 (((x2 + 3) - 1) - x3).toNatClampNeg))
  else
  if x0 = 2 then
  b1 (f5_wornBy x5_1 x4) fun r_8 =>
  some r_8
  else
  if x0 = 3 then
  b1 (f5_doubled σ a1 x2 x3) fun r_10 =>
  some r_10
  else
  if x0 = 4 then
  (if x5_1 = 0 then
  some 10
  else
  b1 (f5_wornBy x5_1 x4) fun r_12 =>
  some r_12)
  else
  if x0 = 5 then
  b1 (f5_doubled σ a1 x2 x3) fun r_14 =>
  (if r_14 = 9 then
  some 0
  else
  some r_14)
  else
  some x5_1))
def L0_fits_3 (σ : St) (x1 : Int32) (x2 : Int32) (x4 : Int32) (k : Option (Int32)) : Nat → Int32 → Option (Int32)
  | 0, _ => none
  | n + 1, x5_1 => b1 (f3_sizeOf σ 1 x4) fun r_3 =>
  (if r_3 ≤ (x5_1 + 1) then
  k
  else
  b1 (f3_get σ 1 x4 x5_1) fun r_5 =>
  b1 (f5_reading σ x1 32 0 r_5 x2) fun r_7 =>
  b1 (f3_get σ 1 x4 (x5_1 + 1)) fun r_9 =>
  (if r_7 = r_9 then
  bnd (x5_1 + 2) fun x5_10 =>
  L0_fits_3 σ x1 x2 x4 k n x5_10
  else
  some 0))
def f0_fits (σ : St) (x1 : Int32) (x2 : Int32) (x4 : Int32) : Option (Int32) := L0_fits_3 σ x1 x2 x4 (some 1) FU 0
def L0_figuresOf_12 (x2 : Int32) (x3 : Int32) (x5 : Int32) (k : Int32 → St → Option (Int32 × St)) : Nat → Int32 → Int32 → St → Option (Int32 × St)
  | 0, _, _, _ => none
  | n + 1, x6_3, x7_4, σ_5 => (if 10 ≤ x7_4 then
  k x6_3 σ_5
  else
  gi x3 3 (bnd (wI σ_5 32 x3.toNatClampNeg x7_4) fun σ_7 =>
  gi x2 6 (
  b1 (f0_fits σ_7 (σ_7.1 14 x2.toNatClampNeg) (σ_7.1 13 8) x5) fun r_9 =>
  jn (fun (x6_10 : Int32) =>
  bnd (x7_4 + 1) fun x7_14 =>
  L0_figuresOf_12 x2 x3 x5 k n x6_10 x7_14 σ_7) fun j_11 =>
  (if r_9 = 0 then
  j_11 x6_3
  else
  bnd (x6_3 ||| (1 <<< (x7_4 &&& 31))) fun x6_15 =>
  j_11 x6_15))))
def f0_figuresOf (σ : St) (x2 : Int32) (x3 : Int32) (x5 : Int32) : Option (Int32 × St) := b1 (f0_suppose σ x2) fun σ_2 =>
  L0_figuresOf_12 x2 x3 x5 (fun (x6_17 : Int32) (σ_18 : St) =>
  some (x6_17, σ_18)) FU 0 0 σ_2
def L0_greatestPart_9 (x3 : Int32) (x4 : Int32) (k : St → Option (Int32 × St)) : Nat → Int32 → St → Option (Int32 × St)
  | 0, _, _ => none
  | n + 1, x5_3, σ_4 => (if 11 ≤ x5_3 then
  k σ_4
  else
  gi x5_3 11 (bnd (wI σ_4 33 x5_3.toNatClampNeg 0) fun σ_5 =>
  bnd (x5_3 + 1) fun x5_6 =>
  L0_greatestPart_9 x3 x4 k n x5_6 σ_5))
def L0_greatestPart_36 (x3 : Int32) (x4 : Int32) (k : Int32 → St → Option (Int32 × St)) : Nat → Int32 → Int32 → St → Option (Int32 × St)
  | 0, _, _, _ => none
  | n + 1, x5_9, x6_10, σ_11 => (if 6 ≤ x6_10 then
  k x5_9 σ_11
  else
  jn (fun (x5_13 : Int32) (σ_14 : St) =>
  bnd (x6_10 + 1) fun x6_18 =>
  L0_greatestPart_36 x3 x4 k n x5_13 x6_18 σ_14) fun j_15 =>
  (if ((x4 >>> (x6_10 &&& 31)) &&& 1) = 0 then
  j_15 x5_9 σ_11
  else
  b1 (f5_reading σ_11 x6_10 32 0 x3 (σ_11.1 13 8)) fun r_20 =>
  gi r_20 11 (
  gi r_20 11 (bnd (wI σ_11 33 r_20.toNatClampNeg ((σ_11.1 33 r_20.toNatClampNeg) + 1)) fun σ_21 =>
  gi r_20 11 (
  bnd (if x5_9 < (σ_21.1 33 r_20.toNatClampNeg) then (σ_21.1 33 r_20.toNatClampNeg) else x5_9) fun x5_22 =>
  j_15 x5_22 σ_21)))))
def f0_greatestPart (σ : St) (x2 : Int32) (x3 : Int32) (x4 : Int32) : Option (Int32 × St) := b1 (f0_suppose σ x2) fun σ_2 =>
  L0_greatestPart_9 x3 x4 (fun (σ_8 : St) =>
  L0_greatestPart_36 x3 x4 (fun (x5_24 : Int32) (σ_25 : St) =>
  some (x5_24, σ_25)) FU 0 0 σ_8) FU 0 σ_2
def L0_kindsOf_12 (σ : St) (x4 : Int32) (k : Int32 → Option (Int32 × St)) : Nat → Int32 → Int32 → Option (Int32 × St)
  | 0, _, _ => none
  | n + 1, x5_3, x6_4 => (if 6 ≤ x6_4 then
  k x5_3
  else
  b1 (f0_fits σ x6_4 (σ.1 13 8) x4) fun r_7 =>
  jn (fun (x5_8 : Int32) =>
  bnd (x6_4 + 1) fun x6_12 =>
  L0_kindsOf_12 σ x4 k n x5_8 x6_12) fun j_9 =>
  (if r_7 = 0 then
  j_9 x5_3
  else
  bnd (x5_3 ||| (1 <<< (x6_4 &&& 31))) fun x5_13 =>
  j_9 x5_13))
def f0_kindsOf (σ : St) (x2 : Int32) (x4 : Int32) : Option (Int32 × St) := b1 (f0_suppose σ x2) fun σ_2 =>
  L0_kindsOf_12 σ_2 x4 (fun (x5_14 : Int32) =>
  some (x5_14, σ_2)) FU 0 0
def L1_sift_95 (a1 : Nat) (a2 : Nat) (x3 : Int32) (x4 : Int32) (x5 : Int32) (x6 : Int32) (x7 : Int32) (x10 : Int32) (k : Int32 → St → Option (St)) : Nat → Int32 → St → Option (St)
  | 0, _, _ => none
  | n + 1, x11_17, σ_18 => (if x11_17 ≤ 0 then
  k x11_17 σ_18
  else
  gi (x11_17 - 1) 6 (
  (if (σ_18.1 19 (x11_17 - 1).toNatClampNeg) ≤ x10 then
  k x11_17 σ_18
  else
  gi (x11_17 - 1) 6 (
  gi x11_17 6 (bnd (wI σ_18 19 x11_17.toNatClampNeg (σ_18.1 19 (x11_17 - 1).toNatClampNeg)) fun σ_20 =>
  gi (x11_17 - 1) (lnC a2) (
  gi x11_17 (lnC a2) (bnd (wI σ_20 a2 x11_17.toNatClampNeg (σ_20.1 a2 (x11_17 - 1).toNatClampNeg)) fun σ_21 =>
  bnd (x11_17 + (-1)) fun x11_22 =>
  L1_sift_95 a1 a2 x3 x4 x5 x6 x7 x10 k n x11_22 σ_21)))))))
def L1_sift_3 (a1 : Nat) (a2 : Nat) (x3 : Int32) (x4 : Int32) (x5 : Int32) (k : St → Option (St)) : Nat → Int32 → St → Option (St)
  | 0, _, _ => none
  | n + 1, x6_1, σ_2 => (if (σ_2.1 13 7) ≤ x6_1 then
  k σ_2
  else
  gi x6_1 (lnC a1) (
  bnd (σ_2.1 a1 x6_1.toNatClampNeg) fun x7_3 =>
  jn (fun (y_4 : Int32) =>
  jn (fun (y_8 : Int32) =>
  gi x7_3 6 (
  jn (fun (y_12 : Int32) =>
  bnd ((2 * y_8) + y_12) fun x10_16 =>
  L1_sift_95 a1 a2 x3 x4 x5 x6_1 x7_3 x10_16 (fun (x11_24 : Int32) (σ_25 : St) =>
  gi x11_24 6 (bnd (wI σ_25 19 x11_24.toNatClampNeg x10_16) fun σ_26 =>
  gi x11_24 (lnC a2) (bnd (wI σ_26 a2 x11_24.toNatClampNeg x7_3) fun σ_27 =>
  bnd (x6_1 + 1) fun x6_28 =>
  L1_sift_3 a1 a2 x3 x4 x5 k n x6_28 σ_27))) FU x6_1 σ_2) fun j_13 =>
  (if (σ_2.1 14 x7_3.toNatClampNeg) = 5 then
  j_13 0
  else
  j_13 1))) fun j_9 =>
  (if y_4 = 0 then
  gi x7_3 6 (
  b1 (f5_reading σ_2 (σ_2.1 14 x7_3.toNatClampNeg) 16 (x7_3 * 3) x3 x4) fun r_30 =>
  j_9 r_30)
  else
  j_9 10)) fun j_5 =>
  (if ((x5 >>> (x7_3 &&& 31)) &&& 1) = 0 then
  j_5 0
  else
  j_5 1)))
def f1_sift (σ : St) (a1 : Nat) (a2 : Nat) (x3 : Int32) (x4 : Int32) (x5 : Int32) : Option (St) := L1_sift_3 a1 a2 x3 x4 x5 (fun (σ_32 : St) =>
  some σ_32) FU 0 σ
def f5_onePassMore (x0 : Int32) : Option (Int32) := some (if (x0 + 1) < 60 then (x0 + 1) else 60)
def L1_turnOver_2 (k : St → Option (St)) : Nat → Int32 → St → Option (St)
  | 0, _, _ => none
  | n + 1, x1_1, σ_2 => (if ((σ_2.1 13 7) / 2) ≤ x1_1 then
  k σ_2
  else
  gi x1_1 6 (
  bnd (σ_2.1 17 x1_1.toNatClampNeg) fun x2_3 =>
  gi (((σ_2.1 13 7) - 1) - x1_1) 6 (
  gi x1_1 6 (bnd (wI σ_2 17 x1_1.toNatClampNeg (σ_2.1 17 (((σ_2.1 13 7) - 1) - x1_1).toNatClampNeg)) fun σ_4 =>
  gi (((σ_4.1 13 7) - 1) - x1_1) 6 (bnd (wI σ_4 17 (((σ_4.1 13 7) - 1) - x1_1).toNatClampNeg x2_3) fun σ_5 =>
  bnd (x1_1 + 1) fun x1_6 =>
  L1_turnOver_2 k n x1_6 σ_5)))))
def f1_turnOver (σ : St)  : Option (St) := L1_turnOver_2 (fun (σ_8 : St) =>
  some σ_8) FU 0 σ
def L1_liftOff_2 (x1 : Int32) (k : St → Option (St)) : Nat → Int32 → St → Option (St)
  | 0, _, _ => none
  | n + 1, x2_1, σ_2 => (if (σ_2.1 13 7) ≤ x2_1 then
  k σ_2
  else
  gi x2_1 6 (
  gi x2_1 6 (bnd (wI σ_2 18 x2_1.toNatClampNeg (σ_2.1 17 x2_1.toNatClampNeg)) fun σ_3 =>
  bnd (x2_1 + 1) fun x2_4 =>
  L1_liftOff_2 x1 k n x2_4 σ_3)))
def L1_liftOff_30 (x1 : Int32) (k : St → Option (St)) : Nat → Int32 → St → Option (St)
  | 0, _, _ => none
  | n + 1, x2_7, σ_8 => (if (σ_8.1 13 7) ≤ x2_7 then
  k σ_8
  else
  nz (σ_8.1 13 7) (
  gi ((x2_7 + x1) - (x2_7 + x1) / (σ_8.1 13 7) * (σ_8.1 13 7)) 6 (
  gi x2_7 6 (bnd (wI σ_8 17 x2_7.toNatClampNeg (σ_8.1 18 ((x2_7 + x1) - (x2_7 + x1) / (σ_8.1 13 7) * (σ_8.1 13 7)).toNatClampNeg)) fun σ_9 =>
  bnd (x2_7 + 1) fun x2_10 =>
  L1_liftOff_30 x1 k n x2_10 σ_9))))
def f1_liftOff (σ : St) (x1 : Int32) : Option (St) := L1_liftOff_2 x1 (fun (σ_6 : St) =>
  L1_liftOff_30 x1 (fun (σ_12 : St) =>
  some σ_12) FU 0 σ_6) FU 0 σ
def f1_carryOut (σ : St) (x1 : Int32) : Option (St) := bnd ((x1 / 100) - (x1 / 100) / 10 * 10) fun x2_1 =>
  (if (x1 / 1000) = 0 then
  b1 (f1_sift σ 17 17 x2_1 (σ.1 13 8) 0) fun σ_7 =>
  b1 (f5_onePassMore (σ_7.1 13 8)) fun r_9 =>
  bnd (wI σ_7 13 8 r_9) fun σ_10 =>
  some σ_10
  else
  if (x1 / 1000) = 1 then
  b1 (f1_turnOver σ) fun σ_12 =>
  some σ_12
  else
  if (x1 / 1000) = 2 then
  b1 (f1_liftOff σ x2_1) fun σ_14 =>
  some σ_14
  else
  gi ((x2_1 * 3) + ((x1 / 10) - (x1 / 10) / 10 * 10)) 18 (bnd (wI σ 16 ((x2_1 * 3) + ((x1 / 10) - (x1 / 10) / 10 * 10)).toNatClampNeg (x1 - x1 / 10 * 10)) fun σ_2 =>
  some σ_2))
def f1_add (σ : St) (x1 : Int32) : Option (Int32 × St) := jn (fun (σ_1 : St) =>
  some (σ_1.1 17 0, σ_1)) fun j_2 =>
  (if 40 ≤ (σ.1 13 9) then
  j_2 σ
  else
  gi (σ.1 13 9) 40 (bnd (wI σ 20 (σ.1 13 9).toNatClampNeg x1) fun σ_5 =>
  bnd (wI σ_5 13 9 ((σ_5.1 13 9) + 1)) fun σ_6 =>
  b1 (f1_carryOut σ_6 x1) fun σ_8 =>
  j_2 σ_8))
def L1_redo_2 (x1 : Int32) (k : St → Option (St)) : Nat → Int32 → St → Option (St)
  | 0, _, _ => none
  | n + 1, x2_1, σ_2 => (if (σ_2.1 13 7) ≤ x2_1 then
  k σ_2
  else
  gi x2_1 6 (bnd (wI σ_2 17 x2_1.toNatClampNeg x2_1) fun σ_3 =>
  bnd (x2_1 + 1) fun x2_4 =>
  L1_redo_2 x1 k n x2_4 σ_3))
def L1_redo_25 (x1 : Int32) (k : St → Option (St)) : Nat → Int32 → St → Option (St)
  | 0, _, _ => none
  | n + 1, x2_7, σ_8 => (if ((σ_8.1 13 7) * 3) ≤ x2_7 then
  k σ_8
  else
  gi x2_7 18 (
  gi x2_7 18 (bnd (wI σ_8 16 x2_7.toNatClampNeg (σ_8.1 15 x2_7.toNatClampNeg)) fun σ_9 =>
  bnd (x2_7 + 1) fun x2_10 =>
  L1_redo_25 x1 k n x2_10 σ_9)))
def L1_redo_65 (x1 : Int32) (k : St → Option (St)) : Nat → Int32 → St → Option (St)
  | 0, _, _ => none
  | n + 1, x2_15, σ_16 => (if x1 ≤ x2_15 then
  k σ_16
  else
  gi x2_15 40 (
  b1 (f1_carryOut σ_16 (σ_16.1 20 x2_15.toNatClampNeg)) fun σ_18 =>
  bnd (x2_15 + 1) fun x2_19 =>
  L1_redo_65 x1 k n x2_19 σ_18))
def f1_redo (σ : St) (x1 : Int32) : Option (St) := L1_redo_2 x1 (fun (σ_6 : St) =>
  L1_redo_25 x1 (fun (σ_12 : St) =>
  bnd (wI σ_12 13 8 0) fun σ_13 =>
  bnd (wI σ_13 13 9 x1) fun σ_14 =>
  L1_redo_65 x1 (fun (σ_21 : St) =>
  some σ_21) FU 0 σ_14) FU 0 σ_6) FU 0 σ
def L1_begin_10 (k : St → Option (St)) : Nat → Int32 → St → Option (St)
  | 0, _, _ => none
  | n + 1, x2_2, σ_3 => (if (σ_3.1 13 7) ≤ x2_2 then
  k σ_3
  else
  gi x2_2 6 (
  gi x2_2 6 (bnd (wI σ_3 14 x2_2.toNatClampNeg (σ_3.1 11 x2_2.toNatClampNeg)) fun σ_4 =>
  bnd (x2_2 + 1) fun x2_5 =>
  L1_begin_10 k n x2_5 σ_4)))
def L1_begin_38 (k : St → Option (St)) : Nat → Int32 → St → Option (St)
  | 0, _, _ => none
  | n + 1, x2_8, σ_9 => (if ((σ_9.1 13 7) * 3) ≤ x2_8 then
  k σ_9
  else
  gi x2_8 18 (
  gi x2_8 18 (bnd (wI σ_9 15 x2_8.toNatClampNeg (σ_9.1 12 x2_8.toNatClampNeg)) fun σ_10 =>
  bnd (x2_8 + 1) fun x2_11 =>
  L1_begin_38 k n x2_11 σ_10)))
def f1_begin (σ : St)  : Option (St) := bnd (wI σ 13 7 (σ.1 10 2)) fun σ_1 =>
  L1_begin_10 (fun (σ_7 : St) =>
  L1_begin_38 (fun (σ_13 : St) =>
  b1 (f1_redo σ_13 0) fun σ_15 =>
  some σ_15) FU 0 σ_7) FU 0 σ_1
def f5_isOf (σ : St) (x0 : Int32) (x1 : Int32) : Option (Int32) := (if x0 = x1 then
  some 1
  else
  gi x0 6 (
  (if (sWid x0.toNatClampNeg) = x1 then
  some 1
  else
  some 0)))
def L1_manyOf_4 (σ : St) (x1 : Int32) (k : Int32 → Option (Int32)) : Nat → Int32 → Int32 → Option (Int32)
  | 0, _, _ => none
  | n + 1, x2_1, x3_2 => (if (σ.1 13 7) ≤ x3_2 then
  k x2_1
  else
  gi x3_2 6 (
  b1 (f5_isOf σ (σ.1 14 x3_2.toNatClampNeg) x1) fun r_5 =>
  jn (fun (x2_6 : Int32) =>
  bnd (x3_2 + 1) fun x3_10 =>
  L1_manyOf_4 σ x1 k n x2_6 x3_10) fun j_7 =>
  (if r_5 = 0 then
  j_7 x2_1
  else
  bnd (x2_1 + 1) fun x2_11 =>
  j_7 x2_11)))
def f1_manyOf (σ : St) (x1 : Int32) : Option (Int32) := L1_manyOf_4 σ x1 (fun (x2_12 : Int32) =>
  some x2_12) FU 0 0
def L5_placeIn_2 (σ : St) (a0 : Nat) (x1 : Int32) (x2 : Int32) (k : Option (Int32)) : Nat → Int32 → Option (Int32)
  | 0, _ => none
  | n + 1, x3_1 => (if x2 ≤ x3_1 then
  k
  else
  gi x3_1 (lnC a0) (
  (if (σ.1 a0 x3_1.toNatClampNeg) = x1 then
  some x3_1
  else
  bnd (x3_1 + 1) fun x3_2 =>
  L5_placeIn_2 σ a0 x1 x2 k n x3_2)))
def f5_placeIn (σ : St) (a0 : Nat) (x1 : Int32) (x2 : Int32) : Option (Int32) := L5_placeIn_2 σ a0 x1 x2 (some ((-9))) FU 0
def f1_placeOf (σ : St) (x1 : Int32) : Option (Int32) := b1 (f5_placeIn σ 17 x1 (σ.1 13 7)) fun r_2 =>
  some r_2
def f1_readsBehind (σ : St) (x1 : Int32) (x2 : Int32) (x3 : Int32) : Option (Int32) := gi x1 6 (
  b1 (f5_reading σ (σ.1 14 x1.toNatClampNeg) 16 (x1 * 3) x2 x3) fun r_2 =>
  some r_2)
def L1_sumOf_5 (σ : St) (x1 : Int32) (x2 : Int32) (k : Int32 → Option (Int32)) : Nat → Int32 → Int32 → Option (Int32)
  | 0, _, _ => none
  | n + 1, x3_1, x4_2 => (if (σ.1 13 7) ≤ x4_2 then
  k x3_1
  else
  jn (fun (x3_4 : Int32) =>
  bnd (x4_2 + 1) fun x4_8 =>
  L1_sumOf_5 σ x1 x2 k n x3_4 x4_8) fun j_5 =>
  (if ((x1 >>> (x4_2 &&& 31)) &&& 1) = 0 then
  j_5 x3_1
  else
  b1 (f1_figureOf σ x4_2 x2) fun r_10 =>
  bnd (x3_1 + r_10) fun x3_11 =>
  j_5 x3_11))
def f1_sumOf (σ : St) (x1 : Int32) (x2 : Int32) : Option (Int32) := L1_sumOf_5 σ x1 x2 (fun (x3_12 : Int32) =>
  some x3_12) FU 0 0
def L1_sumOfAll_4 (σ : St) (k : Int32 → Option (Int32)) : Nat → Int32 → Int32 → Option (Int32)
  | 0, _, _ => none
  | n + 1, x1_1, x2_2 => (if 3 ≤ x2_2 then
  k x1_1
  else
  b1 (f1_sumOf σ ((1 <<< ((σ.1 13 7) &&& 31)) - 1) x2_2) fun r_5 =>
  bnd (x1_1 + r_5) fun x1_6 =>
  bnd (x2_2 + 1) fun x2_7 =>
  L1_sumOfAll_4 σ k n x1_6 x2_7)
def f1_sumOfAll (σ : St)  : Option (Int32) := L1_sumOfAll_4 σ (fun (x1_8 : Int32) =>
  some x1_8) FU 0 0
def L2_kindBy_2 (σ : St) (x0 : Int32) (k : Option (Int32)) : Nat → Int32 → Option (Int32)
  | 0, _ => none
  | n + 1, x1_1 => (if 6 ≤ x1_1 then
  k
  else
  gi x1_1 6 (
  (if (sLet x1_1.toNatClampNeg) = x0 then
  some x1_1
  else
  bnd (x1_1 + 1) fun x1_2 =>
  L2_kindBy_2 σ x0 k n x1_2)))
def f2_kindBy (σ : St) (x0 : Int32) : Option (Int32) := L2_kindBy_2 σ x0 (some ((-9))) FU 0
def L2_faultOf_17 (x2 : Int32) (x3 : Int32) (k : Int32 → St → Option (Int32 × St)) : Nat → Int32 → Int32 → St → Option (Int32 × St)
  | 0, _, _, _ => none
  | n + 1, x4_4, x5_5, σ_6 => (if x3 ≤ x5_5 then
  k x4_4 σ_6
  else
  b1 (f3_get σ_6 4 x2 x5_5) fun r_9 =>
  jn (fun (x4_10 : Int32) (σ_11 : St) =>
  bnd (x5_5 + 1) fun x5_15 =>
  L2_faultOf_17 x2 x3 k n x4_10 x5_15 σ_11) fun j_12 =>
  (if 3 ≤ x4_4 then
  (if r_9 = 32 then
  j_12 x4_4 σ_6
  else
  b1 (f2_kindBy σ_6 r_9) fun r_17 =>
  (if r_17 = ((-9)) then
  some (x5_5, σ_6)
  else
  (if (σ_6.1 10 2) < 6 then
  gi (σ_6.1 10 2) 6 (bnd (wI σ_6 11 (σ_6.1 10 2).toNatClampNeg r_17) fun σ_18 =>
  bnd (wI σ_18 10 2 ((σ_18.1 10 2) + 1)) fun σ_19 =>
  j_12 0 σ_19)
  else
  some (x5_5, σ_6))))
  else
  bnd (r_9 - 48) fun x7_20 =>
  (if x7_20 < 0 then
  some (x5_5, σ_6)
  else
  (if x7_20 < 10 then
  gi ((((σ_6.1 10 2) - 1) * 3) + x4_4) 18 (bnd (wI σ_6 12 ((((σ_6.1 10 2) - 1) * 3) + x4_4).toNatClampNeg x7_20) fun σ_21 =>
  bnd (x4_4 + 1) fun x4_22 =>
  j_12 x4_22 σ_21)
  else
  some (x5_5, σ_6)))))
def f2_faultOf (σ : St) (x2 : Int32) : Option (Int32 × St) := b1 (f3_sizeOf σ 4 x2) fun r_2 =>
  bnd (wI σ 10 2 0) fun σ_3 =>
  L2_faultOf_17 x2 r_2 (fun (x4_24 : Int32) (σ_25 : St) =>
  (if x4_24 < 3 then
  some (r_2, σ_25)
  else
  (if 2 ≤ (σ_25.1 10 2) then
  some ((-9), σ_25)
  else
  some (r_2, σ_25)))) FU 3 0 σ_3
def L3_digestOn_28 (σ : St) (c0 : Nat) (x3 : Int32) (k : Int64 → Option (Int64)) : Nat → Int64 → Int32 → Option (Int64)
  | 0, _, _ => none
  | n + 1, x1_5, x4_6 => gi x3 (lnC (c0 + 2)) (
  (if (σ.1 (c0 + 2) x3.toNatClampNeg) ≤ x4_6 then
  k x1_5
  else
  b1 (f3_get σ c0 x3 x4_6) fun r_9 =>
  bnd ((31 * x1_5) + (r_9.toInt64)) fun x1_10 =>
  bnd (x4_6 + 1) fun x4_11 =>
  L3_digestOn_28 σ c0 x3 k n x1_10 x4_11))
def L3_digestOn_2 (σ : St) (c0 : Nat) (k : Int64 → Option (Int64)) : Nat → Int64 → Int32 → Option (Int64)
  | 0, _, _ => none
  | n + 1, x1_1, x3_2 => (if (Int32.ofNat (lnC (c0 + 2))) ≤ x3_2 then
  k x1_1
  else
  gi x3_2 (lnC (c0 + 2)) (
  bnd ((31 * x1_1) + ((σ.1 (c0 + 2) x3_2.toNatClampNeg).toInt64)) fun x1_4 =>
  L3_digestOn_28 σ c0 x3_2 (fun (x1_12 : Int64) =>
  bnd (x3_2 + 1) fun x3_13 =>
  L3_digestOn_2 σ c0 k n x1_12 x3_13) FU x1_4 0))
def f3_digestOn (σ : St) (c0 : Nat) (x1 : Int64) : Option (Int64) := L3_digestOn_2 σ c0 (fun (x1_14 : Int64) =>
  some x1_14) FU x1 0
def L3_make_36 (c0 : Nat) (x1 : Int32) (x2 : Int32) (x3 : Int32) (k : St → Option (St)) : Nat → Int32 → St → Option (St)
  | 0, _, _ => none
  | n + 1, x4_2, σ_3 => (if x2 ≤ x4_2 then
  k σ_3
  else
  gi ((x1 * (σ_3.1 c0 2)) + x4_2) (lnC (c0 + 1)) (bnd (wI σ_3 (c0 + 1) ((x1 * (σ_3.1 c0 2)) + x4_2).toNatClampNeg x3) fun σ_4 =>
  bnd (x4_2 + 1) fun x4_5 =>
  L3_make_36 c0 x1 x2 x3 k n x4_5 σ_4))
def f3_make (σ : St) (c0 : Nat) (x1 : Int32) (x2 : Int32) (x3 : Int32) : Option (St) := (if x1 < 0 then
  some σ
  else
  (if (Int32.ofNat (lnC (c0 + 2))) ≤ x1 then
  some σ
  else
  (if x2 < 0 then
  some σ
  else
  (if x2 ≤ (σ.1 c0 2) then
  gi x1 (lnC (c0 + 2)) (bnd (wI σ (c0 + 2) x1.toNatClampNeg x2) fun σ_1 =>
  L3_make_36 c0 x1 x2 x3 (fun (σ_7 : St) =>
  some σ_7) FU 0 σ_1)
  else
  some σ))))
def f3_set (σ : St) (c0 : Nat) (x1 : Int32) (x2 : Int32) (x3 : Int32) : Option (St) := b1 (f3_spans σ c0 x1 x2 1) fun r_2 =>
  (if r_2 = 0 then
  some σ
  else
  gi ((x1 * (σ.1 c0 2)) + x2) (lnC (c0 + 1)) (bnd (wI σ (c0 + 1) ((x1 * (σ.1 c0 2)) + x2).toNatClampNeg x3) fun σ_3 =>
  some σ_3))
def L3_fill_10 (c0 : Nat) (a2 : Nat) (x1 : Int32) (x3 : Int32) (k : St → Option (St)) : Nat → Int32 → St → Option (St)
  | 0, _, _ => none
  | n + 1, x4_3, σ_4 => (if x3 ≤ x4_3 then
  k σ_4
  else
  (if (Int32.ofNat (lnC a2)) ≤ x4_3 then
  k σ_4
  else
  gi x4_3 (lnC a2) (
  b1 (f3_set σ_4 c0 x1 x4_3 (σ_4.1 a2 x4_3.toNatClampNeg)) fun σ_6 =>
  bnd (x4_3 + 1) fun x4_7 =>
  L3_fill_10 c0 a2 x1 x3 k n x4_7 σ_6)))
def f3_fill (σ : St) (c0 : Nat) (x1 : Int32) (a2 : Nat) (x3 : Int32) : Option (St) := b1 (f3_make σ c0 x1 x3 0) fun σ_2 =>
  L3_fill_10 c0 a2 x1 x3 (fun (σ_9 : St) =>
  some σ_9) FU 0 σ_2
def L3_held_4 (σ : St) (c0 : Nat) (k : Int32 → Option (Int32)) : Nat → Int32 → Int32 → Option (Int32)
  | 0, _, _ => none
  | n + 1, x1_1, x2_2 => (if (Int32.ofNat (lnC (c0 + 2))) ≤ x2_2 then
  k x1_1
  else
  gi x2_2 (lnC (c0 + 2)) (
  jn (fun (x1_4 : Int32) =>
  bnd (x2_2 + 1) fun x2_8 =>
  L3_held_4 σ c0 k n x1_4 x2_8) fun j_5 =>
  (if (σ.1 (c0 + 2) x2_2.toNatClampNeg) < 0 then
  j_5 x1_1
  else
  bnd (x1_1 + 1) fun x1_9 =>
  j_5 x1_9)))
def f3_held (σ : St) (c0 : Nat) : Option (Int32) := L3_held_4 σ c0 (fun (x1_10 : Int32) =>
  some x1_10) FU 0 0
def f3_holds (σ : St) (c0 : Nat) (x1 : Int32) : Option (Int32) := b1 (f3_sizeOf σ c0 x1) fun r_2 =>
  (if r_2 < 0 then
  some 0
  else
  some 1)
def f3_remove (σ : St) (c0 : Nat) (x1 : Int32) : Option (St) := (if x1 < 0 then
  some σ
  else
  (if (Int32.ofNat (lnC (c0 + 2))) ≤ x1 then
  some σ
  else
  gi x1 (lnC (c0 + 2)) (bnd (wI σ (c0 + 2) x1.toNatClampNeg ((-1))) fun σ_1 =>
  some σ_1)))
def L4_layAs_2 (a0 : Nat) (a1 : Nat) (x2 : Int32) (k : St → Option (St)) : Nat → Int32 → St → Option (St)
  | 0, _, _ => none
  | n + 1, x3_1, σ_2 => (if x2 ≤ x3_1 then
  k σ_2
  else
  gi x3_1 (lnC a0) (
  gi x3_1 (lnC a1) (bnd (wI σ_2 a1 x3_1.toNatClampNeg (σ_2.1 a0 x3_1.toNatClampNeg)) fun σ_3 =>
  bnd (x3_1 + 1) fun x3_4 =>
  L4_layAs_2 a0 a1 x2 k n x3_4 σ_3)))
def f4_layAs (σ : St) (a0 : Nat) (a1 : Nat) (x2 : Int32) : Option (St) := L4_layAs_2 a0 a1 x2 (fun (σ_6 : St) =>
  some σ_6) FU 0 σ
def f4_start (σ : St)  : Option (St) := b1 (f4_layAs σ 17 24 (σ.1 13 7)) fun σ_2 =>
  some σ_2
def f4_step (σ : St) (x2 : Int32) (x3 : Int32) (x4 : Int32) : Option (Int32 × St) := (if x3 < 3 then
  gi x2 7 (
  gi (x2 + 1) 7 (
  b1 (f1_sift σ (24 + x2.toNatClampNeg) (24 + (x2 + 1).toNatClampNeg) x3 x4 0) fun σ_4 =>
  b1 (f5_onePassMore x4) fun r_6 =>
  some (r_6, σ_4)))
  else
  gi x2 7 (
  gi (x2 + 1) 7 (
  b1 (f4_layAs σ (24 + x2.toNatClampNeg) (24 + (x2 + 1).toNatClampNeg) (σ.1 13 7)) fun σ_10 =>
  some (x4, σ_10))))
def L4_outcome_66 (rec : St → Int32 → Int32 → Int32 → Int32 → Option (Int32 × St)) (x2 : Int32) (x3 : Int32) (x6 : Int32) (k : Int32 → Int32 → St → Option (Int32 × St)) : Nat → Int32 → Int32 → Int32 → St → Option (Int32 × St)
  | 0, _, _, _, _ => none
  | n + 1, x4_14, x5_15, x7_16, σ_17 => (if 3 < x7_16 then
  k x4_14 x5_15 σ_17
  else
  (if x5_15 ≤ x4_14 then
  k x4_14 x5_15 σ_17
  else
  b2 (f4_step σ_17 x2 x7_16 x3) fun r_21 σ_22 =>
  b2 (rec σ_22 (x2 + 1) r_21 x4_14 x5_15) fun r_24 σ_25 =>
  jn (fun (x4_26 : Int32) (x5_27 : Int32) =>
  bnd (x7_16 + 1) fun x7_31 =>
  L4_outcome_66 rec x2 x3 x6 k n x4_26 x5_27 x7_31 σ_25) fun j_28 =>
  (if x6 = 0 then
  bnd (if r_24 < x5_15 then r_24 else x5_15) fun x5_32 =>
  j_28 x4_14 x5_32
  else
  bnd (if x4_14 < r_24 then r_24 else x4_14) fun x4_33 =>
  j_28 x4_33 x5_15)))
def f4_outcome : Nat → St → Int32 → Int32 → Int32 → Int32 → Option (Int32 × St)
  | 0, _, _, _, _, _ => none
  | d + 1, σ, x2, x3, x4, x5 => jn (gi x2 7 (
  b1 (f5_placeIn σ (24 + x2.toNatClampNeg) (σ.1 21 6) (σ.1 13 7)) fun r_6 =>
  gi x2 7 (
  b1 (f5_placeIn σ (24 + x2.toNatClampNeg) (σ.1 21 3) (σ.1 13 7)) fun r_9 =>
  some (r_6 - r_9, σ)))) fun j_1 =>
  (if (σ.1 21 7) ≤ x2 then
  j_1
  else
  (if x2 < 6 then
  jn (fun (y_10 : Int32) =>
  L4_outcome_66 (f4_outcome d) x2 x3 y_10 (fun (x4_35 : Int32) (x5_36 : Int32) (σ_37 : St) =>
  (if y_10 = 0 then
  some (x5_36, σ_37)
  else
  some (x4_35, σ_37))) FU x4 x5 0 σ) fun j_11 =>
  (if (x2 - x2 / 2 * 2) = 0 then
  j_11 1
  else
  j_11 0)
  else
  j_1))
def f4_duelOf (σ : St) (x2 : Int32) (x3 : Int32) (x4 : Int32) : Option (Int32 × St) := b1 (f4_start σ) fun σ_2 =>
  bnd (wI σ_2 21 3 x2) fun σ_3 =>
  bnd (wI σ_3 21 6 x3) fun σ_4 =>
  bnd (wI σ_4 21 7 (2 * x4)) fun σ_5 =>
  b2 (f4_outcome 7 σ_5 0 (σ_5.1 13 8) ((-6) : Int32) 6) fun r_7 σ_8 =>
  some (r_7, σ_8)
def L4_inOrder_6 (σ : St) (a2 : Nat) (x3 : Int32) (k : Option (Int32)) : Nat → Int32 → Int32 → Option (Int32)
  | 0, _, _ => none
  | n + 1, x4_1, x5_2 => (if (σ.1 13 7) ≤ x5_2 then
  k
  else
  gi x5_2 (lnC a2) (
  b1 (f1_readsBehind σ (σ.1 a2 x5_2.toNatClampNeg) (σ.1 21 5) x3) fun r_4 =>
  (if x4_1 ≤ r_4 then
  bnd (x5_2 + 1) fun x5_5 =>
  L4_inOrder_6 σ a2 x3 k n r_4 x5_5
  else
  some 0)))
def f4_inOrder (σ : St) (a2 : Nat) (x3 : Int32) : Option (Int32) := L4_inOrder_6 σ a2 x3 (some 1) FU 0 0
def L4_passAll_14 (x3 : Int32) (k : St → Option (Nat × St)) : Nat → Int32 → Int32 → St → Option (Nat × St)
  | 0, _, _, _ => none
  | n + 1, x4_4, x5_5, σ_6 => b1 (f3_sizeOf σ_6 1 x3) fun r_8 =>
  (if r_8 ≤ x5_5 then
  k σ_6
  else
  b1 (f3_get σ_6 1 x3 x5_5) fun r_10 =>
  b1 (f1_sift σ_6 24 24 r_10 x4_4 0) fun σ_12 =>
  b1 (f5_onePassMore x4_4) fun r_14 =>
  bnd (x5_5 + 1) fun x5_15 =>
  L4_passAll_14 x3 k n r_14 x5_15 σ_12)
def f4_passAll (σ : St) (x3 : Int32) : Option (Nat × St) := b1 (f4_start σ) fun σ_2 =>
  bnd (σ_2.1 13 8) fun x4_3 =>
  L4_passAll_14 x3 (fun (σ_17 : St) =>
  some (24, σ_17)) FU x4_3 0 σ_2
def f4_passOnce (σ : St) (x2 : Int32) (x3 : Int32) : Option (Nat × St) := b1 (f1_sift σ 17 24 x2 (σ.1 13 8) x3) fun σ_2 =>
  some (24, σ_2)
def L4_reaches_60 (rec : St → Int32 → Int32 → Int32 → Option (Int32 × St)) (x2 : Int32) (x3 : Int32) (x4 : Int32) (k : St → Option (Int32 × St)) : Nat → Int32 → St → Option (Int32 × St)
  | 0, _, _ => none
  | n + 1, x5_8, σ_9 => (if 3 ≤ x5_8 then
  k σ_9
  else
  gi x2 5 (bnd (wI σ_9 23 x2.toNatClampNeg x5_8) fun σ_10 =>
  gi x2 7 (
  gi (x2 + 1) 7 (
  b1 (f1_sift σ_10 (24 + x2.toNatClampNeg) (24 + (x2 + 1).toNatClampNeg) x5_8 x4 0) fun σ_14 =>
  b1 (f5_onePassMore x4) fun r_16 =>
  b2 (rec σ_14 (x2 + 1) x3 r_16) fun r_18 σ_19 =>
  (if r_18 = 0 then
  bnd (x5_8 + 1) fun x5_20 =>
  L4_reaches_60 rec x2 x3 x4 k n x5_20 σ_19
  else
  some (1, σ_19))))))
def f4_reaches : Nat → St → Int32 → Int32 → Int32 → Option (Int32 × St)
  | 0, _, _, _, _ => none
  | d + 1, σ, x2, x3, x4 => jn ((if (σ.1 21 2) = 0 then
  gi x2 7 (
  b1 (f4_inOrder σ (24 + x2.toNatClampNeg) x4) fun r_6 =>
  bz r_6 (some (r_6, σ)))
  else
  gi x2 7 (
  gi (σ.1 21 4) 6 (
  (if (σ.1 (24 + x2.toNatClampNeg) (σ.1 21 4).toNatClampNeg) = (σ.1 21 3) then
  some (1, σ)
  else
  some (0, σ)))))) fun j_1 =>
  (if x3 ≤ x2 then
  j_1
  else
  (if x2 < 5 then
  L4_reaches_60 (f4_reaches d) x2 x3 x4 (fun (σ_22 : St) =>
  some (0, σ_22)) FU 0 σ
  else
  j_1))
def L4_seek_7 (k : St → Option (Int32 × St)) : Nat → Int32 → St → Option (Int32 × St)
  | 0, _, _ => none
  | n + 1, x2_3, σ_4 => (if 5 < x2_3 then
  k σ_4
  else
  b2 (f4_reaches 6 σ_4 0 x2_3 (σ_4.1 13 8)) fun r_6 σ_7 =>
  (if r_6 = 0 then
  bnd (x2_3 + 1) fun x2_8 =>
  L4_seek_7 k n x2_8 σ_7
  else
  some (x2_3, σ_7)))
def f4_seek (σ : St)  : Option (Int32 × St) := b1 (f4_start σ) fun σ_2 =>
  L4_seek_7 (fun (σ_10 : St) =>
  some ((-9), σ_10)) FU 0 σ_2
def f4_wantOrder (σ : St) (x1 : Int32) : Option (St) := bnd (wI σ 21 2 0) fun σ_1 =>
  bnd (wI σ_1 21 5 x1) fun σ_2 =>
  some σ_2
def f4_wantPlace (σ : St) (x1 : Int32) (x2 : Int32) : Option (St) := bnd (wI σ 21 2 1) fun σ_1 =>
  bnd (wI σ_1 21 3 x1) fun σ_2 =>
  bnd (wI σ_2 21 4 x2) fun σ_3 =>
  some σ_3
def f5_isColumn (x0 : Int32) : Option (Int32) := (if x0 < 0 then
  some 0
  else
  (if 3 ≤ x0 then
  some 0
  else
  some 1))
def L5_allColumns_2 (σ : St) (x1 : Int32) (k : Option (Int32)) : Nat → Int32 → Option (Int32)
  | 0, _ => none
  | n + 1, x2_1 => b1 (f3_sizeOf σ 1 x1) fun r_3 =>
  (if r_3 ≤ x2_1 then
  k
  else
  b1 (f3_get σ 1 x1 x2_1) fun r_5 =>
  b1 (f5_isColumn r_5) fun r_7 =>
  (if r_7 = 0 then
  some 0
  else
  bnd (x2_1 + 1) fun x2_8 =>
  L5_allColumns_2 σ x1 k n x2_8))
def f5_allColumns (σ : St) (x1 : Int32) : Option (Int32) := L5_allColumns_2 σ x1 (some 1) FU 0
def L5_allWeights_4 (σ : St) (k : Int64 → Option (Int64)) : Nat → Int64 → Int32 → Option (Int64)
  | 0, _, _ => none
  | n + 1, x1_1, x3_2 => (if (σ.1 13 7) ≤ x3_2 then
  k x1_1
  else
  bnd (x1_1 * 12) fun x1_4 =>
  bnd (x3_2 + 1) fun x3_5 =>
  L5_allWeights_4 σ k n x1_4 x3_5)
def f5_allWeights (σ : St)  : Option (Int64) := L5_allWeights_4 σ (fun (x1_6 : Int64) =>
  some x1_6) FU 1 0
def f5_asked (σ : St)  : Option (Int32) := some (σ.1 0 9)
def f5_isRow (x0 : Int32) : Option (Int32) := (if x0 < 0 then
  some 0
  else
  (if 6 ≤ x0 then
  some 0
  else
  some 1))
def f5_found (σ : St) (x1 : Int32) : Option (Int32 × St) := bnd (wI σ 0 8 x1) fun σ_1 =>
  gi x1 6 (
  gi x1 6 (bnd (wI σ_1 34 x1.toNatClampNeg ((σ_1.1 34 x1.toNatClampNeg) + 1)) fun σ_2 =>
  some ((-3), σ_2)))
def f5_refusedRow (σ : St) (x1 : Int32) : Option (Int32 × St) := b1 (f5_isRow x1) fun r_2 =>
  (if r_2 = 0 then
  some ((-1), σ)
  else
  b1 (f3_holds σ 1 x1) fun r_4 =>
  (if r_4 = 0 then
  b2 (f5_found σ 1) fun r_6 σ_7 =>
  some (r_6, σ_7)
  else
  some (0, σ)))
def f5_refusedPlace (σ : St) (x1 : Int32) (x2 : Int32) : Option (Int32 × St) := b2 (f5_refusedRow σ x1) fun r_2 σ_3 =>
  (if r_2 = 0 then
  b1 (f3_spans σ_3 1 x1 x2 1) fun r_5 =>
  (if r_5 = 0 then
  b2 (f5_found σ_3 2) fun r_7 σ_8 =>
  some (r_7, σ_8)
  else
  some (0, σ_3))
  else
  some (r_2, σ_3))
def f5_at (σ : St) (x1 : Int32) (x2 : Int32) : Option (Int32 × St) := b2 (f5_refusedPlace σ x1 x2) fun r_2 σ_3 =>
  (if r_2 = 0 then
  b1 (f3_get σ_3 1 x1 x2) fun r_5 =>
  bnd (wI σ_3 0 9 r_5) fun σ_6 =>
  some (1, σ_6)
  else
  some (r_2, σ_3))
def f5_isCard (σ : St) (x1 : Int32) : Option (Int32) := (if x1 < 0 then
  some 0
  else
  (if (σ.1 13 7) ≤ x1 then
  some 0
  else
  some 1))
def f5_cardFact (σ : St) (x1 : Int32) (x2 : Int32) : Option (Int32) := (if x2 = 0 then
  gi x1 6 (
  some (σ.1 14 x1.toNatClampNeg))
  else
  (if 3 < x2 then
  (if x2 = 4 then
  b1 (f1_placeOf σ x1) fun r_4 =>
  some r_4
  else
  b1 (f1_readsBehind σ x1 ((x2 - 3) - 2) (σ.1 13 8)) fun r_2 =>
  some r_2)
  else
  b1 (f1_figureOf σ x1 (x2 - 1)) fun r_6 =>
  some r_6))
def f5_card (σ : St) (x1 : Int32) (x2 : Int32) : Option (Int32 × St) := b1 (f5_isCard σ x1) fun r_2 =>
  (if r_2 = 0 then
  some ((-1), σ)
  else
  (if x2 < 0 then
  some ((-1), σ)
  else
  (if x2 < 8 then
  b1 (f5_cardFact σ x1 x2) fun r_4 =>
  bnd (wI σ 0 9 r_4) fun σ_5 =>
  some (1, σ_5)
  else
  some ((-1), σ))))
def L5_eachCardOnce_4 (σ : St) (x1 : Int32) (k : Option (Int32)) : Nat → Int32 → Int32 → Option (Int32)
  | 0, _, _ => none
  | n + 1, x2_1, x3_2 => b1 (f3_sizeOf σ 1 x1) fun r_4 =>
  (if r_4 ≤ x3_2 then
  k
  else
  b1 (f3_get σ 1 x1 x3_2) fun r_6 =>
  b1 (f5_isCard σ r_6) fun r_8 =>
  (if r_8 = 0 then
  some 0
  else
  (if ((x2_1 >>> (r_6 &&& 31)) &&& 1) = 0 then
  bnd (x2_1 ||| (1 <<< (r_6 &&& 31))) fun x2_9 =>
  bnd (x3_2 + 1) fun x3_10 =>
  L5_eachCardOnce_4 σ x1 k n x2_9 x3_10
  else
  some 0)))
def f5_eachCardOnce (σ : St) (x1 : Int32) : Option (Int32) := L5_eachCardOnce_4 σ x1 (some 1) FU 0 0
def L5_liesAs_2 (σ : St) (a2 : Nat) (x1 : Int32) (k : Option (Int32)) : Nat → Int32 → Option (Int32)
  | 0, _ => none
  | n + 1, x3_1 => (if (σ.1 13 7) ≤ x3_1 then
  k
  else
  b1 (f3_get σ 1 x1 x3_1) fun r_3 =>
  gi x3_1 (lnC a2) (
  (if r_3 = (σ.1 a2 x3_1.toNatClampNeg) then
  bnd (x3_1 + 1) fun x3_4 =>
  L5_liesAs_2 σ a2 x1 k n x3_4
  else
  some 0)))
def f5_liesAs (σ : St) (x1 : Int32) (a2 : Nat) : Option (Int32) := L5_liesAs_2 σ a2 x1 (some 1) FU 0
def L5_columns_81 (x1 : Int32) (k : Int32 → St → Option (Int32 × St)) : Nat → Int32 → Int32 → St → Option (Int32 × St)
  | 0, _, _, _ => none
  | n + 1, x2_9, x3_10, σ_11 => (if 3 ≤ x3_10 then
  k x2_9 σ_11
  else
  b2 (f4_passOnce σ_11 x3_10 0) fun r_14 σ_15 =>
  b1 (f5_liesAs σ_15 x1 24) fun r_17 =>
  jn (fun (x2_18 : Int32) =>
  bnd (x3_10 + 1) fun x3_22 =>
  L5_columns_81 x1 k n x2_18 x3_22 σ_15) fun j_19 =>
  (if r_17 = 0 then
  j_19 x2_9
  else
  bnd (x2_9 ||| (1 <<< (x3_10 &&& 31))) fun x2_23 =>
  j_19 x2_23))
def f5_columns (σ : St) (x1 : Int32) : Option (Int32 × St) := b1 (f5_isRow x1) fun r_2 =>
  (if r_2 = 0 then
  some ((-1), σ)
  else
  (if (σ.1 13 7) = 0 then
  some ((-4), σ)
  else
  b1 (f3_holds σ 1 x1) fun r_4 =>
  (if r_4 = 0 then
  b2 (f5_found σ 1) fun r_34 σ_35 =>
  some (r_34, σ_35)
  else
  b1 (f3_sizeOf σ 1 x1) fun r_6 =>
  (if r_6 = (σ.1 13 7) then
  b1 (f5_eachCardOnce σ x1) fun r_8 =>
  (if r_8 = 0 then
  b2 (f5_found σ 3) fun r_28 σ_29 =>
  some (r_28, σ_29)
  else
  L5_columns_81 x1 (fun (x2_25 : Int32) (σ_26 : St) =>
  some (x2_25, σ_26)) FU 0 0 σ)
  else
  b2 (f5_found σ 5) fun r_31 σ_32 =>
  some (r_31, σ_32)))))
def L5_commonDivisor_3 (k : Int64 → Option (Int64)) : Nat → Int64 → Int64 → Int32 → Option (Int64)
  | 0, _, _, _ => none
  | n + 1, x0_1, x2_2, x4_3 => (if 200 ≤ x4_3 then
  k x0_1
  else
  (if x2_2 = 0 then
  k x0_1
  else
  nzl x2_2 (
  bnd (x0_1 - x0_1 / x2_2 * x2_2) fun x5_5 =>
  bnd (x4_3 + 1) fun x4_6 =>
  L5_commonDivisor_3 k n x2_2 x5_5 x4_6)))
def f5_commonDivisor (x0 : Int64) (x2 : Int64) : Option (Int64) := L5_commonDivisor_3 (fun (x0_7 : Int64) =>
  some x0_7) FU x0 x2 0
def L5_copy_144 (x1 : Int32) (x2 : Int32) (x3 : Int32) (x4 : Int32) (x5 : Int32) (k : St → Option (Int32 × St)) : Nat → Int32 → St → Option (Int32 × St)
  | 0, _, _ => none
  | n + 1, x6_25, σ_26 => (if x5 ≤ x6_25 then
  k σ_26
  else
  b1 (f3_get σ_26 1 x1 (x2 + x6_25)) fun r_28 =>
  b1 (f3_set σ_26 1 x3 (x4 + x6_25) r_28) fun σ_30 =>
  bnd (x6_25 + 1) fun x6_31 =>
  L5_copy_144 x1 x2 x3 x4 x5 k n x6_31 σ_30)
def L5_copy_102 (x1 : Int32) (x2 : Int32) (x3 : Int32) (x4 : Int32) (k : St → Option (Int32 × St)) : Nat → Int32 → St → Option (Int32 × St)
  | 0, _, _ => none
  | n + 1, x6_35, σ_36 => (if x6_35 < 0 then
  k σ_36
  else
  b1 (f3_get σ_36 1 x1 (x2 + x6_35)) fun r_38 =>
  b1 (f3_set σ_36 1 x3 (x4 + x6_35) r_38) fun σ_40 =>
  bnd (x6_35 + (-1)) fun x6_41 =>
  L5_copy_102 x1 x2 x3 x4 k n x6_41 σ_40)
def f5_copy (σ : St) (x1 : Int32) (x2 : Int32) (x3 : Int32) (x4 : Int32) (x5 : Int32) : Option (Int32 × St) := b1 (f5_isRow x1) fun r_2 =>
  (if r_2 = 0 then
  some ((-1), σ)
  else
  b1 (f5_isRow x3) fun r_4 =>
  (if r_4 = 0 then
  some ((-1), σ)
  else
  (if 0 ≤ x5 then
  b1 (f3_holds σ 1 x1) fun r_6 =>
  jn (b2 (f5_found σ 1) fun r_11 σ_12 =>
  some (r_11, σ_12)) fun j_7 =>
  (if r_6 = 0 then
  j_7
  else
  b1 (f3_holds σ 1 x3) fun r_14 =>
  (if r_14 = 0 then
  j_7
  else
  b1 (f3_spans σ 1 x1 x2 x5) fun r_16 =>
  jn (b2 (f5_found σ 2) fun r_21 σ_22 =>
  some (r_21, σ_22)) fun j_17 =>
  (if r_16 = 0 then
  j_17
  else
  b1 (f3_spans σ 1 x3 x4 x5) fun r_24 =>
  (if r_24 = 0 then
  j_17
  else
  (if x4 ≤ x2 then
  L5_copy_144 x1 x2 x3 x4 x5 (fun (σ_33 : St) =>
  some (1, σ_33)) FU 0 σ
  else
  bnd (x5 - 1) fun x6_34 =>
  L5_copy_102 x1 x2 x3 x4 (fun (σ_43 : St) =>
  some (1, σ_43)) FU x6_34 σ)))))
  else
  b2 (f5_found σ 5) fun r_45 σ_46 =>
  some (r_45, σ_46))))
def f5_counted (σ : St) (x1 : Int32) : Option (Int32) := (if x1 = 0 then
  some (σ.1 13 7)
  else
  if x1 = 1 then
  some (σ.1 13 8)
  else
  if x1 = 2 then
  some (σ.1 13 9)
  else
  if x1 = 3 then
  (if (σ.1 13 7) = 0 then
  some ((-9))
  else
  some (σ.1 17 0))
  else
  if x1 = 4 then
  b1 (f1_sumOfAll σ) fun r_13 =>
  some r_13
  else
  if x1 = 5 then
  b1 (f1_manyOf σ 2) fun r_15 =>
  some r_15
  else
  if x1 = 6 then
  b1 (f1_manyOf σ 3) fun r_17 =>
  some r_17
  else
  if x1 = 7 then
  b1 (f3_held σ 1) fun r_19 =>
  some r_19
  else
  if x1 = 8 then
  b1 (f3_held σ 4) fun r_21 =>
  some r_21
  else
  b1 (f3_held σ 7) fun r_2 =>
  some r_2)
def f5_count (σ : St) (x1 : Int32) : Option (Int32) := (if x1 < 0 then
  some ((-1))
  else
  (if x1 < 10 then
  b1 (f5_counted σ x1) fun r_2 =>
  some r_2
  else
  some ((-1))))
def f5_isText (x0 : Int32) : Option (Int32) := (if x0 < 0 then
  some 0
  else
  (if 4 ≤ x0 then
  some 0
  else
  some 1))
def f5_refusedText (σ : St) (x1 : Int32) : Option (Int32 × St) := b1 (f5_isText x1) fun r_2 =>
  (if r_2 = 0 then
  some ((-1), σ)
  else
  b1 (f3_holds σ 4 x1) fun r_4 =>
  (if r_4 = 0 then
  b2 (f5_found σ 1) fun r_6 σ_7 =>
  some (r_6, σ_7)
  else
  some (0, σ)))
def L5_deck_45 (k : St → Option (Int32 × St)) : Nat → Int32 → St → Option (Int32 × St)
  | 0, _, _ => none
  | n + 1, x3_9, σ_10 => (if 3 ≤ x3_9 then
  k σ_10
  else
  b1 (f3_remove σ_10 7 x3_9) fun σ_12 =>
  bnd (x3_9 + 1) fun x3_13 =>
  L5_deck_45 k n x3_13 σ_12)
def f5_deck (σ : St) (x1 : Int32) : Option (Int32 × St) := b2 (f5_refusedText σ x1) fun r_2 σ_3 =>
  (if r_2 = 0 then
  b2 (f2_faultOf σ_3 x1) fun r_5 σ_6 =>
  (if r_5 = ((-9)) then
  b1 (f1_begin σ_6) fun σ_8 =>
  L5_deck_45 (fun (σ_15 : St) =>
  some (σ_15.1 13 7, σ_15)) FU 0 σ_8
  else
  some ((-4), σ_6))
  else
  some (r_2, σ_3))
def f5_deedOf (x0 : Int32) (x1 : Int32) (x2 : Int32) (x3 : Int32) : Option (Int32) := some ((((((x0 * 10) + x1) * 10) + x2) * 10) + x3)
def f5_deedByLot (x0 : Int32) (x1 : Int32) : Option (Int32) := bnd ((x0 / 8) - (x0 / 8) / 8 * 8) fun x2_1 =>
  jn (b1 (f5_deedOf 0 (x0 - x0 / 3 * 3) 0 0) fun r_6 =>
  some r_6) fun j_2 =>
  (if x2_1 < 5 then
  j_2
  else
  (if 2 ≤ x1 then
  (if x2_1 = 5 then
  b1 (f5_deedOf 1 0 0 0) fun r_12 =>
  some r_12
  else
  (if x2_1 = 6 then
  nz (x1 - 1) (
  b1 (f5_deedOf 2 (1 + ((x0 / 64) - (x0 / 64) / (x1 - 1) * (x1 - 1))) 0 0) fun r_10 =>
  some r_10)
  else
  nz x1 (
  b1 (f5_deedOf 3 ((x0 / 64) - (x0 / 64) / x1 * x1) (x0 - x0 / 3 * 3) ((x0 / 512) - (x0 / 512) / 10 * 10)) fun r_8 =>
  some r_8)))
  else
  j_2))
def L5_digest_6 (σ : St) (k : Int64 → Option (Int64)) : Nat → Int64 → Int32 → Option (Int64)
  | 0, _, _ => none
  | n + 1, x1_1, x3_2 => (if 10 ≤ x3_2 then
  k x1_1
  else
  b1 (f5_counted σ x3_2) fun r_5 =>
  bnd ((31 * x1_1) + (r_5.toInt64)) fun x1_6 =>
  bnd (x3_2 + 1) fun x3_7 =>
  L5_digest_6 σ k n x1_6 x3_7)
def L5_digest_47 (σ : St) (x3 : Int32) (k : Int64 → Option (Int64)) : Nat → Int64 → Int32 → Option (Int64)
  | 0, _, _ => none
  | n + 1, x1_12, x4_13 => (if 8 ≤ x4_13 then
  k x1_12
  else
  b1 (f5_cardFact σ x3 x4_13) fun r_16 =>
  bnd ((31 * x1_12) + (r_16.toInt64)) fun x1_17 =>
  bnd (x4_13 + 1) fun x4_18 =>
  L5_digest_47 σ x3 k n x1_17 x4_18)
def L5_digest_33 (σ : St) (k : Int64 → Option (Int64)) : Nat → Int64 → Int32 → Option (Int64)
  | 0, _, _ => none
  | n + 1, x1_9, x3_10 => (if (σ.1 13 7) ≤ x3_10 then
  k x1_9
  else
  L5_digest_47 σ x3_10 (fun (x1_19 : Int64) =>
  bnd (x3_10 + 1) fun x3_20 =>
  L5_digest_33 σ k n x1_19 x3_20) FU x1_9 0)
def L5_digest_83 (σ : St) (k : Int64 → Option (Int64)) : Nat → Int64 → Int32 → Option (Int64)
  | 0, _, _ => none
  | n + 1, x1_22, x3_23 => (if 3 ≤ x3_23 then
  k x1_22
  else
  b1 (f3_sizeOf σ 7 x3_23) fun r_26 =>
  bnd ((31 * x1_22) + (r_26.toInt64)) fun x1_27 =>
  bnd (x3_23 + 1) fun x3_28 =>
  L5_digest_83 σ k n x1_27 x3_28)
def f5_digest (σ : St)  : Option (Int64) := L5_digest_6 σ (fun (x1_8 : Int64) =>
  L5_digest_33 σ (fun (x1_21 : Int64) =>
  L5_digest_83 σ (fun (x1_29 : Int64) =>
  b1 (f3_digestOn σ 1 x1_29) fun r_31 =>
  b1 (f3_digestOn σ 4 r_31) fun r_33 =>
  some r_33) FU x1_21 0) FU x1_8 0) FU 17 0
def f5_duel (σ : St) (x1 : Int32) (x2 : Int32) (x3 : Int32) : Option (Int32 × St) := b1 (f5_isCard σ x1) fun r_2 =>
  (if r_2 = 0 then
  some ((-1), σ)
  else
  b1 (f5_isCard σ x2) fun r_4 =>
  (if r_4 = 0 then
  some ((-1), σ)
  else
  (if x1 = x2 then
  some ((-1), σ)
  else
  (if x3 < 0 then
  some ((-1), σ)
  else
  (if x3 ≤ 3 then
  b2 (f4_duelOf σ x1 x2 x3) fun r_6 σ_7 =>
  bnd (wI σ_7 0 9 r_6) fun σ_8 =>
  some (1, σ_8)
  else
  some ((-1), σ))))))
def f5_fault (σ : St) (x1 : Int32) : Option (Int32 × St) := b2 (f5_refusedText σ x1) fun r_2 σ_3 =>
  (if r_2 = 0 then
  b2 (f2_faultOf σ_3 x1) fun r_5 σ_6 =>
  some (r_5, σ_6)
  else
  some (r_2, σ_3))
def f5_soughtInto (σ : St) (x1 : Int32) : Option (Int32 × St) := b2 (f4_seek σ) fun r_2 σ_3 =>
  (if r_2 = ((-9)) then
  some (r_2, σ_3)
  else
  b1 (f3_fill σ_3 1 x1 23 r_2) fun σ_5 =>
  some (r_2, σ_5))
def f5_fewest (σ : St) (x1 : Int32) (x2 : Int32) (x3 : Int32) : Option (Int32 × St) := b1 (f5_isCard σ x1) fun r_2 =>
  (if r_2 = 0 then
  some ((-1), σ)
  else
  b1 (f5_isCard σ x2) fun r_4 =>
  (if r_4 = 0 then
  some ((-1), σ)
  else
  b1 (f5_isRow x3) fun r_6 =>
  (if r_6 = 0 then
  some ((-1), σ)
  else
  b1 (f4_wantPlace σ x1 x2) fun σ_8 =>
  b2 (f5_soughtInto σ_8 x3) fun r_10 σ_11 =>
  some (r_10, σ_11))))
def L5_refusedClues_74 (x3 : Int32) (x4 : Int32) (k : St → Option (Int32 × St)) : Nat → Int32 → St → Option (Int32 × St)
  | 0, _, _ => none
  | n + 1, x5_17, σ_18 => (if x4 ≤ (x5_17 + 1) then
  k σ_18
  else
  b1 (f3_get σ_18 1 x3 (x5_17 + 1)) fun r_20 =>
  b1 (f3_get σ_18 1 x3 x5_17) fun r_22 =>
  b1 (f5_isColumn r_22) fun r_24 =>
  jn (b2 (f5_found σ_18 3) fun r_29 σ_30 =>
  some (r_29, σ_30)) fun j_25 =>
  (if r_24 = 0 then
  j_25
  else
  (if r_20 < 0 then
  j_25
  else
  (if r_20 < 11 then
  bnd (x5_17 + 2) fun x5_31 =>
  L5_refusedClues_74 x3 x4 k n x5_31 σ_18
  else
  j_25))))
def f5_refusedClues (σ : St) (x1 : Int32) (x2 : Int32) (x3 : Int32) : Option (Int32 × St) := b1 (f5_isCard σ x1) fun r_2 =>
  (if r_2 = 0 then
  some ((-1), σ)
  else
  b1 (f5_isColumn x2) fun r_4 =>
  (if r_4 = 0 then
  some ((-1), σ)
  else
  b1 (f5_isRow x3) fun r_6 =>
  (if r_6 = 0 then
  some ((-1), σ)
  else
  b1 (f3_holds σ 1 x3) fun r_8 =>
  (if r_8 = 0 then
  b2 (f5_found σ 1) fun r_35 σ_36 =>
  some (r_35, σ_36)
  else
  b1 (f3_sizeOf σ 1 x3) fun r_10 =>
  jn (b2 (f5_found σ 5) fun r_15 σ_16 =>
  some (r_15, σ_16)) fun j_11 =>
  (if (r_10 - r_10 / 2 * 2) = 0 then
  (if r_10 ≤ 16 then
  L5_refusedClues_74 x3 r_10 (fun (σ_33 : St) =>
  some (0, σ_33)) FU 0 σ
  else
  j_11)
  else
  j_11)))))
def f5_figures (σ : St) (x1 : Int32) (x2 : Int32) (x3 : Int32) : Option (Int32 × St) := b2 (f5_refusedClues σ x1 x2 x3) fun r_2 σ_3 =>
  (if r_2 = 0 then
  b2 (f0_figuresOf σ_3 x1 x2 x3) fun r_5 σ_6 =>
  some (r_5, σ_6)
  else
  some (r_2, σ_3))
def f5_finding (σ : St)  : Option (Int32) := some (σ.1 0 8)
def f5_findings (σ : St) (x1 : Int32) : Option (Int32) := (if x1 < 1 then
  some ((-1))
  else
  (if x1 ≤ 5 then
  gi x1 6 (
  some (σ.1 34 x1.toNatClampNeg))
  else
  some ((-1))))
def f5_isChance (σ : St) (x1 : Int32) (x2 : Int32) (x3 : Int32) : Option (Int32) := b1 (f5_isCard σ x1) fun r_2 =>
  (if r_2 = 0 then
  some 0
  else
  b1 (f5_isColumn x2) fun r_4 =>
  (if r_4 = 0 then
  some 0
  else
  (if x3 < 0 then
  some 0
  else
  (if 12 < x3 then
  some 0
  else
  some 1))))
def L5_keep_42 (x1 : Int32) (k : St → Option (Int32 × St)) : Nat → Int32 → St → Option (Int32 × St)
  | 0, _, _ => none
  | n + 1, x2_3, σ_4 => (if (σ_4.1 13 9) ≤ x2_3 then
  k σ_4
  else
  gi x2_3 40 (
  b1 (f3_set σ_4 7 x1 x2_3 (σ_4.1 20 x2_3.toNatClampNeg)) fun σ_6 =>
  bnd (x2_3 + 1) fun x2_7 =>
  L5_keep_42 x1 k n x2_7 σ_6))
def f5_keep (σ : St) (x1 : Int32) : Option (Int32 × St) := (if x1 < 0 then
  some ((-1), σ)
  else
  (if x1 < 3 then
  (if (σ.1 13 7) = 0 then
  some ((-4), σ)
  else
  b1 (f3_make σ 7 x1 (σ.1 13 9) 0) fun σ_2 =>
  L5_keep_42 x1 (fun (σ_9 : St) =>
  some (σ_9.1 13 9, σ_9)) FU 0 σ_2)
  else
  some ((-1), σ)))
def f5_kinds (σ : St) (x1 : Int32) (x2 : Int32) : Option (Int32 × St) := b2 (f5_refusedClues σ x1 0 x2) fun r_2 σ_3 =>
  (if r_2 = 0 then
  b2 (f0_kindsOf σ_3 x1 x2) fun r_5 σ_6 =>
  some (r_5, σ_6)
  else
  some (r_2, σ_3))
def f5_lay (σ : St) (x1 : Int32) (x2 : Int32) (x3 : Int32) : Option (Int32 × St) := b2 (f5_refusedPlace σ x1 x2) fun r_2 σ_3 =>
  (if r_2 = 0 then
  b1 (f3_get σ_3 1 x1 x2) fun r_5 =>
  bnd (wI σ_3 0 9 r_5) fun σ_6 =>
  b1 (f3_set σ_6 1 x1 x2 x3) fun σ_8 =>
  some (1, σ_8)
  else
  some (r_2, σ_3))
def f5_refusedDeeds (σ : St) (x1 : Int32) : Option (Int32) := (if (σ.1 13 7) = 0 then
  some ((-4))
  else
  (if ((σ.1 13 9) + x1) ≤ 40 then
  some 0
  else
  some ((-2))))
def f5_lift (σ : St) (x1 : Int32) : Option (Int32 × St) := (if (σ.1 13 7) = 0 then
  some ((-4), σ)
  else
  (if x1 < 1 then
  some ((-1), σ)
  else
  (if x1 < (σ.1 13 7) then
  b1 (f5_refusedDeeds σ 1) fun r_2 =>
  (if r_2 = 0 then
  b1 (f5_deedOf 2 x1 0 0) fun r_4 =>
  b2 (f1_add σ r_4) fun r_6 σ_7 =>
  some (r_6, σ_7)
  else
  some (r_2, σ))
  else
  some ((-1), σ))))
def L5_lots_46 (x1 : Int32) (k : St → Option (Int32 × St)) : Nat → Int64 → Int32 → St → Option (Int32 × St)
  | 0, _, _, _ => none
  | n + 1, x4_4, x6_5, σ_6 => (if x1 ≤ x6_5 then
  k σ_6
  else
  bnd ((x4_4 * 48271) - (x4_4 * 48271) / 2147483647 * 2147483647) fun x4_7 =>
  b1 (f5_deedByLot (x4_7.toInt32) (σ_6.1 13 7)) fun r_9 =>
  b2 (f1_add σ_6 r_9) fun r_11 σ_12 =>
  bnd (x6_5 + 1) fun x6_13 =>
  L5_lots_46 x1 k n x4_7 x6_13 σ_12)
def f5_lots (σ : St) (x1 : Int32) (x2 : Int32) : Option (Int32 × St) := (if x1 < 1 then
  some ((-1), σ)
  else
  (if 20 < x1 then
  some ((-1), σ)
  else
  (if x2 < 1 then
  some ((-1), σ)
  else
  (if (x2.toInt64) < 2147483647 then
  b1 (f5_refusedDeeds σ x1) fun r_2 =>
  (if r_2 = 0 then
  bnd (x2.toInt64) fun x4_3 =>
  L5_lots_46 x1 (fun (σ_15 : St) =>
  some (σ_15.1 17 0, σ_15)) FU x4_3 0 σ
  else
  some (r_2, σ))
  else
  some ((-1), σ)))))
def f5_lower (σ : St)  : Option (Int64) := some (σ.2 0 11)
def L5_markedColumns_5 (σ : St) (x1 : Int32) (x2 : Int32) (k : Int32 → Option (Int32)) : Nat → Int32 → Int32 → Option (Int32)
  | 0, _, _ => none
  | n + 1, x3_1, x4_2 => (if 3 ≤ x4_2 then
  k x3_1
  else
  b1 (f1_readsBehind σ x1 x4_2 (σ.1 13 8)) fun r_5 =>
  b1 (f1_figureOf σ x1 x4_2) fun r_7 =>
  jn (fun (x7_8 : Int32) =>
  jn (fun (x3_12 : Int32) =>
  bnd (x4_2 + 1) fun x4_16 =>
  L5_markedColumns_5 σ x1 x2 k n x3_12 x4_16) fun j_13 =>
  (if x7_8 = 0 then
  j_13 x3_1
  else
  bnd (x3_1 + 1) fun x3_17 =>
  j_13 x3_17)) fun j_9 =>
  (if x2 = 1 then
  jn (fun (y_26 : Int32) =>
  j_9 y_26) fun j_27 =>
  (if r_5 = r_7 then
  j_27 0
  else
  j_27 1)
  else
  (if x2 = 3 then
  jn (fun (y_22 : Int32) =>
  j_9 y_22) fun j_23 =>
  (if r_5 ≤ r_7 then
  j_23 0
  else
  j_23 1)
  else
  jn (fun (y_18 : Int32) =>
  j_9 y_18) fun j_19 =>
  (if r_5 = 10 then
  j_19 1
  else
  j_19 0))))
def f5_markedColumns (σ : St) (x1 : Int32) (x2 : Int32) : Option (Int32) := L5_markedColumns_5 σ x1 x2 (fun (x3_30 : Int32) =>
  some x3_30) FU 0 0
def f5_mark (σ : St) (x1 : Int32) (x2 : Int32) : Option (Int32 × St) := b1 (f5_isCard σ x1) fun r_2 =>
  (if r_2 = 0 then
  some ((-1), σ)
  else
  (if x2 ≤ 0 then
  some ((-1), σ)
  else
  (if x2 < 6 then
  gi x1 6 (
  b1 (f5_isOf σ (σ.1 14 x1.toNatClampNeg) x2) fun r_4 =>
  (if r_4 = 0 then
  b2 (f5_found σ 3) fun r_12 σ_13 =>
  some (r_12, σ_13)
  else
  (if x2 = 2 then
  some (if ((σ.1 13 8) / 4) < 9 then ((σ.1 13 8) / 4) else 9, σ)
  else
  if x2 = 5 then
  b1 (f1_placeOf σ x1) fun r_10 =>
  some (r_10, σ)
  else
  b1 (f5_markedColumns σ x1 x2) fun r_6 =>
  some (r_6, σ))))
  else
  some ((-1), σ))))
def L5_mean_37 (σ : St) (x1 : Int32) (x3 : Int32) (k : Int64 → Option (Int32 × St)) : Nat → Int64 → Int32 → Option (Int32 × St)
  | 0, _, _ => none
  | n + 1, x4_6, x6_7 => (if x3 ≤ x6_7 then
  k x4_6
  else
  b1 (f3_get σ 1 x1 x6_7) fun r_10 =>
  bnd (x4_6 + (r_10.toInt64)) fun x4_11 =>
  bnd (x6_7 + 1) fun x6_12 =>
  L5_mean_37 σ x1 x3 k n x4_11 x6_12)
def f5_mean (σ : St) (x1 : Int32) : Option (Int32 × St) := b2 (f5_refusedRow σ x1) fun r_2 σ_3 =>
  (if r_2 = 0 then
  b1 (f3_sizeOf σ_3 1 x1) fun r_5 =>
  (if 0 < r_5 then
  L5_mean_37 σ_3 x1 r_5 (fun (x4_13 : Int64) =>
  nzl (r_5.toInt64) (
  bnd (wI σ_3 0 9 ((x4_13 / (r_5.toInt64)).toInt32)) fun σ_14 =>
  some (1, σ_14))) FU 0 0
  else
  b2 (f5_found σ_3 4) fun r_16 σ_17 =>
  some (r_16, σ_17))
  else
  some (r_2, σ_3))
def L5_weightOf_5 (σ : St) (x1 : Int32) (x2 : Int32) (k : Int64 → Option (Int64)) : Nat → Int64 → Int32 → Option (Int64)
  | 0, _, _ => none
  | n + 1, x3_1, x5_2 => (if (σ.1 13 7) ≤ x5_2 then
  k x3_1
  else
  jn (fun (y_4 : Int64) =>
  bnd (x3_1 * y_4) fun x3_8 =>
  bnd (x5_2 + 1) fun x5_9 =>
  L5_weightOf_5 σ x1 x2 k n x3_8 x5_9) fun j_5 =>
  (if ((x1 >>> (x5_2 &&& 31)) &&& 1) = 0 then
  j_5 ((12 - x2).toInt64)
  else
  j_5 (x2.toInt64)))
def f5_weightOf (σ : St) (x1 : Int32) (x2 : Int32) : Option (Int64) := L5_weightOf_5 σ x1 x2 (fun (x3_10 : Int64) =>
  some x3_10) FU 1 0
def f5_tellParts (σ : St) (x1 : Int64) (x3 : Int64) : Option (St) := b1 (f5_commonDivisor x1 x3) fun r_2 =>
  (if r_2 ≤ 0 then
  some σ
  else
  nzl r_2 (
  bnd (wL σ 0 10 (x1 / r_2)) fun σ_3 =>
  nzl r_2 (
  bnd (wL σ_3 0 11 (x3 / r_2)) fun σ_4 =>
  some σ_4)))
def L5_mid_18 (x1 : Int32) (x2 : Int32) (x3 : Int32) (k : Int64 → St → Option (Int32 × St)) : Nat → Int64 → Int32 → St → Option (Int32 × St)
  | 0, _, _, _ => none
  | n + 1, x4_3, x6_4, σ_5 => (if (1 <<< ((σ_5.1 13 7) &&& 31)) ≤ x6_4 then
  k x4_3 σ_5
  else
  b2 (f4_passOnce σ_5 x2 x6_4) fun r_8 σ_9 =>
  b1 (f5_placeIn σ_9 24 x1 (σ_9.1 13 7)) fun r_11 =>
  b1 (f5_weightOf σ_9 x6_4 x3) fun r_13 =>
  bnd (x4_3 + ((r_11.toInt64) * r_13)) fun x4_14 =>
  bnd (x6_4 + 1) fun x6_15 =>
  L5_mid_18 x1 x2 x3 k n x4_14 x6_15 σ_9)
def f5_mid (σ : St) (x1 : Int32) (x2 : Int32) (x3 : Int32) : Option (Int32 × St) := b1 (f5_isChance σ x1 x2 x3) fun r_2 =>
  (if r_2 = 0 then
  some ((-1), σ)
  else
  L5_mid_18 x1 x2 x3 (fun (x4_17 : Int64) (σ_18 : St) =>
  b1 (f5_allWeights σ_18) fun r_20 =>
  b1 (f5_tellParts σ_18 x4_17 r_20) fun σ_22 =>
  some (1, σ_22)) FU 0 0 σ)
def L5_next_64 (x1 : Int32) (x4 : Int32) (k : Int32 → Int32 → St → Option (Int32 × St)) : Nat → Int32 → Int32 → Int32 → St → Option (Int32 × St)
  | 0, _, _, _, _ => none
  | n + 1, x5_10, x6_11, x7_12, σ_13 => (if 3 ≤ x7_12 then
  k x5_10 x6_11 σ_13
  else
  b2 (f0_greatestPart σ_13 x1 x7_12 x4) fun r_17 σ_18 =>
  jn (fun (x5_19 : Int32) (x6_20 : Int32) =>
  bnd (x7_12 + 1) fun x7_24 =>
  L5_next_64 x1 x4 k n x5_19 x6_20 x7_24 σ_18) fun j_21 =>
  (if x6_11 ≤ r_17 then
  j_21 x5_10 x6_11
  else
  j_21 x7_12 r_17))
def f5_next (σ : St) (x1 : Int32) (x2 : Int32) : Option (Int32 × St) := b2 (f5_refusedClues σ x1 0 x2) fun r_2 σ_3 =>
  (if r_2 = 0 then
  b2 (f0_kindsOf σ_3 x1 x2) fun r_5 σ_6 =>
  (if r_5 = 0 then
  some ((-9), σ_6)
  else
  b2 (f0_greatestPart σ_6 x1 0 r_5) fun r_8 σ_9 =>
  L5_next_64 x1 r_5 (fun (x5_26 : Int32) (x6_27 : Int32) (σ_28 : St) =>
  bnd (wI σ_28 0 9 x6_27) fun σ_29 =>
  some (x5_26, σ_29)) FU 0 r_8 1 σ_9)
  else
  some (r_2, σ_3))
def L5_odds_18 (x1 : Int32) (x2 : Int32) (x3 : Int32) (k : Int64 → St → Option (Int32 × St)) : Nat → Int64 → Int32 → St → Option (Int32 × St)
  | 0, _, _, _ => none
  | n + 1, x4_3, x6_4, σ_5 => (if (1 <<< ((σ_5.1 13 7) &&& 31)) ≤ x6_4 then
  k x4_3 σ_5
  else
  b2 (f4_passOnce σ_5 x2 x6_4) fun r_8 σ_9 =>
  jn (fun (x4_10 : Int64) =>
  bnd (x6_4 + 1) fun x6_14 =>
  L5_odds_18 x1 x2 x3 k n x4_10 x6_14 σ_9) fun j_11 =>
  (if (σ_9.1 24 0) = x1 then
  b1 (f5_weightOf σ_9 x6_4 x3) fun r_16 =>
  bnd (x4_3 + r_16) fun x4_17 =>
  j_11 x4_17
  else
  j_11 x4_3))
def f5_odds (σ : St) (x1 : Int32) (x2 : Int32) (x3 : Int32) : Option (Int32 × St) := b1 (f5_isChance σ x1 x2 x3) fun r_2 =>
  (if r_2 = 0 then
  some ((-1), σ)
  else
  L5_odds_18 x1 x2 x3 (fun (x4_19 : Int64) (σ_20 : St) =>
  b1 (f5_allWeights σ_20) fun r_22 =>
  b1 (f5_tellParts σ_20 x4_19 r_22) fun σ_24 =>
  some (1, σ_24)) FU 0 0 σ)
def L5_on_39 (x1 : Int32) (x2 : Int32) (k : St → Option (Int32 × St)) : Nat → Int32 → St → Option (Int32 × St)
  | 0, _, _ => none
  | n + 1, x3_5, σ_6 => (if x2 ≤ x3_5 then
  k σ_6
  else
  b1 (f3_get σ_6 7 x1 x3_5) fun r_8 =>
  gi x3_5 40 (bnd (wI σ_6 20 x3_5.toNatClampNeg r_8) fun σ_9 =>
  bnd (x3_5 + 1) fun x3_10 =>
  L5_on_39 x1 x2 k n x3_10 σ_9))
def f5_on (σ : St) (x1 : Int32) : Option (Int32 × St) := (if x1 < 0 then
  some ((-1), σ)
  else
  (if x1 < 3 then
  b1 (f3_holds σ 7 x1) fun r_2 =>
  (if r_2 = 0 then
  b2 (f5_found σ 1) fun r_16 σ_17 =>
  some (r_16, σ_17)
  else
  b1 (f3_sizeOf σ 7 x1) fun r_4 =>
  L5_on_39 x1 r_4 (fun (σ_12 : St) =>
  b1 (f1_redo σ_12 r_4) fun σ_14 =>
  some (r_4, σ_14)) FU 0 σ)
  else
  some ((-1), σ)))
def f5_order (σ : St) (x1 : Int32) (x2 : Int32) : Option (Int32 × St) := b1 (f5_isColumn x1) fun r_2 =>
  (if r_2 = 0 then
  some ((-1), σ)
  else
  b1 (f5_isRow x2) fun r_4 =>
  (if r_4 = 0 then
  some ((-1), σ)
  else
  (if (σ.1 13 7) = 0 then
  some ((-4), σ)
  else
  b1 (f4_wantOrder σ x1) fun σ_6 =>
  b2 (f5_soughtInto σ_6 x2) fun r_8 σ_9 =>
  some (r_8, σ_9))))
def f5_pass (σ : St) (x1 : Int32) : Option (Int32 × St) := b1 (f5_isColumn x1) fun r_2 =>
  (if r_2 = 0 then
  some ((-1), σ)
  else
  b1 (f5_refusedDeeds σ 1) fun r_4 =>
  (if r_4 = 0 then
  b1 (f5_deedOf 0 x1 0 0) fun r_6 =>
  b2 (f1_add σ r_6) fun r_8 σ_9 =>
  some (r_8, σ_9)
  else
  some (r_4, σ)))
def f5_pocket (σ : St) (x1 : Int32) (x2 : Int32) (x3 : Int32) : Option (Int32) := b1 (f5_isCard σ x1) fun r_2 =>
  (if r_2 = 0 then
  some ((-1))
  else
  b1 (f5_isColumn x2) fun r_4 =>
  (if r_4 = 0 then
  some ((-1))
  else
  (if x3 < 0 then
  some ((-1))
  else
  (if x3 ≤ 60 then
  b1 (f1_readsBehind σ x1 x2 x3) fun r_6 =>
  some r_6
  else
  some ((-1))))))
def f5_punch (σ : St) (x1 : Int32) (x2 : Int32) (x3 : Int32) : Option (Int32 × St) := b1 (f5_isCard σ x1) fun r_2 =>
  (if r_2 = 0 then
  some ((-1), σ)
  else
  b1 (f5_isColumn x2) fun r_4 =>
  (if r_4 = 0 then
  some ((-1), σ)
  else
  (if x3 < 0 then
  some ((-1), σ)
  else
  (if x3 < 10 then
  b1 (f1_figureOf σ x1 x2) fun r_6 =>
  (if r_6 = x3 then
  some ((-4), σ)
  else
  b1 (f5_refusedDeeds σ 1) fun r_8 =>
  (if r_8 = 0 then
  b1 (f5_deedOf 3 x1 x2 x3) fun r_10 =>
  b2 (f1_add σ r_10) fun r_12 σ_13 =>
  some (r_6, σ_13)
  else
  some (r_8, σ)))
  else
  some ((-1), σ)))))
def f5_put (σ : St) (x1 : Int32) (x2 : Int32) (x3 : Int32) : Option (Int32 × St) := b2 (f5_refusedText σ x1) fun r_2 σ_3 =>
  (if r_2 = 0 then
  b1 (f3_spans σ_3 4 x1 x2 1) fun r_5 =>
  (if r_5 = 0 then
  b2 (f5_found σ_3 2) fun r_11 σ_12 =>
  some (r_11, σ_12)
  else
  b1 (f3_get σ_3 4 x1 x2) fun r_7 =>
  b1 (f3_set σ_3 4 x1 x2 (x3.toInt8.toInt32)) fun σ_9 =>
  some (r_7 + 1000, σ_9))
  else
  some (r_2, σ_3))
def f5_refusedSum (σ : St) (x1 : Int32) (x2 : Int32) : Option (Int32) := b1 (f5_isColumn x1) fun r_2 =>
  (if r_2 = 0 then
  some ((-1))
  else
  (if x2 < 0 then
  some ((-1))
  else
  (if x2 ≤ 54 then
  (if (σ.1 13 7) = 0 then
  some ((-4))
  else
  some 0)
  else
  some ((-1)))))
def f5_row (σ : St) (x1 : Int32) (x2 : Int32) : Option (Int32 × St) := b1 (f5_isRow x1) fun r_2 =>
  (if r_2 = 0 then
  some ((-1), σ)
  else
  (if x2 ≤ 40 then
  (if 0 ≤ x2 then
  b1 (f3_make σ 1 x1 x2 0) fun σ_4 =>
  some (x2, σ_4)
  else
  b2 (f5_found σ 5) fun r_6 σ_7 =>
  some (r_6, σ_7))
  else
  some ((-1), σ)))
def f5_run (σ : St) (x1 : Int32) (x2 : Int32) : Option (Int32 × St) := b1 (f5_isRow x1) fun r_2 =>
  (if r_2 = 0 then
  some ((-1), σ)
  else
  b1 (f5_isRow x2) fun r_4 =>
  (if r_4 = 0 then
  some ((-1), σ)
  else
  (if (σ.1 13 7) = 0 then
  some ((-4), σ)
  else
  b1 (f3_holds σ 1 x1) fun r_6 =>
  (if r_6 = 0 then
  b2 (f5_found σ 1) fun r_23 σ_24 =>
  some (r_23, σ_24)
  else
  b1 (f3_sizeOf σ 1 x1) fun r_8 =>
  (if r_8 ≤ 10 then
  b1 (f5_allColumns σ x1) fun r_10 =>
  (if r_10 = 0 then
  b2 (f5_found σ 3) fun r_17 σ_18 =>
  some (r_17, σ_18)
  else
  b2 (f4_passAll σ x1) fun r_12 σ_13 =>
  b1 (f3_fill σ_13 1 x2 24 (σ_13.1 13 7)) fun σ_15 =>
  some (σ_15.1 24 0, σ_15))
  else
  b2 (f5_found σ 5) fun r_20 σ_21 =>
  some (r_20, σ_21))))))
def L5_sets_23 (σ : St) (x1 : Int32) (x2 : Int32) (k : Int32 → Int32 → Option (Int32 × St)) : Nat → Int32 → Int32 → Int32 → Option (Int32 × St)
  | 0, _, _, _ => none
  | n + 1, x4_3, x5_4, x6_5 => (if (1 <<< ((σ.1 13 7) &&& 31)) ≤ x6_5 then
  k x4_3 x5_4
  else
  b1 (f1_sumOf σ x6_5 x1) fun r_9 =>
  jn (fun (x4_10 : Int32) (x5_11 : Int32) =>
  bnd (x6_5 + 1) fun x6_15 =>
  L5_sets_23 σ x1 x2 k n x4_10 x5_11 x6_15) fun j_12 =>
  (if r_9 = x2 then
  bnd (x4_3 + 1) fun x4_16 =>
  (if x5_4 = ((-9)) then
  j_12 x4_16 x6_5
  else
  j_12 x4_16 x5_4)
  else
  j_12 x4_3 x5_4))
def f5_sets (σ : St) (x1 : Int32) (x2 : Int32) : Option (Int32 × St) := b1 (f5_refusedSum σ x1 x2) fun r_2 =>
  (if r_2 = 0 then
  L5_sets_23 σ x1 x2 (fun (x4_17 : Int32) (x5_18 : Int32) =>
  bnd (wI σ 0 9 x5_18) fun σ_19 =>
  b1 (f5_tellParts σ_19 (x4_17.toInt64) 1) fun σ_21 =>
  some (1, σ_21)) FU 0 ((-9)) 0
  else
  some (r_2, σ))
def L5_sure_39 (σ : St) (x1 : Int32) (x2 : Int32) (x4 : Int32) (k : Int32 → Int32 → Int32 → Option (Int32 × St)) : Nat → Int32 → Int32 → Int32 → Int32 → Option (Int32 × St)
  | 0, _, _, _, _ => none
  | n + 1, x5_4, x6_5, x7_6, x8_7 => (if x4 < x8_7 then
  k x5_4 x6_5 x7_6
  else
  b1 (f1_sumOf σ x8_7 x1) fun r_12 =>
  jn (fun (x5_13 : Int32) (x6_14 : Int32) (x7_15 : Int32) =>
  bnd (x8_7 + 1) fun x8_19 =>
  L5_sure_39 σ x1 x2 x4 k n x5_13 x6_14 x7_15 x8_19) fun j_16 =>
  (if r_12 = x2 then
  bnd (x5_4 &&& x8_7) fun x5_20 =>
  bnd (x6_5 ||| x8_7) fun x6_21 =>
  j_16 x5_20 x6_21 1
  else
  j_16 x5_4 x6_5 x7_6))
def f5_sure (σ : St) (x1 : Int32) (x2 : Int32) : Option (Int32 × St) := b1 (f5_refusedSum σ x1 x2) fun r_2 =>
  (if r_2 = 0 then
  bnd ((1 <<< ((σ.1 13 7) &&& 31)) - 1) fun x4_3 =>
  L5_sure_39 σ x1 x2 x4_3 (fun (x5_22 : Int32) (x6_23 : Int32) (x7_24 : Int32) =>
  (if x7_24 = 0 then
  b2 (f5_found σ 4) fun r_27 σ_28 =>
  some (r_27, σ_28)
  else
  bnd (wI σ 0 9 (x4_3 &&& (x6_23 ^^^ ((-1))))) fun σ_25 =>
  some (x5_22, σ_25))) FU x4_3 0 0 0
  else
  some (r_2, σ))
def f5_tear (σ : St) (x1 : Int32) : Option (Int32 × St) := b2 (f5_refusedRow σ x1) fun r_2 σ_3 =>
  (if r_2 = 0 then
  b1 (f3_remove σ_3 1 x1) fun σ_5 =>
  some (1, σ_5)
  else
  some (r_2, σ_3))
def f5_text (σ : St) (x1 : Int32) (x2 : Int32) : Option (Int32 × St) := b1 (f5_isText x1) fun r_2 =>
  (if r_2 = 0 then
  some ((-1), σ)
  else
  (if x2 ≤ 60 then
  (if 0 ≤ x2 then
  b1 (f3_make σ 4 x1 x2 32) fun σ_4 =>
  some (x2, σ_4)
  else
  b2 (f5_found σ 5) fun r_6 σ_7 =>
  some (r_6, σ_7))
  else
  some ((-1), σ)))
def f5_turn (σ : St)  : Option (Int32 × St) := b1 (f5_refusedDeeds σ 1) fun r_2 =>
  (if r_2 = 0 then
  b1 (f5_deedOf 1 0 0 0) fun r_4 =>
  b2 (f1_add σ r_4) fun r_6 σ_7 =>
  some (r_6, σ_7)
  else
  some (r_2, σ))
def f5_undo (σ : St) (x1 : Int32) : Option (Int32 × St) := (if x1 < 0 then
  some ((-1), σ)
  else
  (if x1 ≤ (σ.1 13 9) then
  bnd ((σ.1 13 9) - x1) fun x2_1 =>
  b1 (f1_redo σ x1) fun σ_3 =>
  some (x2_1, σ_3)
  else
  some ((-1), σ)))
def f5_upper (σ : St)  : Option (Int64) := some (σ.2 0 10)
end
