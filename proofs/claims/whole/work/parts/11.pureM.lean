noncomputable section
def f6_answer (σ : St) (x1 : Int32) (x2 : Int32) : Option (Int32 × St) := bnd (wI σ 0 12 x2) fun σ_1 =>
  some (x1, σ_1)
def f6_asked (σ : St)  : Option (Int32) := some (σ.1 0 12)
def f6_in (x0 : Int64) (x2 : Int64) (x4 : Int64) : Option (Int32) := (if x0 < x2 then
  some 0
  else
  (if x4 < x0 then
  some 0
  else
  some 1))
def f6_isRow (x0 : Int32) : Option (Int32) := b1 (f6_in (x0.toInt64) 0 5) fun r_2 =>
  bz r_2 (some r_2)
def f6_found (σ : St) (x1 : Int32) : Option (Int32 × St) := bnd (wI σ 0 15 x1) fun σ_1 =>
  gi x1 6 (
  gi x1 6 (bnd (wI σ_1 11 x1.toNatClampNeg ((σ_1.1 11 x1.toNatClampNeg) + 1)) fun σ_2 =>
  some ((-3), σ_2)))
def f6_tell (σ : St) (x1 : Int32) : Option (Int32 × St) := bnd (wI σ 0 12 x1) fun σ_1 =>
  some (1, σ_1)
def f6_at (σ : St) (x1 : Int32) (x2 : Int32) : Option (Int32 × St) := b1 (f6_isRow x1) fun r_2 =>
  (if r_2 = 0 then
  some ((-1), σ)
  else
  gi x1 6 (
  (if 0 ≤ (σ.1 1 x1.toNatClampNeg) then
  gi x1 6 (
  b1 (f6_in (x2.toInt64) 0 (((σ.1 1 x1.toNatClampNeg) - 1).toInt64)) fun r_4 =>
  (if r_4 = 0 then
  b2 (f6_found σ 2) fun r_6 σ_7 =>
  some (r_6, σ_7)
  else
  gi ((40 * x1) + x2) 240 (
  b2 (f6_tell σ (σ.1 2 ((40 * x1) + x2).toNatClampNeg)) fun r_9 σ_10 =>
  some (r_9, σ_10))))
  else
  b2 (f6_found σ 1) fun r_12 σ_13 =>
  some (r_12, σ_13))))
def f6_isCard (σ : St) (x1 : Int32) : Option (Int32) := b1 (f6_in (x1.toInt64) 0 (((σ.1 0 4) - 1).toInt64)) fun r_2 =>
  bz r_2 (some r_2)
def L6_placeOf_2 (σ : St) (a0 : Nat) (x1 : Int32) (k : Int32 → Option (Int32)) : Nat → Int32 → Option (Int32)
  | 0, _ => none
  | n + 1, x2_1 => gi x2_1 (lnM a0) (
  (if (σ.1 a0 x2_1.toNatClampNeg) = x1 then
  k x2_1
  else
  bnd (x2_1 + 1) fun x2_3 =>
  L6_placeOf_2 σ a0 x1 k n x2_3))
def f6_placeOf (σ : St) (a0 : Nat) (x1 : Int32) : Option (Int32) := L6_placeOf_2 σ a0 x1 (fun (x2_4 : Int32) =>
  some x2_4) FU 0
def f6_more (x0 : Int32) (x1 : Int32) : Option (Int32) := (if x0 ≤ x1 then
  some x1
  else
  some x0)
def f6_readsBy (σ : St) (a0 : Nat) (x1 : Int32) (x2 : Int32) (x3 : Int32) (x4 : Int32) : Option (Int32) := gi (x1 + x3) (lnM a0) (
  bnd (σ.1 a0 (x1 + x3).toNatClampNeg) fun x5_1 =>
  gi (x1 + ((x3 + 1) - (x3 + 1) / 3 * 3)) (lnM a0) (
  b1 (f6_more x5_1 (σ.1 a0 (x1 + ((x3 + 1) - (x3 + 1) / 3 * 3)).toNatClampNeg)) fun r_3 =>
  (if x2 = 1 then
  gi ((x1 + 2) - x3) (lnM a0) (
  some (σ.1 a0 ((x1 + 2) - x3).toNatClampNeg))
  else
  if x2 = 2 then
  b1 (f6_more 0 (x5_1 - (x4 / 4))) fun r_10 =>
  some r_10
  else
  if x2 = 3 then
  some r_3
  else
  if x2 = 4 then
  (if x5_1 = 0 then
  some 10
  else
  b1 (f6_more 0 (x5_1 - (x4 / 4))) fun r_12 =>
  some r_12)
  else
  if x2 = 5 then
  (if r_3 = 9 then
  some 0
  else
  some r_3)
  else
  some x5_1)))
def f6_readOn (σ : St) (a1 : Nat) (x2 : Int32) (x3 : Int32) : Option (Int32) := gi x2 6 (
  gi 24 (lnM a1) (
  b1 (f6_readsBy σ a1 (6 + (3 * x2)) (σ.1 5 x2.toNatClampNeg) x3 (σ.1 a1 24)) fun r_2 =>
  some r_2))
def f6_card (σ : St) (x1 : Int32) (x2 : Int32) : Option (Int32 × St) := b1 (f6_isCard σ x1) fun r_2 =>
  (if r_2 = 0 then
  some ((-1), σ)
  else
  b1 (f6_in (x2.toInt64) 0 7) fun r_4 =>
  (if r_4 = 0 then
  some ((-1), σ)
  else
  jn (fun (y_5 : Int32) =>
  b2 (f6_tell σ y_5) fun r_10 σ_11 =>
  some (r_10, σ_11)) fun j_6 =>
  (if x2 = 0 then
  gi x1 6 (
  j_6 (σ.1 5 x1.toNatClampNeg))
  else
  (if 4 ≤ x2 then
  (if x2 = 4 then
  b1 (f6_placeOf σ 6 x1) fun r_15 =>
  j_6 r_15
  else
  b1 (f6_readOn σ 6 x1 (x2 - 5)) fun r_13 =>
  j_6 r_13)
  else
  gi (((6 + (3 * x1)) + x2) - 1) 25 (
  j_6 (σ.1 6 (((6 + (3 * x1)) + x2) - 1).toNatClampNeg))))))
def f6_isColumn (x0 : Int32) : Option (Int32) := b1 (f6_in (x0.toInt64) 0 2) fun r_2 =>
  bz r_2 (some r_2)
def L6_copies_3 (a0 : Nat) (a2 : Nat) (x1 : Int32) (x3 : Int32) (x4 : Int32) (k : St → Option (St)) : Nat → Int32 → St → Option (St)
  | 0, _, _ => none
  | n + 1, x5_1, σ_2 => (if x4 ≤ x5_1 then
  k σ_2
  else
  gi (x1 + x5_1) (lnM a0) (
  gi (x3 + x5_1) (lnM a2) (bnd (wI σ_2 a2 (x3 + x5_1).toNatClampNeg (σ_2.1 a0 (x1 + x5_1).toNatClampNeg)) fun σ_3 =>
  bnd (x5_1 + 1) fun x5_4 =>
  L6_copies_3 a0 a2 x1 x3 x4 k n x5_4 σ_3)))
def f6_copies (σ : St) (a0 : Nat) (x1 : Int32) (a2 : Nat) (x3 : Int32) (x4 : Int32) : Option (St) := L6_copies_3 a0 a2 x1 x3 x4 (fun (σ_6 : St) =>
  some σ_6) FU 0 σ
def f6_laysAside (σ : St)  : Option (St) := b1 (f6_copies σ 6 0 7 0 25) fun σ_2 =>
  some σ_2
def f6_has (x0 : Int32) (x1 : Int32) : Option (Int32) := (if ((x0 >>> (x1 &&& 31)) &&& 1) = 1 then
  some 1
  else
  some 0)
def L6_falls_24 (a1 : Nat) (x2 : Int32) (x3 : Int32) (x5 : Int32) (x6 : Int32) (k : Int32 → St → Option (St)) : Nat → Int32 → Int32 → St → Option (St)
  | 0, _, _, _ => none
  | n + 1, x4_8, x7_9, σ_10 => (if (σ_10.1 0 4) ≤ x7_9 then
  k x4_8 σ_10
  else
  gi x7_9 (lnM a1) (
  bnd (σ_10.1 a1 x7_9.toNatClampNeg) fun x8_12 =>
  b1 (f6_has x3 x8_12) fun r_14 =>
  jn (fun (y_15 : Int32) =>
  jn (fun (x4_19 : Int32) (σ_20 : St) =>
  bnd (x7_9 + 1) fun x7_24 =>
  L6_falls_24 a1 x2 x3 x5 x6 k n x4_19 x7_24 σ_20) fun j_21 =>
  (if y_15 = x5 then
  gi x8_12 6 (
  jn (fun (y_25 : Int32) =>
  jn (fun (y_29 : Int32) =>
  (if y_25 = y_29 then
  gi x4_8 6 (bnd (wI σ_10 14 x4_8.toNatClampNeg x8_12) fun σ_33 =>
  bnd (x4_8 + 1) fun x4_34 =>
  j_21 x4_34 σ_33)
  else
  j_21 x4_8 σ_10)) fun j_30 =>
  (if x6 = 1 then
  j_30 1
  else
  j_30 0)) fun j_26 =>
  (if (σ_10.1 5 x8_12.toNatClampNeg) = 5 then
  j_26 1
  else
  j_26 0))
  else
  j_21 x4_8 σ_10)) fun j_16 =>
  (if r_14 = 0 then
  b1 (f6_readOn σ_10 a1 x8_12 x2) fun r_36 =>
  j_16 r_36
  else
  j_16 10)))
def L6_falls_16 (a1 : Nat) (x2 : Int32) (x3 : Int32) (x5 : Int32) (k : Int32 → St → Option (St)) : Nat → Int32 → Int32 → St → Option (St)
  | 0, _, _, _ => none
  | n + 1, x4_4, x6_5, σ_6 => (if x6_5 < 0 then
  k x4_4 σ_6
  else
  L6_falls_24 a1 x2 x3 x5 x6_5 (fun (x4_38 : Int32) (σ_39 : St) =>
  bnd (x6_5 + (-1)) fun x6_40 =>
  L6_falls_16 a1 x2 x3 x5 k n x4_38 x6_40 σ_39) FU x4_4 0 σ_6)
def L6_falls_6 (a1 : Nat) (x2 : Int32) (x3 : Int32) (k : St → Option (St)) : Nat → Int32 → Int32 → St → Option (St)
  | 0, _, _, _ => none
  | n + 1, x4_1, x5_2, σ_3 => (if 11 ≤ x5_2 then
  k σ_3
  else
  L6_falls_16 a1 x2 x3 x5_2 (fun (x4_42 : Int32) (σ_43 : St) =>
  bnd (x5_2 + 1) fun x5_44 =>
  L6_falls_6 a1 x2 x3 k n x4_42 x5_44 σ_43) FU x4_1 1 σ_3)
def f6_falls (σ : St) (a1 : Nat) (x2 : Int32) (x3 : Int32) : Option (St) := L6_falls_6 a1 x2 x3 (fun (σ_46 : St) =>
  b1 (f6_copies σ_46 14 0 a1 0 (σ_46.1 0 4)) fun σ_48 =>
  some σ_48) FU 0 0 σ
def L6_weigh_5 (σ : St) (x1 : Int32) (x2 : Int32) (k : Int64 → Option (Int64)) : Nat → Int64 → Int32 → Option (Int64)
  | 0, _, _ => none
  | n + 1, x3_1, x5_2 => (if (σ.1 0 4) ≤ x5_2 then
  k x3_1
  else
  b1 (f6_has x1 x5_2) fun r_5 =>
  jn (fun (y_6 : Int64) =>
  bnd (x3_1 * y_6) fun x3_10 =>
  bnd (x5_2 + 1) fun x5_11 =>
  L6_weigh_5 σ x1 x2 k n x3_10 x5_11) fun j_7 =>
  (if r_5 = 0 then
  j_7 ((12 - x2).toInt64)
  else
  j_7 (x2.toInt64)))
def f6_weigh (σ : St) (x1 : Int32) (x2 : Int32) : Option (Int64) := L6_weigh_5 σ x1 x2 (fun (x3_12 : Int64) =>
  some x3_12) FU 1 0
def L6_tellsPart_6 (σ : St) (x1 : Int64) (x3 : Int64) (k : Int64 → Option (St)) : Nat → Int64 → Int64 → Option (St)
  | 0, _, _ => none
  | n + 1, x5_1, x7_2 => (if x7_2 = 0 then
  k x5_1
  else
  nzl x7_2 (
  bnd (x5_1 - x5_1 / x7_2 * x7_2) fun x9_4 =>
  L6_tellsPart_6 σ x1 x3 k n x7_2 x9_4))
def f6_tellsPart (σ : St) (x1 : Int64) (x3 : Int64) : Option (St) := L6_tellsPart_6 σ x1 x3 (fun (x5_5 : Int64) =>
  nzl x5_5 (
  bnd (wL σ 0 13 (x1 / x5_5)) fun σ_6 =>
  nzl x5_5 (
  bnd (wL σ_6 0 14 (x3 / x5_5)) fun σ_7 =>
  some σ_7))) FU x1 x3
def L6_chance_38 (σ : St) (x1 : Int32) (x2 : Int32) (x3 : Int32) (x4 : Int32) (x5 : Int64) (k : Int64 → Option (Int32 × St)) : Nat → Int64 → Int32 → Option (Int32 × St)
  | 0, _, _ => none
  | n + 1, x7_7, x9_8 => (if (σ.1 0 4) ≤ x9_8 then
  k x7_7
  else
  bnd (x7_7 * 12) fun x7_10 =>
  bnd (x9_8 + 1) fun x9_11 =>
  L6_chance_38 σ x1 x2 x3 x4 x5 k n x7_10 x9_11)
def L6_chance_64 (x1 : Int32) (x2 : Int32) (x3 : Int32) (x4 : Int32) (x7 : Int64) (k : Int64 → St → Option (Int32 × St)) : Nat → Int64 → Int32 → St → Option (Int32 × St)
  | 0, _, _, _ => none
  | n + 1, x5_13, x9_14, σ_15 => (if (1 <<< ((σ_15.1 0 4) &&& 31)) ≤ x9_14 then
  k x5_13 σ_15
  else
  b1 (f6_laysAside σ_15) fun σ_18 =>
  b1 (f6_falls σ_18 7 x2 x9_14) fun σ_20 =>
  b1 (f6_placeOf σ_20 7 x1) fun r_22 =>
  b1 (f6_weigh σ_20 x9_14 x3) fun r_24 =>
  jn (fun (y_25 : Int32) =>
  bnd (x5_13 + (r_24 * (y_25.toInt64))) fun x5_29 =>
  bnd (x9_14 + 1) fun x9_30 =>
  L6_chance_64 x1 x2 x3 x4 x7 k n x5_29 x9_30 σ_20) fun j_26 =>
  (if x4 = 0 then
  (if r_22 = 0 then
  j_26 1
  else
  j_26 0)
  else
  j_26 r_22))
def f6_chance (σ : St) (x1 : Int32) (x2 : Int32) (x3 : Int32) (x4 : Int32) : Option (Int32 × St) := b1 (f6_isCard σ x1) fun r_2 =>
  (if r_2 = 0 then
  some ((-1), σ)
  else
  b1 (f6_isColumn x2) fun r_4 =>
  (if r_4 = 0 then
  some ((-1), σ)
  else
  b1 (f6_in (x3.toInt64) 0 12) fun r_6 =>
  (if r_6 = 0 then
  some ((-1), σ)
  else
  L6_chance_38 σ x1 x2 x3 x4 0 (fun (x7_12 : Int64) =>
  L6_chance_64 x1 x2 x3 x4 x7_12 (fun (x5_32 : Int64) (σ_33 : St) =>
  b1 (f6_tellsPart σ_33 x5_32 x7_12) fun σ_35 =>
  some (1, σ_35)) FU 0 0 σ) FU 1 0)))
def f6_passes (σ : St) (a1 : Nat) (x2 : Int32) : Option (St) := b1 (f6_falls σ a1 x2 0) fun σ_2 =>
  gi 24 (lnM a1) (
  gi 24 (lnM a1) (
  jn (fun (y_3 : Int32) =>
  gi 24 (lnM a1) (bnd (wI σ_2 a1 24 ((σ_2.1 a1 24) + y_3)) fun σ_7 =>
  some σ_7)) fun j_4 =>
  (if 60 ≤ (σ_2.1 a1 24) then
  j_4 0
  else
  j_4 1)))
def L6_columns_57 (x1 : Int32) (k : St → Option (Int32 × St)) : Nat → Int32 → Int32 → St → Option (Int32 × St)
  | 0, _, _, _ => none
  | n + 1, x2_3, x3_4, σ_5 => (if (σ_5.1 0 4) ≤ x3_4 then
  k σ_5
  else
  gi ((40 * x1) + x3_4) 240 (
  bnd (σ_5.1 2 ((40 * x1) + x3_4).toNatClampNeg) fun x4_6 =>
  b1 (f6_isCard σ_5 x4_6) fun r_8 =>
  jn (b2 (f6_found σ_5 3) fun r_13 σ_14 =>
  some (r_13, σ_14)) fun j_9 =>
  (if r_8 = 0 then
  j_9
  else
  b1 (f6_has x2_3 x4_6) fun r_16 =>
  (if r_16 = 0 then
  bnd (x2_3 ||| (1 <<< (x4_6 &&& 31))) fun x2_17 =>
  bnd (x3_4 + 1) fun x3_18 =>
  L6_columns_57 x1 k n x2_17 x3_18 σ_5
  else
  j_9))))
def L6_columns_146 (σ : St) (x1 : Int32) (x3 : Int32) (x4 : Int32) (k : Int32 → Option (Int32 × St)) : Nat → Int32 → Int32 → Option (Int32 × St)
  | 0, _, _ => none
  | n + 1, x5_29, x6_30 => (if (σ.1 0 4) ≤ x6_30 then
  k x5_29
  else
  jn (fun (y_32 : Int32) =>
  bnd (x6_30 + 1) fun x6_36 =>
  L6_columns_146 σ x1 x3 x4 k n y_32 x6_36) fun j_33 =>
  jn (j_33 0) fun j_37 =>
  (if x5_29 = 0 then
  j_37
  else
  gi x6_30 25 (
  gi ((40 * x1) + x6_30) 240 (
  (if (σ.1 7 x6_30.toNatClampNeg) = (σ.1 2 ((40 * x1) + x6_30).toNatClampNeg) then
  j_33 1
  else
  j_37)))))
def L6_columns_120 (x1 : Int32) (k : Int32 → St → Option (Int32 × St)) : Nat → Int32 → Int32 → St → Option (Int32 × St)
  | 0, _, _, _ => none
  | n + 1, x3_21, x4_22, σ_23 => (if 3 ≤ x4_22 then
  k x3_21 σ_23
  else
  b1 (f6_laysAside σ_23) fun σ_26 =>
  b1 (f6_passes σ_26 7 x4_22) fun σ_28 =>
  L6_columns_146 σ_28 x1 x3_21 x4_22 (fun (x5_40 : Int32) =>
  jn (fun (y_41 : Int32) =>
  bnd (x3_21 ||| y_41) fun x3_45 =>
  bnd (x4_22 + 1) fun x4_46 =>
  L6_columns_120 x1 k n x3_45 x4_46 σ_28) fun j_42 =>
  (if x5_40 = 0 then
  j_42 0
  else
  j_42 (1 <<< (x4_22 &&& 31)))) FU 1 0)
def f6_columns (σ : St) (x1 : Int32) : Option (Int32 × St) := b1 (f6_isRow x1) fun r_2 =>
  (if r_2 = 0 then
  some ((-1), σ)
  else
  (if (σ.1 0 4) = 0 then
  some ((-4), σ)
  else
  gi x1 6 (
  (if 0 ≤ (σ.1 1 x1.toNatClampNeg) then
  gi x1 6 (
  (if (σ.1 1 x1.toNatClampNeg) = (σ.1 0 4) then
  L6_columns_57 x1 (fun (σ_20 : St) =>
  L6_columns_120 x1 (fun (x3_48 : Int32) (σ_49 : St) =>
  some (x3_48, σ_49)) FU 0 0 σ_20) FU 0 0 σ
  else
  b2 (f6_found σ 5) fun r_51 σ_52 =>
  some (r_51, σ_52)))
  else
  b2 (f6_found σ 1) fun r_54 σ_55 =>
  some (r_54, σ_55)))))
def L6_comesSo_6 (σ : St) (x1 : Int32) (x2 : Int32) (x3 : Int32) (k : Int32 → Option (Int32)) : Nat → Int32 → Int32 → Option (Int32)
  | 0, _, _ => none
  | n + 1, x4_1, x5_2 => gi x3 6 (
  (if (σ.1 1 x3.toNatClampNeg) ≤ x5_2 then
  k x4_1
  else
  jn (fun (y_4 : Int32) =>
  bnd (x5_2 + 2) fun x5_8 =>
  L6_comesSo_6 σ x1 x2 x3 k n y_4 x5_8) fun j_5 =>
  jn (j_5 0) fun j_9 =>
  (if x4_1 = 0 then
  j_9
  else
  gi ((40 * x3) + x5_2) 240 (
  b1 (f6_readsBy σ 7 (6 + (3 * x1)) x2 (σ.1 2 ((40 * x3) + x5_2).toNatClampNeg) (σ.1 6 24)) fun r_13 =>
  gi (((40 * x3) + x5_2) + 1) 240 (
  (if r_13 = (σ.1 2 (((40 * x3) + x5_2) + 1).toNatClampNeg) then
  j_5 1
  else
  j_9))))))
def f6_comesSo (σ : St) (x1 : Int32) (x2 : Int32) (x3 : Int32) : Option (Int32) := L6_comesSo_6 σ x1 x2 x3 (fun (x4_14 : Int32) =>
  bz x4_14 (some x4_14)) FU 1 0
def L6_comesTo_6 (σ : St) (x1 : Int32) (x2 : Int32) (x3 : Int32) (k : Int32 → Option (Int32)) : Nat → Int32 → Int32 → Option (Int32)
  | 0, _, _ => none
  | n + 1, x4_1, x5_2 => (if (σ.1 0 4) ≤ x5_2 then
  k x4_1
  else
  b1 (f6_has x1 x5_2) fun r_5 =>
  jn (fun (y_6 : Int32) =>
  bnd (x4_1 + y_6) fun x4_10 =>
  bnd (x5_2 + 1) fun x5_11 =>
  L6_comesTo_6 σ x1 x2 x3 k n x4_10 x5_11) fun j_7 =>
  (if r_5 = 0 then
  j_7 0
  else
  gi ((6 + (3 * x5_2)) + x2) 25 (
  j_7 (σ.1 6 ((6 + (3 * x5_2)) + x2).toNatClampNeg))))
def f6_comesTo (σ : St) (x1 : Int32) (x2 : Int32) (x3 : Int32) : Option (Int32) := L6_comesTo_6 σ x1 x2 x3 (fun (x4_12 : Int32) =>
  (if x4_12 = x3 then
  some 1
  else
  some 0)) FU 0 0
def L6_copy_104 (x1 : Int32) (x2 : Int32) (x3 : Int32) (x4 : Int32) (x5 : Int32) (k : St → Option (Int32 × St)) : Nat → Int32 → St → Option (Int32 × St)
  | 0, _, _ => none
  | n + 1, x6_17, σ_18 => (if x5 ≤ x6_17 then
  k σ_18
  else
  jn (fun (y_19 : Int32) =>
  gi (((40 * x1) + x2) + y_19) 240 (
  gi (((40 * x3) + x4) + y_19) 240 (bnd (wI σ_18 2 (((40 * x3) + x4) + y_19).toNatClampNeg (σ_18.1 2 (((40 * x1) + x2) + y_19).toNatClampNeg)) fun σ_23 =>
  bnd (x6_17 + 1) fun x6_24 =>
  L6_copy_104 x1 x2 x3 x4 x5 k n x6_24 σ_23))) fun j_20 =>
  (if x4 ≤ x2 then
  j_20 x6_17
  else
  j_20 ((x5 - 1) - x6_17)))
def f6_copy (σ : St) (x1 : Int32) (x2 : Int32) (x3 : Int32) (x4 : Int32) (x5 : Int32) : Option (Int32 × St) := b1 (f6_isRow x1) fun r_2 =>
  (if r_2 = 0 then
  some ((-1), σ)
  else
  b1 (f6_isRow x3) fun r_4 =>
  (if r_4 = 0 then
  some ((-1), σ)
  else
  (if 0 ≤ x5 then
  gi x1 6 (
  jn (b2 (f6_found σ 1) fun r_9 σ_10 =>
  some (r_9, σ_10)) fun j_5 =>
  (if (σ.1 1 x1.toNatClampNeg) < 0 then
  j_5
  else
  gi x3 6 (
  (if 0 ≤ (σ.1 1 x3.toNatClampNeg) then
  jn (b2 (f6_found σ 2) fun r_15 σ_16 =>
  some (r_15, σ_16)) fun j_11 =>
  (if x2 < 0 then
  j_11
  else
  (if x4 < 0 then
  j_11
  else
  gi x1 6 (
  (if ((σ.1 1 x1.toNatClampNeg).toInt64) < ((x2.toInt64) + (x5.toInt64)) then
  j_11
  else
  gi x3 6 (
  (if ((x4.toInt64) + (x5.toInt64)) ≤ ((σ.1 1 x3.toNatClampNeg).toInt64) then
  L6_copy_104 x1 x2 x3 x4 x5 (fun (σ_26 : St) =>
  some (1, σ_26)) FU 0 σ
  else
  j_11))))))
  else
  j_5))))
  else
  b2 (f6_found σ 5) fun r_28 σ_29 =>
  some (r_28, σ_29))))
def L6_figuresAll_4 (σ : St) (k : Int32 → Option (Int32)) : Nat → Int32 → Int32 → Option (Int32)
  | 0, _, _ => none
  | n + 1, x1_1, x2_2 => (if (3 * (σ.1 0 4)) ≤ x2_2 then
  k x1_1
  else
  gi (6 + x2_2) 25 (
  bnd (x1_1 + (σ.1 6 (6 + x2_2).toNatClampNeg)) fun x1_4 =>
  bnd (x2_2 + 1) fun x2_5 =>
  L6_figuresAll_4 σ k n x1_4 x2_5))
def f6_figuresAll (σ : St)  : Option (Int32) := L6_figuresAll_4 σ (fun (x1_6 : Int32) =>
  some x1_6) FU 0 0
def L6_of_5 (σ : St) (x1 : Int32) (x2 : Int32) (k : Int32 → Option (Int32)) : Nat → Int32 → Int32 → Option (Int32)
  | 0, _, _ => none
  | n + 1, x3_1, x4_2 => (if (σ.1 0 4) ≤ x4_2 then
  k x3_1
  else
  gi x4_2 6 (
  jn (fun (y_4 : Int32) =>
  bnd (x3_1 + y_4) fun x3_8 =>
  bnd (x4_2 + 1) fun x4_9 =>
  L6_of_5 σ x1 x2 k n x3_8 x4_9) fun j_5 =>
  jn (j_5 1) fun j_10 =>
  (if (σ.1 5 x4_2.toNatClampNeg) = x1 then
  j_10
  else
  gi x4_2 6 (
  (if (σ.1 5 x4_2.toNatClampNeg) = x2 then
  j_10
  else
  j_5 0)))))
def f6_of (σ : St) (x1 : Int32) (x2 : Int32) : Option (Int32) := L6_of_5 σ x1 x2 (fun (x3_13 : Int32) =>
  some x3_13) FU 0 0
def L6_there_4 (σ : St) (a0 : Nat) (x1 : Int32) (k : Int32 → Option (Int32)) : Nat → Int32 → Int32 → Option (Int32)
  | 0, _, _ => none
  | n + 1, x2_1, x3_2 => (if x1 ≤ x3_2 then
  k x2_1
  else
  gi x3_2 (lnM a0) (
  jn (fun (y_4 : Int32) =>
  bnd (x2_1 + y_4) fun x2_8 =>
  bnd (x3_2 + 1) fun x3_9 =>
  L6_there_4 σ a0 x1 k n x2_8 x3_9) fun j_5 =>
  (if 0 ≤ (σ.1 a0 x3_2.toNatClampNeg) then
  j_5 1
  else
  j_5 0)))
def f6_there (σ : St) (a0 : Nat) (x1 : Int32) : Option (Int32) := L6_there_4 σ a0 x1 (fun (x2_10 : Int32) =>
  some x2_10) FU 0 0
def f6_count (σ : St) (x1 : Int32) : Option (Int32) := (if x1 = 0 then
  some (σ.1 0 4)
  else
  if x1 = 1 then
  some (σ.1 6 24)
  else
  if x1 = 2 then
  some (σ.1 0 9)
  else
  if x1 = 3 then
  (if (σ.1 0 4) = 0 then
  some ((-9))
  else
  some (σ.1 6 0))
  else
  if x1 = 4 then
  b1 (f6_figuresAll σ) fun r_12 =>
  some r_12
  else
  if x1 = 5 then
  b1 (f6_of σ 2 4) fun r_14 =>
  some r_14
  else
  if x1 = 6 then
  b1 (f6_of σ 3 5) fun r_16 =>
  some r_16
  else
  if x1 = 7 then
  b1 (f6_there σ 1 6) fun r_18 =>
  some r_18
  else
  if x1 = 8 then
  b1 (f6_there σ 3 4) fun r_20 =>
  some r_20
  else
  if x1 = 9 then
  jn (fun (y_21 : Int32) =>
  jn (fun (y_25 : Int32) =>
  (if (σ.1 10 2) = 0 then
  some ((y_21 + y_25) + 0)
  else
  some ((y_21 + y_25) + 1))) fun j_26 =>
  (if (σ.1 10 1) = 0 then
  j_26 0
  else
  j_26 1)) fun j_22 =>
  (if (σ.1 10 0) = 0 then
  j_22 0
  else
  j_22 1)
  else
  some ((-1)))
def f6_isText (x0 : Int32) : Option (Int32) := b1 (f6_in (x0.toInt64) 0 3) fun r_2 =>
  bz r_2 (some r_2)
def f6_kindOf (x0 : Int32) : Option (Int32) := (if x0 = 99 then
  some 0
  else
  if x0 = 100 then
  some 3
  else
  if x0 = 109 then
  some 5
  else
  if x0 = 116 then
  some 4
  else
  if x0 = 119 then
  some 2
  else
  if x0 = 120 then
  some 1
  else
  some ((-9)))
def L6_reads_77 (x1 : Int32) (x2 : Int32) (k : Int32 → St → Option (Int32 × St)) : Nat → Int32 → Int32 → St → Option (Int32 × St)
  | 0, _, _, _ => none
  | n + 1, x3_17, x5_18, σ_19 => (if 3 ≤ x5_18 then
  k x3_17 σ_19
  else
  bnd (x3_17 + 1) fun x3_21 =>
  (if x3_21 = x2 then
  some (x3_21, σ_19)
  else
  gi ((60 * x1) + x3_21) 240 (
  b1 (f6_in ((σ_19.1 4 ((60 * x1) + x3_21).toNatClampNeg).toInt64) 48 57) fun r_23 =>
  (if r_23 = 0 then
  some (x3_21, σ_19)
  else
  gi ((60 * x1) + x3_21) 240 (
  gi ((3 * (σ_19.1 0 17)) + x5_18) 18 (bnd (wI σ_19 13 ((3 * (σ_19.1 0 17)) + x5_18).toNatClampNeg ((σ_19.1 4 ((60 * x1) + x3_21).toNatClampNeg) - 48)) fun σ_24 =>
  bnd (x5_18 + 1) fun x5_25 =>
  L6_reads_77 x1 x2 k n x3_21 x5_25 σ_24))))))
def L6_reads_14 (x1 : Int32) (x2 : Int32) (k : St → Option (Int32 × St)) : Nat → Int32 → St → Option (Int32 × St)
  | 0, _, _ => none
  | n + 1, x3_3, σ_4 => (if x2 ≤ x3_3 then
  k σ_4
  else
  gi ((60 * x1) + x3_3) 240 (
  bnd (σ_4.1 4 ((60 * x1) + x3_3).toNatClampNeg) fun x4_5 =>
  jn (fun (x3_6 : Int32) (σ_7 : St) =>
  bnd (x3_6 + 1) fun x3_11 =>
  L6_reads_14 x1 x2 k n x3_11 σ_7) fun j_8 =>
  (if x4_5 = 32 then
  j_8 x3_3 σ_4
  else
  (if (σ_4.1 0 17) = 6 then
  some (x3_3, σ_4)
  else
  b1 (f6_kindOf x4_5) fun r_13 =>
  (if r_13 = ((-9)) then
  some (x3_3, σ_4)
  else
  b1 (f6_kindOf x4_5) fun r_15 =>
  gi (σ_4.1 0 17) 6 (bnd (wI σ_4 12 (σ_4.1 0 17).toNatClampNeg r_15) fun σ_16 =>
  L6_reads_77 x1 x2 (fun (x3_27 : Int32) (σ_28 : St) =>
  bnd (wI σ_28 0 17 ((σ_28.1 0 17) + 1)) fun σ_29 =>
  j_8 x3_27 σ_29) FU x3_3 0 σ_16))))))
def f6_reads (σ : St) (x1 : Int32) : Option (Int32 × St) := gi x1 4 (
  bnd (σ.1 3 x1.toNatClampNeg) fun x2_1 =>
  bnd (wI σ 0 17 0) fun σ_2 =>
  L6_reads_14 x1 x2_1 (fun (σ_31 : St) =>
  (if 2 ≤ (σ_31.1 0 17) then
  some ((-9), σ_31)
  else
  some (x2_1, σ_31))) FU 0 σ_2)
def L6_deck_62 (k : St → Option (Int32 × St)) : Nat → Int32 → St → Option (Int32 × St)
  | 0, _, _ => none
  | n + 1, x2_9, σ_10 => (if 6 ≤ x2_9 then
  k σ_10
  else
  gi x2_9 25 (bnd (wI σ_10 6 x2_9.toNatClampNeg x2_9) fun σ_11 =>
  bnd (x2_9 + 1) fun x2_12 =>
  L6_deck_62 k n x2_12 σ_11))
def L6_deck_112 (k : St → Option (Int32 × St)) : Nat → Int32 → St → Option (Int32 × St)
  | 0, _, _ => none
  | n + 1, x2_19, σ_20 => (if 3 ≤ x2_19 then
  k σ_20
  else
  gi x2_19 3 (bnd (wI σ_20 10 x2_19.toNatClampNeg 0) fun σ_21 =>
  bnd (x2_19 + 1) fun x2_22 =>
  L6_deck_112 k n x2_22 σ_21))
def f6_deck (σ : St) (x1 : Int32) : Option (Int32 × St) := b1 (f6_isText x1) fun r_2 =>
  (if r_2 = 0 then
  some ((-1), σ)
  else
  gi x1 4 (
  (if 0 ≤ (σ.1 3 x1.toNatClampNeg) then
  b2 (f6_reads σ x1) fun r_4 σ_5 =>
  (if r_4 = ((-9)) then
  bnd (wI σ_5 0 4 (σ_5.1 0 17)) fun σ_6 =>
  b1 (f6_copies σ_6 12 0 5 0 6) fun σ_8 =>
  L6_deck_62 (fun (σ_14 : St) =>
  b1 (f6_copies σ_14 13 0 6 6 18) fun σ_16 =>
  bnd (wI σ_16 6 24 0) fun σ_17 =>
  bnd (wI σ_17 0 9 0) fun σ_18 =>
  L6_deck_112 (fun (σ_24 : St) =>
  some (σ_24.1 0 4, σ_24)) FU 0 σ_18) FU 0 σ_8
  else
  some ((-4), σ_5))
  else
  b2 (f6_found σ 1) fun r_26 σ_27 =>
  some (r_26, σ_27))))
def L6_digest_6 (σ : St) (k : Int64 → Option (Int64)) : Nat → Int64 → Int32 → Option (Int64)
  | 0, _, _ => none
  | n + 1, x1_1, x3_2 => (if 10 ≤ x3_2 then
  k x1_1
  else
  b1 (f6_count σ x3_2) fun r_5 =>
  bnd ((31 * x1_1) + (r_5.toInt64)) fun x1_6 =>
  bnd (x3_2 + 1) fun x3_7 =>
  L6_digest_6 σ k n x1_6 x3_7)
def L6_digest_58 (σ : St) (x3 : Int32) (k : Int64 → Option (Int64)) : Nat → Int64 → Int32 → Option (Int64)
  | 0, _, _ => none
  | n + 1, x1_13, x4_14 => (if 3 ≤ x4_14 then
  k x1_13
  else
  gi ((6 + (3 * x3)) + x4_14) 25 (
  bnd ((31 * x1_13) + ((σ.1 6 ((6 + (3 * x3)) + x4_14).toNatClampNeg).toInt64)) fun x1_16 =>
  bnd (x4_14 + 1) fun x4_17 =>
  L6_digest_58 σ x3 k n x1_16 x4_17))
def L6_digest_111 (σ : St) (x3 : Int32) (k : Int64 → Option (Int64)) : Nat → Int64 → Int32 → Option (Int64)
  | 0, _, _ => none
  | n + 1, x1_22, x4_23 => (if 3 ≤ x4_23 then
  k x1_22
  else
  b1 (f6_readOn σ 6 x3 x4_23) fun r_26 =>
  bnd ((31 * x1_22) + (r_26.toInt64)) fun x1_27 =>
  bnd (x4_23 + 1) fun x4_28 =>
  L6_digest_111 σ x3 k n x1_27 x4_28)
def L6_digest_33 (σ : St) (k : Int64 → Option (Int64)) : Nat → Int64 → Int32 → Option (Int64)
  | 0, _, _ => none
  | n + 1, x1_9, x3_10 => (if (σ.1 0 4) ≤ x3_10 then
  k x1_9
  else
  gi x3_10 6 (
  bnd ((31 * x1_9) + ((σ.1 5 x3_10.toNatClampNeg).toInt64)) fun x1_12 =>
  L6_digest_58 σ x3_10 (fun (x1_18 : Int64) =>
  b1 (f6_placeOf σ 6 x3_10) fun r_20 =>
  bnd ((31 * x1_18) + (r_20.toInt64)) fun x1_21 =>
  L6_digest_111 σ x3_10 (fun (x1_29 : Int64) =>
  bnd (x3_10 + 1) fun x3_30 =>
  L6_digest_33 σ k n x1_29 x3_30) FU x1_21 0) FU x1_12 0))
def L6_digest_150 (σ : St) (k : Int64 → Option (Int64)) : Nat → Int64 → Int32 → Option (Int64)
  | 0, _, _ => none
  | n + 1, x1_32, x3_33 => (if 3 ≤ x3_33 then
  k x1_32
  else
  gi x3_33 3 (
  jn (fun (y_35 : Int32) =>
  bnd ((31 * x1_32) + (y_35.toInt64)) fun x1_39 =>
  bnd (x3_33 + 1) fun x3_40 =>
  L6_digest_150 σ k n x1_39 x3_40) fun j_36 =>
  (if (σ.1 10 x3_33.toNatClampNeg) = 0 then
  j_36 ((-1))
  else
  gi ((1026 * x3_33) + 25) 3078 (
  j_36 (σ.1 9 ((1026 * x3_33) + 25).toNatClampNeg)))))
def L6_digest_220 (σ : St) (x3 : Int32) (k : Int64 → Option (Int64)) : Nat → Int64 → Int32 → Option (Int64)
  | 0, _, _ => none
  | n + 1, x1_46, x4_47 => gi x3 6 (
  (if (σ.1 1 x3.toNatClampNeg) ≤ x4_47 then
  k x1_46
  else
  gi ((40 * x3) + x4_47) 240 (
  bnd ((31 * x1_46) + ((σ.1 2 ((40 * x3) + x4_47).toNatClampNeg).toInt64)) fun x1_49 =>
  bnd (x4_47 + 1) fun x4_50 =>
  L6_digest_220 σ x3 k n x1_49 x4_50)))
def L6_digest_197 (σ : St) (k : Int64 → Option (Int64)) : Nat → Int64 → Int32 → Option (Int64)
  | 0, _, _ => none
  | n + 1, x1_42, x3_43 => (if 6 ≤ x3_43 then
  k x1_42
  else
  gi x3_43 6 (
  bnd ((31 * x1_42) + ((σ.1 1 x3_43.toNatClampNeg).toInt64)) fun x1_45 =>
  L6_digest_220 σ x3_43 (fun (x1_51 : Int64) =>
  bnd (x3_43 + 1) fun x3_52 =>
  L6_digest_197 σ k n x1_51 x3_52) FU x1_45 0))
def L6_digest_287 (σ : St) (x3 : Int32) (k : Int64 → Option (Int64)) : Nat → Int64 → Int32 → Option (Int64)
  | 0, _, _ => none
  | n + 1, x1_58, x4_59 => gi x3 4 (
  (if (σ.1 3 x3.toNatClampNeg) ≤ x4_59 then
  k x1_58
  else
  gi ((60 * x3) + x4_59) 240 (
  bnd ((31 * x1_58) + ((σ.1 4 ((60 * x3) + x4_59).toNatClampNeg).toInt64)) fun x1_61 =>
  bnd (x4_59 + 1) fun x4_62 =>
  L6_digest_287 σ x3 k n x1_61 x4_62)))
def L6_digest_265 (σ : St) (k : Int64 → Option (Int64)) : Nat → Int64 → Int32 → Option (Int64)
  | 0, _, _ => none
  | n + 1, x1_54, x3_55 => (if 4 ≤ x3_55 then
  k x1_54
  else
  gi x3_55 4 (
  bnd ((31 * x1_54) + ((σ.1 3 x3_55.toNatClampNeg).toInt64)) fun x1_57 =>
  L6_digest_287 σ x3_55 (fun (x1_63 : Int64) =>
  bnd (x3_55 + 1) fun x3_64 =>
  L6_digest_265 σ k n x1_63 x3_64) FU x1_57 0))
def f6_digest (σ : St)  : Option (Int64) := L6_digest_6 σ (fun (x1_8 : Int64) =>
  L6_digest_33 σ (fun (x1_31 : Int64) =>
  L6_digest_150 σ (fun (x1_41 : Int64) =>
  L6_digest_197 σ (fun (x1_53 : Int64) =>
  L6_digest_265 σ (fun (x1_65 : Int64) =>
  some x1_65) FU x1_53 0) FU x1_41 0) FU x1_31 0) FU x1_8 0) FU 17 0
def L6_leadBy_10 (x1 : Int32) (x2 : Int32) (x4 : Int32) (k : St → Option (Int32 × St)) : Nat → Int32 → Int32 → St → Option (Int32 × St)
  | 0, _, _, _ => none
  | n + 1, x5_3, x6_4, σ_5 => (if x4 ≤ x6_4 then
  k σ_5
  else
  jn (fun (σ_6 : St) =>
  bnd (x5_3 / 4) fun x5_10 =>
  bnd (x6_4 + 1) fun x6_11 =>
  L6_leadBy_10 x1 x2 x4 k n x5_10 x6_11 σ_6) fun j_7 =>
  (if 3 ≤ (x5_3 - x5_3 / 4 * 4) then
  j_7 σ_5
  else
  b1 (f6_passes σ_5 7 (x5_3 - x5_3 / 4 * 4)) fun σ_13 =>
  j_7 σ_13))
def f6_leadBy (σ : St) (x1 : Int32) (x2 : Int32) (x3 : Int32) (x4 : Int32) : Option (Int32 × St) := b1 (f6_laysAside σ) fun σ_2 =>
  L6_leadBy_10 x1 x2 x4 (fun (σ_15 : St) =>
  b1 (f6_placeOf σ_15 7 x2) fun r_17 =>
  b1 (f6_placeOf σ_15 7 x1) fun r_19 =>
  some (r_17 - r_19, σ_15)) FU x3 0 σ_2
def L6_duel_41 (σ : St) (x1 : Int32) (x2 : Int32) (x3 : Int32) (k : Int32 → Option (Int32 × St)) : Nat → Int32 → Int32 → Option (Int32 × St)
  | 0, _, _ => none
  | n + 1, x4_7, x5_8 => (if (2 * x3) ≤ x5_8 then
  k x4_7
  else
  bnd (x4_7 * 4) fun x4_10 =>
  bnd (x5_8 + 1) fun x5_11 =>
  L6_duel_41 σ x1 x2 x3 k n x4_10 x5_11)
def L6_duel_64 (x1 : Int32) (x2 : Int32) (x3 : Int32) (x4 : Int32) (k : St → Option (Int32 × St)) : Nat → Int32 → St → Option (Int32 × St)
  | 0, _, _ => none
  | n + 1, x5_13, σ_14 => (if x4 ≤ x5_13 then
  k σ_14
  else
  b2 (f6_leadBy σ_14 x1 x2 x5_13 (2 * x3)) fun r_16 σ_17 =>
  gi x5_13 4096 (bnd (wI σ_17 15 x5_13.toNatClampNeg r_16) fun σ_18 =>
  bnd (x5_13 + 1) fun x5_19 =>
  L6_duel_64 x1 x2 x3 x4 k n x5_19 σ_18))
def L6_duel_132 (σ : St) (x4 : Int32) (x5 : Int32) (x6 : Int32) (k : Int32 → Option (Int32 × St)) : Nat → Int32 → Int32 → Option (Int32 × St)
  | 0, _, _ => none
  | n + 1, x7_29, x8_30 => (if 4 ≤ x8_30 then
  k x7_29
  else
  gi (x6 + (x4 * x8_30)) 4096 (
  bnd (σ.1 15 (x6 + (x4 * x8_30)).toNatClampNeg) fun x9_32 =>
  jn (fun (y_33 : Int32) =>
  jn (fun (y_37 : Int32) =>
  bnd (x8_30 + 1) fun x8_41 =>
  L6_duel_132 σ x4 x5 x6 k n y_37 x8_41) fun j_38 =>
  (if y_33 = x5 then
  j_38 x7_29
  else
  j_38 x9_32)) fun j_34 =>
  (if x9_32 ≤ x7_29 then
  j_34 0
  else
  j_34 1)))
def L6_duel_113 (x4 : Int32) (x5 : Int32) (k : St → Option (Int32 × St)) : Nat → Int32 → St → Option (Int32 × St)
  | 0, _, _ => none
  | n + 1, x6_26, σ_27 => (if x4 ≤ x6_26 then
  k σ_27
  else
  gi x6_26 4096 (
  bnd (σ_27.1 15 x6_26.toNatClampNeg) fun x7_28 =>
  L6_duel_132 σ_27 x4 x5 x6_26 (fun (x7_42 : Int32) =>
  gi x6_26 4096 (bnd (wI σ_27 15 x6_26.toNatClampNeg x7_42) fun σ_43 =>
  bnd (x6_26 + 1) fun x6_44 =>
  L6_duel_113 x4 x5 k n x6_44 σ_43)) FU x7_28 1))
def L6_duel_98 (k : St → Option (Int32 × St)) : Nat → Int32 → Int32 → St → Option (Int32 × St)
  | 0, _, _, _ => none
  | n + 1, x4_22, x5_23, σ_24 => (if x4_22 ≤ 1 then
  k σ_24
  else
  bnd (x4_22 / 4) fun x4_25 =>
  L6_duel_113 x4_25 x5_23 (fun (σ_46 : St) =>
  jn (fun (y_47 : Int32) =>
  L6_duel_98 k n x4_25 y_47 σ_46) fun j_48 =>
  (if x5_23 = 0 then
  j_48 1
  else
  j_48 0)) FU 0 σ_24)
def f6_duel (σ : St) (x1 : Int32) (x2 : Int32) (x3 : Int32) : Option (Int32 × St) := b1 (f6_isCard σ x1) fun r_2 =>
  (if r_2 = 0 then
  some ((-1), σ)
  else
  b1 (f6_isCard σ x2) fun r_4 =>
  (if r_4 = 0 then
  some ((-1), σ)
  else
  (if x1 = x2 then
  some ((-1), σ)
  else
  b1 (f6_in (x3.toInt64) 0 3) fun r_6 =>
  (if r_6 = 0 then
  some ((-1), σ)
  else
  L6_duel_41 σ x1 x2 x3 (fun (x4_12 : Int32) =>
  L6_duel_64 x1 x2 x3 x4_12 (fun (σ_21 : St) =>
  L6_duel_98 (fun (σ_52 : St) =>
  b2 (f6_tell σ_52 (σ_52.1 15 0)) fun r_54 σ_55 =>
  some (r_54, σ_55)) FU x4_12 1 σ_21) FU 0 σ) FU 1 0))))
def f6_fault (σ : St) (x1 : Int32) : Option (Int32 × St) := b1 (f6_isText x1) fun r_2 =>
  (if r_2 = 0 then
  some ((-1), σ)
  else
  gi x1 4 (
  (if 0 ≤ (σ.1 3 x1.toNatClampNeg) then
  b2 (f6_reads σ x1) fun r_4 σ_5 =>
  some (r_4, σ_5)
  else
  b2 (f6_found σ 1) fun r_7 σ_8 =>
  some (r_7, σ_8))))
def L6_isOrdered_5 (σ : St) (a1 : Nat) (x2 : Int32) (k : Int32 → Option (Int32)) : Nat → Int32 → Int32 → Option (Int32)
  | 0, _, _ => none
  | n + 1, x3_1, x4_2 => (if (σ.1 0 4) ≤ x4_2 then
  k x3_1
  else
  jn (fun (y_4 : Int32) =>
  bnd (x4_2 + 1) fun x4_8 =>
  L6_isOrdered_5 σ a1 x2 k n y_4 x4_8) fun j_5 =>
  jn (j_5 0) fun j_9 =>
  (if x3_1 = 0 then
  j_9
  else
  gi (x4_2 - 1) (lnM a1) (
  b1 (f6_readOn σ a1 (σ.1 a1 (x4_2 - 1).toNatClampNeg) x2) fun r_13 =>
  gi x4_2 (lnM a1) (
  b1 (f6_readOn σ a1 (σ.1 a1 x4_2.toNatClampNeg) x2) fun r_15 =>
  (if r_15 < r_13 then
  j_9
  else
  j_5 1)))))
def f6_isOrdered (σ : St) (a1 : Nat) (x2 : Int32) : Option (Int32) := L6_isOrdered_5 σ a1 x2 (fun (x3_16 : Int32) =>
  bz x3_16 (some x3_16)) FU 1 1
def L6_lays_9 (x1 : Int32) (k : St → Option (St)) : Nat → Int32 → St → Option (St)
  | 0, _, _ => none
  | n + 1, x3_2, σ_3 => (if 40 ≤ x3_2 then
  k σ_3
  else
  gi ((40 * x1) + x3_2) 240 (bnd (wI σ_3 2 ((40 * x1) + x3_2).toNatClampNeg 0) fun σ_4 =>
  bnd (x3_2 + 1) fun x3_5 =>
  L6_lays_9 x1 k n x3_5 σ_4))
def f6_lays (σ : St) (x1 : Int32) (x2 : Int32) : Option (St) := gi x1 6 (bnd (wI σ 1 x1.toNatClampNeg x2) fun σ_1 =>
  L6_lays_9 x1 (fun (σ_7 : St) =>
  some σ_7) FU 0 σ_1)
def L6_firstRow_33 (x1 : Int32) (x2 : Int32) (x3 : Int32) (x4 : Int32) (x5 : Int32) (x6 : Int32) (k : St → Option (Int32 × St)) : Nat → Int32 → St → Option (Int32 × St)
  | 0, _, _ => none
  | n + 1, x7_9, σ_10 => (if x7_9 ≤ 0 then
  k σ_10
  else
  nz x7_9 (
  b1 (f6_passes σ_10 7 ((x6 / x7_9) - (x6 / x7_9) / 3 * 3)) fun σ_12 =>
  bnd (x7_9 / 3) fun x7_13 =>
  L6_firstRow_33 x1 x2 x3 x4 x5 x6 k n x7_13 σ_12))
def L6_firstRow_110 (x3 : Int32) (x5 : Int32) (k : St → Option (Int32 × St)) : Nat → Int32 → Int32 → St → Option (Int32 × St)
  | 0, _, _, _ => none
  | n + 1, x7_26, x8_27, σ_28 => (if x8_27 < 0 then
  k σ_28
  else
  gi ((40 * x3) + x8_27) 240 (bnd (wI σ_28 2 ((40 * x3) + x8_27).toNatClampNeg (x7_26 - x7_26 / 3 * 3)) fun σ_29 =>
  bnd (x7_26 / 3) fun x7_30 =>
  bnd (x8_27 + (-1)) fun x8_31 =>
  L6_firstRow_110 x3 x5 k n x7_30 x8_31 σ_29))
def L6_firstRow_16 (x1 : Int32) (x2 : Int32) (x3 : Int32) (x4 : Int32) (x5 : Int32) (k : St → Option (Int32 × St)) : Nat → Int32 → St → Option (Int32 × St)
  | 0, _, _ => none
  | n + 1, x6_4, σ_5 => (if x4 ≤ x6_4 then
  k σ_5
  else
  b1 (f6_laysAside σ_5) fun σ_7 =>
  bnd (x4 / 3) fun x7_8 =>
  L6_firstRow_33 x1 x2 x3 x4 x5 x6_4 (fun (σ_15 : St) =>
  jn (bnd (x6_4 + 1) fun x6_19 =>
  L6_firstRow_16 x1 x2 x3 x4 x5 k n x6_19 σ_15) fun j_16 =>
  jn (b1 (f6_lays σ_15 x3 x5) fun σ_24 =>
  bnd (x5 - 1) fun x8_25 =>
  L6_firstRow_110 x3 x5 (fun (σ_33 : St) =>
  some (x5, σ_33)) FU x6_4 x8_25 σ_24) fun j_20 =>
  (if x1 = ((-9)) then
  b1 (f6_isOrdered σ_15 7 x2) fun r_35 =>
  (if r_35 = 0 then
  j_16
  else
  j_20)
  else
  gi x2 25 (
  (if (σ_15.1 7 x2.toNatClampNeg) = x1 then
  j_20
  else
  j_16)))) FU x7_8 σ_7)
def L6_firstRow_6 (x1 : Int32) (x2 : Int32) (x3 : Int32) (k : St → Option (Int32 × St)) : Nat → Int32 → Int32 → St → Option (Int32 × St)
  | 0, _, _, _ => none
  | n + 1, x4_1, x5_2, σ_3 => (if 6 ≤ x5_2 then
  k σ_3
  else
  L6_firstRow_16 x1 x2 x3 x4_1 x5_2 (fun (σ_37 : St) =>
  bnd (x4_1 * 3) fun x4_38 =>
  bnd (x5_2 + 1) fun x5_39 =>
  L6_firstRow_6 x1 x2 x3 k n x4_38 x5_39 σ_37) FU 0 σ_3)
def f6_firstRow (σ : St) (x1 : Int32) (x2 : Int32) (x3 : Int32) : Option (Int32 × St) := L6_firstRow_6 x1 x2 x3 (fun (σ_41 : St) =>
  some ((-9), σ_41)) FU 1 0 σ
def f6_fewest (σ : St) (x1 : Int32) (x2 : Int32) (x3 : Int32) : Option (Int32 × St) := b1 (f6_isCard σ x1) fun r_2 =>
  (if r_2 = 0 then
  some ((-1), σ)
  else
  b1 (f6_in (x2.toInt64) 0 (((σ.1 0 4) - 1).toInt64)) fun r_4 =>
  (if r_4 = 0 then
  some ((-1), σ)
  else
  b1 (f6_isRow x3) fun r_6 =>
  (if r_6 = 0 then
  some ((-1), σ)
  else
  b2 (f6_firstRow σ x1 x2 x3) fun r_8 σ_9 =>
  some (r_8, σ_9))))
def L6_pairs_38 (σ : St) (x1 : Int32) (k : Option (Int32)) : Nat → Int32 → Option (Int32)
  | 0, _ => none
  | n + 1, x2_1 => gi x1 6 (
  (if (σ.1 1 x1.toNatClampNeg) ≤ x2_1 then
  k
  else
  gi ((40 * x1) + x2_1) 240 (
  b1 (f6_isColumn (σ.1 2 ((40 * x1) + x2_1).toNatClampNeg)) fun r_3 =>
  (if r_3 = 0 then
  some 3
  else
  gi (((40 * x1) + x2_1) + 1) 240 (
  b1 (f6_in ((σ.1 2 (((40 * x1) + x2_1) + 1).toNatClampNeg).toInt64) 0 10) fun r_5 =>
  (if r_5 = 0 then
  some 3
  else
  bnd (x2_1 + 2) fun x2_6 =>
  L6_pairs_38 σ x1 k n x2_6))))))
def f6_pairs (σ : St) (x1 : Int32) : Option (Int32) := gi x1 6 (
  (if 0 ≤ (σ.1 1 x1.toNatClampNeg) then
  gi x1 6 (
  (if 16 < (σ.1 1 x1.toNatClampNeg) then
  some 5
  else
  gi x1 6 (
  (if ((σ.1 1 x1.toNatClampNeg) - (σ.1 1 x1.toNatClampNeg) / 2 * 2) = 1 then
  some 5
  else
  L6_pairs_38 σ x1 (some 0) FU 0))))
  else
  some 1))
def L6_figures_53 (x1 : Int32) (x2 : Int32) (x3 : Int32) (k : Int32 → St → Option (Int32 × St)) : Nat → Int32 → Int32 → St → Option (Int32 × St)
  | 0, _, _, _ => none
  | n + 1, x5_11, x6_12, σ_13 => (if 10 ≤ x6_12 then
  k x5_11 σ_13
  else
  gi ((6 + (3 * x1)) + x2) 25 (bnd (wI σ_13 7 ((6 + (3 * x1)) + x2).toNatClampNeg x6_12) fun σ_15 =>
  gi x1 6 (
  b1 (f6_comesSo σ_15 x1 (σ_15.1 5 x1.toNatClampNeg) x3) fun r_17 =>
  jn (fun (y_18 : Int32) =>
  bnd (x5_11 ||| y_18) fun x5_22 =>
  bnd (x6_12 + 1) fun x6_23 =>
  L6_figures_53 x1 x2 x3 k n x5_22 x6_23 σ_15) fun j_19 =>
  (if r_17 = 0 then
  j_19 0
  else
  j_19 (1 <<< (x6_12 &&& 31))))))
def f6_figures (σ : St) (x1 : Int32) (x2 : Int32) (x3 : Int32) : Option (Int32 × St) := b1 (f6_isCard σ x1) fun r_2 =>
  (if r_2 = 0 then
  some ((-1), σ)
  else
  b1 (f6_isColumn x2) fun r_4 =>
  (if r_4 = 0 then
  some ((-1), σ)
  else
  b1 (f6_isRow x3) fun r_6 =>
  (if r_6 = 0 then
  some ((-1), σ)
  else
  b1 (f6_pairs σ x3) fun r_8 =>
  (if r_8 ≤ 0 then
  b1 (f6_laysAside σ) fun σ_10 =>
  L6_figures_53 x1 x2 x3 (fun (x5_25 : Int32) (σ_26 : St) =>
  some (x5_25, σ_26)) FU 0 0 σ_10
  else
  b2 (f6_found σ r_8) fun r_28 σ_29 =>
  some (r_28, σ_29)))))
def f6_finding (σ : St)  : Option (Int32) := some (σ.1 0 15)
def f6_findings (σ : St) (x1 : Int32) : Option (Int32) := b1 (f6_in (x1.toInt64) 1 5) fun r_2 =>
  (if r_2 = 0 then
  some ((-1))
  else
  gi x1 6 (
  some (σ.1 11 x1.toNatClampNeg)))
def f6_isPlace (x0 : Int32) : Option (Int32) := b1 (f6_in (x0.toInt64) 0 2) fun r_2 =>
  bz r_2 (some r_2)
def f6_keep (σ : St) (x1 : Int32) : Option (Int32 × St) := b1 (f6_isPlace x1) fun r_2 =>
  (if r_2 = 0 then
  some ((-1), σ)
  else
  (if (σ.1 0 4) = 0 then
  some ((-4), σ)
  else
  b1 (f6_copies σ 6 0 9 (1026 * x1) 25) fun σ_4 =>
  gi ((1026 * x1) + 25) 3078 (bnd (wI σ_4 9 ((1026 * x1) + 25).toNatClampNeg (σ_4.1 0 9)) fun σ_5 =>
  b1 (f6_copies σ_5 8 0 9 (((1026 * x1) + 25) + 1) 1000) fun σ_7 =>
  gi x1 3 (bnd (wI σ_7 10 x1.toNatClampNeg 1) fun σ_8 =>
  some (σ_8.1 0 9, σ_8)))))
def L6_kindsBy_9 (σ : St) (x1 : Int32) (x2 : Int32) (k : Int32 → Option (Int32 × St)) : Nat → Int32 → Int32 → Option (Int32 × St)
  | 0, _, _ => none
  | n + 1, x3_3, x4_4 => (if 6 ≤ x4_4 then
  k x3_3
  else
  b1 (f6_comesSo σ x1 x4_4 x2) fun r_7 =>
  jn (fun (y_8 : Int32) =>
  bnd (x3_3 ||| y_8) fun x3_12 =>
  bnd (x4_4 + 1) fun x4_13 =>
  L6_kindsBy_9 σ x1 x2 k n x3_12 x4_13) fun j_9 =>
  (if r_7 = 0 then
  j_9 0
  else
  j_9 (1 <<< (x4_4 &&& 31))))
def f6_kindsBy (σ : St) (x1 : Int32) (x2 : Int32) : Option (Int32 × St) := b1 (f6_laysAside σ) fun σ_2 =>
  L6_kindsBy_9 σ_2 x1 x2 (fun (x3_14 : Int32) =>
  some (x3_14, σ_2)) FU 0 0
def f6_kinds (σ : St) (x1 : Int32) (x2 : Int32) : Option (Int32 × St) := b1 (f6_isCard σ x1) fun r_2 =>
  (if r_2 = 0 then
  some ((-1), σ)
  else
  b1 (f6_isRow x2) fun r_4 =>
  (if r_4 = 0 then
  some ((-1), σ)
  else
  b1 (f6_pairs σ x2) fun r_6 =>
  (if r_6 ≤ 0 then
  b2 (f6_kindsBy σ x1 x2) fun r_8 σ_9 =>
  some (r_8, σ_9)
  else
  b2 (f6_found σ r_6) fun r_11 σ_12 =>
  some (r_11, σ_12))))
def f6_lay (σ : St) (x1 : Int32) (x2 : Int32) (x3 : Int32) : Option (Int32 × St) := b1 (f6_isRow x1) fun r_2 =>
  (if r_2 = 0 then
  some ((-1), σ)
  else
  gi x1 6 (
  (if 0 ≤ (σ.1 1 x1.toNatClampNeg) then
  gi x1 6 (
  b1 (f6_in (x2.toInt64) 0 (((σ.1 1 x1.toNatClampNeg) - 1).toInt64)) fun r_4 =>
  (if r_4 = 0 then
  b2 (f6_found σ 2) fun r_11 σ_12 =>
  some (r_11, σ_12)
  else
  gi ((40 * x1) + x2) 240 (
  bnd (σ.1 2 ((40 * x1) + x2).toNatClampNeg) fun x4_5 =>
  gi ((40 * x1) + x2) 240 (bnd (wI σ 2 ((40 * x1) + x2).toNatClampNeg x3) fun σ_6 =>
  b2 (f6_tell σ_6 x4_5) fun r_8 σ_9 =>
  some (r_8, σ_9)))))
  else
  b2 (f6_found σ 1) fun r_14 σ_15 =>
  some (r_14, σ_15))))
def f6_remembers (σ : St)  : Option (St) := b1 (f6_copies σ 6 0 8 (25 * (σ.1 0 9)) 25) fun σ_2 =>
  bnd (wI σ_2 0 9 ((σ_2.1 0 9) + 1)) fun σ_3 =>
  some σ_3
def L6_lifts_19 (x1 : Int32) (k : St → Option (St)) : Nat → Int32 → St → Option (St)
  | 0, _, _ => none
  | n + 1, x2_3, σ_4 => (if (σ_4.1 0 4) ≤ x2_3 then
  k σ_4
  else
  nz (σ_4.1 0 4) (
  gi ((x2_3 + x1) - (x2_3 + x1) / (σ_4.1 0 4) * (σ_4.1 0 4)) 6 (
  gi x2_3 25 (bnd (wI σ_4 6 x2_3.toNatClampNeg (σ_4.1 14 ((x2_3 + x1) - (x2_3 + x1) / (σ_4.1 0 4) * (σ_4.1 0 4)).toNatClampNeg)) fun σ_5 =>
  bnd (x2_3 + 1) fun x2_6 =>
  L6_lifts_19 x1 k n x2_6 σ_5))))
def f6_lifts (σ : St) (x1 : Int32) : Option (St) := b1 (f6_copies σ 6 0 14 0 (σ.1 0 4)) fun σ_2 =>
  L6_lifts_19 x1 (fun (σ_8 : St) =>
  some σ_8) FU 0 σ_2
def f6_lift (σ : St) (x1 : Int32) : Option (Int32 × St) := (if (σ.1 0 4) = 0 then
  some ((-4), σ)
  else
  b1 (f6_in (x1.toInt64) 1 (((σ.1 0 4) - 1).toInt64)) fun r_2 =>
  (if r_2 = 0 then
  some ((-1), σ)
  else
  (if (σ.1 0 9) = 40 then
  some ((-2), σ)
  else
  b1 (f6_remembers σ) fun σ_4 =>
  b1 (f6_lifts σ_4 x1) fun σ_6 =>
  some (σ_6.1 6 0, σ_6))))
def L6_turns_19 (k : St → Option (St)) : Nat → Int32 → St → Option (St)
  | 0, _, _ => none
  | n + 1, x1_3, σ_4 => (if (σ_4.1 0 4) ≤ x1_3 then
  k σ_4
  else
  gi (((σ_4.1 0 4) - 1) - x1_3) 6 (
  gi x1_3 25 (bnd (wI σ_4 6 x1_3.toNatClampNeg (σ_4.1 14 (((σ_4.1 0 4) - 1) - x1_3).toNatClampNeg)) fun σ_5 =>
  bnd (x1_3 + 1) fun x1_6 =>
  L6_turns_19 k n x1_6 σ_5)))
def f6_turns (σ : St)  : Option (St) := b1 (f6_copies σ 6 0 14 0 (σ.1 0 4)) fun σ_2 =>
  L6_turns_19 (fun (σ_8 : St) =>
  some σ_8) FU 0 σ_2
def L6_lots_56 (x1 : Int32) (k : St → Option (Int32 × St)) : Nat → Int64 → Int32 → St → Option (Int32 × St)
  | 0, _, _, _ => none
  | n + 1, x3_6, x5_7, σ_8 => (if x1 ≤ x5_7 then
  k σ_8
  else
  bnd ((x3_6 * 48271) - (x3_6 * 48271) / 2147483647 * 2147483647) fun x3_9 =>
  bnd (((x3_9 / 8) - (x3_9 / 8) / 8 * 8).toInt32) fun x6_10 =>
  bnd ((x3_9 - x3_9 / 3 * 3).toInt32) fun x7_11 =>
  b1 (f6_remembers σ_8) fun σ_13 =>
  jn (fun (σ_14 : St) =>
  bnd (x5_7 + 1) fun x5_18 =>
  L6_lots_56 x1 k n x3_9 x5_18 σ_14) fun j_15 =>
  (if 5 ≤ x6_10 then
  (if x6_10 = 5 then
  b1 (f6_turns σ_13) fun σ_23 =>
  j_15 σ_23
  else
  (if x6_10 = 6 then
  nzl (((σ_13.1 0 4) - 1).toInt64) (
  b1 (f6_lifts σ_13 (1 + (((x3_9 / 64) - (x3_9 / 64) / (((σ_13.1 0 4) - 1).toInt64) * (((σ_13.1 0 4) - 1).toInt64)).toInt32))) fun σ_21 =>
  j_15 σ_21)
  else
  nzl ((σ_13.1 0 4).toInt64) (
  gi ((6 + (3 * (((x3_9 / 64) - (x3_9 / 64) / ((σ_13.1 0 4).toInt64) * ((σ_13.1 0 4).toInt64)).toInt32))) + x7_11) 25 (bnd (wI σ_13 6 ((6 + (3 * (((x3_9 / 64) - (x3_9 / 64) / ((σ_13.1 0 4).toInt64) * ((σ_13.1 0 4).toInt64)).toInt32))) + x7_11).toNatClampNeg (((x3_9 / 512) - (x3_9 / 512) / 10 * 10).toInt32)) fun σ_19 =>
  j_15 σ_19))))
  else
  b1 (f6_passes σ_13 6 x7_11) fun σ_25 =>
  j_15 σ_25))
def f6_lots (σ : St) (x1 : Int32) (x2 : Int32) : Option (Int32 × St) := b1 (f6_in (x1.toInt64) 1 20) fun r_2 =>
  (if r_2 = 0 then
  some ((-1), σ)
  else
  b1 (f6_in (x2.toInt64) 1 2147483646) fun r_4 =>
  (if r_4 = 0 then
  some ((-1), σ)
  else
  (if (σ.1 0 4) = 0 then
  some ((-4), σ)
  else
  (if ((σ.1 0 9) + x1) ≤ 40 then
  bnd (x2.toInt64) fun x3_5 =>
  L6_lots_56 x1 (fun (σ_27 : St) =>
  some (σ_27.1 6 0, σ_27)) FU x3_5 0 σ
  else
  some ((-2), σ)))))
def f6_lower (σ : St)  : Option (Int64) := some (σ.2 0 14)
def L6_mark_114 (σ : St) (x1 : Int32) (x2 : Int32) (k : Int32 → Option (Int32 × St)) : Nat → Int32 → Int32 → Option (Int32 × St)
  | 0, _, _ => none
  | n + 1, x4_9, x5_10 => (if 3 ≤ x5_10 then
  k x4_9
  else
  gi ((6 + (3 * x1)) + x5_10) 25 (
  bnd (σ.1 6 ((6 + (3 * x1)) + x5_10).toNatClampNeg) fun x6_12 =>
  b1 (f6_readOn σ 6 x1 x5_10) fun r_14 =>
  jn (fun (y_15 : Int32) =>
  bnd (x4_9 + y_15) fun x4_19 =>
  bnd (x5_10 + 1) fun x5_20 =>
  L6_mark_114 σ x1 x2 k n x4_19 x5_20) fun j_16 =>
  jn (j_16 0) fun j_21 =>
  jn (j_16 1) fun j_24 =>
  (if x2 = 1 then
  (if r_14 = x6_12 then
  j_21
  else
  j_24)
  else
  (if x2 = 3 then
  (if r_14 ≤ x6_12 then
  j_21
  else
  j_24)
  else
  (if r_14 = 10 then
  j_24
  else
  j_21)))))
def f6_mark (σ : St) (x1 : Int32) (x2 : Int32) : Option (Int32 × St) := b1 (f6_isCard σ x1) fun r_2 =>
  (if r_2 = 0 then
  some ((-1), σ)
  else
  b1 (f6_in (x2.toInt64) 1 5) fun r_4 =>
  (if r_4 = 0 then
  some ((-1), σ)
  else
  gi x1 6 (
  bnd (σ.1 5 x1.toNatClampNeg) fun x3_5 =>
  jn ((if x2 = 2 then
  (if 9 ≤ ((σ.1 6 24) / 4) then
  some (9, σ)
  else
  some ((σ.1 6 24) / 4, σ))
  else
  (if x2 = 5 then
  b1 (f6_placeOf σ 6 x1) fun r_29 =>
  some (r_29, σ)
  else
  L6_mark_114 σ x1 x2 (fun (x4_27 : Int32) =>
  some (x4_27, σ)) FU 0 0))) fun j_6 =>
  (if x3_5 = x2 then
  j_6
  else
  jn (jn (b2 (f6_found σ 3) fun r_37 σ_38 =>
  some (r_37, σ_38)) fun j_33 =>
  (if x2 = 3 then
  (if x3_5 = 5 then
  j_6
  else
  j_33)
  else
  j_33)) fun j_30 =>
  (if x2 = 2 then
  (if x3_5 = 4 then
  j_6
  else
  j_30)
  else
  j_30)))))
def L6_mean_44 (σ : St) (x1 : Int32) (k : Int64 → Option (Int32 × St)) : Nat → Int64 → Int32 → Option (Int32 × St)
  | 0, _, _ => none
  | n + 1, x2_3, x4_4 => gi x1 6 (
  (if (σ.1 1 x1.toNatClampNeg) ≤ x4_4 then
  k x2_3
  else
  gi ((40 * x1) + x4_4) 240 (
  bnd (x2_3 + ((σ.1 2 ((40 * x1) + x4_4).toNatClampNeg).toInt64)) fun x2_6 =>
  bnd (x4_4 + 1) fun x4_7 =>
  L6_mean_44 σ x1 k n x2_6 x4_7)))
def f6_mean (σ : St) (x1 : Int32) : Option (Int32 × St) := b1 (f6_isRow x1) fun r_2 =>
  (if r_2 = 0 then
  some ((-1), σ)
  else
  gi x1 6 (
  (if 0 ≤ (σ.1 1 x1.toNatClampNeg) then
  gi x1 6 (
  (if (σ.1 1 x1.toNatClampNeg) = 0 then
  b2 (f6_found σ 4) fun r_13 σ_14 =>
  some (r_13, σ_14)
  else
  L6_mean_44 σ x1 (fun (x2_8 : Int64) =>
  gi x1 6 (
  nzl ((σ.1 1 x1.toNatClampNeg).toInt64) (
  b2 (f6_tell σ ((x2_8 / ((σ.1 1 x1.toNatClampNeg).toInt64)).toInt32)) fun r_10 σ_11 =>
  some (r_10, σ_11)))) FU 0 0))
  else
  b2 (f6_found σ 1) fun r_16 σ_17 =>
  some (r_16, σ_17))))
def f6_mid (σ : St) (x1 : Int32) (x2 : Int32) (x3 : Int32) : Option (Int32 × St) := b2 (f6_chance σ x1 x2 x3 1) fun r_2 σ_3 =>
  some (r_2, σ_3)
def L6_next_85 (σ : St) (x1 : Int32) (x4 : Int32) (x5 : Int32) (x6 : Int32) (x7 : Int32) (x8 : Int32) (x9 : Int32) (k : Int32 → Option (Int32 × St)) : Nat → Int32 → Int32 → Option (Int32 × St)
  | 0, _, _ => none
  | n + 1, x10_18, x11_19 => (if 6 ≤ x11_19 then
  k x10_18
  else
  b1 (f6_has x4 x11_19) fun r_22 =>
  jn (fun (y_23 : Int32) =>
  bnd (x10_18 + y_23) fun x10_27 =>
  bnd (x11_19 + 1) fun x11_28 =>
  L6_next_85 σ x1 x4 x5 x6 x7 x8 x9 k n x10_27 x11_28) fun j_24 =>
  jn (j_24 0) fun j_29 =>
  (if r_22 = 0 then
  j_29
  else
  b1 (f6_readsBy σ 6 (6 + (3 * x1)) x11_19 x7 (σ.1 6 24)) fun r_33 =>
  (if r_33 = x9 then
  j_24 1
  else
  j_29)))
def L6_next_72 (σ : St) (x1 : Int32) (x4 : Int32) (x5 : Int32) (x6 : Int32) (x7 : Int32) (k : Int32 → Option (Int32 × St)) : Nat → Int32 → Int32 → Option (Int32 × St)
  | 0, _, _ => none
  | n + 1, x8_15, x9_16 => (if 11 ≤ x9_16 then
  k x8_15
  else
  L6_next_85 σ x1 x4 x5 x6 x7 x8_15 x9_16 (fun (x10_34 : Int32) =>
  b1 (f6_more x8_15 x10_34) fun r_36 =>
  bnd (x9_16 + 1) fun x9_37 =>
  L6_next_72 σ x1 x4 x5 x6 x7 k n r_36 x9_37) FU 0 0)
def L6_next_60 (σ : St) (x1 : Int32) (x4 : Int32) (k : Int32 → Int32 → Option (Int32 × St)) : Nat → Int32 → Int32 → Int32 → Option (Int32 × St)
  | 0, _, _, _ => none
  | n + 1, x5_10, x6_11, x7_12 => (if 3 ≤ x7_12 then
  k x5_10 x6_11
  else
  L6_next_72 σ x1 x4 x5_10 x6_11 x7_12 (fun (x8_38 : Int32) =>
  jn (fun (y_39 : Int32) =>
  jn (fun (y_43 : Int32) =>
  bnd (x7_12 + 1) fun x7_47 =>
  L6_next_60 σ x1 x4 k n y_39 y_43 x7_47) fun j_44 =>
  (if x6_11 ≤ x8_38 then
  j_44 x6_11
  else
  j_44 x8_38)) fun j_40 =>
  (if x6_11 ≤ x8_38 then
  j_40 x5_10
  else
  j_40 x7_12)) FU 0 0)
def f6_next (σ : St) (x1 : Int32) (x2 : Int32) : Option (Int32 × St) := b1 (f6_isCard σ x1) fun r_2 =>
  (if r_2 = 0 then
  some ((-1), σ)
  else
  b1 (f6_isRow x2) fun r_4 =>
  (if r_4 = 0 then
  some ((-1), σ)
  else
  b1 (f6_pairs σ x2) fun r_6 =>
  (if r_6 ≤ 0 then
  b2 (f6_kindsBy σ x1 x2) fun r_8 σ_9 =>
  (if r_8 = 0 then
  some ((-9), σ_9)
  else
  L6_next_60 σ_9 x1 r_8 (fun (x5_48 : Int32) (x6_49 : Int32) =>
  b2 (f6_answer σ_9 x5_48 x6_49) fun r_51 σ_52 =>
  some (r_51, σ_52)) FU ((-9)) 7 0)
  else
  b2 (f6_found σ r_6) fun r_54 σ_55 =>
  some (r_54, σ_55))))
def f6_odds (σ : St) (x1 : Int32) (x2 : Int32) (x3 : Int32) : Option (Int32 × St) := b2 (f6_chance σ x1 x2 x3 0) fun r_2 σ_3 =>
  some (r_2, σ_3)
def f6_on (σ : St) (x1 : Int32) : Option (Int32 × St) := b1 (f6_isPlace x1) fun r_2 =>
  (if r_2 = 0 then
  some ((-1), σ)
  else
  gi x1 3 (
  (if (σ.1 10 x1.toNatClampNeg) = 0 then
  b2 (f6_found σ 1) fun r_9 σ_10 =>
  some (r_9, σ_10)
  else
  b1 (f6_copies σ 9 (1026 * x1) 6 0 25) fun σ_4 =>
  gi ((1026 * x1) + 25) 3078 (
  bnd (wI σ_4 0 9 (σ_4.1 9 ((1026 * x1) + 25).toNatClampNeg)) fun σ_5 =>
  b1 (f6_copies σ_5 9 (((1026 * x1) + 25) + 1) 8 0 1000) fun σ_7 =>
  some (σ_7.1 0 9, σ_7)))))
def f6_order (σ : St) (x1 : Int32) (x2 : Int32) : Option (Int32 × St) := b1 (f6_isColumn x1) fun r_2 =>
  (if r_2 = 0 then
  some ((-1), σ)
  else
  b1 (f6_isRow x2) fun r_4 =>
  (if r_4 = 0 then
  some ((-1), σ)
  else
  (if (σ.1 0 4) = 0 then
  some ((-4), σ)
  else
  b2 (f6_firstRow σ ((-9) : Int32) x1 x2) fun r_6 σ_7 =>
  some (r_6, σ_7))))
def f6_pass (σ : St) (x1 : Int32) : Option (Int32 × St) := b1 (f6_isColumn x1) fun r_2 =>
  (if r_2 = 0 then
  some ((-1), σ)
  else
  (if (σ.1 0 4) = 0 then
  some ((-4), σ)
  else
  (if (σ.1 0 9) = 40 then
  some ((-2), σ)
  else
  b1 (f6_remembers σ) fun σ_4 =>
  b1 (f6_passes σ_4 6 x1) fun σ_6 =>
  some (σ_6.1 6 0, σ_6))))
def f6_pocket (σ : St) (x1 : Int32) (x2 : Int32) (x3 : Int32) : Option (Int32) := b1 (f6_isCard σ x1) fun r_2 =>
  (if r_2 = 0 then
  some ((-1))
  else
  b1 (f6_isColumn x2) fun r_4 =>
  (if r_4 = 0 then
  some ((-1))
  else
  b1 (f6_in (x3.toInt64) 0 60) fun r_6 =>
  (if r_6 = 0 then
  some ((-1))
  else
  gi x1 6 (
  b1 (f6_readsBy σ 6 (6 + (3 * x1)) (σ.1 5 x1.toNatClampNeg) x2 x3) fun r_8 =>
  some r_8))))
def f6_punch (σ : St) (x1 : Int32) (x2 : Int32) (x3 : Int32) : Option (Int32 × St) := b1 (f6_isCard σ x1) fun r_2 =>
  (if r_2 = 0 then
  some ((-1), σ)
  else
  b1 (f6_isColumn x2) fun r_4 =>
  (if r_4 = 0 then
  some ((-1), σ)
  else
  b1 (f6_in (x3.toInt64) 0 9) fun r_6 =>
  (if r_6 = 0 then
  some ((-1), σ)
  else
  bnd ((6 + (3 * x1)) + x2) fun x4_7 =>
  gi x4_7 25 (
  bnd (σ.1 6 x4_7.toNatClampNeg) fun x5_8 =>
  (if x5_8 = x3 then
  some ((-4), σ)
  else
  (if (σ.1 0 9) = 40 then
  some ((-2), σ)
  else
  b1 (f6_remembers σ) fun σ_10 =>
  gi x4_7 25 (bnd (wI σ_10 6 x4_7.toNatClampNeg x3) fun σ_11 =>
  some (x5_8, σ_11))))))))
def f6_put (σ : St) (x1 : Int32) (x2 : Int32) (x3 : Int32) : Option (Int32 × St) := b1 (f6_isText x1) fun r_2 =>
  (if r_2 = 0 then
  some ((-1), σ)
  else
  gi x1 4 (
  (if 0 ≤ (σ.1 3 x1.toNatClampNeg) then
  gi x1 4 (
  b1 (f6_in (x2.toInt64) 0 (((σ.1 3 x1.toNatClampNeg) - 1).toInt64)) fun r_4 =>
  (if r_4 = 0 then
  b2 (f6_found σ 2) fun r_8 σ_9 =>
  some (r_8, σ_9)
  else
  gi ((60 * x1) + x2) 240 (
  bnd (σ.1 4 ((60 * x1) + x2).toNatClampNeg) fun x4_5 =>
  gi ((60 * x1) + x2) 240 (bnd (wI σ 4 ((60 * x1) + x2).toNatClampNeg (x3.toInt8.toInt32)) fun σ_6 =>
  some (x4_5 + 1000, σ_6)))))
  else
  b2 (f6_found σ 1) fun r_11 σ_12 =>
  some (r_11, σ_12))))
def L6_row_34 (x1 : Int32) (x2 : Int32) (k : St → Option (Int32 × St)) : Nat → Int32 → St → Option (Int32 × St)
  | 0, _, _ => none
  | n + 1, x3_4, σ_5 => (if 40 ≤ x3_4 then
  k σ_5
  else
  gi ((40 * x1) + x3_4) 240 (bnd (wI σ_5 2 ((40 * x1) + x3_4).toNatClampNeg 0) fun σ_6 =>
  bnd (x3_4 + 1) fun x3_7 =>
  L6_row_34 x1 x2 k n x3_7 σ_6))
def f6_row (σ : St) (x1 : Int32) (x2 : Int32) : Option (Int32 × St) := b1 (f6_isRow x1) fun r_2 =>
  (if r_2 = 0 then
  some ((-1), σ)
  else
  (if x2 ≤ 40 then
  (if 0 ≤ x2 then
  gi x1 6 (bnd (wI σ 1 x1.toNatClampNeg x2) fun σ_3 =>
  L6_row_34 x1 x2 (fun (σ_9 : St) =>
  some (x2, σ_9)) FU 0 σ_3)
  else
  b2 (f6_found σ 5) fun r_11 σ_12 =>
  some (r_11, σ_12))
  else
  some ((-1), σ)))
def L6_run_60 (x1 : Int32) (x2 : Int32) (k : St → Option (Int32 × St)) : Nat → Int32 → St → Option (Int32 × St)
  | 0, _, _ => none
  | n + 1, x3_5, σ_6 => gi x1 6 (
  (if (σ_6.1 1 x1.toNatClampNeg) ≤ x3_5 then
  k σ_6
  else
  gi ((40 * x1) + x3_5) 240 (
  b1 (f6_isColumn (σ_6.1 2 ((40 * x1) + x3_5).toNatClampNeg)) fun r_8 =>
  (if r_8 = 0 then
  b2 (f6_found σ_6 3) fun r_11 σ_12 =>
  some (r_11, σ_12)
  else
  bnd (x3_5 + 1) fun x3_9 =>
  L6_run_60 x1 x2 k n x3_9 σ_6))))
def L6_run_105 (x1 : Int32) (x2 : Int32) (k : St → Option (Int32 × St)) : Nat → Int32 → St → Option (Int32 × St)
  | 0, _, _ => none
  | n + 1, x3_17, σ_18 => gi x1 6 (
  (if (σ_18.1 1 x1.toNatClampNeg) ≤ x3_17 then
  k σ_18
  else
  gi ((40 * x1) + x3_17) 240 (
  b1 (f6_passes σ_18 7 (σ_18.1 2 ((40 * x1) + x3_17).toNatClampNeg)) fun σ_20 =>
  bnd (x3_17 + 1) fun x3_21 =>
  L6_run_105 x1 x2 k n x3_21 σ_20)))
def f6_run (σ : St) (x1 : Int32) (x2 : Int32) : Option (Int32 × St) := b1 (f6_isRow x1) fun r_2 =>
  (if r_2 = 0 then
  some ((-1), σ)
  else
  b1 (f6_isRow x2) fun r_4 =>
  (if r_4 = 0 then
  some ((-1), σ)
  else
  (if (σ.1 0 4) = 0 then
  some ((-4), σ)
  else
  gi x1 6 (
  (if 0 ≤ (σ.1 1 x1.toNatClampNeg) then
  gi x1 6 (
  (if (σ.1 1 x1.toNatClampNeg) ≤ 10 then
  L6_run_60 x1 x2 (fun (σ_14 : St) =>
  b1 (f6_laysAside σ_14) fun σ_16 =>
  L6_run_105 x1 x2 (fun (σ_23 : St) =>
  b1 (f6_lays σ_23 x2 (σ_23.1 0 4)) fun σ_25 =>
  b1 (f6_copies σ_25 7 0 2 (40 * x2) (σ_25.1 0 4)) fun σ_27 =>
  some (σ_27.1 7 0, σ_27)) FU 0 σ_16) FU 0 σ
  else
  b2 (f6_found σ 5) fun r_29 σ_30 =>
  some (r_29, σ_30)))
  else
  b2 (f6_found σ 1) fun r_32 σ_33 =>
  some (r_32, σ_33))))))
def L6_sets_47 (σ : St) (x1 : Int32) (x2 : Int32) (k : Int32 → Int32 → Option (Int32 × St)) : Nat → Int32 → Int32 → Int32 → Option (Int32 × St)
  | 0, _, _, _ => none
  | n + 1, x3_6, x4_7, x5_8 => (if x5_8 < 0 then
  k x3_6 x4_7
  else
  b1 (f6_comesTo σ x5_8 x1 x2) fun r_12 =>
  jn (fun (x3_13 : Int32) (x4_14 : Int32) =>
  bnd (x5_8 + (-1)) fun x5_18 =>
  L6_sets_47 σ x1 x2 k n x3_13 x4_14 x5_18) fun j_15 =>
  (if r_12 = 0 then
  j_15 x3_6 x4_7
  else
  bnd (x3_6 + 1) fun x3_19 =>
  j_15 x3_19 x5_8))
def f6_sets (σ : St) (x1 : Int32) (x2 : Int32) : Option (Int32 × St) := b1 (f6_isColumn x1) fun r_2 =>
  (if r_2 = 0 then
  some ((-1), σ)
  else
  b1 (f6_in (x2.toInt64) 0 54) fun r_4 =>
  (if r_4 = 0 then
  some ((-1), σ)
  else
  (if (σ.1 0 4) = 0 then
  some ((-4), σ)
  else
  bnd ((1 <<< ((σ.1 0 4) &&& 31)) - 1) fun x5_5 =>
  L6_sets_47 σ x1 x2 (fun (x3_20 : Int32) (x4_21 : Int32) =>
  bnd (wL σ 0 13 (x3_20.toInt64)) fun σ_22 =>
  bnd (wL σ_22 0 14 1) fun σ_23 =>
  b2 (f6_tell σ_23 x4_21) fun r_25 σ_26 =>
  some (r_25, σ_26)) FU 0 ((-9)) x5_5)))
def L6_sure_52 (σ : St) (x1 : Int32) (x2 : Int32) (x3 : Int32) (k : Int32 → Int32 → Int32 → Option (Int32 × St)) : Nat → Int32 → Int32 → Int32 → Int32 → Option (Int32 × St)
  | 0, _, _, _, _ => none
  | n + 1, x4_6, x5_7, x6_8, x7_9 => (if x3 < x7_9 then
  k x4_6 x5_7 x6_8
  else
  b1 (f6_comesTo σ x7_9 x1 x2) fun r_14 =>
  jn (fun (x4_15 : Int32) (x5_16 : Int32) (x6_17 : Int32) =>
  bnd (x7_9 + 1) fun x7_21 =>
  L6_sure_52 σ x1 x2 x3 k n x4_15 x5_16 x6_17 x7_21) fun j_18 =>
  (if r_14 = 0 then
  j_18 x4_6 x5_7 x6_8
  else
  bnd (x6_8 + 1) fun x6_22 =>
  bnd (x4_6 &&& x7_9) fun x4_23 =>
  bnd (x5_7 ||| x7_9) fun x5_24 =>
  j_18 x4_23 x5_24 x6_22))
def f6_sure (σ : St) (x1 : Int32) (x2 : Int32) : Option (Int32 × St) := b1 (f6_isColumn x1) fun r_2 =>
  (if r_2 = 0 then
  some ((-1), σ)
  else
  b1 (f6_in (x2.toInt64) 0 54) fun r_4 =>
  (if r_4 = 0 then
  some ((-1), σ)
  else
  (if (σ.1 0 4) = 0 then
  some ((-4), σ)
  else
  bnd ((1 <<< ((σ.1 0 4) &&& 31)) - 1) fun x3_5 =>
  L6_sure_52 σ x1 x2 x3_5 (fun (x4_25 : Int32) (x5_26 : Int32) (x6_27 : Int32) =>
  (if x6_27 = 0 then
  b2 (f6_found σ 4) fun r_32 σ_33 =>
  some (r_32, σ_33)
  else
  b2 (f6_answer σ x4_25 (x3_5 &&& (x5_26 ^^^ ((-1))))) fun r_29 σ_30 =>
  some (r_29, σ_30))) FU x3_5 0 0 0)))
def f6_tear (σ : St) (x1 : Int32) : Option (Int32 × St) := b1 (f6_isRow x1) fun r_2 =>
  (if r_2 = 0 then
  some ((-1), σ)
  else
  gi x1 6 (
  (if 0 ≤ (σ.1 1 x1.toNatClampNeg) then
  gi x1 6 (bnd (wI σ 1 x1.toNatClampNeg ((-1))) fun σ_3 =>
  some (1, σ_3))
  else
  b2 (f6_found σ 1) fun r_5 σ_6 =>
  some (r_5, σ_6))))
def L6_text_34 (x1 : Int32) (x2 : Int32) (k : St → Option (Int32 × St)) : Nat → Int32 → St → Option (Int32 × St)
  | 0, _, _ => none
  | n + 1, x3_4, σ_5 => (if 60 ≤ x3_4 then
  k σ_5
  else
  gi ((60 * x1) + x3_4) 240 (bnd (wI σ_5 4 ((60 * x1) + x3_4).toNatClampNeg 32) fun σ_6 =>
  bnd (x3_4 + 1) fun x3_7 =>
  L6_text_34 x1 x2 k n x3_7 σ_6))
def f6_text (σ : St) (x1 : Int32) (x2 : Int32) : Option (Int32 × St) := b1 (f6_isText x1) fun r_2 =>
  (if r_2 = 0 then
  some ((-1), σ)
  else
  (if x2 ≤ 60 then
  (if 0 ≤ x2 then
  gi x1 4 (bnd (wI σ 3 x1.toNatClampNeg x2) fun σ_3 =>
  L6_text_34 x1 x2 (fun (σ_9 : St) =>
  some (x2, σ_9)) FU 0 σ_3)
  else
  b2 (f6_found σ 5) fun r_11 σ_12 =>
  some (r_11, σ_12))
  else
  some ((-1), σ)))
def f6_turn (σ : St)  : Option (Int32 × St) := (if (σ.1 0 4) = 0 then
  some ((-4), σ)
  else
  (if (σ.1 0 9) = 40 then
  some ((-2), σ)
  else
  b1 (f6_remembers σ) fun σ_2 =>
  b1 (f6_turns σ_2) fun σ_4 =>
  some (σ_4.1 6 0, σ_4)))
def f6_undo (σ : St) (x1 : Int32) : Option (Int32 × St) := b1 (f6_in (x1.toInt64) 0 ((σ.1 0 9).toInt64)) fun r_2 =>
  (if r_2 = 0 then
  some ((-1), σ)
  else
  bnd ((σ.1 0 9) - x1) fun x2_3 =>
  jn (fun (σ_4 : St) =>
  bnd (wI σ_4 0 9 x1) fun σ_8 =>
  some (x2_3, σ_8)) fun j_5 =>
  (if x2_3 ≤ 0 then
  j_5 σ
  else
  b1 (f6_copies σ 8 (25 * x1) 6 0 25) fun σ_10 =>
  j_5 σ_10))
def f6_upper (σ : St)  : Option (Int64) := some (σ.2 0 13)
end
