def zFU : Nat := 100000
def mX0_copyFrom (v0 : Nat) (v1 : Nat) (w : zWd) : Option (Unit × zWd) :=
  zgd (zcok (0 : Int32) (0 : Int32) (120 : Int32) 120 120) <|
  zbn (zcp w (v1 + 1) (0 : Int32).toNatClampNeg (v0 + 1) (0 : Int32).toNatClampNeg (120 : Int32).toNatClampNeg) fun w1 =>
  zbn (zup w1 v0 1 (w1 v1 1)) fun w2 =>
  zbn (zup w2 v0 2 (w2 v1 2)) fun w3 =>
  zgd (zcok (0 : Int32) (0 : Int32) (12 : Int32) 12 12) <|
  zbn (zcp w3 (v1 + 2) (0 : Int32).toNatClampNeg (v0 + 2) (0 : Int32).toNatClampNeg (12 : Int32).toNatClampNeg) fun w4 =>
  zgd (zcok (0 : Int32) (0 : Int32) (12 : Int32) 12 12) <|
  zbn (zcp w4 (v1 + 3) (0 : Int32).toNatClampNeg (v0 + 3) (0 : Int32).toNatClampNeg (12 : Int32).toNatClampNeg) fun w5 =>
  zgd (zcok (0 : Int32) (0 : Int32) (12 : Int32) 12 12) <|
  zbn (zcp w5 (v1 + 4) (0 : Int32).toNatClampNeg (v0 + 4) (0 : Int32).toNatClampNeg (12 : Int32).toNatClampNeg) fun w6 =>
  zgd (zcok (0 : Int32) (0 : Int32) (12 : Int32) 12 12) <|
  zbn (zcp w6 (v1 + 5) (0 : Int32).toNatClampNeg (v0 + 5) (0 : Int32).toNatClampNeg (12 : Int32).toNatClampNeg) fun w7 =>
  zgd (zcok (0 : Int32) (0 : Int32) (12 : Int32) 12 12) <|
  zbn (zcp w7 (v1 + 6) (0 : Int32).toNatClampNeg (v0 + 6) (0 : Int32).toNatClampNeg (12 : Int32).toNatClampNeg) fun w8 =>
  zgd (zcok (0 : Int32) (0 : Int32) (12 : Int32) 12 12) <|
  zbn (zcp w8 (v1 + 7) (0 : Int32).toNatClampNeg (v0 + 7) (0 : Int32).toNatClampNeg (12 : Int32).toNatClampNeg) fun w9 =>
  some ((), w9)
def mX0_hasTapAt_2b (v0 : Nat) (v1 : Int32) (k2 : Int32 × zWd → Option (Int32 × zWd)) (v2 : Int32) (w : zWd) : Option (Int32 × zWd) :=
  if (w v0 1) ≤ v2 then (zgd (zB (0 : Int32)) (some ((0 : Int32), w)))
  else (zgd (zin v2 12) <|
  if (w (v0 + 3) v2.toNatClampNeg) = v1 then (zgd (zB (1 : Int32)) (some ((1 : Int32), w)))
  else (k2 (v2 + (1 : Int32), w)))
def mX0_hasTapAt_2 (v0 : Nat) (v1 : Int32) (v2 : Int32) (w : zWd) : Option (Int32 × zWd) :=
  zlp (fun k q => mX0_hasTapAt_2b v0 v1 k q.1 q.2) zFU (v2, w)
def mX0_hasTapAt (v0 : Nat) (v1 : Int32) (w : zWd) : Option (Int32 × zWd) :=
  mX0_hasTapAt_2 v0 v1 (0 : Int32) w
def mX0_addTap (v0 : Nat) (v1 : Int32) (v2 : Int32) (v3 : Int32) (v4 : Int32) (w : zWd) : Option (Int32 × zWd) :=
  if (w v0 1) < (12 : Int32) then (zgd (zin (w v0 1) 12) <|
  zbn (zup w (v0 + 2) (w v0 1).toNatClampNeg v1) fun w1 =>
  zgd (zin (w1 v0 1) 12) <|
  zbn (zup w1 (v0 + 3) (w1 v0 1).toNatClampNeg v2) fun w2 =>
  zgd (zin (w2 v0 1) 12) <|
  zbn (zup w2 (v0 + 4) (w2 v0 1).toNatClampNeg v3) fun w3 =>
  zgd (zin (w3 v0 1) 12) <|
  zbn (zup w3 (v0 + 5) (w3 v0 1).toNatClampNeg v4) fun w4 =>
  zgd (zin (w4 v0 1) 12) <|
  zbn (zup w4 (v0 + 6) (w4 v0 1).toNatClampNeg (0 : Int32)) fun w5 =>
  zgd (zin (w5 v0 1) 12) <|
  zbn (zup w5 (v0 + 7) (w5 v0 1).toNatClampNeg (0 : Int32)) fun w6 =>
  zbn (zup w6 v0 1 ((w6 v0 1) + (1 : Int32))) fun w7 =>
  some (w6 v0 1, w7))
  else (some ((-4 : Int32), w))
def mX0_allWater_4b (v0 : Nat) (k4 : Int32 × Int32 × zWd → Option (Int32 × zWd)) (v1 : Int32) (v2 : Int32) (w : zWd) : Option (Int32 × zWd) :=
  if (30 : Int32) ≤ v2 then (some (v1, w))
  else (zgd (zin ((30 : Int32) + v2) 120) <|
  zbn (v1 + (w (v0 + 1) ((30 : Int32) + v2).toNatClampNeg)) fun x1 =>
  k4 (x1, v2 + (1 : Int32), w))
def mX0_allWater_4 (v0 : Nat) (v1 : Int32) (v2 : Int32) (w : zWd) : Option (Int32 × zWd) :=
  zlp (fun k q => mX0_allWater_4b v0 k q.1 q.2.1 q.2.2) zFU (v1, v2, w)
def mX0_allWater (v0 : Nat) (w : zWd) : Option (Int32 × zWd) :=
  mX0_allWater_4 v0 (0 : Int32) (0 : Int32) w
def mX0_listBores_40 (v2 : Int32) (w : zWd) : Option (Int32 × zWd) :=
  some (v2, w)
def mX0_listBores_34 (k4 : Int32 × Int32 × zWd → Option (Int32 × zWd)) (v0 : Nat) (v1 : Nat) (v2 : Int32) (v3 : Int32) (w : zWd) : Option (Int32 × zWd) :=
  k4 (v2, v3 + (1 : Int32), w)
def mX0_listBores_4b (v0 : Nat) (v1 : Nat) (k4 : Int32 × Int32 × zWd → Option (Int32 × zWd)) (v2 : Int32) (v3 : Int32) (w : zWd) : Option (Int32 × zWd) :=
  if (w v0 1) ≤ v3 then (mX0_listBores_40 v2 w)
  else (if (8 : Int32) ≤ v2 then (mX0_listBores_40 v2 w)
  else (zgd (zin v3 12) <|
  if (w (v0 + 2) v3.toNatClampNeg) = 0 then (mX0_listBores_34 k4 v0 v1 v2 v3 w)
  else (zgd (zin v2 8) <|
  zbn (zup w v1 v2.toNatClampNeg v3) fun w1 =>
  mX0_listBores_34 k4 v0 v1 (v2 + (1 : Int32)) v3 w1)))
def mX0_listBores_4 (v0 : Nat) (v1 : Nat) (v2 : Int32) (v3 : Int32) (w : zWd) : Option (Int32 × zWd) :=
  zlp (fun k q => mX0_listBores_4b v0 v1 k q.1 q.2.1 q.2.2) zFU (v2, v3, w)
def mX0_listBores (v0 : Nat) (v1 : Nat) (w : zWd) : Option (Int32 × zWd) :=
  mX0_listBores_4 v0 v1 (0 : Int32) (0 : Int32) w
def mX0_get (v0 : Nat) (v1 : Int32) (v2 : Int32) (v3 : Int32) (w : zWd) : Option (Unit × zWd) :=
  zgd (zin ((v1 * (30 : Int32)) + v3) 120) <|
  zgd (zin ((v2 * (30 : Int32)) + v3) 120) <|
  zbn ((w (v0 + 1) ((v1 * (30 : Int32)) + v3).toNatClampNeg) + (w (v0 + 1) ((v2 * (30 : Int32)) + v3).toNatClampNeg)) fun x1 =>
  zgd (zin v1 4) <|
  zbn (if x1 < ((zSVv 0).getD v1.toNatClampNeg 0) then x1 else ((zSVv 0).getD v1.toNatClampNeg 0)) fun x2 =>
  zgd (zin ((v1 * (30 : Int32)) + v3) 120) <|
  zbn (zup w (v0 + 1) ((v1 * (30 : Int32)) + v3).toNatClampNeg x2) fun w3 =>
  some ((), w3)
def mX0_isShut_16 (s0 : Int32) (w : zWd) : Option (Int32 × zWd) :=
  zgd (zB s0) (some (s0, w))
def mX0_isShut (v0 : Nat) (v1 : Int32) (w : zWd) : Option (Int32 × zWd) :=
  if (((w v0 2) >>> (v1 &&& 31)) &&& (1 : Int32)) = 0 then (mX0_isShut_16 (0 : Int32) w)
  else (mX0_isShut_16 (1 : Int32) w)
def mX0_drawn (v0 : Nat) (v1 : Int32) (w : zWd) : Option (Int32 × zWd) :=
  zgd (zin v1 12) <|
  if (w (v0 + 2) v1.toNatClampNeg) = (0 : Int32) then (zgd (zin v1 12) <|
  zgd (zin ((30 : Int32) + (w (v0 + 3) v1.toNatClampNeg)) 120) <|
  some ((w (v0 + 1) ((30 : Int32) + (w (v0 + 3) v1.toNatClampNeg)).toNatClampNeg) / (10 : Int32), w))
  else if (w (v0 + 2) v1.toNatClampNeg) = (1 : Int32) then (zgd (zin v1 12) <|
  some (w (v0 + 4) v1.toNatClampNeg, w))
  else (zgd (zin v1 12) <|
  zgd (zin v1 12) <|
  some ((w (v0 + 4) v1.toNatClampNeg) + ((w (v0 + 4) v1.toNatClampNeg) / (2 : Int32)), w))
def mX0_give_194 (w : zWd) : Option (Unit × zWd) :=
  some ((), w)
def mX0_give_192 (s0 : Int32) (s1 : Int32) (s2 : Int32) (s3 : Nat) (w : zWd) : Option (Unit × zWd) :=
  zgd (zin s2 12) <|
  zbn (zup w s3 s2.toNatClampNeg (s1 + s0)) fun w16 =>
  mX0_give_194 w16
def mX0_give_61 (v0 : Nat) (v1 : Int32) (v2 : Int32) (v3 : Int32) (s0 : Int32) (s1 : Int32) (w : zWd) : Option (Unit × zWd) :=
  zbn (s1 + s0) fun x7 =>
  zgd (zin ((30 : Int32) + v2) 120) <|
  zgd (zin ((30 : Int32) + v2) 120) <|
  zbn (zup w (v0 + 1) ((30 : Int32) + v2).toNatClampNeg ((w (v0 + 1) ((30 : Int32) + v2).toNatClampNeg) - v3)) fun w8 =>
  zgd (zin v1 12) <|
  zgd (¬ (v3 + (10 : Int32)) = 0) <|
  zbn (((10 : Int32) * (w8 (v0 + 6) v1.toNatClampNeg)) / (v3 + (10 : Int32))) fun x9 =>
  zgd (zin ((v1 * (4 : Int32)) + (0 : Int32)) 48) <|
  zbn (zup w8 (v0 + 8) ((v1 * (4 : Int32)) + (0 : Int32)).toNatClampNeg v3) fun w10 =>
  zgd (zin ((v1 * (4 : Int32)) + (1 : Int32)) 48) <|
  zbn (zup w10 (v0 + 8) ((v1 * (4 : Int32)) + (1 : Int32)).toNatClampNeg x7) fun w11 =>
  zgd (zin v1 12) <|
  zbn (if (0 : Int32) < (v3 - ((w11 (v0 + 7) v1.toNatClampNeg) / (10 : Int32))) then (v3 - ((w11 (v0 + 7) v1.toNatClampNeg) / (10 : Int32))) else (0 : Int32)) fun x12 =>
  zgd (zin ((v1 * (4 : Int32)) + (2 : Int32)) 48) <|
  zbn (zup w11 (v0 + 8) ((v1 * (4 : Int32)) + (2 : Int32)).toNatClampNeg x12) fun w13 =>
  zbn (if (0 : Int32) < (x7 - x9) then (x7 - x9) else (0 : Int32)) fun x14 =>
  zgd (zin ((v1 * (4 : Int32)) + (3 : Int32)) 48) <|
  zbn (zup w13 (v0 + 8) ((v1 * (4 : Int32)) + (3 : Int32)).toNatClampNeg x14) fun w15 =>
  if v3 ≤ 0 then (mX0_give_194 w15)
  else (if x7 < (500 : Int32) then (mX0_give_194 w15)
  else (zgd (zin v1 12) <|
  if x7 < (800 : Int32) then (mX0_give_192 (1 : Int32) (w15 (v0 + 7) v1.toNatClampNeg) v1 (v0 + 7) w15)
  else (mX0_give_192 (2 : Int32) (w15 (v0 + 7) v1.toNatClampNeg) v1 (v0 + 7) w15)))
def mX0_give_36 (v0 : Nat) (v1 : Int32) (v2 : Int32) (s0 : Int32) (w : zWd) : Option (Unit × zWd) :=
  zgd (zin ((0 : Int32) + v2) 120) <|
  zgd (zin v1 12) <|
  if (w (v0 + 2) v1.toNatClampNeg) = (2 : Int32) then (mX0_give_61 v0 v1 v2 s0 (50 : Int32) (w (v0 + 1) ((0 : Int32) + v2).toNatClampNeg) w)
  else (mX0_give_61 v0 v1 v2 s0 (0 : Int32) (w (v0 + 1) ((0 : Int32) + v2).toNatClampNeg) w)
def mX0_give (v0 : Nat) (v1 : Int32) (w : zWd) : Option (Unit × zWd) :=
  zgd (zin v1 12) <|
  zbn (w (v0 + 3) v1.toNatClampNeg) fun x1 =>
  zcl (mX0_isShut v0 v1 w) fun r2 w3 =>
  if r2 = 0 then (zcl (mX0_drawn v0 v1 w3) fun r4 w5 =>
  zgd (zin ((30 : Int32) + x1) 120) <|
  zbn (if (w5 (v0 + 1) ((30 : Int32) + x1).toNatClampNeg) < r4 then (w5 (v0 + 1) ((30 : Int32) + x1).toNatClampNeg) else r4) fun x6 =>
  mX0_give_36 v0 v1 x1 x6 w5)
  else (mX0_give_36 v0 v1 x1 (0 : Int32) w3)
def mX0_move (v0 : Nat) (v1 : Int32) (v2 : Int32) (v3 : Int32) (w : zWd) : Option (Unit × zWd) :=
  zgd (zin v1 30) <|
  zgd (zin v1 30) <|
  zbn (zup w (v0 + 9) v1.toNatClampNeg ((w (v0 + 9) v1.toNatClampNeg) - v3)) fun w1 =>
  zgd (zin v2 30) <|
  zgd (zin v2 30) <|
  zbn (zup w1 (v0 + 9) v2.toNatClampNeg ((w1 (v0 + 9) v2.toNatClampNeg) + v3)) fun w2 =>
  some ((), w2)
def mX0_even_135b (v0 : Nat) (v3 : Int32) (k135 : Int32 × zWd → Option (Unit × zWd)) (v4 : Int32) (w : zWd) : Option (Unit × zWd) :=
  if (30 : Int32) ≤ v4 then (some ((), w))
  else (zgd (zin (v3 + v4) 120) <|
  zgd (zin v4 30) <|
  zgd (zin (v3 + v4) 120) <|
  zbn (zup w (v0 + 1) (v3 + v4).toNatClampNeg ((w (v0 + 1) (v3 + v4).toNatClampNeg) + (w (v0 + 9) v4.toNatClampNeg))) fun w2 =>
  k135 (v4 + (1 : Int32), w2))
def mX0_even_135 (v0 : Nat) (v3 : Int32) (v4 : Int32) (w : zWd) : Option (Unit × zWd) :=
  zlp (fun k q => mX0_even_135b v0 v3 k q.1 q.2) zFU (v4, w)
def mX0_even_126 (k32 : Int32 × zWd → Option (Unit × zWd)) (v0 : Nat) (v2 : Int32) (v3 : Int32) (v4 : Int32) (w : zWd) : Option (Unit × zWd) :=
  k32 (v4 + (1 : Int32), w)
def mX0_even_81 (k32 : Int32 × zWd → Option (Unit × zWd)) (v0 : Nat) (v2 : Int32) (v3 : Int32) (v4 : Int32) (w : zWd) : Option (Unit × zWd) :=
  if (30 : Int32) ≤ (v4 + (6 : Int32)) then (mX0_even_126 k32 v0 v2 v3 v4 w)
  else (zgd (zin (v3 + v4) 120) <|
  zgd (zin ((v3 + v4) + (6 : Int32)) 120) <|
  zgd (¬ v2 = 0) <|
  zcl (mX0_move v0 v4 (v4 + (6 : Int32)) (((w (v0 + 1) (v3 + v4).toNatClampNeg) - (w (v0 + 1) ((v3 + v4) + (6 : Int32)).toNatClampNeg)) / v2) w) fun _ w4 =>
  mX0_even_126 k32 v0 v2 v3 v4 w4)
def mX0_even_32b (v0 : Nat) (v2 : Int32) (v3 : Int32) (k32 : Int32 × zWd → Option (Unit × zWd)) (v4 : Int32) (w : zWd) : Option (Unit × zWd) :=
  if (30 : Int32) ≤ v4 then (mX0_even_135 v0 v3 (0 : Int32) w)
  else (if (5 : Int32) ≤ (v4 - v4 / (6 : Int32) * (6 : Int32)) then (mX0_even_81 k32 v0 v2 v3 v4 w)
  else (zgd (zin (v3 + v4) 120) <|
  zgd (zin ((v3 + v4) + (1 : Int32)) 120) <|
  zgd (¬ v2 = 0) <|
  zcl (mX0_move v0 v4 (v4 + (1 : Int32)) (((w (v0 + 1) (v3 + v4).toNatClampNeg) - (w (v0 + 1) ((v3 + v4) + (1 : Int32)).toNatClampNeg)) / v2) w) fun _ w6 =>
  mX0_even_81 k32 v0 v2 v3 v4 w6))
def mX0_even_32 (v0 : Nat) (v2 : Int32) (v3 : Int32) (v4 : Int32) (w : zWd) : Option (Unit × zWd) :=
  zlp (fun k q => mX0_even_32b v0 v2 v3 k q.1 q.2) zFU (v4, w)
def mX0_even_8b (v0 : Nat) (v2 : Int32) (v3 : Int32) (k8 : Int32 × zWd → Option (Unit × zWd)) (v4 : Int32) (w : zWd) : Option (Unit × zWd) :=
  if (30 : Int32) ≤ v4 then (mX0_even_32 v0 v2 v3 (0 : Int32) w)
  else (zgd (zin v4 30) <|
  zbn (zup w (v0 + 9) v4.toNatClampNeg (0 : Int32)) fun w7 =>
  k8 (v4 + (1 : Int32), w7))
def mX0_even_8 (v0 : Nat) (v2 : Int32) (v3 : Int32) (v4 : Int32) (w : zWd) : Option (Unit × zWd) :=
  zlp (fun k q => mX0_even_8b v0 v2 v3 k q.1 q.2) zFU (v4, w)
def mX0_even (v0 : Nat) (v1 : Int32) (v2 : Int32) (w : zWd) : Option (Unit × zWd) :=
  zbn (v1 * (30 : Int32)) fun x1 =>
  mX0_even_8 v0 v2 x1 (0 : Int32) w
def mX0_passDay_30b (v0 : Nat) (k30 : Int32 × zWd → Option (Unit × zWd)) (v1 : Int32) (w : zWd) : Option (Unit × zWd) :=
  if (w v0 1) ≤ v1 then (zcl (mX0_even v0 (0 : Int32) (8 : Int32) w) fun _ w2 =>
  zcl (mX0_even v0 (1 : Int32) (4 : Int32) w2) fun _ w4 =>
  some ((), w4))
  else (zcl (mX0_give v0 v1 w) fun _ w6 =>
  k30 (v1 + (1 : Int32), w6))
def mX0_passDay_30 (v0 : Nat) (v1 : Int32) (w : zWd) : Option (Unit × zWd) :=
  zlp (fun k q => mX0_passDay_30b v0 k q.1 q.2) zFU (v1, w)
def mX0_passDay_2b (v0 : Nat) (k2 : Int32 × zWd → Option (Unit × zWd)) (v1 : Int32) (w : zWd) : Option (Unit × zWd) :=
  if (30 : Int32) ≤ v1 then (mX0_passDay_30 v0 (0 : Int32) w)
  else (zcl (mX0_get v0 (0 : Int32) (2 : Int32) v1 w) fun _ w8 =>
  zcl (mX0_get v0 (1 : Int32) (3 : Int32) v1 w8) fun _ w10 =>
  k2 (v1 + (1 : Int32), w10))
def mX0_passDay_2 (v0 : Nat) (v1 : Int32) (w : zWd) : Option (Unit × zWd) :=
  zlp (fun k q => mX0_passDay_2b v0 k q.1 q.2) zFU (v1, w)
def mX0_passDay (v0 : Nat) (w : zWd) : Option (Unit × zWd) :=
  mX0_passDay_2 v0 (0 : Int32) w
def mX1_offer (v0 : Nat) (v1 : Int32) (v2 : Int32) (v3 : Int32) (w : zWd) : Option (Unit × zWd) :=
  zbn (if (v2 / (10 : Int32)) < (6 : Int32) then (v2 / (10 : Int32)) else (6 : Int32)) fun x1 =>
  zgd (zin v1 4) <|
  zbn (zup w (v0 + 1) v1.toNatClampNeg x1) fun w2 =>
  zgd (zin v1 4) <|
  zbn (zup w2 (v0 + 2) v1.toNatClampNeg v3) fun w3 =>
  some ((), w3)
def mX8_needs_53 (v2 : Int32) (w : zWd) : Option (Int32 × zWd) :=
  zbn (if (0 : Int32) < (v2 - (20 : Int32)) then (v2 - (20 : Int32)) else (0 : Int32)) fun x2 =>
  some (x2, w)
def mX8_needs (v0 : Nat) (v1 : Int32) (w : zWd) : Option (Int32 × zWd) :=
  zgd (zin v1 8) <|
  zbn (w (v0 + 4) v1.toNatClampNeg) fun x1 =>
  zgd (zin v1 8) <|
  if (w (v0 + 1) v1.toNatClampNeg) = (1 : Int32) then (some (x1 + (10 : Int32), w))
  else if (w (v0 + 1) v1.toNatClampNeg) = (2 : Int32) then (mX8_needs_53 x1 w)
  else if (w (v0 + 1) v1.toNatClampNeg) = (3 : Int32) then (some (x1 / (2 : Int32), w))
  else if (w (v0 + 1) v1.toNatClampNeg) = (4 : Int32) then (mX8_needs_53 x1 w)
  else if (w (v0 + 1) v1.toNatClampNeg) = (5 : Int32) then (zbn (if (0 : Int32) < (x1 - (20 : Int32)) then (x1 - (20 : Int32)) else (0 : Int32)) fun x3 =>
  some (x3 + (5 : Int32), w))
  else (some (x1, w))
def mX11_within_14 (s0 : Int32) (w : zWd) : Option (Int32 × zWd) :=
  zgd (zB s0) (some (s0, w))
def mX11_within_13 (w : zWd) : Option (Int32 × zWd) :=
  mX11_within_14 (0 : Int32) w
def mX11_within (v0 : Int32) (v1 : Int32) (w : zWd) : Option (Int32 × zWd) :=
  if v0 < 0 then (mX11_within_13 w)
  else (if v1 ≤ v0 then (mX11_within_13 w)
  else (mX11_within_14 (1 : Int32) w))
def mX1_keep_63 (w : zWd) : Option (Unit × zWd) :=
  some ((), w)
def mX1_keep (v0 : Nat) (v1 : Int32) (w : zWd) : Option (Unit × zWd) :=
  zcl (mX11_within v1 (2401 : Int32) w) fun r1 w2 =>
  if r1 = 0 then (mX1_keep_63 w2)
  else (zgd (zin v1 2401) <|
  if (w2 (v0 + 5) v1.toNatClampNeg) = (w2 v0 7) then (mX1_keep_63 w2)
  else (if (2401 : Int32) ≤ (w2 v0 5) then (mX1_keep_63 w2)
  else (zgd (zin v1 2401) <|
  zbn (zup w2 (v0 + 5) v1.toNatClampNeg (w2 v0 7)) fun w3 =>
  zgd (¬ w3 v0 3 = 0) <|
  zgd (zShp (w3 v0 3).toNatClampNeg = (20, 2401)) <|
  zgd (zin (w3 v0 5) 2401) <|
  zbn (zup w3 ((w3 v0 3).toNatClampNeg) (w3 v0 5).toNatClampNeg v1) fun w5 =>
  zbn (zup w5 v0 5 ((w5 v0 5) + (1 : Int32))) fun w6 =>
  mX1_keep_63 w6)))
def mX1_takeFrom_198 (w : zWd) : Option (Unit × zWd) :=
  some ((), w)
def mX1_takeFrom_192 (k34 : Int32 × zWd → Option (Unit × zWd)) (v0 : Nat) (v1 : Int32) (v2 : Int32) (v3 : Int32) (v4 : Int32) (v5 : Int32) (v6 : Int32) (v7 : Int32) (v8 : Int32) (w : zWd) : Option (Unit × zWd) :=
  k34 (v8 + (1 : Int32), w)
def mX1_takeFrom_186 (k34 : Int32 × zWd → Option (Unit × zWd)) (k50 : Int32 × zWd → Option (Unit × zWd)) (v0 : Nat) (v1 : Int32) (v2 : Int32) (v3 : Int32) (v4 : Int32) (v5 : Int32) (v6 : Int32) (v7 : Int32) (v8 : Int32) (v9 : Int32) (w : zWd) : Option (Unit × zWd) :=
  k50 (v9 + (1 : Int32), w)
def mX1_takeFrom_180 (k34 : Int32 × zWd → Option (Unit × zWd)) (k50 : Int32 × zWd → Option (Unit × zWd)) (k69 : Int32 × zWd → Option (Unit × zWd)) (v0 : Nat) (v1 : Int32) (v2 : Int32) (v3 : Int32) (v4 : Int32) (v5 : Int32) (v6 : Int32) (v7 : Int32) (v8 : Int32) (v9 : Int32) (v10 : Int32) (w : zWd) : Option (Unit × zWd) :=
  k69 (v10 + (1 : Int32), w)
def mX1_takeFrom_69b (k34 : Int32 × zWd → Option (Unit × zWd)) (k50 : Int32 × zWd → Option (Unit × zWd)) (v0 : Nat) (v1 : Int32) (v2 : Int32) (v3 : Int32) (v4 : Int32) (v5 : Int32) (v6 : Int32) (v7 : Int32) (v8 : Int32) (v9 : Int32) (k69 : Int32 × zWd → Option (Unit × zWd)) (v10 : Int32) (w : zWd) : Option (Unit × zWd) :=
  if v2 < ((v8 + v9) + v10) then (mX1_takeFrom_186 k34 k50 v0 v1 v2 v3 v4 v5 v6 v7 v8 v9 w)
  else (if v6 < v10 then (mX1_takeFrom_186 k34 k50 v0 v1 v2 v3 v4 v5 v6 v7 v8 v9 w)
  else (zbn (((v2 - v8) - v9) - v10) fun x5 =>
  zgd (zin (0 : Int32) 4) <|
  zgd (zin (1 : Int32) 4) <|
  zgd (zin (2 : Int32) 4) <|
  zgd (zin (3 : Int32) 4) <|
  zbn ((((v8 * (w (v0 + 2) (0 : Int32).toNatClampNeg)) + (v9 * (w (v0 + 2) (1 : Int32).toNatClampNeg))) + (v10 * (w (v0 + 2) (2 : Int32).toNatClampNeg))) + (x5 * (w (v0 + 2) (3 : Int32).toNatClampNeg))) fun x6 =>
  if v7 < x5 then (mX1_takeFrom_180 k34 k50 k69 v0 v1 v2 v3 v4 v5 v6 v7 v8 v9 v10 w)
  else (if x6 < v3 then (mX1_takeFrom_180 k34 k50 k69 v0 v1 v2 v3 v4 v5 v6 v7 v8 v9 v10 w)
  else (zcl (mX1_keep v0 (v1 - ((((((x5 * (7 : Int32)) + v10) * (7 : Int32)) + v9) * (7 : Int32)) + v8)) w) fun _ w8 =>
  mX1_takeFrom_180 k34 k50 k69 v0 v1 v2 v3 v4 v5 v6 v7 v8 v9 v10 w8))))
def mX1_takeFrom_69 (k34 : Int32 × zWd → Option (Unit × zWd)) (k50 : Int32 × zWd → Option (Unit × zWd)) (v0 : Nat) (v1 : Int32) (v2 : Int32) (v3 : Int32) (v4 : Int32) (v5 : Int32) (v6 : Int32) (v7 : Int32) (v8 : Int32) (v9 : Int32) (v10 : Int32) (w : zWd) : Option (Unit × zWd) :=
  zlp (fun k q => mX1_takeFrom_69b k34 k50 v0 v1 v2 v3 v4 v5 v6 v7 v8 v9 k q.1 q.2) zFU (v10, w)
def mX1_takeFrom_50b (k34 : Int32 × zWd → Option (Unit × zWd)) (v0 : Nat) (v1 : Int32) (v2 : Int32) (v3 : Int32) (v4 : Int32) (v5 : Int32) (v6 : Int32) (v7 : Int32) (v8 : Int32) (k50 : Int32 × zWd → Option (Unit × zWd)) (v9 : Int32) (w : zWd) : Option (Unit × zWd) :=
  if v2 < (v8 + v9) then (mX1_takeFrom_192 k34 v0 v1 v2 v3 v4 v5 v6 v7 v8 w)
  else (if v5 < v9 then (mX1_takeFrom_192 k34 v0 v1 v2 v3 v4 v5 v6 v7 v8 w)
  else (mX1_takeFrom_69 k34 k50 v0 v1 v2 v3 v4 v5 v6 v7 v8 v9 (0 : Int32) w))
def mX1_takeFrom_50 (k34 : Int32 × zWd → Option (Unit × zWd)) (v0 : Nat) (v1 : Int32) (v2 : Int32) (v3 : Int32) (v4 : Int32) (v5 : Int32) (v6 : Int32) (v7 : Int32) (v8 : Int32) (v9 : Int32) (w : zWd) : Option (Unit × zWd) :=
  zlp (fun k q => mX1_takeFrom_50b k34 v0 v1 v2 v3 v4 v5 v6 v7 v8 k q.1 q.2) zFU (v9, w)
def mX1_takeFrom_34b (v0 : Nat) (v1 : Int32) (v2 : Int32) (v3 : Int32) (v4 : Int32) (v5 : Int32) (v6 : Int32) (v7 : Int32) (k34 : Int32 × zWd → Option (Unit × zWd)) (v8 : Int32) (w : zWd) : Option (Unit × zWd) :=
  if v2 < v8 then (mX1_takeFrom_198 w)
  else (if v4 < v8 then (mX1_takeFrom_198 w)
  else (mX1_takeFrom_50 k34 v0 v1 v2 v3 v4 v5 v6 v7 v8 (0 : Int32) w))
def mX1_takeFrom_34 (v0 : Nat) (v1 : Int32) (v2 : Int32) (v3 : Int32) (v4 : Int32) (v5 : Int32) (v6 : Int32) (v7 : Int32) (v8 : Int32) (w : zWd) : Option (Unit × zWd) :=
  zlp (fun k q => mX1_takeFrom_34b v0 v1 v2 v3 v4 v5 v6 v7 k q.1 q.2) zFU (v8, w)
def mX1_takeFrom (v0 : Nat) (v1 : Int32) (v2 : Int32) (v3 : Int32) (w : zWd) : Option (Unit × zWd) :=
  zbn (v1 - v1 / (7 : Int32) * (7 : Int32)) fun x1 =>
  zbn ((v1 / (7 : Int32)) - (v1 / (7 : Int32)) / (7 : Int32) * (7 : Int32)) fun x2 =>
  zbn ((v1 / (49 : Int32)) - (v1 / (49 : Int32)) / (7 : Int32) * (7 : Int32)) fun x3 =>
  zbn (v1 / (343 : Int32)) fun x4 =>
  mX1_takeFrom_34 v0 v1 v2 v3 x1 x2 x3 x4 (0 : Int32) w
def mX1_canAdd_17b (v0 : Nat) (v1 : Int32) (v2 : Int32) (k17 : Int32 × zWd → Option (Int32 × zWd)) (v3 : Int32) (w : zWd) : Option (Int32 × zWd) :=
  if (w v0 4) ≤ v3 then (if (w v0 5) = 0 then (zgd (zB (0 : Int32)) (some ((0 : Int32), w)))
  else (zgd (¬ w v0 2 = 0) <|
  zgd (zShp (w v0 2).toNatClampNeg = (20, 2401)) <|
  zgd (¬ w v0 3 = 0) <|
  zgd (zShp (w v0 3).toNatClampNeg = (20, 2401)) <|
  zbn (zup w v0 2 (Int32.ofNat ((w v0 3).toNatClampNeg))) fun w5 =>
  zbn (zup w5 v0 3 (Int32.ofNat ((w v0 2).toNatClampNeg))) fun w6 =>
  zbn (zup w6 v0 4 (w6 v0 5)) fun w7 =>
  zgd (zB (1 : Int32)) (some ((1 : Int32), w7))))
  else (zgd (¬ w v0 2 = 0) <|
  zgd (zShp (w v0 2).toNatClampNeg = (20, 2401)) <|
  zgd (zin v3 2401) <|
  zcl (mX1_takeFrom v0 (w ((w v0 2).toNatClampNeg) v3.toNatClampNeg) v1 (v1 * v2) w) fun _ w10 =>
  k17 (v3 + (1 : Int32), w10))
def mX1_canAdd_17 (v0 : Nat) (v1 : Int32) (v2 : Int32) (v3 : Int32) (w : zWd) : Option (Int32 × zWd) :=
  zlp (fun k q => mX1_canAdd_17b v0 v1 v2 k q.1 q.2) zFU (v3, w)
def mX1_canAdd (v0 : Nat) (v1 : Int32) (v2 : Int32) (w : zWd) : Option (Int32 × zWd) :=
  zbn (zup w v0 7 ((w v0 7) + (1 : Int32))) fun w1 =>
  zbn (zup w1 v0 5 (0 : Int32)) fun w2 =>
  mX1_canAdd_17 v0 v1 v2 (0 : Int32) w2
def mX1_serve_97 (k52 : Int32 × Int32 × zWd → Option (Int32 × zWd)) (v0 : Nat) (v1 : Nat) (v2 : Nat) (v3 : Int32) (v4 : Int32) (w : zWd) : Option (Int32 × zWd) :=
  k52 (v3, v4 + (1 : Int32), w)
def mX1_serve_52b (v0 : Nat) (v1 : Nat) (v2 : Nat) (k52 : Int32 × Int32 × zWd → Option (Int32 × zWd)) (v3 : Int32) (v4 : Int32) (w : zWd) : Option (Int32 × zWd) :=
  if (w v1 0) ≤ v4 then (some (v3, w))
  else (zgd (zin v4 8) <|
  zbn (w (v1 + 2) v4.toNatClampNeg) fun x4 =>
  zgd (zin x4 8) <|
  zcl (mX8_needs v2 x4 w) fun r5 w6 =>
  zcl (mX1_canAdd v0 (w (v2 + 3) x4.toNatClampNeg) r5 w6) fun r7 w8 =>
  if r7 = 0 then (mX1_serve_97 k52 v0 v1 v2 v3 v4 w8)
  else (zbn (v3 ||| ((1 : Int32) <<< (x4 &&& 31))) fun x9 =>
  mX1_serve_97 k52 v0 v1 v2 x9 v4 w8))
def mX1_serve_52 (v0 : Nat) (v1 : Nat) (v2 : Nat) (v3 : Int32) (v4 : Int32) (w : zWd) : Option (Int32 × zWd) :=
  zlp (fun k q => mX1_serve_52b v0 v1 v2 k q.1 q.2.1 q.2.2) zFU (v3, v4, w)
def mX1_serve (v0 : Nat) (v1 : Nat) (v2 : Nat) (w : zWd) : Option (Int32 × zWd) :=
  zgd (¬ w v0 2 = 0) <|
  zgd (zShp (w v0 2).toNatClampNeg = (20, 2401)) <|
  zgd (zin (3 : Int32) 4) <|
  zgd (zin (2 : Int32) 4) <|
  zgd (zin (1 : Int32) 4) <|
  zgd (zin (0 : Int32) 4) <|
  zgd (zin (0 : Int32) 2401) <|
  zbn (zup w ((w v0 2).toNatClampNeg) (0 : Int32).toNatClampNeg (((((((w (v0 + 1) (3 : Int32).toNatClampNeg) * (7 : Int32)) + (w (v0 + 1) (2 : Int32).toNatClampNeg)) * (7 : Int32)) + (w (v0 + 1) (1 : Int32).toNatClampNeg)) * (7 : Int32)) + (w (v0 + 1) (0 : Int32).toNatClampNeg))) fun w2 =>
  zbn (zup w2 v0 4 (1 : Int32)) fun w3 =>
  mX1_serve_52 v0 v1 v2 (0 : Int32) (0 : Int32) w3
def mX2_copyFrom (v0 : Nat) (v1 : Nat) (w : zWd) : Option (Unit × zWd) :=
  zbn (zup w v0 0 (w v1 0)) fun w1 =>
  zbn (zup w1 v0 1 (w1 v1 1)) fun w2 =>
  zgd (zcok (0 : Int32) (0 : Int32) (8 : Int32) 8 8) <|
  zbn (zcp w2 (v1 + 1) (0 : Int32).toNatClampNeg (v0 + 1) (0 : Int32).toNatClampNeg (8 : Int32).toNatClampNeg) fun w3 =>
  zgd (zcok (0 : Int32) (0 : Int32) (8 : Int32) 8 8) <|
  zbn (zcp w3 (v1 + 2) (0 : Int32).toNatClampNeg (v0 + 2) (0 : Int32).toNatClampNeg (8 : Int32).toNatClampNeg) fun w4 =>
  zgd (zcok (0 : Int32) (0 : Int32) (8 : Int32) 8 8) <|
  zbn (zcp w4 (v1 + 3) (0 : Int32).toNatClampNeg (v0 + 3) (0 : Int32).toNatClampNeg (8 : Int32).toNatClampNeg) fun w5 =>
  zgd (zcok (0 : Int32) (0 : Int32) (8 : Int32) 8 8) <|
  zbn (zcp w5 (v1 + 4) (0 : Int32).toNatClampNeg (v0 + 4) (0 : Int32).toNatClampNeg (8 : Int32).toNatClampNeg) fun w6 =>
  zbn (zup w6 v0 6 (w6 v1 6)) fun w7 =>
  zgd (zcok (0 : Int32) (0 : Int32) (120 : Int32) 120 120) <|
  zbn (zcp w7 (v1 + 5) (0 : Int32).toNatClampNeg (v0 + 5) (0 : Int32).toNatClampNeg (120 : Int32).toNatClampNeg) fun w8 =>
  some ((), w8)
def mX2_clear (v0 : Nat) (v1 : Int32) (w : zWd) : Option (Unit × zWd) :=
  zbn (zup w v0 0 v1) fun w1 =>
  zbn (zup w1 v0 1 (0 : Int32)) fun w2 =>
  zbn (zup w2 v0 6 (0 : Int32)) fun w3 =>
  some ((), w3)
def mX2_addStep_35 (w : zWd) : Option (Unit × zWd) :=
  some ((), w)
def mX2_addStep (v0 : Nat) (v1 : Int32) (v2 : Int32) (w : zWd) : Option (Unit × zWd) :=
  if (120 : Int32) ≤ (w v0 6) then (mX2_addStep_35 w)
  else (zgd (zin (w v0 6) 120) <|
  zbn (zup w (v0 + 5) (w v0 6).toNatClampNeg ((v1 * (1000 : Int32)) + v2)) fun w1 =>
  zbn (zup w1 v0 6 ((w1 v0 6) + (1 : Int32))) fun w2 =>
  mX2_addStep_35 w2)
def mX2_addClause_62 (w : zWd) : Option (Unit × zWd) :=
  some ((), w)
def mX2_addClause (v0 : Nat) (v1 : Int32) (v2 : Int32) (v3 : Int32) (w : zWd) : Option (Unit × zWd) :=
  if (8 : Int32) ≤ (w v0 1) then (mX2_addClause_62 w)
  else (zgd (zin (w v0 1) 8) <|
  zbn (zup w (v0 + 1) (w v0 1).toNatClampNeg v1) fun w1 =>
  zgd (zin (w1 v0 1) 8) <|
  zbn (zup w1 (v0 + 2) (w1 v0 1).toNatClampNeg v2) fun w2 =>
  zgd (zin (w2 v0 1) 8) <|
  zbn (zup w2 (v0 + 3) (w2 v0 1).toNatClampNeg v3) fun w3 =>
  zgd (zin (w3 v0 1) 8) <|
  zbn (zup w3 (v0 + 4) (w3 v0 1).toNatClampNeg (w3 v0 6)) fun w4 =>
  zbn (zup w4 v0 1 ((w4 v0 1) + (1 : Int32))) fun w5 =>
  mX2_addClause_62 w5)
def mX2_isSo_59 (s0 : Int32) (w : zWd) : Option (Int32 × zWd) :=
  zgd (zB s0) (some (s0, w))
def mX2_isSo_75 (s0 : Int32) (w : zWd) : Option (Int32 × zWd) :=
  zgd (zB s0) (some (s0, w))
def mX2_isSo_91 (s0 : Int32) (w : zWd) : Option (Int32 × zWd) :=
  zgd (zB s0) (some (s0, w))
def mX2_isSo_107 (s0 : Int32) (w : zWd) : Option (Int32 × zWd) :=
  zgd (zB s0) (some (s0, w))
def mX2_isSo_123 (s0 : Int32) (w : zWd) : Option (Int32 × zWd) :=
  zgd (zB s0) (some (s0, w))
def mX2_isSo_139 (s0 : Int32) (w : zWd) : Option (Int32 × zWd) :=
  zgd (zB s0) (some (s0, w))
def mX2_isSo_155 (s0 : Int32) (w : zWd) : Option (Int32 × zWd) :=
  zgd (zB s0) (some (s0, w))
def mX2_isSo_171 (s0 : Int32) (w : zWd) : Option (Int32 × zWd) :=
  zgd (zB s0) (some (s0, w))
def mX2_isSo (v0 : Int32) (v1 : Int32) (v2 : Nat) (v3 : Int32) (w : zWd) : Option (Int32 × zWd) :=
  if v0 = (0 : Int32) then (zgd (zin v3 8) <|
  if (w (v2 + 1) v3.toNatClampNeg) = v1 then (mX2_isSo_59 (1 : Int32) w)
  else (mX2_isSo_59 (0 : Int32) w))
  else if v0 = (1 : Int32) then (zgd (zin v3 8) <|
  if (w (v2 + 2) v3.toNatClampNeg) = v1 then (mX2_isSo_75 (1 : Int32) w)
  else (mX2_isSo_75 (0 : Int32) w))
  else if v0 = (2 : Int32) then (zgd (zin v3 8) <|
  if v1 ≤ (w (v2 + 3) v3.toNatClampNeg) then (mX2_isSo_91 (0 : Int32) w)
  else (mX2_isSo_91 (1 : Int32) w))
  else if v0 = (3 : Int32) then (zgd (zin v3 8) <|
  if (w (v2 + 3) v3.toNatClampNeg) ≤ v1 then (mX2_isSo_107 (0 : Int32) w)
  else (mX2_isSo_107 (1 : Int32) w))
  else if v0 = (4 : Int32) then (zgd (zin v3 8) <|
  if v1 ≤ (w (v2 + 5) v3.toNatClampNeg) then (mX2_isSo_123 (0 : Int32) w)
  else (mX2_isSo_123 (1 : Int32) w))
  else if v0 = (5 : Int32) then (zgd (zin v3 8) <|
  if (w (v2 + 5) v3.toNatClampNeg) ≤ v1 then (mX2_isSo_139 (0 : Int32) w)
  else (mX2_isSo_139 (1 : Int32) w))
  else if v0 = (6 : Int32) then (zgd (zin v3 8) <|
  if v1 ≤ (w (v2 + 4) v3.toNatClampNeg) then (mX2_isSo_155 (0 : Int32) w)
  else (mX2_isSo_155 (1 : Int32) w))
  else (zgd (zin v3 8) <|
  if (w (v2 + 4) v3.toNatClampNeg) ≤ v1 then (mX2_isSo_171 (0 : Int32) w)
  else (mX2_isSo_171 (1 : Int32) w))
def mX2_holds_152 (s0 : Int32) (w : zWd) : Option (Int32 × zWd) :=
  zgd (zB s0) (some (s0, w))
def mX2_holds_140 (v4 : Int32) (w : zWd) : Option (Int32 × zWd) :=
  if (v4 &&& (1 : Int32)) = 0 then (mX2_holds_152 (0 : Int32) w)
  else (mX2_holds_152 (1 : Int32) w)
def mX2_holds_134 (k11 : Int32 × Int32 × zWd → Option (Int32 × zWd)) (v0 : Nat) (v1 : Int32) (v2 : Nat) (v3 : Int32) (v4 : Int32) (v5 : Int32) (w : zWd) : Option (Int32 × zWd) :=
  k11 (v4, v5 + (1 : Int32), w)
def mX2_holds_131 (k11 : Int32 × Int32 × zWd → Option (Int32 × zWd)) (v0 : Nat) (v1 : Int32) (v2 : Nat) (v3 : Int32) (v5 : Int32) (s0 : Int32) (s1 : Int32) (w : zWd) : Option (Int32 × zWd) :=
  zbn (s1 ||| s0) fun x8 =>
  mX2_holds_134 k11 v0 v1 v2 v3 x8 v5 w
def mX2_holds_11b (v0 : Nat) (v1 : Int32) (v2 : Nat) (v3 : Int32) (k11 : Int32 × Int32 × zWd → Option (Int32 × zWd)) (v4 : Int32) (v5 : Int32) (w : zWd) : Option (Int32 × zWd) :=
  zgd (zin v1 8) <|
  if (w (v0 + 4) v1.toNatClampNeg) ≤ v5 then (mX2_holds_140 v4 w)
  else (if (120 : Int32) ≤ v5 then (mX2_holds_140 v4 w)
  else (zgd (zin v5 120) <|
  zbn ((w (v0 + 5) v5.toNatClampNeg) / (1000 : Int32)) fun x2 =>
  if x2 = (8 : Int32) then (zbn (v4 ^^^ (1 : Int32)) fun x3 =>
  mX2_holds_134 k11 v0 v1 v2 v3 x3 v5 w)
  else (if x2 = (9 : Int32) then (zbn (((v4.toUInt32 >>> ((1 : Int32).toUInt32 &&& Int32.toUInt32 31)).toInt32) &&& (v4 ||| (-2 : Int32))) fun x4 =>
  mX2_holds_134 k11 v0 v1 v2 v3 x4 v5 w)
  else (if x2 = (10 : Int32) then (zbn (((v4.toUInt32 >>> ((1 : Int32).toUInt32 &&& Int32.toUInt32 31)).toInt32) ||| (v4 &&& (1 : Int32))) fun x5 =>
  mX2_holds_134 k11 v0 v1 v2 v3 x5 v5 w)
  else (zgd (zin v5 120) <|
  zcl (mX2_isSo x2 ((w (v0 + 5) v5.toNatClampNeg) - (w (v0 + 5) v5.toNatClampNeg) / (1000 : Int32) * (1000 : Int32)) v2 v3 w) fun r6 w7 =>
  if r6 = 0 then (mX2_holds_131 k11 v0 v1 v2 v3 v5 (0 : Int32) (v4 <<< ((1 : Int32) &&& 31)) w7)
  else (mX2_holds_131 k11 v0 v1 v2 v3 v5 (1 : Int32) (v4 <<< ((1 : Int32) &&& 31)) w7))))))
def mX2_holds_11 (v0 : Nat) (v1 : Int32) (v2 : Nat) (v3 : Int32) (v4 : Int32) (v5 : Int32) (w : zWd) : Option (Int32 × zWd) :=
  zlp (fun k q => mX2_holds_11b v0 v1 v2 v3 k q.1 q.2.1 q.2.2) zFU (v4, v5, w)
def mX2_holds (v0 : Nat) (v1 : Int32) (v2 : Nat) (v3 : Int32) (w : zWd) : Option (Int32 × zWd) :=
  zgd (zin v1 8) <|
  zbn (w (v0 + 3) v1.toNatClampNeg) fun x1 =>
  mX2_holds_11 v0 v1 v2 v3 (0 : Int32) x1 w
def mX2_lastClause_42 (k8 : Int32 × zWd → Option (Int32 × zWd)) (v0 : Nat) (v1 : Int32) (v2 : Nat) (v3 : Int32) (v4 : Int32) (w : zWd) : Option (Int32 × zWd) :=
  k8 (v4 + (-1 : Int32), w)
def mX2_lastClause_39 (v4 : Int32) (w : zWd) : Option (Int32 × zWd) :=
  some (v4, w)
def mX2_lastClause_8b (v0 : Nat) (v1 : Int32) (v2 : Nat) (v3 : Int32) (k8 : Int32 × zWd → Option (Int32 × zWd)) (v4 : Int32) (w : zWd) : Option (Int32 × zWd) :=
  if v4 < 0 then (some ((-1 : Int32), w))
  else (zgd (zin v4 8) <|
  if (w (v0 + 1) v4.toNatClampNeg) = v1 then (if v1 = 0 then (zcl (mX2_holds v0 v4 v2 v3 w) fun r2 w3 =>
  if r2 = 0 then (mX2_lastClause_42 k8 v0 v1 v2 v3 v4 w3)
  else (mX2_lastClause_39 v4 w3))
  else (mX2_lastClause_39 v4 w))
  else (mX2_lastClause_42 k8 v0 v1 v2 v3 v4 w))
def mX2_lastClause_8 (v0 : Nat) (v1 : Int32) (v2 : Nat) (v3 : Int32) (v4 : Int32) (w : zWd) : Option (Int32 × zWd) :=
  zlp (fun k q => mX2_lastClause_8b v0 v1 v2 v3 k q.1 q.2) zFU (v4, w)
def mX2_lastClause (v0 : Nat) (v1 : Int32) (v2 : Nat) (v3 : Int32) (w : zWd) : Option (Int32 × zWd) :=
  zbn ((w v0 1) - (1 : Int32)) fun x1 =>
  mX2_lastClause_8 v0 v1 v2 v3 x1 w
def mX3_copyFrom_48 (w : zWd) : Option (Unit × zWd) :=
  some ((), w)
def mX3_copyFrom_10b (v0 : Nat) (v1 : Nat) (k10 : Int32 × zWd → Option (Unit × zWd)) (v2 : Int32) (w : zWd) : Option (Unit × zWd) :=
  if (w v0 0) ≤ v2 then (mX3_copyFrom_48 w)
  else (if (11 : Int32) ≤ v2 then (mX3_copyFrom_48 w)
  else (zgd (zin v2 11) <|
  zgd (zin v2 11) <|
  zcl (mX2_copyFrom ((v0 + 1) + 1 + 6 * v2.toNatClampNeg) ((v1 + 1) + 1 + 6 * v2.toNatClampNeg) w) fun _ w5 =>
  k10 (v2 + (1 : Int32), w5)))
def mX3_copyFrom_10 (v0 : Nat) (v1 : Nat) (v2 : Int32) (w : zWd) : Option (Unit × zWd) :=
  zlp (fun k q => mX3_copyFrom_10b v0 v1 k q.1 q.2) zFU (v2, w)
def mX3_copyFrom (v0 : Nat) (v1 : Nat) (w : zWd) : Option (Unit × zWd) :=
  zbn (zup w v0 0 (w v1 0)) fun w1 =>
  mX3_copyFrom_10 v0 v1 (0 : Int32) w1
def mX3_spare (v0 : Nat) (w : zWd) : Option (Nat × zWd) :=
  zbn (if (10 : Int32) < (w v0 0) then (10 : Int32) else (w v0 0)) fun x1 =>
  zgd (zin x1 11) <|
  some (((v0 + 1) + 1 + 6 * x1.toNatClampNeg), w)
def mX3_accept (v0 : Nat) (w : zWd) : Option (Int32 × zWd) :=
  zbn (w v0 0) fun x1 =>
  zbn (if (11 : Int32) < ((w v0 0) + (1 : Int32)) then (11 : Int32) else ((w v0 0) + (1 : Int32))) fun x2 =>
  zbn (zup w v0 0 x2) fun w3 =>
  some (x1, w3)
def mX3_forgetLast (v0 : Nat) (w : zWd) : Option (Unit × zWd) :=
  zbn (if (0 : Int32) < ((w v0 0) - (1 : Int32)) then ((w v0 0) - (1 : Int32)) else (0 : Int32)) fun x1 =>
  zbn (zup w v0 0 x1) fun w2 =>
  some ((), w2)
def mX3_numberBy (v0 : Nat) (v1 : Int32) (v2 : Int32) (w : zWd) : Option (Int32 × zWd) :=
  if 0 ≤ v1 then (zgd (zin (v1 / (100 : Int32)) 11) <|
  zgd (zin (v1 - v1 / (100 : Int32) * (100 : Int32)) 8) <|
  some (w (((v0 + 1) + 1 + 6 * (v1 / (100 : Int32)).toNatClampNeg) + 2) (v1 - v1 / (100 : Int32) * (100 : Int32)).toNatClampNeg, w))
  else (zgd (zin v2 6) <|
  some ((zSVv 1).getD v2.toNatClampNeg 0, w))
def mX3_keyBelow_61 (k5 : Int32 × Int32 × zWd → Option (Int32 × zWd)) (v0 : Nat) (v1 : Int32) (v2 : Int32) (v3 : Int32) (v4 : Int32) (w : zWd) : Option (Int32 × zWd) :=
  k5 (v3, v4 + (1 : Int32), w)
def mX3_keyBelow_5b (v0 : Nat) (v1 : Int32) (v2 : Int32) (k5 : Int32 × Int32 × zWd → Option (Int32 × zWd)) (v3 : Int32) (v4 : Int32) (w : zWd) : Option (Int32 × zWd) :=
  if (w v0 0) ≤ v4 then (some (v3, w))
  else (zgd (zin v4 11) <|
  zbn (((w ((v0 + 1) + 1 + 6 * v4.toNatClampNeg) 0) * (100 : Int32)) + v4) fun x2 =>
  zgd (zin v4 11) <|
  if v2 < (w ((v0 + 1) + 1 + 6 * v4.toNatClampNeg) 0) then (mX3_keyBelow_61 k5 v0 v1 v2 v3 v4 w)
  else (if v1 ≤ x2 then (mX3_keyBelow_61 k5 v0 v1 v2 v3 v4 w)
  else (if x2 ≤ v3 then (mX3_keyBelow_61 k5 v0 v1 v2 v3 v4 w)
  else (mX3_keyBelow_61 k5 v0 v1 v2 x2 v4 w))))
def mX3_keyBelow_5 (v0 : Nat) (v1 : Int32) (v2 : Int32) (v3 : Int32) (v4 : Int32) (w : zWd) : Option (Int32 × zWd) :=
  zlp (fun k q => mX3_keyBelow_5b v0 v1 v2 k q.1 q.2.1 q.2.2) zFU (v3, v4, w)
def mX3_keyBelow (v0 : Nat) (v1 : Int32) (v2 : Int32) (w : zWd) : Option (Int32 × zWd) :=
  mX3_keyBelow_5 v0 v1 v2 (-1 : Int32) (0 : Int32) w
def mX3_ruling_7b (v0 : Nat) (v1 : Int32) (v2 : Nat) (v3 : Int32) (v4 : Int32) (k7 : Int32 × Int32 × zWd → Option (Int32 × zWd)) (v5 : Int32) (v6 : Int32) (w : zWd) : Option (Int32 × zWd) :=
  if (w v0 0) ≤ v6 then (some ((-5 : Int32), w))
  else (zcl (mX3_keyBelow v0 v5 v4 w) fun r1 w2 =>
  if 0 ≤ r1 then (zgd (zin (r1 - r1 / (100 : Int32) * (100 : Int32)) 11) <|
  zcl (mX2_lastClause ((v0 + 1) + 1 + 6 * (r1 - r1 / (100 : Int32) * (100 : Int32)).toNatClampNeg) v1 v2 v3 w2) fun r4 w5 =>
  if r4 < 0 then (k7 (r1, v6 + (1 : Int32), w5))
  else (some (((r1 - r1 / (100 : Int32) * (100 : Int32)) * (100 : Int32)) + r4, w5)))
  else (some ((-5 : Int32), w2)))
def mX3_ruling_7 (v0 : Nat) (v1 : Int32) (v2 : Nat) (v3 : Int32) (v4 : Int32) (v5 : Int32) (v6 : Int32) (w : zWd) : Option (Int32 × zWd) :=
  zlp (fun k q => mX3_ruling_7b v0 v1 v2 v3 v4 k q.1 q.2.1 q.2.2) zFU (v5, v6, w)
def mX3_ruling (v0 : Nat) (v1 : Int32) (v2 : Nat) (v3 : Int32) (v4 : Int32) (w : zWd) : Option (Int32 × zWd) :=
  mX3_ruling_7 v0 v1 v2 v3 v4 (40100 : Int32) (0 : Int32) w
def mX4_lettersOf (v0 : Int32) (w : zWd) : Option (Nat × zWd) :=
  if v0 = (0 : Int32) then (some ((253 + 0), w))
  else if v0 = (1 : Int32) then (some ((253 + 1), w))
  else if v0 = (2 : Int32) then (some ((253 + 2), w))
  else if v0 = (3 : Int32) then (some ((253 + 3), w))
  else if v0 = (4 : Int32) then (some ((253 + 4), w))
  else (some ((253 + 5), w))
def mJ0_coder_7d493_14 (s0 : Int32) (w : zWd) : Option (Int32 × zWd) :=
  zgd (narrow .byte (.int s0) = .int s0) (some (s0, w))
def mJ0_coder_7d493 (v0 : Nat) (w : zWd) : Option (Int32 × zWd) :=
  if (1 : Int32) = 0 then (mJ0_coder_7d493_14 (1 : Int32) w)
  else (mJ0_coder_7d493_14 (0 : Int32) w)
def mJ0_length_8abf5 (v0 : Nat) (w : zWd) : Option (Int32 × zWd) :=
  zcl (mJ0_coder_7d493 v0 w) fun r1 w2 =>
  some ((Int32.ofNat (zTl.getD ((v0 + 17) - 270) 0)) >>> (r1 &&& 31), w2)
def mJ0_isLatin1_aae02_18 (s0 : Int32) (w : zWd) : Option (Int32 × zWd) :=
  zgd (zB s0) (some (s0, w))
def mJ0_isLatin1_aae02_17 (w : zWd) : Option (Int32 × zWd) :=
  mJ0_isLatin1_aae02_18 (0 : Int32) w
def mJ0_isLatin1_aae02 (v0 : Nat) (w : zWd) : Option (Int32 × zWd) :=
  if (1 : Int32) = 0 then (mJ0_isLatin1_aae02_17 w)
  else (if (0 : Int32) = 0 then (mJ0_isLatin1_aae02_18 (1 : Int32) w)
  else (mJ0_isLatin1_aae02_17 w))
def mJ3_checkIndex_8e157_9 (v0 : Int32) (v1 : Int32) (v2 : UInt32) (w : zWd) : Option (Int32 × zWd) :=
  none
def mJ3_checkIndex_8e157 (v0 : Int32) (v1 : Int32) (v2 : UInt32) (w : zWd) : Option (Int32 × zWd) :=
  if v0 < 0 then (mJ3_checkIndex_8e157_9 v0 v1 v2 w)
  else (if v0 < v1 then (some (v0, w))
  else (mJ3_checkIndex_8e157_9 v0 v1 v2 w))
def mJ0_checkIndex_df160 (v0 : Int32) (v1 : Int32) (w : zWd) : Option (Unit × zWd) :=
  zcl (mJ3_checkIndex_8e157 v0 v1 0 w) fun r1 w2 =>
  some ((), w2)
def mJ1_charAt_3b067 (v0 : Nat) (v1 : Int32) (w : zWd) : Option (Int32 × zWd) :=
  zcl (mJ0_checkIndex_df160 v1 (Int32.ofNat (zTl.getD (v0 - 270) 0)) w) fun _ w2 =>
  zgd (zin v1 (zTl.getD (v0 - 270) 0)) <|
  zgd (narrow .char (.int (((((zTb.getD (v0 - 270) []).getD v1.toNatClampNeg 0) &&& (255 : Int32)).toUInt32 % 65536).toInt32)) = .int (((((zTb.getD (v0 - 270) []).getD v1.toNatClampNeg 0) &&& (255 : Int32)).toUInt32 % 65536).toInt32)) (some (((((zTb.getD (v0 - 270) []).getD v1.toNatClampNeg 0) &&& (255 : Int32)).toUInt32 % 65536).toInt32, w2))
def mJ0_charAt_5068e (v0 : Nat) (v1 : Int32) (w : zWd) : Option (Int32 × zWd) :=
  zcl (mJ0_isLatin1_aae02 v0 w) fun r1 w2 =>
  if r1 = 0 then (none)
  else (zcl (mJ1_charAt_3b067 (v0 + 17) v1 w2) fun r3 w4 =>
  zgd (narrow .char (.int r3) = .int r3) (some (r3, w4)))
def mX4_countSame_48 (v2 : Int32) (w : zWd) : Option (Int32 × zWd) :=
  some (v2, w)
def mX4_countSame_2b (v0 : Nat) (v1 : Nat) (k2 : Int32 × zWd → Option (Int32 × zWd)) (v2 : Int32) (w : zWd) : Option (Int32 × zWd) :=
  zcl (mJ0_length_8abf5 v1 w) fun r1 w2 =>
  if r1 ≤ v2 then (zcl (mJ0_length_8abf5 v1 w2) fun r3 w4 =>
  some (r3, w4))
  else (zgd (¬ w2 v0 0 = 0) <|
  zgd (zShp (w2 v0 0).toNatClampNeg = (9, 2)) <|
  if (w2 ((w2 v0 0).toNatClampNeg) 0) ≤ ((w2 v0 2) + v2) then (mX4_countSame_48 v2 w2)
  else (zgd (¬ w2 v0 0 = 0) <|
  zgd (zShp (w2 v0 0).toNatClampNeg = (9, 2)) <|
  zgd (zin ((w2 v0 2) + v2) 120) <|
  zcl (mJ0_charAt_5068e v1 v2 w2) fun r7 w8 =>
  if (w2 ((w2 v0 0).toNatClampNeg + 1) ((w2 v0 2) + v2).toNatClampNeg) = r7 then (k2 (v2 + (1 : Int32), w8))
  else (mX4_countSame_48 v2 w8)))
def mX4_countSame_2 (v0 : Nat) (v1 : Nat) (v2 : Int32) (w : zWd) : Option (Int32 × zWd) :=
  zlp (fun k q => mX4_countSame_2b v0 v1 k q.1 q.2) zFU (v2, w)
def mX4_countSame (v0 : Nat) (v1 : Nat) (w : zWd) : Option (Int32 × zWd) :=
  mX4_countSame_2 v0 v1 (0 : Int32) w
def mX4_readWord_4b (v0 : Nat) (k4 : Int32 × Int32 × zWd → Option (Int32 × zWd)) (v1 : Int32) (v2 : Int32) (w : zWd) : Option (Int32 × zWd) :=
  if (6 : Int32) ≤ v2 then (zbn (zup w v0 2 ((w v0 2) + v1)) fun w1 =>
  zgd (zB (1 : Int32)) <|
  zbn (zup w1 v0 3 (1 : Int32)) fun w2 =>
  some ((-1 : Int32), w2))
  else (zcl (mX4_lettersOf v2 w) fun r3 w4 =>
  zgd (zTS r3) <|
  zcl (mX4_countSame v0 r3 w4) fun r6 w7 =>
  zcl (mJ0_length_8abf5 r3 w7) fun r8 w9 =>
  if r6 = r8 then (zbn (zup w9 v0 2 ((w9 v0 2) + r6)) fun w10 =>
  some (v2, w10))
  else (zbn (if v1 < r6 then r6 else v1) fun x11 =>
  k4 (x11, v2 + (1 : Int32), w9)))
def mX4_readWord_4 (v0 : Nat) (v1 : Int32) (v2 : Int32) (w : zWd) : Option (Int32 × zWd) :=
  zlp (fun k q => mX4_readWord_4b v0 k q.1 q.2.1 q.2.2) zFU (v1, v2, w)
def mX4_readWord (v0 : Nat) (w : zWd) : Option (Int32 × zWd) :=
  mX4_readWord_4 v0 (0 : Int32) (0 : Int32) w
def mX4_take_37 (w : zWd) : Option (Int32 × zWd) :=
  zgd (zB (0 : Int32)) (some ((0 : Int32), w))
def mX4_take (v0 : Nat) (v1 : Int32) (w : zWd) : Option (Int32 × zWd) :=
  if (w v0 3) = 0 then (zgd (¬ w v0 0 = 0) <|
  zgd (zShp (w v0 0).toNatClampNeg = (9, 2)) <|
  if (w ((w v0 0).toNatClampNeg) 0) ≤ (w v0 2) then (mX4_take_37 w)
  else (zgd (¬ w v0 0 = 0) <|
  zgd (zShp (w v0 0).toNatClampNeg = (9, 2)) <|
  zgd (zin (w v0 2) 120) <|
  if (w ((w v0 0).toNatClampNeg + 1) (w v0 2).toNatClampNeg) = v1 then (zbn (zup w v0 2 ((w v0 2) + (1 : Int32))) fun w3 =>
  zgd (zB (1 : Int32)) (some ((1 : Int32), w3)))
  else (mX4_take_37 w)))
  else (mX4_take_37 w)
def mX4_need_13 (w : zWd) : Option (Unit × zWd) :=
  some ((), w)
def mX4_need (v0 : Nat) (v1 : Int32) (w : zWd) : Option (Unit × zWd) :=
  zcl (mX4_take v0 v1 w) fun r1 w2 =>
  if r1 = 0 then (zgd (zB (1 : Int32)) <|
  zbn (zup w2 v0 3 (1 : Int32)) fun w3 =>
  mX4_need_13 w3)
  else (mX4_need_13 w2)
def mX4_now_37 (s0 : Int32) (w : zWd) : Option (Int32 × zWd) :=
  some (s0, w)
def mX4_now_21 (w : zWd) : Option (Int32 × zWd) :=
  mX4_now_37 (-1 : Int32) w
def mX4_now (v0 : Nat) (w : zWd) : Option (Int32 × zWd) :=
  if (w v0 3) = 0 then (zgd (¬ w v0 0 = 0) <|
  zgd (zShp (w v0 0).toNatClampNeg = (9, 2)) <|
  if (w v0 2) < (w ((w v0 0).toNatClampNeg) 0) then (zgd (¬ w v0 0 = 0) <|
  zgd (zShp (w v0 0).toNatClampNeg = (9, 2)) <|
  zgd (zin (w v0 2) 120) <|
  mX4_now_37 (w ((w v0 0).toNatClampNeg + 1) (w v0 2).toNatClampNeg) w)
  else (mX4_now_21 w))
  else (mX4_now_21 w)
def mX4_readShare_17 (v0 : Nat) (w : zWd) : Option (Int32 × zWd) :=
  zgd (zB (1 : Int32)) <|
  zbn (zup w v0 3 (1 : Int32)) fun w3 =>
  some ((0 : Int32), w3)
def mX4_readShare (v0 : Nat) (w : zWd) : Option (Int32 × zWd) :=
  zcl (mX4_now v0 w) fun r1 w2 =>
  if r1 < (48 : Int32) then (mX4_readShare_17 v0 w2)
  else (if r1 ≤ (50 : Int32) then (zbn (zup w2 v0 2 ((w2 v0 2) + (1 : Int32))) fun w4 =>
  some (r1 - (48 : Int32), w4))
  else (mX4_readShare_17 v0 w2))
def mX4_readNumber_43 (v1 : Int32) (s0 : Int32) (s1 : Nat) (w : zWd) : Option (Int32 × zWd) :=
  zgd (zB s0) <|
  zbn (zup w s1 3 s0) fun w3 =>
  some (v1, w3)
def mX4_readNumber_38 (v1 : Int32) (s0 : Nat) (w : zWd) : Option (Int32 × zWd) :=
  mX4_readNumber_43 v1 (1 : Int32) s0 w
def mX4_readNumber_26 (v0 : Nat) (v1 : Int32) (v2 : Int32) (w : zWd) : Option (Int32 × zWd) :=
  if (w v0 3) = 0 then (if v2 = 0 then (mX4_readNumber_38 v1 v0 w)
  else (mX4_readNumber_43 v1 (0 : Int32) v0 w))
  else (mX4_readNumber_38 v1 v0 w)
def mX4_readNumber_4b (v0 : Nat) (k4 : Int32 × Int32 × zWd → Option (Int32 × zWd)) (v1 : Int32) (v2 : Int32) (w : zWd) : Option (Int32 × zWd) :=
  if (3 : Int32) ≤ v2 then (some (v1, w))
  else (zcl (mX4_now v0 w) fun r1 w2 =>
  if r1 < (48 : Int32) then (mX4_readNumber_26 v0 v1 v2 w2)
  else (if r1 ≤ (57 : Int32) then (zbn (zup w2 v0 2 ((w2 v0 2) + (1 : Int32))) fun w4 =>
  zbn (((v1 * (10 : Int32)) + r1) - (48 : Int32)) fun x5 =>
  if x5 = 0 then (some ((0 : Int32), w4))
  else (k4 (x5, v2 + (1 : Int32), w4)))
  else (mX4_readNumber_26 v0 v1 v2 w2)))
def mX4_readNumber_4 (v0 : Nat) (v1 : Int32) (v2 : Int32) (w : zWd) : Option (Int32 × zWd) :=
  zlp (fun k q => mX4_readNumber_4b v0 k q.1 q.2.1 q.2.2) zFU (v1, v2, w)
def mX4_readNumber (v0 : Nat) (w : zWd) : Option (Int32 × zWd) :=
  mX4_readNumber_4 v0 (0 : Int32) (0 : Int32) w
def mX4_readTest_149 (v0 : Nat) (v1 : Int32) (w : zWd) : Option (Unit × zWd) :=
  zgd (¬ w v0 1 = 0) <|
  zgd (zShp (w v0 1).toNatClampNeg = (2, 8)) <|
  zcl (mX4_readNumber v0 w) fun r9 w10 =>
  zcl (mX2_addStep ((w v0 1).toNatClampNeg) v1 r9 w10) fun _ w12 =>
  some ((), w12)
def mX4_readTest_104 (v0 : Nat) (v1 : Int32) (w : zWd) : Option (Unit × zWd) :=
  zbn (zup w v0 2 ((w v0 2) + (1 : Int32))) fun w3 =>
  if (2 : Int32) ≤ v1 then (zcl (mX4_take v0 (62 : Int32) w3) fun r4 w5 =>
  if r4 = 0 then (zcl (mX4_need v0 (60 : Int32) w5) fun _ w7 =>
  mX4_readTest_149 v0 v1 w7)
  else (mX4_readTest_149 v0 (v1 + (1 : Int32)) w5))
  else (zcl (mX4_need v0 (61 : Int32) w3) fun _ w14 =>
  mX4_readTest_149 v0 v1 w14)
def mX4_readTest_98 (v0 : Nat) (w : zWd) : Option (Unit × zWd) :=
  zgd (zB (1 : Int32)) <|
  zbn (zup w v0 3 (1 : Int32)) fun w15 =>
  some ((), w15)
def mX4_readTest (v0 : Nat) (w : zWd) : Option (Unit × zWd) :=
  zcl (mX4_now v0 w) fun r1 w2 =>
  if r1 = (104 : Int32) then (mX4_readTest_104 v0 (6 : Int32) w2)
  else if r1 = (105 : Int32) then (mX4_readTest_98 v0 w2)
  else if r1 = (106 : Int32) then (mX4_readTest_98 v0 w2)
  else if r1 = (107 : Int32) then (mX4_readTest_104 v0 (0 : Int32) w2)
  else if r1 = (108 : Int32) then (mX4_readTest_98 v0 w2)
  else if r1 = (109 : Int32) then (mX4_readTest_98 v0 w2)
  else if r1 = (110 : Int32) then (mX4_readTest_104 v0 (2 : Int32) w2)
  else if r1 = (111 : Int32) then (mX4_readTest_98 v0 w2)
  else if r1 = (112 : Int32) then (mX4_readTest_98 v0 w2)
  else if r1 = (113 : Int32) then (mX4_readTest_98 v0 w2)
  else if r1 = (114 : Int32) then (mX4_readTest_98 v0 w2)
  else if r1 = (115 : Int32) then (mX4_readTest_104 v0 (4 : Int32) w2)
  else if r1 = (116 : Int32) then (mX4_readTest_104 v0 (1 : Int32) w2)
  else (mX4_readTest_98 v0 w2)
def mX4_readEither_92 (c_X4_readEither : Nat → Int32 → zWd → Option (Unit × zWd)) (c_X4_readPart : Nat → Int32 → zWd → Option (Unit × zWd)) (w : zWd) : Option (Unit × zWd) :=
  some ((), w)
def mX4_readEither_78 (c_X4_readEither : Nat → Int32 → zWd → Option (Unit × zWd)) (c_X4_readPart : Nat → Int32 → zWd → Option (Unit × zWd)) (v0 : Nat) (v2 : Int32) (w : zWd) : Option (Unit × zWd) :=
  if v2 = 0 then (mX4_readEither_92 c_X4_readEither c_X4_readPart w)
  else (zgd (¬ w v0 1 = 0) <|
  zgd (zShp (w v0 1).toNatClampNeg = (2, 8)) <|
  zcl (mX2_addStep ((w v0 1).toNatClampNeg) (10 : Int32) (0 : Int32) w) fun _ w5 =>
  mX4_readEither_92 c_X4_readEither c_X4_readPart w5)
def mX4_readEither_72 (c_X4_readEither : Nat → Int32 → zWd → Option (Unit × zWd)) (c_X4_readPart : Nat → Int32 → zWd → Option (Unit × zWd)) (k9 : Int32 × Int32 × zWd → Option (Unit × zWd)) (v0 : Nat) (v1 : Int32) (v2 : Int32) (v3 : Int32) (w : zWd) : Option (Unit × zWd) :=
  k9 (v2, v3 + (1 : Int32), w)
def mX4_readEither_65 (c_X4_readEither : Nat → Int32 → zWd → Option (Unit × zWd)) (c_X4_readPart : Nat → Int32 → zWd → Option (Unit × zWd)) (k9 : Int32 × Int32 × zWd → Option (Unit × zWd)) (v0 : Nat) (v1 : Int32) (v3 : Int32) (w : zWd) : Option (Unit × zWd) :=
  zcl (c_X4_readPart v0 v1 w) fun _ w11 =>
  mX4_readEither_72 c_X4_readEither c_X4_readPart k9 v0 v1 (1 : Int32) v3 w11
def mX4_readEither_9b (c_X4_readEither : Nat → Int32 → zWd → Option (Unit × zWd)) (c_X4_readPart : Nat → Int32 → zWd → Option (Unit × zWd)) (v0 : Nat) (v1 : Int32) (k9 : Int32 × Int32 × zWd → Option (Unit × zWd)) (v2 : Int32) (v3 : Int32) (w : zWd) : Option (Unit × zWd) :=
  if (120 : Int32) ≤ v3 then (mX4_readEither_78 c_X4_readEither c_X4_readPart v0 v2 w)
  else (zcl (mX4_take v0 (38 : Int32) w) fun r6 w7 =>
  if r6 = 0 then (zcl (mX4_take v0 (124 : Int32) w7) fun r8 w9 =>
  if r8 = 0 then (mX4_readEither_78 c_X4_readEither c_X4_readPart v0 v2 w9)
  else (if v2 = 0 then (mX4_readEither_65 c_X4_readEither c_X4_readPart k9 v0 v1 v3 w9)
  else (zgd (¬ w9 v0 1 = 0) <|
  zgd (zShp (w9 v0 1).toNatClampNeg = (2, 8)) <|
  zcl (mX2_addStep ((w9 v0 1).toNatClampNeg) (10 : Int32) (0 : Int32) w9) fun _ w14 =>
  mX4_readEither_65 c_X4_readEither c_X4_readPart k9 v0 v1 v3 w14)))
  else (zcl (c_X4_readPart v0 v1 w7) fun _ w16 =>
  zgd (¬ w16 v0 1 = 0) <|
  zgd (zShp (w16 v0 1).toNatClampNeg = (2, 8)) <|
  zcl (mX2_addStep ((w16 v0 1).toNatClampNeg) (9 : Int32) (0 : Int32) w16) fun _ w19 =>
  mX4_readEither_72 c_X4_readEither c_X4_readPart k9 v0 v1 v2 v3 w19))
def mX4_readEither_9 (c_X4_readEither : Nat → Int32 → zWd → Option (Unit × zWd)) (c_X4_readPart : Nat → Int32 → zWd → Option (Unit × zWd)) (v0 : Nat) (v1 : Int32) (v2 : Int32) (v3 : Int32) (w : zWd) : Option (Unit × zWd) :=
  zlp (fun k q => mX4_readEither_9b c_X4_readEither c_X4_readPart v0 v1 k q.1 q.2.1 q.2.2) zFU (v2, v3, w)
def mX4_readEitherb (c_X4_readEither : Nat → Int32 → zWd → Option (Unit × zWd)) (c_X4_readPart : Nat → Int32 → zWd → Option (Unit × zWd)) (v0 : Nat) (v1 : Int32) (w : zWd) : Option (Unit × zWd) :=
  zcl (c_X4_readPart v0 v1 w) fun _ w2 =>
  mX4_readEither_9 c_X4_readEither c_X4_readPart v0 v1 (0 : Int32) (0 : Int32) w2
def mX4_readPart_82 (c_X4_readEither : Nat → Int32 → zWd → Option (Unit × zWd)) (c_X4_readPart : Nat → Int32 → zWd → Option (Unit × zWd)) (w : zWd) : Option (Unit × zWd) :=
  some ((), w)
def mX4_readPart_22 (c_X4_readEither : Nat → Int32 → zWd → Option (Unit × zWd)) (c_X4_readPart : Nat → Int32 → zWd → Option (Unit × zWd)) (v0 : Nat) (v1 : Int32) (v2 : Int32) (w : zWd) : Option (Unit × zWd) :=
  if v1 < (5 : Int32) then (zbn (zup w v0 2 ((w v0 2) + (1 : Int32))) fun w3 =>
  if v2 = (33 : Int32) then (zcl (c_X4_readPart v0 (v1 + (1 : Int32)) w3) fun _ w5 =>
  zgd (¬ w5 v0 1 = 0) <|
  zgd (zShp (w5 v0 1).toNatClampNeg = (2, 8)) <|
  zcl (mX2_addStep ((w5 v0 1).toNatClampNeg) (8 : Int32) (0 : Int32) w5) fun _ w8 =>
  mX4_readPart_82 c_X4_readEither c_X4_readPart w8)
  else (zcl (c_X4_readEither v0 (v1 + (1 : Int32)) w3) fun _ w10 =>
  zcl (mX4_need v0 (41 : Int32) w10) fun _ w12 =>
  mX4_readPart_82 c_X4_readEither c_X4_readPart w12))
  else (zgd (zB (1 : Int32)) <|
  zbn (zup w v0 3 (1 : Int32)) fun w13 =>
  some ((), w13))
def mX4_readPartb (c_X4_readEither : Nat → Int32 → zWd → Option (Unit × zWd)) (c_X4_readPart : Nat → Int32 → zWd → Option (Unit × zWd)) (v0 : Nat) (v1 : Int32) (w : zWd) : Option (Unit × zWd) :=
  zcl (mX4_now v0 w) fun r1 w2 =>
  if r1 = (33 : Int32) then (mX4_readPart_22 c_X4_readEither c_X4_readPart v0 v1 r1 w2)
  else (if r1 = (40 : Int32) then (mX4_readPart_22 c_X4_readEither c_X4_readPart v0 v1 r1 w2)
  else (zcl (mX4_readTest v0 w2) fun _ w15 =>
  some ((), w15)))
def mGR : Nat → Nat → Nat → Int32 → zWd → Option (Unit × zWd)
  | 0, _ => fun _ _ _ => none
  | n + 1, 0 => fun v0 v1 w => mX4_readEitherb (mGR n 0) (mGR n 1) v0 v1 w
  | n + 1, _ => fun v0 v1 w => mX4_readPartb (mGR n 0) (mGR n 1) v0 v1 w
def mX4_readEither (v0 : Nat) (v1 : Int32) (w : zWd) : Option (Unit × zWd) := mGR 40 0 v0 v1 w
def mX4_readPart (v0 : Nat) (v1 : Int32) (w : zWd) : Option (Unit × zWd) := mGR 40 1 v0 v1 w

def mX4_read_171 (v0 : Nat) (s0 : Int32) (w : zWd) : Option (Int32 × zWd) :=
  zgd (¬ w v0 0 = 0) <|
  zgd (zShp (w v0 0).toNatClampNeg = (9, 2)) <|
  zbn (zup w ((w v0 0).toNatClampNeg) 0 (0 : Int32)) fun w10 =>
  some (s0, w10)
def mX4_read_163 (v0 : Nat) (w : zWd) : Option (Int32 × zWd) :=
  mX4_read_171 v0 (w v0 2) w
def mX4_read_142 (v0 : Nat) (w : zWd) : Option (Int32 × zWd) :=
  if (w v0 3) = 0 then (zgd (¬ w v0 0 = 0) <|
  zgd (zShp (w v0 0).toNatClampNeg = (9, 2)) <|
  if (w ((w v0 0).toNatClampNeg) 0) ≤ (w v0 2) then (mX4_read_171 v0 (-1 : Int32) w)
  else (mX4_read_163 v0 w))
  else (mX4_read_163 v0 w)
def mX4_read_94 (k31 : Int32 × zWd → Option (Int32 × zWd)) (v0 : Nat) (v4 : Int32) (v5 : Int32) (v6 : Int32) (v7 : Int32) (w : zWd) : Option (Int32 × zWd) :=
  if (w v0 3) = 0 then (zgd (¬ w v0 1 = 0) <|
  zgd (zShp (w v0 1).toNatClampNeg = (2, 8)) <|
  zcl (mX2_addClause ((w v0 1).toNatClampNeg) v5 v6 v7 w) fun _ w25 =>
  if v4 = (7 : Int32) then (mX4_read_142 v0 w25)
  else (zcl (mX4_take v0 (59 : Int32) w25) fun r26 w27 =>
  if r26 = 0 then (mX4_read_142 v0 w27)
  else (k31 (v4 + (1 : Int32), w27))))
  else (mX4_read_142 v0 w)
def mX4_read_67 (k31 : Int32 × zWd → Option (Int32 × zWd)) (v0 : Nat) (v4 : Int32) (v5 : Int32) (s0 : Int32) (w : zWd) : Option (Int32 × zWd) :=
  zgd (¬ w v0 1 = 0) <|
  zgd (zShp (w v0 1).toNatClampNeg = (2, 8)) <|
  zbn (w ((w v0 1).toNatClampNeg) 6) fun x18 =>
  if v5 = 0 then (zcl (mX4_need v0 (32 : Int32) w) fun _ w20 =>
  zcl (mX4_readEither v0 (0 : Int32) w20) fun _ w22 =>
  mX4_read_94 k31 v0 v4 v5 s0 x18 w22)
  else (mX4_read_94 k31 v0 v4 v5 s0 x18 w)
def mX4_read_31b (v0 : Nat) (k31 : Int32 × zWd → Option (Int32 × zWd)) (v4 : Int32) (w : zWd) : Option (Int32 × zWd) :=
  if (8 : Int32) ≤ v4 then (mX4_read_142 v0 w)
  else (zcl (mX4_readWord v0 w) fun r11 w12 =>
  zcl (mX4_need v0 (32 : Int32) w12) fun _ w14 =>
  if r11 = (5 : Int32) then (zcl (mX4_readShare v0 w14) fun r15 w16 =>
  mX4_read_67 k31 v0 v4 r11 r15 w16)
  else (zcl (mX4_readNumber v0 w14) fun r28 w29 =>
  mX4_read_67 k31 v0 v4 r11 r28 w29))
def mX4_read_31 (v0 : Nat) (v4 : Int32) (w : zWd) : Option (Int32 × zWd) :=
  zlp (fun k q => mX4_read_31b v0 k q.1 q.2) zFU (v4, w)
def mX4_read (v0 : Nat) (v1 : Nat) (v2 : Nat) (v3 : Int32) (w : zWd) : Option (Int32 × zWd) :=
  zbn (zup w v0 0 (Int32.ofNat v1)) fun w1 =>
  zbn (zup w1 v0 1 (Int32.ofNat v2)) fun w2 =>
  zbn (zup w2 v0 2 (0 : Int32)) fun w3 =>
  zgd (zB (0 : Int32)) <|
  zbn (zup w3 v0 3 (0 : Int32)) fun w4 =>
  zgd (¬ w4 v0 1 = 0) <|
  zgd (zShp (w4 v0 1).toNatClampNeg = (2, 8)) <|
  zcl (mX2_clear ((w4 v0 1).toNatClampNeg) v3 w4) fun _ w7 =>
  mX4_read_31 v0 (0 : Int32) w7
def mX5_isAhead_58 (s0 : Int32) (w : zWd) : Option (Int32 × zWd) :=
  zgd (zB s0) (some (s0, w))
def mX5_isAhead (v0 : Nat) (v1 : Nat) (v2 : Int32) (v3 : Int32) (w : zWd) : Option (Int32 × zWd) :=
  zgd (zin v2 8) <|
  zgd (zin v3 8) <|
  if (w (v0 + 1) v2.toNatClampNeg) = (w (v0 + 1) v3.toNatClampNeg) then (zgd (zin v2 8) <|
  zgd (zin v3 8) <|
  if (w (v1 + 5) v3.toNatClampNeg) ≤ (w (v1 + 5) v2.toNatClampNeg) then (mX5_isAhead_58 (0 : Int32) w)
  else (mX5_isAhead_58 (1 : Int32) w))
  else (zgd (zin v2 8) <|
  zgd (zin v3 8) <|
  if (w (v0 + 1) v3.toNatClampNeg) ≤ (w (v0 + 1) v2.toNatClampNeg) then (mX5_isAhead_58 (0 : Int32) w)
  else (mX5_isAhead_58 (1 : Int32) w))
def mX5_insert_43 (v0 : Nat) (v2 : Int32) (v3 : Int32) (w : zWd) : Option (Unit × zWd) :=
  zgd (zin v3 8) <|
  zbn (zup w (v0 + 2) v3.toNatClampNeg v2) fun w1 =>
  some ((), w1)
def mX5_insert_2b (v0 : Nat) (v1 : Nat) (v2 : Int32) (k2 : Int32 × zWd → Option (Unit × zWd)) (v3 : Int32) (w : zWd) : Option (Unit × zWd) :=
  if v3 ≤ 0 then (mX5_insert_43 v0 v2 v3 w)
  else (zgd (zin (v3 - (1 : Int32)) 8) <|
  zcl (mX5_isAhead v0 v1 v2 (w (v0 + 2) (v3 - (1 : Int32)).toNatClampNeg) w) fun r2 w3 =>
  if r2 = 0 then (mX5_insert_43 v0 v2 v3 w3)
  else (zgd (zin (v3 - (1 : Int32)) 8) <|
  zgd (zin v3 8) <|
  zbn (zup w3 (v0 + 2) v3.toNatClampNeg (w3 (v0 + 2) (v3 - (1 : Int32)).toNatClampNeg)) fun w4 =>
  k2 (v3 + (-1 : Int32), w4)))
def mX5_insert_2 (v0 : Nat) (v1 : Nat) (v2 : Int32) (v3 : Int32) (w : zWd) : Option (Unit × zWd) :=
  zlp (fun k q => mX5_insert_2b v0 v1 v2 k q.1 q.2) zFU (v3, w)
def mX5_insert (v0 : Nat) (v1 : Nat) (v2 : Int32) (w : zWd) : Option (Unit × zWd) :=
  mX5_insert_2 v0 v1 v2 v2 w
def mX5_form_50 (k11 : Int32 × zWd → Option (Unit × zWd)) (v0 : Nat) (v1 : Nat) (v2 : Nat) (v3 : Int32) (v4 : Int32) (s0 : Int32) (w : zWd) : Option (Unit × zWd) :=
  zcl (mX3_ruling v1 (0 : Int32) v2 v4 v3 w) fun r3 w4 =>
  zcl (mX3_numberBy v1 r3 (0 : Int32) w4) fun r5 w6 =>
  zgd (zin v4 8) <|
  zbn (zup w6 (v0 + 1) v4.toNatClampNeg (r5 - s0)) fun w7 =>
  zcl (mX5_insert v0 v2 v4 w7) fun _ w9 =>
  k11 (v4 + (1 : Int32), w9)
def mX5_form_11b (v0 : Nat) (v1 : Nat) (v2 : Nat) (v3 : Int32) (k11 : Int32 × zWd → Option (Unit × zWd)) (v4 : Int32) (w : zWd) : Option (Unit × zWd) :=
  if (w v0 0) ≤ v4 then (some ((), w))
  else (zgd (zin v4 8) <|
  zbn (w (v2 + 1) v4.toNatClampNeg) fun x2 =>
  if x2 = (4 : Int32) then (mX5_form_50 k11 v0 v1 v2 v3 v4 (1 : Int32) w)
  else (if x2 = (5 : Int32) then (mX5_form_50 k11 v0 v1 v2 v3 v4 (2 : Int32) w)
  else (mX5_form_50 k11 v0 v1 v2 v3 v4 (0 : Int32) w)))
def mX5_form_11 (v0 : Nat) (v1 : Nat) (v2 : Nat) (v3 : Int32) (v4 : Int32) (w : zWd) : Option (Unit × zWd) :=
  zlp (fun k q => mX5_form_11b v0 v1 v2 v3 k q.1 q.2) zFU (v4, w)
def mX5_form (v0 : Nat) (v1 : Nat) (v2 : Nat) (v3 : Int32) (w : zWd) : Option (Unit × zWd) :=
  zbn (zup w v0 0 (w v2 0)) fun w1 =>
  mX5_form_11 v0 v1 v2 v3 (0 : Int32) w1
def mX5_placeOf_2b (v0 : Nat) (v1 : Int32) (k2 : Int32 × zWd → Option (Int32 × zWd)) (v2 : Int32) (w : zWd) : Option (Int32 × zWd) :=
  if (w v0 0) ≤ v2 then (some ((-1 : Int32), w))
  else (zgd (zin v2 8) <|
  if (w (v0 + 2) v2.toNatClampNeg) = v1 then (some (v2, w))
  else (k2 (v2 + (1 : Int32), w)))
def mX5_placeOf_2 (v0 : Nat) (v1 : Int32) (v2 : Int32) (w : zWd) : Option (Int32 × zWd) :=
  zlp (fun k q => mX5_placeOf_2b v0 v1 k q.1 q.2) zFU (v2, w)
def mX5_placeOf (v0 : Nat) (v1 : Int32) (w : zWd) : Option (Int32 × zWd) :=
  mX5_placeOf_2 v0 v1 (0 : Int32) w
def mX6_copyFrom (v0 : Nat) (v1 : Nat) (w : zWd) : Option (Unit × zWd) :=
  zbn (zup w v0 0 (w v1 0)) fun w1 =>
  zgd (zcok (0 : Int32) (0 : Int32) (60 : Int32) 60 60) <|
  zbn (zcp w1 (v1 + 1) (0 : Int32).toNatClampNeg (v0 + 1) (0 : Int32).toNatClampNeg (60 : Int32).toNatClampNeg) fun w2 =>
  zgd (zcok (0 : Int32) (0 : Int32) (60 : Int32) 60 60) <|
  zbn (zcp w2 (v1 + 2) (0 : Int32).toNatClampNeg (v0 + 2) (0 : Int32).toNatClampNeg (60 : Int32).toNatClampNeg) fun w3 =>
  zgd (zcok (0 : Int32) (0 : Int32) (60 : Int32) 60 60) <|
  zbn (zcp w3 (v1 + 3) (0 : Int32).toNatClampNeg (v0 + 3) (0 : Int32).toNatClampNeg (60 : Int32).toNatClampNeg) fun w4 =>
  zgd (zcok (0 : Int32) (0 : Int32) (60 : Int32) 60 60) <|
  zbn (zcp w4 (v1 + 4) (0 : Int32).toNatClampNeg (v0 + 4) (0 : Int32).toNatClampNeg (60 : Int32).toNatClampNeg) fun w5 =>
  zbn (zup w5 v0 5 (w5 v1 5)) fun w6 =>
  zgd (zcok (0 : Int32) (0 : Int32) (12 : Int32) 12 12) <|
  zbn (zcp w6 (v1 + 5) (0 : Int32).toNatClampNeg (v0 + 5) (0 : Int32).toNatClampNeg (12 : Int32).toNatClampNeg) fun w7 =>
  zbn (zup w7 v0 7 (w7 v1 7)) fun w8 =>
  zgd (zcok (0 : Int32) (0 : Int32) (30 : Int32) 30 30) <|
  zbn (zcp w8 (v1 + 6) (0 : Int32).toNatClampNeg (v0 + 6) (0 : Int32).toNatClampNeg (30 : Int32).toNatClampNeg) fun w9 =>
  zbn (zup w9 v0 9 (w9 v1 9)) fun w10 =>
  zgd (zcok (0 : Int32) (0 : Int32) (6 : Int32) 6 6) <|
  zbn (zcp w10 (v1 + 7) (0 : Int32).toNatClampNeg (v0 + 7) (0 : Int32).toNatClampNeg (6 : Int32).toNatClampNeg) fun w11 =>
  zgd (zcok (0 : Int32) (0 : Int32) (6 : Int32) 6 6) <|
  zbn (zcp w11 (v1 + 8) (0 : Int32).toNatClampNeg (v0 + 8) (0 : Int32).toNatClampNeg (6 : Int32).toNatClampNeg) fun w12 =>
  some ((), w12)
def mX6_addLook (v0 : Nat) (v1 : Int32) (v2 : Int32) (v3 : Int32) (v4 : Int32) (w : zWd) : Option (Int32 × zWd) :=
  if (w v0 0) < (60 : Int32) then (zgd (zin (w v0 0) 60) <|
  zbn (zup w (v0 + 1) (w v0 0).toNatClampNeg v1) fun w1 =>
  zgd (zin (w1 v0 0) 60) <|
  zbn (zup w1 (v0 + 2) (w1 v0 0).toNatClampNeg v2) fun w2 =>
  zgd (zin (w2 v0 0) 60) <|
  zbn (zup w2 (v0 + 3) (w2 v0 0).toNatClampNeg v3) fun w3 =>
  zgd (zin (w3 v0 0) 60) <|
  zbn (zup w3 (v0 + 4) (w3 v0 0).toNatClampNeg v4) fun w4 =>
  zbn (zup w4 v0 0 ((w4 v0 0) + (1 : Int32))) fun w5 =>
  some (w5 v0 0, w5))
  else (some ((-4 : Int32), w))
def mX6_hasDrop_16 (s0 : Int32) (w : zWd) : Option (Int32 × zWd) :=
  zgd (zB s0) (some (s0, w))
def mX6_hasDrop (v0 : Nat) (v1 : Int32) (w : zWd) : Option (Int32 × zWd) :=
  if (((w v0 5) >>> (v1 &&& 31)) &&& (1 : Int32)) = 0 then (mX6_hasDrop_16 (0 : Int32) w)
  else (mX6_hasDrop_16 (1 : Int32) w)
def mJ6_bitCount_0f7a4 (v0 : Int32) (w : zWd) : Option (Int32 × zWd) :=
  zbn (v0 - (((v0.toUInt32 >>> ((1 : Int32).toUInt32 &&& Int32.toUInt32 31)).toInt32) &&& (1431655765 : Int32))) fun x1 =>
  zbn ((x1 &&& (858993459 : Int32)) + (((x1.toUInt32 >>> ((2 : Int32).toUInt32 &&& Int32.toUInt32 31)).toInt32) &&& (858993459 : Int32))) fun x2 =>
  zbn ((x2 + ((x2.toUInt32 >>> ((4 : Int32).toUInt32 &&& Int32.toUInt32 31)).toInt32)) &&& (252645135 : Int32)) fun x3 =>
  zbn (x3 + ((x3.toUInt32 >>> ((8 : Int32).toUInt32 &&& Int32.toUInt32 31)).toInt32)) fun x4 =>
  zbn (x4 + ((x4.toUInt32 >>> ((16 : Int32).toUInt32 &&& Int32.toUInt32 31)).toInt32)) fun x5 =>
  some (x5 &&& (63 : Int32), w)
def mX6_drops (v0 : Nat) (w : zWd) : Option (Int32 × zWd) :=
  zcl (mJ6_bitCount_0f7a4 (w v0 5) w) fun r1 w2 =>
  some (r1, w2)
def mX6_setDrop (v0 : Nat) (v1 : Int32) (v2 : Int32) (w : zWd) : Option (Int32 × zWd) :=
  zbn (zup w v0 5 ((w v0 5) ||| ((1 : Int32) <<< (v1 &&& 31)))) fun w1 =>
  zgd (zin v1 12) <|
  zbn (zup w1 (v0 + 5) v1.toNatClampNeg v2) fun w2 =>
  zcl (mX6_drops v0 w2) fun r3 w4 =>
  some (r3, w4)
def mX6_hasChange_16 (s0 : Int32) (w : zWd) : Option (Int32 × zWd) :=
  zgd (zB s0) (some (s0, w))
def mX6_hasChange (v0 : Nat) (v1 : Int32) (w : zWd) : Option (Int32 × zWd) :=
  if (((w v0 7) >>> (v1 &&& 31)) &&& (1 : Int32)) = 0 then (mX6_hasChange_16 (0 : Int32) w)
  else (mX6_hasChange_16 (1 : Int32) w)
def mX6_changes (v0 : Nat) (w : zWd) : Option (Int32 × zWd) :=
  zcl (mJ6_bitCount_0f7a4 (w v0 7) w) fun r1 w2 =>
  some (r1, w2)
def mX6_setChange (v0 : Nat) (v1 : Int32) (v2 : Int32) (w : zWd) : Option (Int32 × zWd) :=
  zbn (zup w v0 7 ((w v0 7) ||| ((1 : Int32) <<< (v1 &&& 31)))) fun w1 =>
  zgd (zin v1 30) <|
  zbn (zup w1 (v0 + 6) v1.toNatClampNeg v2) fun w2 =>
  zcl (mX6_changes v0 w2) fun r3 w4 =>
  some (r3, w4)
def mX6_addPush (v0 : Nat) (v1 : Int32) (v2 : Int32) (w : zWd) : Option (Int32 × zWd) :=
  if (w v0 9) < (6 : Int32) then (zgd (zin (w v0 9) 6) <|
  zbn (zup w (v0 + 7) (w v0 9).toNatClampNeg v1) fun w1 =>
  zgd (zin (w1 v0 9) 6) <|
  zbn (zup w1 (v0 + 8) (w1 v0 9).toNatClampNeg v2) fun w2 =>
  zbn (zup w2 v0 9 ((w2 v0 9) + (1 : Int32))) fun w3 =>
  some (w3 v0 9, w3))
  else (some ((-4 : Int32), w))
def mX7_begin (v0 : Nat) (v1 : Int32) (v2 : Int32) (w : zWd) : Option (Unit × zWd) :=
  zbn (if (8 : Int32) < v1 then (8 : Int32) else v1) fun x1 =>
  zbn (zup w v0 0 x1) fun w2 =>
  zbn (zup w2 v0 1 v2) fun w3 =>
  zbn (zup w3 v0 2 (0 : Int32)) fun w4 =>
  some ((), w4)
def mX7_addDue_29 (w : zWd) : Option (Unit × zWd) :=
  some ((), w)
def mX7_addDue (v0 : Nat) (v1 : Int32) (w : zWd) : Option (Unit × zWd) :=
  if (6 : Int32) ≤ (w v0 2) then (mX7_addDue_29 w)
  else (zgd (zin (w v0 2) 6) <|
  zbn (zup w (v0 + 1) (w v0 2).toNatClampNeg v1) fun w1 =>
  zbn (zup w1 v0 2 ((w1 v0 2) + (1 : Int32))) fun w2 =>
  mX7_addDue_29 w2)
def mX7_addShare_33 (w : zWd) : Option (Unit × zWd) :=
  some ((), w)
def mX7_addShare (v0 : Nat) (v1 : Int32) (v2 : Int32) (w : zWd) : Option (Unit × zWd) :=
  if (w v0 2) ≤ 0 then (mX7_addShare_33 w)
  else (zcl (mX11_within v1 (8 : Int32) w) fun r1 w2 =>
  if r1 = 0 then (mX7_addShare_33 w2)
  else (zgd (zin ((((w2 v0 2) - (1 : Int32)) * (8 : Int32)) + v1) 48) <|
  zbn (zup w2 (v0 + 2) ((((w2 v0 2) - (1 : Int32)) * (8 : Int32)) + v1).toNatClampNeg v2) fun w3 =>
  mX7_addShare_33 w3))
def mX7_explains_48 (k2 : Int32 × zWd → Option (Int32 × zWd)) (k15 : Int32 × Int32 × zWd → Option (Int32 × zWd)) (v0 : Nat) (v1 : Int32) (v2 : Int32) (v3 : Int32) (v4 : Int32) (w : zWd) : Option (Int32 × zWd) :=
  k15 (v3, v4 + (1 : Int32), w)
def mX7_explains_15b (k2 : Int32 × zWd → Option (Int32 × zWd)) (v0 : Nat) (v1 : Int32) (v2 : Int32) (k15 : Int32 × Int32 × zWd → Option (Int32 × zWd)) (v3 : Int32) (v4 : Int32) (w : zWd) : Option (Int32 × zWd) :=
  if (w v0 0) ≤ v4 then (zgd (zin v2 6) <|
  zbn (if 0 ≤ (v3 - (w (v0 + 1) v2.toNatClampNeg)) then (v3 - (w (v0 + 1) v2.toNatClampNeg)) else 0 - (v3 - (w (v0 + 1) v2.toNatClampNeg))) fun x1 =>
  if x1 ≤ (w v0 1) then (k2 (v2 + (1 : Int32), w))
  else (zgd (zB (0 : Int32)) (some ((0 : Int32), w))))
  else (if ((v1 >>> (v4 &&& 31)) &&& (1 : Int32)) = 0 then (mX7_explains_48 k2 k15 v0 v1 v2 v3 v4 w)
  else (zgd (zin ((v2 * (8 : Int32)) + v4) 48) <|
  zbn (v3 + (w (v0 + 2) ((v2 * (8 : Int32)) + v4).toNatClampNeg)) fun x2 =>
  mX7_explains_48 k2 k15 v0 v1 v2 x2 v4 w))
def mX7_explains_15 (k2 : Int32 × zWd → Option (Int32 × zWd)) (v0 : Nat) (v1 : Int32) (v2 : Int32) (v3 : Int32) (v4 : Int32) (w : zWd) : Option (Int32 × zWd) :=
  zlp (fun k q => mX7_explains_15b k2 v0 v1 v2 k q.1 q.2.1 q.2.2) zFU (v3, v4, w)
def mX7_explains_2b (v0 : Nat) (v1 : Int32) (k2 : Int32 × zWd → Option (Int32 × zWd)) (v2 : Int32) (w : zWd) : Option (Int32 × zWd) :=
  if (w v0 2) ≤ v2 then (zgd (zB (1 : Int32)) (some ((1 : Int32), w)))
  else (mX7_explains_15 k2 v0 v1 v2 (0 : Int32) (0 : Int32) w)
def mX7_explains_2 (v0 : Nat) (v1 : Int32) (v2 : Int32) (w : zWd) : Option (Int32 × zWd) :=
  zlp (fun k q => mX7_explains_2b v0 v1 k q.1 q.2) zFU (v2, w)
def mX7_explains (v0 : Nat) (v1 : Int32) (w : zWd) : Option (Int32 × zWd) :=
  mX7_explains_2 v0 v1 (0 : Int32) w
def mX7_answer_84 (s0 : Int32) (w : zWd) : Option (Int32 × zWd) :=
  some (s0, w)
def mX7_answer_69 (k13 : Int32 × Int32 × Int32 × Int32 × zWd → Option (Int32 × zWd)) (v0 : Nat) (v1 : Int32) (v2 : Int32) (v3 : Int32) (v4 : Int32) (v5 : Int32) (w : zWd) : Option (Int32 × zWd) :=
  k13 (v2, v3, v4, v5 + (1 : Int32), w)
def mX7_answer_66 (k13 : Int32 × Int32 × Int32 × Int32 × zWd → Option (Int32 × zWd)) (v0 : Nat) (v1 : Int32) (v2 : Int32) (v3 : Int32) (v4 : Int32) (v5 : Int32) (w : zWd) : Option (Int32 × zWd) :=
  mX7_answer_69 k13 v0 v1 v2 (v3 + (1 : Int32)) v4 v5 w
def mX7_answer_13b (v0 : Nat) (v1 : Int32) (k13 : Int32 × Int32 × Int32 × Int32 × zWd → Option (Int32 × zWd)) (v2 : Int32) (v3 : Int32) (v4 : Int32) (v5 : Int32) (w : zWd) : Option (Int32 × zWd) :=
  if ((1 : Int32) <<< ((w v0 0) &&& 31)) ≤ v5 then (if v1 = 0 then (mX7_answer_84 v2 w)
  else (mX7_answer_84 v3 w))
  else (zcl (mJ6_bitCount_0f7a4 v5 w) fun r1 w2 =>
  if v4 < r1 then (mX7_answer_69 k13 v0 v1 v2 v3 v4 v5 w2)
  else (zcl (mX7_explains v0 v5 w2) fun r3 w4 =>
  if r3 = 0 then (mX7_answer_69 k13 v0 v1 v2 v3 v4 v5 w4)
  else (if v4 ≤ r1 then (mX7_answer_66 k13 v0 v1 v2 v3 v4 v5 w4)
  else (mX7_answer_66 k13 v0 v1 v5 (0 : Int32) r1 v5 w4))))
def mX7_answer_13 (v0 : Nat) (v1 : Int32) (v2 : Int32) (v3 : Int32) (v4 : Int32) (v5 : Int32) (w : zWd) : Option (Int32 × zWd) :=
  zlp (fun k q => mX7_answer_13b v0 v1 k q.1 q.2.1 q.2.2.1 q.2.2.2.1 q.2.2.2.2) zFU (v2, v3, v4, v5, w)
def mX7_answer (v0 : Nat) (v1 : Int32) (w : zWd) : Option (Int32 × zWd) :=
  mX7_answer_13 v0 v1 (-5 : Int32) (-5 : Int32) (9 : Int32) (0 : Int32) w
def mX8_copyFrom (v0 : Nat) (v1 : Nat) (w : zWd) : Option (Unit × zWd) :=
  zbn (zup w v0 0 (w v1 0)) fun w1 =>
  zgd (zcok (0 : Int32) (0 : Int32) (8 : Int32) 8 8) <|
  zbn (zcp w1 (v1 + 1) (0 : Int32).toNatClampNeg (v0 + 1) (0 : Int32).toNatClampNeg (8 : Int32).toNatClampNeg) fun w2 =>
  zgd (zcok (0 : Int32) (0 : Int32) (8 : Int32) 8 8) <|
  zbn (zcp w2 (v1 + 2) (0 : Int32).toNatClampNeg (v0 + 2) (0 : Int32).toNatClampNeg (8 : Int32).toNatClampNeg) fun w3 =>
  zgd (zcok (0 : Int32) (0 : Int32) (8 : Int32) 8 8) <|
  zbn (zcp w3 (v1 + 3) (0 : Int32).toNatClampNeg (v0 + 3) (0 : Int32).toNatClampNeg (8 : Int32).toNatClampNeg) fun w4 =>
  zgd (zcok (0 : Int32) (0 : Int32) (8 : Int32) 8 8) <|
  zbn (zcp w4 (v1 + 4) (0 : Int32).toNatClampNeg (v0 + 4) (0 : Int32).toNatClampNeg (8 : Int32).toNatClampNeg) fun w5 =>
  zgd (zcok (0 : Int32) (0 : Int32) (8 : Int32) 8 8) <|
  zbn (zcp w5 (v1 + 5) (0 : Int32).toNatClampNeg (v0 + 5) (0 : Int32).toNatClampNeg (8 : Int32).toNatClampNeg) fun w6 =>
  zgd (zcok (0 : Int32) (0 : Int32) (8 : Int32) 8 8) <|
  zbn (zcp w6 (v1 + 6) (0 : Int32).toNatClampNeg (v0 + 6) (0 : Int32).toNatClampNeg (8 : Int32).toNatClampNeg) fun w7 =>
  zgd (zcok (0 : Int32) (0 : Int32) (160 : Int32) 160 160) <|
  zbn (zcp w7 (v1 + 7) (0 : Int32).toNatClampNeg (v0 + 7) (0 : Int32).toNatClampNeg (160 : Int32).toNatClampNeg) fun w8 =>
  zbn (zup w8 v0 8 (w8 v1 8)) fun w9 =>
  zgd (zcok (0 : Int32) (0 : Int32) (30 : Int32) 30 30) <|
  zbn (zcp w9 (v1 + 8) (0 : Int32).toNatClampNeg (v0 + 8) (0 : Int32).toNatClampNeg (30 : Int32).toNatClampNeg) fun w10 =>
  zgd (zcok (0 : Int32) (0 : Int32) (30 : Int32) 30 30) <|
  zbn (zcp w10 (v1 + 9) (0 : Int32).toNatClampNeg (v0 + 9) (0 : Int32).toNatClampNeg (30 : Int32).toNatClampNeg) fun w11 =>
  zgd (zcok (0 : Int32) (0 : Int32) (30 : Int32) 30 30) <|
  zbn (zcp w11 (v1 + 10) (0 : Int32).toNatClampNeg (v0 + 10) (0 : Int32).toNatClampNeg (30 : Int32).toNatClampNeg) fun w12 =>
  zgd (zcok (0 : Int32) (0 : Int32) (30 : Int32) 30 30) <|
  zbn (zcp w12 (v1 + 11) (0 : Int32).toNatClampNeg (v0 + 11) (0 : Int32).toNatClampNeg (30 : Int32).toNatClampNeg) fun w13 =>
  some ((), w13)
def mX8_add (v0 : Nat) (v1 : Int32) (v2 : Int32) (v3 : Int32) (v4 : Int32) (v5 : Int32) (w : zWd) : Option (Int32 × zWd) :=
  if (w v0 0) < (8 : Int32) then (zgd (zin (w v0 0) 8) <|
  zbn (zup w (v0 + 1) (w v0 0).toNatClampNeg v1) fun w1 =>
  zgd (zin (w1 v0 0) 8) <|
  zbn (zup w1 (v0 + 2) (w1 v0 0).toNatClampNeg v2) fun w2 =>
  zgd (zin (w2 v0 0) 8) <|
  zbn (zup w2 (v0 + 3) (w2 v0 0).toNatClampNeg v3) fun w3 =>
  zgd (zin (w3 v0 0) 8) <|
  zbn (zup w3 (v0 + 4) (w3 v0 0).toNatClampNeg v4) fun w4 =>
  zgd (zin (w4 v0 0) 8) <|
  zbn (zup w4 (v0 + 5) (w4 v0 0).toNatClampNeg v5) fun w5 =>
  zgd (zin (w5 v0 0) 8) <|
  zbn (zup w5 (v0 + 6) (w5 v0 0).toNatClampNeg (0 : Int32)) fun w6 =>
  zbn (zup w6 v0 0 ((w6 v0 0) + (1 : Int32))) fun w7 =>
  some (w6 v0 0, w7))
  else (some ((-4 : Int32), w))
def mX8_addSale (v0 : Nat) (v1 : Int32) (v2 : Int32) (v3 : Int32) (v4 : Int32) (w : zWd) : Option (Int32 × zWd) :=
  if (w v0 8) < (30 : Int32) then (zgd (zin (w v0 8) 30) <|
  zbn (zup w (v0 + 8) (w v0 8).toNatClampNeg v1) fun w1 =>
  zgd (zin (w1 v0 8) 30) <|
  zbn (zup w1 (v0 + 9) (w1 v0 8).toNatClampNeg v2) fun w2 =>
  zgd (zin (w2 v0 8) 30) <|
  zbn (zup w2 (v0 + 10) (w2 v0 8).toNatClampNeg v3) fun w3 =>
  zgd (zin (w3 v0 8) 30) <|
  zbn (zup w3 (v0 + 11) (w3 v0 8).toNatClampNeg v4) fun w4 =>
  zbn (zup w4 v0 8 ((w4 v0 8) + (1 : Int32))) fun w5 =>
  some (w5 v0 8, w5))
  else (some ((-4 : Int32), w))
def mX8_saleKeyAbove_85 (v5 : Int32) (w : zWd) : Option (Int32 × zWd) :=
  some (v5, w)
def mX8_saleKeyAbove_79 (k6 : Int32 × Int32 × zWd → Option (Int32 × zWd)) (v0 : Nat) (v1 : Int32) (v2 : Int32) (v3 : Int32) (v4 : Int32) (v5 : Int32) (v6 : Int32) (w : zWd) : Option (Int32 × zWd) :=
  k6 (v5, v6 + (1 : Int32), w)
def mX8_saleKeyAbove_75 (k6 : Int32 × Int32 × zWd → Option (Int32 × zWd)) (v0 : Nat) (v1 : Int32) (v2 : Int32) (v3 : Int32) (v4 : Int32) (v6 : Int32) (v7 : Int32) (w : zWd) : Option (Int32 × zWd) :=
  mX8_saleKeyAbove_79 k6 v0 v1 v2 v3 v4 v7 v6 w
def mX8_saleKeyAbove_6b (v0 : Nat) (v1 : Int32) (v2 : Int32) (v3 : Int32) (v4 : Int32) (k6 : Int32 × Int32 × zWd → Option (Int32 × zWd)) (v5 : Int32) (v6 : Int32) (w : zWd) : Option (Int32 × zWd) :=
  if v4 ≤ v6 then (mX8_saleKeyAbove_85 v5 w)
  else (if (30 : Int32) ≤ v6 then (mX8_saleKeyAbove_85 v5 w)
  else (zgd (zin v6 30) <|
  zbn (((w (v0 + 11) v6.toNatClampNeg) * (30 : Int32)) + v6) fun x1 =>
  zgd (zin v6 30) <|
  if (w (v0 + 8) v6.toNatClampNeg) = v2 then (zgd (zin v6 30) <|
  if v3 < (w (v0 + 11) v6.toNatClampNeg) then (mX8_saleKeyAbove_79 k6 v0 v1 v2 v3 v4 v5 v6 w)
  else (if x1 ≤ v1 then (mX8_saleKeyAbove_79 k6 v0 v1 v2 v3 v4 v5 v6 w)
  else (if v5 < 0 then (mX8_saleKeyAbove_75 k6 v0 v1 v2 v3 v4 v6 x1 w)
  else (if v5 ≤ x1 then (mX8_saleKeyAbove_79 k6 v0 v1 v2 v3 v4 v5 v6 w)
  else (mX8_saleKeyAbove_75 k6 v0 v1 v2 v3 v4 v6 x1 w)))))
  else (mX8_saleKeyAbove_79 k6 v0 v1 v2 v3 v4 v5 v6 w)))
def mX8_saleKeyAbove_6 (v0 : Nat) (v1 : Int32) (v2 : Int32) (v3 : Int32) (v4 : Int32) (v5 : Int32) (v6 : Int32) (w : zWd) : Option (Int32 × zWd) :=
  zlp (fun k q => mX8_saleKeyAbove_6b v0 v1 v2 v3 v4 k q.1 q.2.1 q.2.2) zFU (v5, v6, w)
def mX8_saleKeyAbove (v0 : Nat) (v1 : Int32) (v2 : Int32) (v3 : Int32) (v4 : Int32) (w : zWd) : Option (Int32 × zWd) :=
  mX8_saleKeyAbove_6 v0 v1 v2 v3 v4 (-1 : Int32) (0 : Int32) w
def mX8_ownerOn_61 (k9 : Int32 × Int32 × Int32 × zWd → Option (Int32 × zWd)) (v0 : Nat) (v1 : Int32) (v2 : Int32) (v3 : Int32) (v4 : Int32) (v5 : Int32) (v6 : Int32) (w : zWd) : Option (Int32 × zWd) :=
  k9 (v4, v5, v6 + (1 : Int32), w)
def mX8_ownerOn_9b (v0 : Nat) (v1 : Int32) (v2 : Int32) (v3 : Int32) (k9 : Int32 × Int32 × Int32 × zWd → Option (Int32 × zWd)) (v4 : Int32) (v5 : Int32) (v6 : Int32) (w : zWd) : Option (Int32 × zWd) :=
  if v3 ≤ v6 then (some (v4, w))
  else (zcl (mX8_saleKeyAbove v0 v5 v1 v2 v3 w) fun r1 w2 =>
  if 0 ≤ r1 then (zgd (zin (r1 - r1 / (30 : Int32) * (30 : Int32)) 30) <|
  if (w2 (v0 + 9) (r1 - r1 / (30 : Int32) * (30 : Int32)).toNatClampNeg) = v4 then (zgd (zin (r1 - r1 / (30 : Int32) * (30 : Int32)) 30) <|
  zbn (w2 (v0 + 10) (r1 - r1 / (30 : Int32) * (30 : Int32)).toNatClampNeg) fun x3 =>
  mX8_ownerOn_61 k9 v0 v1 v2 v3 x3 r1 v6 w2)
  else (mX8_ownerOn_61 k9 v0 v1 v2 v3 v4 r1 v6 w2))
  else (some (v4, w2)))
def mX8_ownerOn_9 (v0 : Nat) (v1 : Int32) (v2 : Int32) (v3 : Int32) (v4 : Int32) (v5 : Int32) (v6 : Int32) (w : zWd) : Option (Int32 × zWd) :=
  zlp (fun k q => mX8_ownerOn_9b v0 v1 v2 v3 k q.1 q.2.1 q.2.2.1 q.2.2.2) zFU (v4, v5, v6, w)
def mX8_ownerOn (v0 : Nat) (v1 : Int32) (v2 : Int32) (v3 : Int32) (w : zWd) : Option (Int32 × zWd) :=
  mX8_ownerOn_9 v0 v1 v2 v3 (0 : Int32) (-1 : Int32) (0 : Int32) w
def mX8_hasUse_2b (v0 : Nat) (v1 : Int32) (v2 : Int32) (k2 : Int32 × zWd → Option (Int32 × zWd)) (v3 : Int32) (w : zWd) : Option (Int32 × zWd) :=
  zgd (zin v1 8) <|
  if (w (v0 + 6) v1.toNatClampNeg) ≤ v3 then (zgd (zB (0 : Int32)) (some ((0 : Int32), w)))
  else (zgd (zin ((v1 * (20 : Int32)) + v3) 160) <|
  if (w (v0 + 7) ((v1 * (20 : Int32)) + v3).toNatClampNeg) = v2 then (zgd (zB (1 : Int32)) (some ((1 : Int32), w)))
  else (k2 (v3 + (1 : Int32), w)))
def mX8_hasUse_2 (v0 : Nat) (v1 : Int32) (v2 : Int32) (v3 : Int32) (w : zWd) : Option (Int32 × zWd) :=
  zlp (fun k q => mX8_hasUse_2b v0 v1 v2 k q.1 q.2) zFU (v3, w)
def mX8_hasUse (v0 : Nat) (v1 : Int32) (v2 : Int32) (w : zWd) : Option (Int32 × zWd) :=
  mX8_hasUse_2 v0 v1 v2 (0 : Int32) w
def mX8_addUse (v0 : Nat) (v1 : Int32) (v2 : Int32) (w : zWd) : Option (Int32 × zWd) :=
  zgd (zin v1 8) <|
  if (w (v0 + 6) v1.toNatClampNeg) < (20 : Int32) then (zgd (zin v1 8) <|
  zgd (zin ((v1 * (20 : Int32)) + (w (v0 + 6) v1.toNatClampNeg)) 160) <|
  zbn (zup w (v0 + 7) ((v1 * (20 : Int32)) + (w (v0 + 6) v1.toNatClampNeg)).toNatClampNeg v2) fun w1 =>
  zgd (zin v1 8) <|
  zgd (zin v1 8) <|
  zbn (zup w1 (v0 + 6) v1.toNatClampNeg ((w1 (v0 + 6) v1.toNatClampNeg) + (1 : Int32))) fun w2 =>
  zgd (zin v1 8) <|
  some (w2 (v0 + 6) v1.toNatClampNeg, w2))
  else (some ((-4 : Int32), w))
def mX8_lastUse_50 (k10 : Int32 × Int32 × zWd → Option (Int32 × zWd)) (v0 : Nat) (v1 : Int32) (v2 : Int32) (v3 : Int32) (v4 : Int32) (w : zWd) : Option (Int32 × zWd) :=
  k10 (v3, v4 + (1 : Int32), w)
def mX8_lastUse_10b (v0 : Nat) (v1 : Int32) (v2 : Int32) (k10 : Int32 × Int32 × zWd → Option (Int32 × zWd)) (v3 : Int32) (v4 : Int32) (w : zWd) : Option (Int32 × zWd) :=
  zgd (zin v1 8) <|
  if (w (v0 + 6) v1.toNatClampNeg) ≤ v4 then (some (v3, w))
  else (zgd (zin ((v1 * (20 : Int32)) + v4) 160) <|
  zbn (w (v0 + 7) ((v1 * (20 : Int32)) + v4).toNatClampNeg) fun x2 =>
  if v2 < x2 then (mX8_lastUse_50 k10 v0 v1 v2 v3 v4 w)
  else (if x2 ≤ v3 then (mX8_lastUse_50 k10 v0 v1 v2 v3 v4 w)
  else (mX8_lastUse_50 k10 v0 v1 v2 x2 v4 w)))
def mX8_lastUse_10 (v0 : Nat) (v1 : Int32) (v2 : Int32) (v3 : Int32) (v4 : Int32) (w : zWd) : Option (Int32 × zWd) :=
  zlp (fun k q => mX8_lastUse_10b v0 v1 v2 k q.1 q.2.1 q.2.2) zFU (v3, v4, w)
def mX8_lastUse (v0 : Nat) (v1 : Int32) (v2 : Int32) (w : zWd) : Option (Int32 × zWd) :=
  zgd (zin v1 8) <|
  zbn (w (v0 + 5) v1.toNatClampNeg) fun x1 =>
  mX8_lastUse_10 v0 v1 v2 x1 (0 : Int32) w
def mX9_copyFrom (v0 : Nat) (v1 : Nat) (w : zWd) : Option (Unit × zWd) :=
  zbn (zup w v0 0 (w v1 0)) fun w1 =>
  zgd (zcok (0 : Int32) (0 : Int32) (120 : Int32) 120 120) <|
  zbn (zcp w1 (v1 + 1) (0 : Int32).toNatClampNeg (v0 + 1) (0 : Int32).toNatClampNeg (120 : Int32).toNatClampNeg) fun w2 =>
  some ((), w2)
def mX9_add_56 (w : zWd) : Option (Unit × zWd) :=
  some ((), w)
def mX9_add_5b (v0 : Nat) (v1 : Int64) (k5 : Int32 × zWd → Option (Unit × zWd)) (v4 : Int32) (w : zWd) : Option (Unit × zWd) :=
  if v4 < 0 then (mX9_add_56 w)
  else (if (120 : Int32) ≤ (w v0 0) then (mX9_add_56 w)
  else (zgd (zin (w v0 0) 120) <|
  zbn (zup w (v0 + 1) (w v0 0).toNatClampNeg ((((v1.toUInt64 >>> (((8 : Int32) * v4).toInt64.toUInt64 &&& Int64.toUInt64 63)).toInt64).toInt32) &&& (255 : Int32))) fun w2 =>
  zbn (zup w2 v0 0 ((w2 v0 0) + (1 : Int32))) fun w3 =>
  k5 (v4 + (-1 : Int32), w3)))
def mX9_add_5 (v0 : Nat) (v1 : Int64) (v4 : Int32) (w : zWd) : Option (Unit × zWd) :=
  zlp (fun k q => mX9_add_5b v0 v1 k q.1 q.2) zFU (v4, w)
def mX9_add (v0 : Nat) (v1 : Int64) (v3 : Int32) (w : zWd) : Option (Unit × zWd) :=
  zbn (v3 - (1 : Int32)) fun x1 =>
  mX9_add_5 v0 v1 x1 w
def mX10_copyFrom (v0 : Nat) (v1 : Nat) (w : zWd) : Option (Unit × zWd) :=
  zbn (zup w v0 0 (w v1 0)) fun w1 =>
  zcl (mX0_copyFrom (v0 + 1) (v1 + 1) w1) fun _ w3 =>
  zcl (mX9_copyFrom (v0 + 11) (v1 + 11) w3) fun _ w5 =>
  zcl (mX3_copyFrom (v0 + 13) (v1 + 13) w5) fun _ w7 =>
  zcl (mX8_copyFrom (v0 + 81) (v1 + 81) w7) fun _ w9 =>
  zcl (mX6_copyFrom (v0 + 93) (v1 + 93) w9) fun _ w11 =>
  some ((), w11)
def mX10_rules (v0 : Nat) (v1 : Int32) (v2 : Int32) (w : zWd) : Option (Int32 × zWd) :=
  zcl (mX3_ruling (v0 + 13) v1 (v0 + 81) (0 : Int32) v2 w) fun r1 w2 =>
  zcl (mX3_numberBy (v0 + 13) r1 v1 w2) fun r3 w4 =>
  some (r3, w4)
def mX11_distance (v0 : Int32) (v1 : Int32) (w : zWd) : Option (Int32 × zWd) :=
  zbn (if 0 ≤ ((v0 - v0 / (6 : Int32) * (6 : Int32)) - (v1 - v1 / (6 : Int32) * (6 : Int32))) then ((v0 - v0 / (6 : Int32) * (6 : Int32)) - (v1 - v1 / (6 : Int32) * (6 : Int32))) else 0 - ((v0 - v0 / (6 : Int32) * (6 : Int32)) - (v1 - v1 / (6 : Int32) * (6 : Int32)))) fun x1 =>
  zbn (if 0 ≤ ((v0 / (6 : Int32)) - (v1 / (6 : Int32))) then ((v0 / (6 : Int32)) - (v1 / (6 : Int32))) else 0 - ((v0 / (6 : Int32)) - (v1 / (6 : Int32)))) fun x2 =>
  some (x1 + x2, w)
def mX10_mayBe_45b (v0 : Nat) (v2 : Int32) (v5 : Int32) (k45 : Int32 × zWd → Option (Int32 × zWd)) (v6 : Int32) (w : zWd) : Option (Int32 × zWd) :=
  if (w (v0 + 1) 1) ≤ v6 then (zgd (zB (1 : Int32)) (some ((1 : Int32), w)))
  else (zgd (zin v6 12) <|
  zcl (mX11_distance (w ((v0 + 1) + 3) v6.toNatClampNeg) v2 w) fun r5 w6 =>
  if v5 ≤ r5 then (k45 (v6 + (1 : Int32), w6))
  else (zgd (zB (0 : Int32)) (some ((0 : Int32), w6))))
def mX10_mayBe_45 (v0 : Nat) (v2 : Int32) (v5 : Int32) (v6 : Int32) (w : zWd) : Option (Int32 × zWd) :=
  zlp (fun k q => mX10_mayBe_45b v0 v2 v5 k q.1 q.2) zFU (v6, w)
def mX10_mayBe_26 (v0 : Nat) (v2 : Int32) (s0 : Int32) (s1 : Int32) (w : zWd) : Option (Int32 × zWd) :=
  if s1 ≤ s0 then (zcl (mX10_rules v0 (2 : Int32) (w v0 0) w) fun r3 w4 =>
  mX10_mayBe_45 v0 v2 r3 (0 : Int32) w4)
  else (zgd (zB (0 : Int32)) (some ((0 : Int32), w)))
def mX10_mayBe (v0 : Nat) (v1 : Int32) (v2 : Int32) (v3 : Int32) (w : zWd) : Option (Int32 × zWd) :=
  zcl (mX10_rules v0 (1 : Int32) (w v0 0) w) fun r1 w2 =>
  if v1 = (2 : Int32) then (mX10_mayBe_26 v0 v2 ((2 : Int32) * r1) v3 w2)
  else (mX10_mayBe_26 v0 v2 r1 v3 w2)
def mX11_under_20 (w : zWd) : Option (Int32 × zWd) :=
  some ((-1 : Int32), w)
def mX11_under_35 (w : zWd) : Option (Int32 × zWd) :=
  some ((-2 : Int32), w)
def mX11_under (v0 : Nat) (v1 : Int32) (v2 : Int32) (v3 : Int32) (w : zWd) : Option (Int32 × zWd) :=
  zcl (mX11_within v1 (30 : Int32) w) fun r1 w2 =>
  if r1 = 0 then (mX11_under_20 w2)
  else (zcl (mX11_within v2 (4 : Int32) w2) fun r3 w4 =>
  if r3 = 0 then (mX11_under_20 w4)
  else (if v3 < 0 then (mX11_under_35 w4)
  else (zgd (zin v2 4) <|
  if v3 ≤ ((zSVv 0).getD v2.toNatClampNeg 0) then (zgd (zin ((v2 * (30 : Int32)) + v1) 120) <|
  zbn (w4 (((v0 + 1) + 1) + 1) ((v2 * (30 : Int32)) + v1).toNatClampNeg) fun x5 =>
  zgd (zin ((v2 * (30 : Int32)) + v1) 120) <|
  zbn (zup w4 (((v0 + 1) + 1) + 1) ((v2 * (30 : Int32)) + v1).toNatClampNeg v3) fun w6 =>
  some (x5, w6))
  else (mX11_under_35 w4))))
def mX11_cell_20 (w : zWd) : Option (Int32 × zWd) :=
  some ((-1 : Int32), w)
def mX11_cell (v0 : Nat) (v1 : Int32) (v2 : Int32) (w : zWd) : Option (Int32 × zWd) :=
  zcl (mX11_within v1 (30 : Int32) w) fun r1 w2 =>
  if r1 = 0 then (mX11_cell_20 w2)
  else (zcl (mX11_within v2 (4 : Int32) w2) fun r3 w4 =>
  if r3 = 0 then (mX11_cell_20 w4)
  else (zgd (zin ((v2 * (30 : Int32)) + v1) 120) <|
  some (w4 (((v0 + 1) + 1) + 1) ((v2 * (30 : Int32)) + v1).toNatClampNeg, w4)))
def mX11_tap_18 (w : zWd) : Option (Int32 × zWd) :=
  some ((-1 : Int32), w)
def mX11_tap_86 (v0 : Nat) (v1 : Int32) (v2 : Int32) (v3 : Int32) (w : zWd) : Option (Int32 × zWd) :=
  if (w ((v0 + 1) + 1) 1) < (12 : Int32) then (zcl (mX0_addTap ((v0 + 1) + 1) v1 v2 v3 (w (v0 + 1) 0) w) fun r5 w6 =>
  some (r5, w6))
  else (some ((-4 : Int32), w))
def mX11_tap_83 (w : zWd) : Option (Int32 × zWd) :=
  some ((-3 : Int32), w)
def mX11_tap_51 (v0 : Nat) (v1 : Int32) (v2 : Int32) (v3 : Int32) (v4 : Int32) (w : zWd) : Option (Int32 × zWd) :=
  zcl (mX0_hasTapAt ((v0 + 1) + 1) v2 w) fun r3 w4 =>
  if r3 = 0 then (if v1 = 0 then (mX11_tap_86 v0 v1 v2 v3 w4)
  else (zcl (mX10_mayBe (v0 + 1) v1 v2 v4 w4) fun r7 w8 =>
  if r7 = 0 then (mX11_tap_83 w8)
  else (mX11_tap_86 v0 v1 v2 v3 w8)))
  else (mX11_tap_83 w4)
def mX11_tap_48 (w : zWd) : Option (Int32 × zWd) :=
  some ((-2 : Int32), w)
def mX11_tap (v0 : Nat) (v1 : Int32) (v2 : Int32) (v3 : Int32) (v4 : Int32) (w : zWd) : Option (Int32 × zWd) :=
  if v1 < 0 then (mX11_tap_18 w)
  else (if (2 : Int32) < v1 then (mX11_tap_18 w)
  else (zcl (mX11_within v2 (30 : Int32) w) fun r1 w2 =>
  if r1 = 0 then (mX11_tap_18 w2)
  else (if v1 = 0 then (mX11_tap_51 v0 v1 v2 v3 v4 w2)
  else (if v3 < (1 : Int32) then (mX11_tap_48 w2)
  else (if (500 : Int32) < v3 then (mX11_tap_48 w2)
  else (if v4 < 0 then (mX11_tap_48 w2)
  else (if v4 ≤ (99 : Int32) then (mX11_tap_51 v0 v1 v2 v3 v4 w2)
  else (mX11_tap_48 w2))))))))
def mX11_isTap (v0 : Nat) (v1 : Int32) (w : zWd) : Option (Int32 × zWd) :=
  zcl (mX11_within v1 (w ((v0 + 1) + 1) 1) w) fun r1 w2 =>
  zgd (zB r1) (some (r1, w2))
def mX11_shut_69 (v3 : Int32) (s0 : Int32) (s1 : Nat) (w : zWd) : Option (Int32 × zWd) :=
  zbn (zup w s1 2 s0) fun w4 =>
  some (v3, w4)
def mX11_shut (v0 : Nat) (v1 : Int32) (v2 : Int32) (w : zWd) : Option (Int32 × zWd) :=
  zcl (mX11_isTap v0 v1 w) fun r1 w2 =>
  if r1 = 0 then (some ((-1 : Int32), w2))
  else (zbn (((w2 ((v0 + 1) + 1) 2) >>> (v1 &&& 31)) &&& (1 : Int32)) fun x3 =>
  if v2 = 0 then (mX11_shut_69 x3 ((w2 ((v0 + 1) + 1) 2) &&& (((1 : Int32) <<< (v1 &&& 31)) ^^^ (-1 : Int32))) ((v0 + 1) + 1) w2)
  else (mX11_shut_69 x3 ((w2 ((v0 + 1) + 1) 2) ||| ((1 : Int32) <<< (v1 &&& 31))) ((v0 + 1) + 1) w2))
def mX11_dawn_26 (w : zWd) : Option (Int32 × zWd) :=
  some ((-2 : Int32), w)
def mX11_dawn_31b (v0 : Nat) (v1 : Int32) (k31 : Int32 × zWd → Option (Int32 × zWd)) (v2 : Int32) (w : zWd) : Option (Int32 × zWd) :=
  if v1 ≤ v2 then (some (w (v0 + 1) 0, w))
  else (zcl (mX0_passDay ((v0 + 1) + 1) w) fun _ w2 =>
  zgd (zcok (0 : Int32) (((w2 (v0 + 1) 0) * (12 : Int32)) * (4 : Int32)) (48 : Int32) 48 19200) <|
  zbn (zcp w2 (((v0 + 1) + 1) + 8) (0 : Int32).toNatClampNeg (v0 + 205) (((w2 (v0 + 1) 0) * (12 : Int32)) * (4 : Int32)).toNatClampNeg (48 : Int32).toNatClampNeg) fun w3 =>
  zbn (zup w3 (v0 + 1) 0 ((w3 (v0 + 1) 0) + (1 : Int32))) fun w4 =>
  k31 (v2 + (1 : Int32), w4))
def mX11_dawn_31 (v0 : Nat) (v1 : Int32) (v2 : Int32) (w : zWd) : Option (Int32 × zWd) :=
  zlp (fun k q => mX11_dawn_31b v0 v1 k q.1 q.2) zFU (v2, w)
def mX11_dawn (v0 : Nat) (v1 : Int32) (w : zWd) : Option (Int32 × zWd) :=
  if v1 < (1 : Int32) then (mX11_dawn_26 w)
  else (if (30 : Int32) < v1 then (mX11_dawn_26 w)
  else (if ((w (v0 + 1) 0) + v1) ≤ (400 : Int32) then (mX11_dawn_31 v0 v1 (0 : Int32) w)
  else (mX11_dawn_26 w)))
def mX11_wentBy_32 (s0 : Int32) (w : zWd) : Option (Int32 × zWd) :=
  zgd (zB s0) (some (s0, w))
def mX11_wentBy_31 (w : zWd) : Option (Int32 × zWd) :=
  mX11_wentBy_32 (0 : Int32) w
def mX11_wentBy (v0 : Nat) (v1 : Int32) (v2 : Int32) (w : zWd) : Option (Int32 × zWd) :=
  zgd (zin v1 12) <|
  if v2 < (w (((v0 + 1) + 1) + 5) v1.toNatClampNeg) then (mX11_wentBy_31 w)
  else (if (w (v0 + 1) 0) ≤ v2 then (mX11_wentBy_31 w)
  else (mX11_wentBy_32 (1 : Int32) w))
def mX11_pastFlow (v0 : Nat) (v1 : Int32) (v2 : Int32) (v3 : Int32) (w : zWd) : Option (Int32 × zWd) :=
  zgd (zin ((((v2 * (12 : Int32)) + v1) * (4 : Int32)) + v3) 19200) <|
  some (w (v0 + 205) ((((v2 * (12 : Int32)) + v1) * (4 : Int32)) + v3).toNatClampNeg, w)
def mX11_flow_25 (w : zWd) : Option (Int32 × zWd) :=
  some ((-1 : Int32), w)
def mX11_flow (v0 : Nat) (v1 : Int32) (v2 : Int32) (v3 : Int32) (w : zWd) : Option (Int32 × zWd) :=
  zcl (mX11_isTap v0 v1 w) fun r1 w2 =>
  if r1 = 0 then (mX11_flow_25 w2)
  else (zcl (mX11_wentBy v0 v1 v2 w2) fun r3 w4 =>
  if r3 = 0 then (mX11_flow_25 w4)
  else (zcl (mX11_within v3 (4 : Int32) w4) fun r5 w6 =>
  if r5 = 0 then (mX11_flow_25 w6)
  else (zcl (mX11_pastFlow v0 v1 v2 v3 w6) fun r7 w8 =>
  some (r7, w8))))
def mX11_pipe_20 (w : zWd) : Option (Int32 × zWd) :=
  some ((-2 : Int32), w)
def mX11_pipe (v0 : Nat) (v1 : Int32) (v2 : Int32) (w : zWd) : Option (Int32 × zWd) :=
  zcl (mX11_isTap v0 v1 w) fun r1 w2 =>
  if r1 = 0 then (some ((-1 : Int32), w2))
  else (if v2 < 0 then (mX11_pipe_20 w2)
  else (if v2 ≤ (99 : Int32) then (zgd (zin v1 12) <|
  zbn (w2 (((v0 + 1) + 1) + 6) v1.toNatClampNeg) fun x3 =>
  zgd (zin v1 12) <|
  zbn (zup w2 (((v0 + 1) + 1) + 6) v1.toNatClampNeg v2) fun w4 =>
  some (x3, w4))
  else (mX11_pipe_20 w2)))
def mX11_scale (v0 : Nat) (v1 : Int32) (w : zWd) : Option (Int32 × zWd) :=
  zcl (mX11_isTap v0 v1 w) fun r1 w2 =>
  if r1 = 0 then (some ((-1 : Int32), w2))
  else (zgd (zin v1 12) <|
  zbn (w2 (((v0 + 1) + 1) + 7) v1.toNatClampNeg) fun x3 =>
  zgd (zin v1 12) <|
  zbn (zup w2 (((v0 + 1) + 1) + 7) v1.toNatClampNeg (0 : Int32)) fun w4 =>
  some (x3, w4))
def mX11_feed_11 (w : zWd) : Option (Int32 × zWd) :=
  some ((-2 : Int32), w)
def mX11_feed (v0 : Nat) (v1 : Int64) (v3 : Int32) (w : zWd) : Option (Int32 × zWd) :=
  if v3 < (1 : Int32) then (mX11_feed_11 w)
  else (if v3 ≤ (8 : Int32) then (if ((w ((v0 + 1) + 11) 0) + v3) ≤ (120 : Int32) then (zcl (mX9_add ((v0 + 1) + 11) v1 v3 w) fun _ w2 =>
  some (w2 ((v0 + 1) + 11) 0, w2))
  else (some ((-4 : Int32), w)))
  else (mX11_feed_11 w))
def mX11_isDay_16 (s0 : Int32) (w : zWd) : Option (Int32 × zWd) :=
  zgd (zB s0) (some (s0, w))
def mX11_isDay_15 (w : zWd) : Option (Int32 × zWd) :=
  mX11_isDay_16 (0 : Int32) w
def mX11_isDay (v0 : Int32) (w : zWd) : Option (Int32 × zWd) :=
  if v0 < 0 then (mX11_isDay_15 w)
  else (if (400 : Int32) < v0 then (mX11_isDay_15 w)
  else (mX11_isDay_16 (1 : Int32) w))
def mX11_text_75 (s0 : Int32) (w : zWd) : Option (Int32 × zWd) :=
  some (s0, w)
def mX11_text (v0 : Nat) (v1 : Int32) (w : zWd) : Option (Int32 × zWd) :=
  zcl (mX11_isDay v1 w) fun r1 w2 =>
  if r1 = 0 then (some ((-2 : Int32), w2))
  else (if (w2 ((v0 + 1) + 13) 0) < (10 : Int32) then (zcl (mX3_spare ((v0 + 1) + 13) w2) fun r3 w4 =>
  zgd (zShp r3 = (2, 8)) <|
  zcl (mX4_read (v0 + 216) ((v0 + 1) + 11) r3 v1 w4) fun r6 w7 =>
  if r6 < 0 then (zcl (mX3_accept ((v0 + 1) + 13) w7) fun r8 w9 =>
  mX11_text_75 r8 w9)
  else (mX11_text_75 ((-10 : Int32) - r6) w7))
  else (some ((-4 : Int32), w2)))
def mX11_isTaker (v0 : Nat) (v1 : Int32) (w : zWd) : Option (Int32 × zWd) :=
  zcl (mX11_within v1 (w ((v0 + 1) + 81) 0) w) fun r1 w2 =>
  zgd (zB r1) (some (r1, w2))
def mX11_isRuled_26 (s0 : Int32) (w : zWd) : Option (Int32 × zWd) :=
  zgd (zB s0) (some (s0, w))
def mX11_isRuled_25 (w : zWd) : Option (Int32 × zWd) :=
  mX11_isRuled_26 (0 : Int32) w
def mX11_isRuled_21 (w : zWd) : Option (Int32 × zWd) :=
  mX11_isRuled_26 (1 : Int32) w
def mX11_isRuled (v0 : Nat) (v1 : Int32) (v2 : Int32) (w : zWd) : Option (Int32 × zWd) :=
  zcl (mX11_within v1 (6 : Int32) w) fun r1 w2 =>
  if r1 = 0 then (mX11_isRuled_25 w2)
  else (if v1 = 0 then (zcl (mX11_isTaker v0 v2 w2) fun r3 w4 =>
  if r3 = 0 then (mX11_isRuled_25 w4)
  else (mX11_isRuled_21 w4))
  else (mX11_isRuled_21 w2))
def mX11_force (v0 : Nat) (v1 : Int32) (v2 : Int32) (v3 : Int32) (w : zWd) : Option (Int32 × zWd) :=
  zcl (mX11_isRuled v0 v1 v2 w) fun r1 w2 =>
  if r1 = 0 then (some ((-1 : Int32), w2))
  else (zcl (mX11_isDay v3 w2) fun r3 w4 =>
  if r3 = 0 then (some ((-2 : Int32), w4))
  else (zcl (mX3_ruling ((v0 + 1) + 13) v1 ((v0 + 1) + 81) v2 v3 w4) fun r5 w6 =>
  zcl (mX3_numberBy ((v0 + 1) + 13) r5 v1 w6) fun r7 w8 =>
  some (r7, w8)))
def mX11_why (v0 : Nat) (v1 : Int32) (v2 : Int32) (v3 : Int32) (w : zWd) : Option (Int32 × zWd) :=
  zcl (mX11_isRuled v0 v1 v2 w) fun r1 w2 =>
  if r1 = 0 then (some ((-1 : Int32), w2))
  else (zcl (mX11_isDay v3 w2) fun r3 w4 =>
  if r3 = 0 then (some ((-2 : Int32), w4))
  else (zcl (mX3_ruling ((v0 + 1) + 13) v1 ((v0 + 1) + 81) v2 v3 w4) fun r5 w6 =>
  some (r5, w6)))
def mX11_taker_18 (w : zWd) : Option (Int32 × zWd) :=
  some ((-1 : Int32), w)
def mX11_taker_60 (w : zWd) : Option (Int32 × zWd) :=
  some ((-2 : Int32), w)
def mX11_taker (v0 : Nat) (v1 : Int32) (v2 : Int32) (v3 : Int32) (v4 : Int32) (v5 : Int32) (w : zWd) : Option (Int32 × zWd) :=
  zcl (mX11_within v1 (6 : Int32) w) fun r1 w2 =>
  if r1 = 0 then (mX11_taker_18 w2)
  else (zcl (mX11_within v2 (12 : Int32) w2) fun r3 w4 =>
  if r3 = 0 then (mX11_taker_18 w4)
  else (if v3 < (1 : Int32) then (mX11_taker_60 w4)
  else (if (4 : Int32) < v3 then (mX11_taker_60 w4)
  else (if v4 < 0 then (mX11_taker_60 w4)
  else (if (1500 : Int32) < v4 then (mX11_taker_60 w4)
  else (if v5 < 0 then (mX11_taker_60 w4)
  else (if v5 ≤ (w4 (v0 + 1) 0) then (if (w4 ((v0 + 1) + 81) 0) < (8 : Int32) then (zcl (mX8_add ((v0 + 1) + 81) v1 v2 v3 v4 v5 w4) fun r5 w6 =>
  some (r5, w6))
  else (some ((-4 : Int32), w4)))
  else (mX11_taker_60 w4))))))))
def mX11_of_16 (w : zWd) : Option (Int32 × zWd) :=
  some ((-1 : Int32), w)
def mX11_of_87 (s0 : Int32) (w : zWd) : Option (Int32 × zWd) :=
  some (s0, w)
def mX11_of (v0 : Nat) (v1 : Int32) (v2 : Int32) (w : zWd) : Option (Int32 × zWd) :=
  zcl (mX11_isTaker v0 v1 w) fun r1 w2 =>
  if r1 = 0 then (mX11_of_16 w2)
  else (zcl (mX11_within v2 (3 : Int32) w2) fun r3 w4 =>
  if r3 = 0 then (mX11_of_16 w4)
  else (if v2 = 0 then (zcl (mX8_needs ((v0 + 1) + 81) v1 w4) fun r5 w6 =>
  some (r5, w6))
  else (zcl (mX5_form (v0 + 217) ((v0 + 1) + 13) ((v0 + 1) + 81) (w4 (v0 + 1) 0) w4) fun _ w8 =>
  if v2 = (1 : Int32) then (zgd (zin v1 8) <|
  mX11_of_87 (w8 ((v0 + 217) + 1) v1.toNatClampNeg) w8)
  else (zcl (mX5_placeOf (v0 + 217) v1 w8) fun r9 w10 =>
  mX11_of_87 r9 w10))))
def mX11_isKindOf_38 (w : zWd) : Option (Int32 × zWd) :=
  zgd (zB (0 : Int32)) (some ((0 : Int32), w))
def mX11_isKindOf_4b (v1 : Int32) (k4 : Int32 × Int32 × zWd → Option (Int32 × zWd)) (v2 : Int32) (v3 : Int32) (w : zWd) : Option (Int32 × zWd) :=
  if (6 : Int32) ≤ v3 then (mX11_isKindOf_38 w)
  else (zcl (mX11_within v2 (6 : Int32) w) fun r1 w2 =>
  if r1 = 0 then (mX11_isKindOf_38 w2)
  else (if v2 = v1 then (zgd (zB (1 : Int32)) (some ((1 : Int32), w2)))
  else (zgd (zin v2 6) <|
  zbn ((zSVv 2).getD v2.toNatClampNeg 0) fun x3 =>
  k4 (x3, v3 + (1 : Int32), w2))))
def mX11_isKindOf_4 (v1 : Int32) (v2 : Int32) (v3 : Int32) (w : zWd) : Option (Int32 × zWd) :=
  zlp (fun k q => mX11_isKindOf_4b v1 k q.1 q.2.1 q.2.2) zFU (v2, v3, w)
def mX11_isKindOf (v0 : Int32) (v1 : Int32) (w : zWd) : Option (Int32 × zWd) :=
  mX11_isKindOf_4 v1 v0 (0 : Int32) w
def mX11_as_17 (w : zWd) : Option (Int32 × zWd) :=
  some ((-1 : Int32), w)
def mX11_as_55 (s0 : Int32) (w : zWd) : Option (Int32 × zWd) :=
  some (s0, w)
def mX11_as (v0 : Nat) (v1 : Int32) (v2 : Int32) (w : zWd) : Option (Int32 × zWd) :=
  zcl (mX11_isTaker v0 v1 w) fun r1 w2 =>
  if r1 = 0 then (mX11_as_17 w2)
  else (zcl (mX11_within v2 (6 : Int32) w2) fun r3 w4 =>
  if r3 = 0 then (mX11_as_17 w4)
  else (zgd (zin v1 8) <|
  zcl (mX11_isKindOf (w4 (((v0 + 1) + 81) + 1) v1.toNatClampNeg) v2 w4) fun r5 w6 =>
  if r5 = 0 then (mX11_as_55 (-6 : Int32) w6)
  else (zgd (zin v1 8) <|
  mX11_as_55 (w6 (((v0 + 1) + 81) + 3) v1.toNatClampNeg) w6)))
def mX11_row (v0 : Nat) (v1 : Int32) (v2 : Int32) (w : zWd) : Option (Int32 × zWd) :=
  zcl (mX11_within v2 (w ((v0 + 1) + 81) 0) w) fun r1 w2 =>
  if r1 = 0 then (some ((-1 : Int32), w2))
  else (zcl (mX11_isDay v1 w2) fun r3 w4 =>
  if r3 = 0 then (some ((-2 : Int32), w4))
  else (zcl (mX5_form (v0 + 217) ((v0 + 1) + 13) ((v0 + 1) + 81) v1 w4) fun _ w6 =>
  zgd (zin v2 8) <|
  some (w6 ((v0 + 217) + 2) v2.toNatClampNeg, w6)))
def mX11_sell_26 (w : zWd) : Option (Int32 × zWd) :=
  some ((-1 : Int32), w)
def mX11_sell_50 (w : zWd) : Option (Int32 × zWd) :=
  some ((-2 : Int32), w)
def mX11_sell (v0 : Nat) (v1 : Int32) (v2 : Int32) (v3 : Int32) (v4 : Int32) (w : zWd) : Option (Int32 × zWd) :=
  zcl (mX11_isTaker v0 v1 w) fun r1 w2 =>
  if r1 = 0 then (mX11_sell_26 w2)
  else (zcl (mX11_within v2 (10 : Int32) w2) fun r3 w4 =>
  if r3 = 0 then (mX11_sell_26 w4)
  else (zcl (mX11_within v3 (10 : Int32) w4) fun r5 w6 =>
  if r5 = 0 then (mX11_sell_26 w6)
  else (if v4 < 0 then (mX11_sell_50 w6)
  else (if (w6 (v0 + 1) 0) < v4 then (mX11_sell_50 w6)
  else (if v2 = v3 then (mX11_sell_50 w6)
  else (if (w6 ((v0 + 1) + 81) 8) < (30 : Int32) then (zcl (mX8_addSale ((v0 + 1) + 81) v1 v2 v3 v4 w6) fun r7 w8 =>
  some (r7, w8))
  else (some ((-4 : Int32), w6))))))))
def mX11_whose_27 (w : zWd) : Option (Int32 × zWd) :=
  some ((-1 : Int32), w)
def mX11_whose_66 (s0 : Int32) (s1 : Int32) (s2 : Int32) (s3 : Nat) (w : zWd) : Option (Int32 × zWd) :=
  zcl (mX8_ownerOn s3 s2 s1 s0 w) fun r5 w6 =>
  some (r5, w6)
def mX11_whose (v0 : Nat) (v1 : Int32) (v2 : Int32) (v3 : Int32) (w : zWd) : Option (Int32 × zWd) :=
  zcl (mX11_isTaker v0 v1 w) fun r1 w2 =>
  if r1 = 0 then (mX11_whose_27 w2)
  else (if v3 < (-1 : Int32) then (mX11_whose_27 w2)
  else (if v3 ≤ (w2 ((v0 + 1) + 81) 8) then (zcl (mX11_isDay v2 w2) fun r3 w4 =>
  if r3 = 0 then (some ((-2 : Int32), w4))
  else (if 0 ≤ v3 then (mX11_whose_66 v3 v2 v1 ((v0 + 1) + 81) w4)
  else (mX11_whose_66 (w4 ((v0 + 1) + 81) 8) v2 v1 ((v0 + 1) + 81) w4)))
  else (mX11_whose_27 w2)))
def mX11_used_37 (w : zWd) : Option (Int32 × zWd) :=
  some ((-2 : Int32), w)
def mX11_used (v0 : Nat) (v1 : Int32) (v2 : Int32) (w : zWd) : Option (Int32 × zWd) :=
  zcl (mX11_isTaker v0 v1 w) fun r1 w2 =>
  if r1 = 0 then (some ((-1 : Int32), w2))
  else (zgd (zin v1 8) <|
  if v2 < (w2 (((v0 + 1) + 81) + 5) v1.toNatClampNeg) then (mX11_used_37 w2)
  else (if v2 ≤ (w2 (v0 + 1) 0) then (zcl (mX8_hasUse ((v0 + 1) + 81) v1 v2 w2) fun r3 w4 =>
  if r3 = 0 then (zgd (zin v1 8) <|
  if (w4 (((v0 + 1) + 81) + 6) v1.toNatClampNeg) < (20 : Int32) then (zcl (mX8_addUse ((v0 + 1) + 81) v1 v2 w4) fun r5 w6 =>
  some (r5, w6))
  else (some ((-4 : Int32), w4)))
  else (some ((-3 : Int32), w4)))
  else (mX11_used_37 w2)))
def mX11_lapsed_53 (s0 : Int32) (w : zWd) : Option (Int32 × zWd) :=
  some (s0, w)
def mX11_lapsed (v0 : Nat) (v1 : Int32) (v2 : Int32) (w : zWd) : Option (Int32 × zWd) :=
  zcl (mX11_isTaker v0 v1 w) fun r1 w2 =>
  if r1 = 0 then (some ((-1 : Int32), w2))
  else (zcl (mX11_isDay v2 w2) fun r3 w4 =>
  if r3 = 0 then (some ((-2 : Int32), w4))
  else (zcl (mX8_lastUse ((v0 + 1) + 81) v1 v2 w4) fun r5 w6 =>
  zbn (v2 - r5) fun x7 =>
  zcl (mX10_rules (v0 + 1) (3 : Int32) v2 w6) fun r8 w9 =>
  if x7 ≤ r8 then (mX11_lapsed_53 (0 : Int32) w9)
  else (mX11_lapsed_53 (1 : Int32) w9)))
def mX11_servedOf_59 (k2 : Int32 × zWd → Option (Int32 × zWd)) (v0 : Nat) (v1 : Int32) (v2 : Int32) (w : zWd) : Option (Int32 × zWd) :=
  k2 (v2 + (1 : Int32), w)
def mX11_servedOf_49 (k2 : Int32 × zWd → Option (Int32 × zWd)) (v0 : Nat) (v1 : Int32) (v2 : Int32) (w : zWd) : Option (Int32 × zWd) :=
  zcl (mX1_offer (v0 + 220) v2 (0 : Int32) (0 : Int32) w) fun _ w6 =>
  mX11_servedOf_59 k2 v0 v1 v2 w6
def mX11_servedOf_2b (v0 : Nat) (v1 : Int32) (k2 : Int32 × zWd → Option (Int32 × zWd)) (v2 : Int32) (w : zWd) : Option (Int32 × zWd) :=
  if (4 : Int32) ≤ v2 then (zcl (mX1_serve (v0 + 220) (v0 + 217) ((v0 + 1) + 81) w) fun r1 w2 =>
  some (r1, w2))
  else (zcl (mX11_isTap v0 v2 w) fun r3 w4 =>
  if r3 = 0 then (mX11_servedOf_49 k2 v0 v1 v2 w4)
  else (zcl (mX11_wentBy v0 v2 v1 w4) fun r7 w8 =>
  if r7 = 0 then (mX11_servedOf_49 k2 v0 v1 v2 w8)
  else (zcl (mX11_pastFlow v0 v2 v1 (2 : Int32) w8) fun r9 w10 =>
  zcl (mX11_pastFlow v0 v2 v1 (3 : Int32) w10) fun r11 w12 =>
  zcl (mX1_offer (v0 + 220) v2 r9 r11 w12) fun _ w14 =>
  mX11_servedOf_59 k2 v0 v1 v2 w14)))
def mX11_servedOf_2 (v0 : Nat) (v1 : Int32) (v2 : Int32) (w : zWd) : Option (Int32 × zWd) :=
  zlp (fun k q => mX11_servedOf_2b v0 v1 k q.1 q.2) zFU (v2, w)
def mX11_servedOf (v0 : Nat) (v1 : Int32) (w : zWd) : Option (Int32 × zWd) :=
  mX11_servedOf_2 v0 v1 (0 : Int32) w
def mX11_mix (v0 : Nat) (v1 : Int32) (w : zWd) : Option (Int32 × zWd) :=
  zcl (mX11_within v1 (w (v0 + 1) 0) w) fun r1 w2 =>
  if r1 = 0 then (some ((-1 : Int32), w2))
  else (zcl (mX5_form (v0 + 217) ((v0 + 1) + 13) ((v0 + 1) + 81) v1 w2) fun _ w4 =>
  zcl (mX11_servedOf v0 v1 w4) fun r5 w6 =>
  some (r5, w6))
def mX11_partByRank_4b (v0 : Nat) (k4 : Int32 × Int32 × zWd → Option (Unit × zWd)) (v2 : Int32) (v3 : Int32) (w : zWd) : Option (Unit × zWd) :=
  if (w (v0 + 217) 0) ≤ v3 then (some ((), w))
  else (zgd (zin v3 8) <|
  zbn (w ((v0 + 217) + 2) v3.toNatClampNeg) fun x1 =>
  zgd (zin x1 8) <|
  zbn (if (w (((v0 + 1) + 81) + 3) x1.toNatClampNeg) < v2 then (w (((v0 + 1) + 81) + 3) x1.toNatClampNeg) else v2) fun x2 =>
  zgd (zin x1 8) <|
  zbn (zup w (v0 + 229) x1.toNatClampNeg x2) fun w3 =>
  zgd (zin x1 8) <|
  zbn (v2 - (w3 (v0 + 229) x1.toNatClampNeg)) fun x4 =>
  k4 (x4, v3 + (1 : Int32), w3))
def mX11_partByRank_4 (v0 : Nat) (v2 : Int32) (v3 : Int32) (w : zWd) : Option (Unit × zWd) :=
  zlp (fun k q => mX11_partByRank_4b v0 k q.1 q.2.1 q.2.2) zFU (v2, v3, w)
def mX11_partByRank (v0 : Nat) (v1 : Int32) (w : zWd) : Option (Unit × zWd) :=
  mX11_partByRank_4 v0 v1 (0 : Int32) w
def mX11_partByGallons_143 (w : zWd) : Option (Unit × zWd) :=
  some ((), w)
def mX11_partByGallons_100b (v0 : Nat) (v3 : Int32) (k100 : Int32 × zWd → Option (Unit × zWd)) (v4 : Int32) (w : zWd) : Option (Unit × zWd) :=
  if (w (v0 + 217) 0) ≤ v4 then (mX11_partByGallons_143 w)
  else (if v3 ≤ v4 then (mX11_partByGallons_143 w)
  else (zgd (zin v4 8) <|
  zgd (zin (w ((v0 + 217) + 2) v4.toNatClampNeg) 8) <|
  zgd (zin (w ((v0 + 217) + 2) v4.toNatClampNeg) 8) <|
  zbn (zup w (v0 + 229) (w ((v0 + 217) + 2) v4.toNatClampNeg).toNatClampNeg ((w (v0 + 229) (w ((v0 + 217) + 2) v4.toNatClampNeg).toNatClampNeg) + (1 : Int32))) fun w1 =>
  k100 (v4 + (1 : Int32), w1)))
def mX11_partByGallons_100 (v0 : Nat) (v3 : Int32) (v4 : Int32) (w : zWd) : Option (Unit × zWd) :=
  zlp (fun k q => mX11_partByGallons_100b v0 v3 k q.1 q.2) zFU (v4, w)
def mX11_partByGallons_97 (v0 : Nat) (v3 : Int32) (w : zWd) : Option (Unit × zWd) :=
  mX11_partByGallons_100 v0 v3 (0 : Int32) w
def mX11_partByGallons_41b (v0 : Nat) (v1 : Int32) (v2 : Int32) (k41 : Int32 × Int32 × zWd → Option (Unit × zWd)) (v3 : Int32) (v4 : Int32) (w : zWd) : Option (Unit × zWd) :=
  if (w (v0 + 217) 0) ≤ v4 then (mX11_partByGallons_97 v0 v3 w)
  else (if v2 ≤ 0 then (mX11_partByGallons_97 v0 v3 w)
  else (zgd (zin v4 8) <|
  zgd (¬ v2 = 0) <|
  zgd (zin v4 8) <|
  zbn (zup w (v0 + 229) v4.toNatClampNeg ((v1 * (w (((v0 + 1) + 81) + 3) v4.toNatClampNeg)) / v2)) fun w2 =>
  zgd (zin v4 8) <|
  zbn (v3 - (w2 (v0 + 229) v4.toNatClampNeg)) fun x3 =>
  k41 (x3, v4 + (1 : Int32), w2)))
def mX11_partByGallons_41 (v0 : Nat) (v1 : Int32) (v2 : Int32) (v3 : Int32) (v4 : Int32) (w : zWd) : Option (Unit × zWd) :=
  zlp (fun k q => mX11_partByGallons_41b v0 v1 v2 k q.1 q.2.1 q.2.2) zFU (v3, v4, w)
def mX11_partByGallons_4b (v0 : Nat) (v1 : Int32) (k4 : Int32 × Int32 × zWd → Option (Unit × zWd)) (v2 : Int32) (v3 : Int32) (w : zWd) : Option (Unit × zWd) :=
  if (w (v0 + 217) 0) ≤ v3 then (mX11_partByGallons_41 v0 v1 v2 v1 (0 : Int32) w)
  else (zgd (zin v3 8) <|
  zbn (v2 + (w (((v0 + 1) + 81) + 3) v3.toNatClampNeg)) fun x4 =>
  k4 (x4, v3 + (1 : Int32), w))
def mX11_partByGallons_4 (v0 : Nat) (v1 : Int32) (v2 : Int32) (v3 : Int32) (w : zWd) : Option (Unit × zWd) :=
  zlp (fun k q => mX11_partByGallons_4b v0 v1 k q.1 q.2.1 q.2.2) zFU (v2, v3, w)
def mX11_partByGallons (v0 : Nat) (v1 : Int32) (w : zWd) : Option (Unit × zWd) :=
  mX11_partByGallons_4 v0 v1 (0 : Int32) (0 : Int32) w
def mX11_partAlike_103 (k30 : Int32 × Int32 × zWd → Option (Unit × zWd)) (v0 : Nat) (v2 : Int32) (v3 : Int32) (w : zWd) : Option (Unit × zWd) :=
  k30 (v2, v3 + (1 : Int32), w)
def mX11_partAlike_97 (k30 : Int32 × Int32 × zWd → Option (Unit × zWd)) (k38 : Int32 × Int32 × zWd → Option (Unit × zWd)) (v0 : Nat) (v2 : Int32) (v3 : Int32) (v4 : Int32) (w : zWd) : Option (Unit × zWd) :=
  k38 (v2, v4 + (1 : Int32), w)
def mX11_partAlike_38b (k30 : Int32 × Int32 × zWd → Option (Unit × zWd)) (v0 : Nat) (v3 : Int32) (k38 : Int32 × Int32 × zWd → Option (Unit × zWd)) (v2 : Int32) (v4 : Int32) (w : zWd) : Option (Unit × zWd) :=
  if (w (v0 + 217) 0) ≤ v4 then (mX11_partAlike_103 k30 v0 v2 v3 w)
  else (if v2 ≤ 0 then (mX11_partAlike_103 k30 v0 v2 v3 w)
  else (zgd (zin v4 8) <|
  zbn (w ((v0 + 217) + 2) v4.toNatClampNeg) fun x1 =>
  zgd (zin x1 8) <|
  if (w (((v0 + 1) + 81) + 3) x1.toNatClampNeg) < v3 then (mX11_partAlike_97 k30 k38 v0 v2 v3 v4 w)
  else (zgd (zin x1 8) <|
  zgd (zin x1 8) <|
  zbn (zup w (v0 + 229) x1.toNatClampNeg ((w (v0 + 229) x1.toNatClampNeg) + (1 : Int32))) fun w2 =>
  mX11_partAlike_97 k30 k38 v0 (v2 + (-1 : Int32)) v3 v4 w2)))
def mX11_partAlike_38 (k30 : Int32 × Int32 × zWd → Option (Unit × zWd)) (v0 : Nat) (v3 : Int32) (v2 : Int32) (v4 : Int32) (w : zWd) : Option (Unit × zWd) :=
  zlp (fun k q => mX11_partAlike_38b k30 v0 v3 k q.1 q.2.1 q.2.2) zFU (v2, v4, w)
def mX11_partAlike_30b (v0 : Nat) (k30 : Int32 × Int32 × zWd → Option (Unit × zWd)) (v2 : Int32) (v3 : Int32) (w : zWd) : Option (Unit × zWd) :=
  if (4 : Int32) < v3 then (some ((), w))
  else (mX11_partAlike_38 k30 v0 v3 v2 (0 : Int32) w)
def mX11_partAlike_30 (v0 : Nat) (v2 : Int32) (v3 : Int32) (w : zWd) : Option (Unit × zWd) :=
  zlp (fun k q => mX11_partAlike_30b v0 k q.1 q.2.1 q.2.2) zFU (v2, v3, w)
def mX11_partAlike_2b (v0 : Nat) (v1 : Int32) (k2 : Int32 × zWd → Option (Unit × zWd)) (v2 : Int32) (w : zWd) : Option (Unit × zWd) :=
  if (w (v0 + 217) 0) ≤ v2 then (mX11_partAlike_30 v0 v1 (1 : Int32) w)
  else (zgd (zin v2 8) <|
  zbn (zup w (v0 + 229) v2.toNatClampNeg (0 : Int32)) fun w3 =>
  k2 (v2 + (1 : Int32), w3))
def mX11_partAlike_2 (v0 : Nat) (v1 : Int32) (v2 : Int32) (w : zWd) : Option (Unit × zWd) :=
  zlp (fun k q => mX11_partAlike_2b v0 v1 k q.1 q.2) zFU (v2, w)
def mX11_partAlike (v0 : Nat) (v1 : Int32) (w : zWd) : Option (Unit × zWd) :=
  mX11_partAlike_2 v0 v1 (0 : Int32) w
def mX11_want_21 (w : zWd) : Option (Int32 × zWd) :=
  some ((-2 : Int32), w)
def mX11_want_113 (v0 : Nat) (v2 : Int32) (w : zWd) : Option (Int32 × zWd) :=
  zgd (zin v2 8) <|
  some (w (v0 + 229) v2.toNatClampNeg, w)
def mX11_want (v0 : Nat) (v1 : Int32) (v2 : Int32) (w : zWd) : Option (Int32 × zWd) :=
  zcl (mX11_isTaker v0 v2 w) fun r1 w2 =>
  if r1 = 0 then (some ((-1 : Int32), w2))
  else (if v1 < 0 then (mX11_want_21 w2)
  else (if v1 ≤ (999 : Int32) then (zcl (mX5_form (v0 + 217) ((v0 + 1) + 13) ((v0 + 1) + 81) (w2 (v0 + 1) 0) w2) fun _ w4 =>
  zcl (mX10_rules (v0 + 1) (5 : Int32) (w4 (v0 + 1) 0) w4) fun r5 w6 =>
  if r5 = (0 : Int32) then (zcl (mX11_partByRank v0 v1 w6) fun _ w8 =>
  mX11_want_113 v0 v2 w8)
  else if r5 = (1 : Int32) then (zcl (mX11_partByGallons v0 v1 w6) fun _ w10 =>
  mX11_want_113 v0 v2 w10)
  else (zcl (mX11_partAlike v0 v1 w6) fun _ w12 =>
  mX11_want_113 v0 v2 w12))
  else (mX11_want_21 w2)))
def mX11_look_41 (w : zWd) : Option (Int32 × zWd) :=
  some ((-2 : Int32), w)
def mX11_look (v0 : Nat) (v1 : Int32) (v2 : Int32) (v3 : Int32) (v4 : Int32) (w : zWd) : Option (Int32 × zWd) :=
  zcl (mX11_isTap v0 v1 w) fun r1 w2 =>
  if r1 = 0 then (some ((-1 : Int32), w2))
  else (zcl (mX11_isDay v2 w2) fun r3 w4 =>
  if r3 = 0 then (mX11_look_41 w4)
  else (if v3 < 0 then (mX11_look_41 w4)
  else (if (9999 : Int32) < v3 then (mX11_look_41 w4)
  else (if v4 < 0 then (mX11_look_41 w4)
  else (if v4 ≤ (2000 : Int32) then (if (w4 ((v0 + 1) + 93) 0) < (60 : Int32) then (zcl (mX6_addLook ((v0 + 1) + 93) v1 v2 v3 v4 w4) fun r5 w6 =>
  some (r5, w6))
  else (some ((-4 : Int32), w4)))
  else (mX11_look_41 w4))))))
def mX11_isOff_43 (w : zWd) : Option (Int32 × zWd) :=
  zgd (zB (0 : Int32)) (some ((0 : Int32), w))
def mX11_isOff_117 (s0 : Int32) (w : zWd) : Option (Int32 × zWd) :=
  zgd (zB s0) (some (s0, w))
def mX11_isOff_112 (w : zWd) : Option (Int32 × zWd) :=
  mX11_isOff_117 (1 : Int32) w
def mX11_isOff (v0 : Nat) (v1 : Int32) (w : zWd) : Option (Int32 × zWd) :=
  zgd (zin v1 60) <|
  zbn (w (((v0 + 1) + 93) + 1) v1.toNatClampNeg) fun x1 =>
  zgd (zin v1 60) <|
  zbn (w (((v0 + 1) + 93) + 2) v1.toNatClampNeg) fun x2 =>
  zcl (mX11_isTap v0 x1 w) fun r3 w4 =>
  if r3 = 0 then (mX11_isOff_43 w4)
  else (zcl (mX11_wentBy v0 x1 x2 w4) fun r5 w6 =>
  if r5 = 0 then (mX11_isOff_43 w6)
  else (zcl (mX10_rules (v0 + 1) (4 : Int32) x2 w6) fun r7 w8 =>
  zgd (zin v1 60) <|
  zcl (mX11_pastFlow v0 x1 x2 (0 : Int32) w8) fun r9 w10 =>
  zbn (if 0 ≤ ((w8 (((v0 + 1) + 93) + 3) v1.toNatClampNeg) - r9) then ((w8 (((v0 + 1) + 93) + 3) v1.toNatClampNeg) - r9) else 0 - ((w8 (((v0 + 1) + 93) + 3) v1.toNatClampNeg) - r9)) fun x11 =>
  if r7 < x11 then (mX11_isOff_112 w10)
  else (zgd (zin v1 60) <|
  zcl (mX11_pastFlow v0 x1 x2 (1 : Int32) w10) fun r12 w13 =>
  zbn (if 0 ≤ ((w10 (((v0 + 1) + 93) + 4) v1.toNatClampNeg) - r12) then ((w10 (((v0 + 1) + 93) + 4) v1.toNatClampNeg) - r12) else 0 - ((w10 (((v0 + 1) + 93) + 4) v1.toNatClampNeg) - r12)) fun x14 =>
  if x14 ≤ r7 then (mX11_isOff_117 (0 : Int32) w13)
  else (mX11_isOff_112 w13))))
def mX11_off_55 (k14 : Int32 × Int32 × zWd → Option (Int32 × zWd)) (v0 : Nat) (v1 : Int32) (v2 : Int32) (v3 : Int32) (w : zWd) : Option (Int32 × zWd) :=
  k14 (v2, v3 + (1 : Int32), w)
def mX11_off_14b (v0 : Nat) (v1 : Int32) (k14 : Int32 × Int32 × zWd → Option (Int32 × zWd)) (v2 : Int32) (v3 : Int32) (w : zWd) : Option (Int32 × zWd) :=
  if (w ((v0 + 1) + 93) 0) ≤ v3 then (some (v2, w))
  else (zgd (zin v3 60) <|
  if (w (((v0 + 1) + 93) + 1) v3.toNatClampNeg) = v1 then (zcl (mX11_isOff v0 v3 w) fun r3 w4 =>
  if r3 = 0 then (mX11_off_55 k14 v0 v1 v2 v3 w4)
  else (mX11_off_55 k14 v0 v1 (v2 + (1 : Int32)) v3 w4))
  else (mX11_off_55 k14 v0 v1 v2 v3 w))
def mX11_off_14 (v0 : Nat) (v1 : Int32) (v2 : Int32) (v3 : Int32) (w : zWd) : Option (Int32 × zWd) :=
  zlp (fun k q => mX11_off_14b v0 v1 k q.1 q.2.1 q.2.2) zFU (v2, v3, w)
def mX11_off (v0 : Nat) (v1 : Int32) (w : zWd) : Option (Int32 × zWd) :=
  zcl (mX11_isTap v0 v1 w) fun r1 w2 =>
  if r1 = 0 then (some ((-1 : Int32), w2))
  else (mX11_off_14 v0 v1 (0 : Int32) (0 : Int32) w2)
def mX11_drop_21 (w : zWd) : Option (Int32 × zWd) :=
  some ((-2 : Int32), w)
def mX11_drop_55 (v0 : Nat) (v1 : Int32) (v2 : Int32) (w : zWd) : Option (Int32 × zWd) :=
  zcl (mX6_setDrop ((v0 + 1) + 93) v1 v2 w) fun r7 w8 =>
  some (r7, w8)
def mX11_drop (v0 : Nat) (v1 : Int32) (v2 : Int32) (w : zWd) : Option (Int32 × zWd) :=
  zcl (mX11_isTap v0 v1 w) fun r1 w2 =>
  if r1 = 0 then (some ((-1 : Int32), w2))
  else (if v2 < 0 then (mX11_drop_21 w2)
  else (if v2 ≤ (999 : Int32) then (zcl (mX6_hasDrop ((v0 + 1) + 93) v1 w2) fun r3 w4 =>
  if r3 = 0 then (zcl (mX6_drops ((v0 + 1) + 93) w4) fun r5 w6 =>
  if r5 < (4 : Int32) then (mX11_drop_55 v0 v1 v2 w6)
  else (some ((-4 : Int32), w6)))
  else (mX11_drop_55 v0 v1 v2 w4))
  else (mX11_drop_21 w2)))
def mX11_addDrop_99 (k21 : Int32 × zWd → Option (Unit × zWd)) (v0 : Nat) (v1 : Int32) (v2 : Int32) (s0 : Int32) (s1 : Int32) (s2 : Nat) (w : zWd) : Option (Unit × zWd) :=
  zcl (mX7_addShare s2 s1 s0 w) fun _ w8 =>
  k21 (v2 + (1 : Int32), w8)
def mX11_addDrop_21b (v0 : Nat) (v1 : Int32) (k21 : Int32 × zWd → Option (Unit × zWd)) (v2 : Int32) (w : zWd) : Option (Unit × zWd) :=
  if (w (v0 + 226) 0) ≤ v2 then (some ((), w))
  else (zgd (zin v2 8) <|
  zbn (w (v0 + 230) v2.toNatClampNeg) fun x3 =>
  zgd (zin v1 12) <|
  zgd (zin x3 12) <|
  zcl (mX11_distance (w (((v0 + 1) + 1) + 3) v1.toNatClampNeg) (w (((v0 + 1) + 1) + 3) x3.toNatClampNeg) w) fun r4 w5 =>
  zbn (r4 + (1 : Int32)) fun x6 =>
  if x3 = v1 then (mX11_addDrop_99 k21 v0 v1 v2 (0 : Int32) v2 (v0 + 226) w5)
  else (zgd (zin x3 12) <|
  zgd (¬ x6 = 0) <|
  mX11_addDrop_99 k21 v0 v1 v2 ((w5 (((v0 + 1) + 1) + 4) x3.toNatClampNeg) / x6) v2 (v0 + 226) w5))
def mX11_addDrop_21 (v0 : Nat) (v1 : Int32) (v2 : Int32) (w : zWd) : Option (Unit × zWd) :=
  zlp (fun k q => mX11_addDrop_21b v0 v1 k q.1 q.2) zFU (v2, w)
def mX11_addDrop (v0 : Nat) (v1 : Int32) (w : zWd) : Option (Unit × zWd) :=
  zgd (zin v1 12) <|
  zcl (mX7_addDue (v0 + 226) (w (((v0 + 1) + 93) + 5) v1.toNatClampNeg) w) fun _ w2 =>
  mX11_addDrop_21 v0 v1 (0 : Int32) w2
def mX11_cause_20 (w : zWd) : Option (Int32 × zWd) :=
  some ((-2 : Int32), w)
def mX11_cause_80 (k47 : Int32 × zWd → Option (Int32 × zWd)) (v0 : Nat) (v2 : Int32) (v3 : Int32) (w : zWd) : Option (Int32 × zWd) :=
  k47 (v3 + (1 : Int32), w)
def mX11_cause_47b (v0 : Nat) (v2 : Int32) (k47 : Int32 × zWd → Option (Int32 × zWd)) (v3 : Int32) (w : zWd) : Option (Int32 × zWd) :=
  if (w ((v0 + 1) + 1) 1) ≤ v3 then (zcl (mX7_answer (v0 + 226) v2 w) fun r7 w8 =>
  some (r7, w8))
  else (zcl (mX6_hasDrop ((v0 + 1) + 93) v3 w) fun r9 w10 =>
  if r9 = 0 then (mX11_cause_80 k47 v0 v2 v3 w10)
  else (zcl (mX11_addDrop v0 v3 w10) fun _ w12 =>
  mX11_cause_80 k47 v0 v2 v3 w12))
def mX11_cause_47 (v0 : Nat) (v2 : Int32) (v3 : Int32) (w : zWd) : Option (Int32 × zWd) :=
  zlp (fun k q => mX11_cause_47b v0 v2 k q.1 q.2) zFU (v3, w)
def mX11_cause (v0 : Nat) (v1 : Int32) (v2 : Int32) (w : zWd) : Option (Int32 × zWd) :=
  zcl (mX11_within v2 (2 : Int32) w) fun r1 w2 =>
  if r1 = 0 then (some ((-1 : Int32), w2))
  else (if v1 < 0 then (mX11_cause_20 w2)
  else (if v1 ≤ (99 : Int32) then (zcl (mX0_listBores ((v0 + 1) + 1) (v0 + 230) w2) fun r3 w4 =>
  zcl (mX7_begin (v0 + 226) r3 v1 w4) fun _ w6 =>
  mX11_cause_47 v0 v2 (0 : Int32) w6)
  else (mX11_cause_20 w2)))
def mX11_tire_22 (w : zWd) : Option (Int32 × zWd) :=
  some ((-2 : Int32), w)
def mX11_tire_102 (w : zWd) : Option (Int32 × zWd) :=
  some ((-5 : Int32), w)
def mX11_tire_41b (v0 : Nat) (v1 : Int32) (v2 : Int32) (k41 : Int32 × zWd → Option (Int32 × zWd)) (v3 : Int32) (w : zWd) : Option (Int32 × zWd) :=
  if (60 : Int32) ≤ v3 then (mX11_tire_102 w)
  else (if (400 : Int32) ≤ ((w (v0 + 1) 0) + v3) then (mX11_tire_102 w)
  else (zcl (mX0_passDay (v0 + 206) w) fun _ w6 =>
  zgd (zin ((v1 * (4 : Int32)) + (2 : Int32)) 48) <|
  if v2 ≤ (w6 ((v0 + 206) + 8) ((v1 * (4 : Int32)) + (2 : Int32)).toNatClampNeg) then (k41 (v3 + (1 : Int32), w6))
  else (some ((w6 (v0 + 1) 0) + v3, w6))))
def mX11_tire_41 (v0 : Nat) (v1 : Int32) (v2 : Int32) (v3 : Int32) (w : zWd) : Option (Int32 × zWd) :=
  zlp (fun k q => mX11_tire_41b v0 v1 v2 k q.1 q.2) zFU (v3, w)
def mX11_tire (v0 : Nat) (v1 : Int32) (v2 : Int32) (w : zWd) : Option (Int32 × zWd) :=
  zcl (mX11_isTap v0 v1 w) fun r1 w2 =>
  if r1 = 0 then (some ((-1 : Int32), w2))
  else (if v2 < (1 : Int32) then (mX11_tire_22 w2)
  else (if v2 ≤ (9999 : Int32) then (zcl (mX0_copyFrom (v0 + 206) ((v0 + 1) + 1) w2) fun _ w4 =>
  mX11_tire_41 v0 v1 v2 (0 : Int32) w4)
  else (mX11_tire_22 w2)))
def mX11_shake_25 (w : zWd) : Option (Int32 × zWd) :=
  some ((-2 : Int32), w)
def mX11_shake_60 (v0 : Nat) (v1 : Int32) (v2 : Int32) (w : zWd) : Option (Int32 × zWd) :=
  zcl (mX6_setChange ((v0 + 1) + 93) v1 v2 w) fun r7 w8 =>
  some (r7, w8)
def mX11_shake (v0 : Nat) (v1 : Int32) (v2 : Int32) (w : zWd) : Option (Int32 × zWd) :=
  zcl (mX11_within v1 (30 : Int32) w) fun r1 w2 =>
  if r1 = 0 then (some ((-1 : Int32), w2))
  else (if v2 < (-999 : Int32) then (mX11_shake_25 w2)
  else (if v2 ≤ (999 : Int32) then (zcl (mX6_hasChange ((v0 + 1) + 93) v1 w2) fun r3 w4 =>
  if r3 = 0 then (zcl (mX6_changes ((v0 + 1) + 93) w4) fun r5 w6 =>
  if r5 < (6 : Int32) then (mX11_shake_60 v0 v1 v2 w6)
  else (some ((-4 : Int32), w6)))
  else (mX11_shake_60 v0 v1 v2 w4))
  else (mX11_shake_25 w2)))
def mX11_push_23 (w : zWd) : Option (Int32 × zWd) :=
  some ((-2 : Int32), w)
def mX11_push (v0 : Nat) (v1 : Int32) (v2 : Int32) (w : zWd) : Option (Int32 × zWd) :=
  zcl (mX11_within v1 (30 : Int32) w) fun r1 w2 =>
  if r1 = 0 then (some ((-1 : Int32), w2))
  else (if v2 < (-99 : Int32) then (mX11_push_23 w2)
  else (if v2 ≤ (99 : Int32) then (if (w2 ((v0 + 1) + 93) 9) < (6 : Int32) then (zcl (mX6_addPush ((v0 + 1) + 93) v1 v2 w2) fun r3 w4 =>
  some (r3, w4))
  else (some ((-4 : Int32), w2)))
  else (mX11_push_23 w2)))
def mX11_addChange_91 (k21 : Int32 × zWd → Option (Unit × zWd)) (v0 : Nat) (v1 : Int32) (v2 : Int32) (s0 : Int32) (s1 : Int32) (s2 : Nat) (w : zWd) : Option (Unit × zWd) :=
  zcl (mX7_addShare s2 s1 s0 w) fun _ w7 =>
  k21 (v2 + (1 : Int32), w7)
def mX11_addChange_21b (v0 : Nat) (v1 : Int32) (k21 : Int32 × zWd → Option (Unit × zWd)) (v2 : Int32) (w : zWd) : Option (Unit × zWd) :=
  if (w (v0 + 226) 0) ≤ v2 then (some ((), w))
  else (zgd (zin v2 6) <|
  zcl (mX11_distance v1 (w (((v0 + 1) + 93) + 7) v2.toNatClampNeg) w) fun r3 w4 =>
  zgd (zin v2 6) <|
  zbn (w4 (((v0 + 1) + 93) + 8) v2.toNatClampNeg) fun x5 =>
  if (1 : Int32) < r3 then (if r3 = (2 : Int32) then (mX11_addChange_91 k21 v0 v1 v2 (x5 / (2 : Int32)) v2 (v0 + 226) w4)
  else (mX11_addChange_91 k21 v0 v1 v2 (0 : Int32) v2 (v0 + 226) w4))
  else (mX11_addChange_91 k21 v0 v1 v2 x5 v2 (v0 + 226) w4))
def mX11_addChange_21 (v0 : Nat) (v1 : Int32) (v2 : Int32) (w : zWd) : Option (Unit × zWd) :=
  zlp (fun k q => mX11_addChange_21b v0 v1 k q.1 q.2) zFU (v2, w)
def mX11_addChange (v0 : Nat) (v1 : Int32) (w : zWd) : Option (Unit × zWd) :=
  zgd (zin v1 30) <|
  zcl (mX7_addDue (v0 + 226) (w (((v0 + 1) + 93) + 6) v1.toNatClampNeg) w) fun _ w2 =>
  mX11_addChange_21 v0 v1 (0 : Int32) w2
def mX11_shift_55 (k30 : Int32 × zWd → Option (Int32 × zWd)) (v0 : Nat) (v1 : Int32) (v2 : Int32) (w : zWd) : Option (Int32 × zWd) :=
  k30 (v2 + (1 : Int32), w)
def mX11_shift_30b (v0 : Nat) (v1 : Int32) (k30 : Int32 × zWd → Option (Int32 × zWd)) (v2 : Int32) (w : zWd) : Option (Int32 × zWd) :=
  if (30 : Int32) ≤ v2 then (zcl (mX7_answer (v0 + 226) v1 w) fun r5 w6 =>
  some (r5, w6))
  else (zcl (mX6_hasChange ((v0 + 1) + 93) v2 w) fun r7 w8 =>
  if r7 = 0 then (mX11_shift_55 k30 v0 v1 v2 w8)
  else (zcl (mX11_addChange v0 v2 w8) fun _ w10 =>
  mX11_shift_55 k30 v0 v1 v2 w10))
def mX11_shift_30 (v0 : Nat) (v1 : Int32) (v2 : Int32) (w : zWd) : Option (Int32 × zWd) :=
  zlp (fun k q => mX11_shift_30b v0 v1 k q.1 q.2) zFU (v2, w)
def mX11_shift (v0 : Nat) (v1 : Int32) (w : zWd) : Option (Int32 × zWd) :=
  zcl (mX11_within v1 (2 : Int32) w) fun r1 w2 =>
  if r1 = 0 then (some ((-1 : Int32), w2))
  else (zcl (mX7_begin (v0 + 226) (w2 ((v0 + 1) + 93) 9) (0 : Int32) w2) fun _ w4 =>
  mX11_shift_30 v0 v1 (0 : Int32) w4)
def mX11_othersGive_54b (k38 : Int32 × Int32 × zWd → Option (Int32 × zWd)) (v0 : Nat) (v3 : Int32) (v5 : Int32) (k54 : Int32 × Int32 × zWd → Option (Int32 × zWd)) (v4 : Int32) (v6 : Int32) (w : zWd) : Option (Int32 × zWd) :=
  if v3 ≤ v6 then (k38 (v4, v5 + (1 : Int32), w))
  else (zgd (zin ((v6 * (4 : Int32)) + (0 : Int32)) 48) <|
  zbn (v4 + (w ((v0 + 206) + 8) ((v6 * (4 : Int32)) + (0 : Int32)).toNatClampNeg)) fun x7 =>
  k54 (x7, v6 + (1 : Int32), w))
def mX11_othersGive_54 (k38 : Int32 × Int32 × zWd → Option (Int32 × zWd)) (v0 : Nat) (v3 : Int32) (v5 : Int32) (v4 : Int32) (v6 : Int32) (w : zWd) : Option (Int32 × zWd) :=
  zlp (fun k q => mX11_othersGive_54b k38 v0 v3 v5 k q.1 q.2.1 q.2.2) zFU (v4, v6, w)
def mX11_othersGive_38b (v0 : Nat) (v3 : Int32) (k38 : Int32 × Int32 × zWd → Option (Int32 × zWd)) (v4 : Int32) (v5 : Int32) (w : zWd) : Option (Int32 × zWd) :=
  if (5 : Int32) ≤ v5 then (some (v4, w))
  else (zcl (mX0_passDay (v0 + 206) w) fun _ w6 =>
  mX11_othersGive_54 k38 v0 v3 v5 v4 (0 : Int32) w6)
def mX11_othersGive_38 (v0 : Nat) (v3 : Int32) (v4 : Int32) (v5 : Int32) (w : zWd) : Option (Int32 × zWd) :=
  zlp (fun k q => mX11_othersGive_38b v0 v3 k q.1 q.2.1 q.2.2) zFU (v4, v5, w)
def mX11_othersGive (v0 : Nat) (v1 : Int32) (v2 : Int32) (w : zWd) : Option (Int32 × zWd) :=
  zcl (mX0_copyFrom (v0 + 206) ((v0 + 1) + 1) w) fun _ w2 =>
  zcl (mX0_addTap (v0 + 206) (1 : Int32) v1 v2 (w2 (v0 + 1) 0) w2) fun r3 w4 =>
  mX11_othersGive_38 v0 r3 (0 : Int32) (0 : Int32) w4
def mX11_place_12 (w : zWd) : Option (Int32 × zWd) :=
  some ((-2 : Int32), w)
def mX11_place_45 (w : zWd) : Option (Int32 × zWd) :=
  some ((-3 : Int32), w)
def mX11_place_116 (k56 : Int32 × Int32 × Int32 × zWd → Option (Int32 × zWd)) (v0 : Nat) (v1 : Int32) (v2 : Int32) (v3 : Int32) (v4 : Int32) (w : zWd) : Option (Int32 × zWd) :=
  k56 (v2, v3, v4 + (1 : Int32), w)
def mX11_place_56b (v0 : Nat) (v1 : Int32) (k56 : Int32 × Int32 × Int32 × zWd → Option (Int32 × zWd)) (v2 : Int32) (v3 : Int32) (v4 : Int32) (w : zWd) : Option (Int32 × zWd) :=
  if (30 : Int32) ≤ v4 then (some (v2, w))
  else (zcl (mX0_hasTapAt ((v0 + 1) + 1) v4 w) fun r1 w2 =>
  if r1 = 0 then (zcl (mX10_mayBe (v0 + 1) (1 : Int32) v4 (1 : Int32) w2) fun r3 w4 =>
  if r3 = 0 then (mX11_place_116 k56 v0 v1 v2 v3 v4 w4)
  else (zcl (mX11_othersGive v0 v4 v1 w4) fun r5 w6 =>
  if r5 ≤ v3 then (mX11_place_116 k56 v0 v1 v2 v3 v4 w6)
  else (mX11_place_116 k56 v0 v1 v4 r5 v4 w6)))
  else (mX11_place_116 k56 v0 v1 v2 v3 v4 w2))
def mX11_place_56 (v0 : Nat) (v1 : Int32) (v2 : Int32) (v3 : Int32) (v4 : Int32) (w : zWd) : Option (Int32 × zWd) :=
  zlp (fun k q => mX11_place_56b v0 v1 k q.1 q.2.1 q.2.2.1 q.2.2.2) zFU (v2, v3, v4, w)
def mX11_place (v0 : Nat) (v1 : Int32) (w : zWd) : Option (Int32 × zWd) :=
  if v1 < (1 : Int32) then (mX11_place_12 w)
  else (if v1 ≤ (500 : Int32) then (if (12 : Int32) ≤ (w ((v0 + 1) + 1) 1) then (mX11_place_45 w)
  else (if ((w (v0 + 1) 0) + (5 : Int32)) ≤ (400 : Int32) then (mX11_place_56 v0 v1 (-5 : Int32) (-1 : Int32) (0 : Int32) w)
  else (mX11_place_45 w)))
  else (mX11_place_12 w))
def mX11_tried_27 (w : zWd) : Option (Int32 × zWd) :=
  some ((-1 : Int32), w)
def mX11_tried_146 (s0 : Int32) (w : zWd) : Option (Int32 × zWd) :=
  some (s0, w)
def mX11_tried_29 (v0 : Nat) (v1 : Int32) (v2 : Int32) (w : zWd) : Option (Int32 × zWd) :=
  zcl (mX3_spare ((v0 + 1) + 13) w) fun r5 w6 =>
  zgd (zShp r5 = (2, 8)) <|
  zcl (mX4_read (v0 + 216) ((v0 + 1) + 11) r5 (w6 (v0 + 1) 0) w6) fun r8 w9 =>
  if r8 < 0 then (zcl (mX3_accept ((v0 + 1) + 13) w9) fun r10 w11 =>
  zcl (mX5_form (v0 + 217) ((v0 + 1) + 13) ((v0 + 1) + 81) (w11 (v0 + 1) 0) w11) fun _ w13 =>
  zcl (mX3_forgetLast ((v0 + 1) + 13) w13) fun _ w15 =>
  if v1 = 0 then (if (w15 (v0 + 217) 0) ≤ 0 then (mX11_tried_146 (-1 : Int32) w15)
  else (zgd (zin (0 : Int32) 8) <|
  mX11_tried_146 (w15 ((v0 + 217) + 2) (0 : Int32).toNatClampNeg) w15))
  else (zcl (mX11_servedOf v0 v2 w15) fun r16 w17 =>
  zcl (mJ6_bitCount_0f7a4 r16 w17) fun r18 w19 =>
  some (r18, w19)))
  else (some ((-10 : Int32) - r8, w9))
def mX11_tried (v0 : Nat) (v1 : Int32) (v2 : Int32) (w : zWd) : Option (Int32 × zWd) :=
  zcl (mX11_within v1 (2 : Int32) w) fun r1 w2 =>
  if r1 = 0 then (mX11_tried_27 w2)
  else (if v1 = (1 : Int32) then (zcl (mX11_within v2 (w2 (v0 + 1) 0) w2) fun r3 w4 =>
  if r3 = 0 then (mX11_tried_27 w4)
  else (mX11_tried_29 v0 v1 v2 w4))
  else (mX11_tried_29 v0 v1 v2 w2))
def mX11_image (v0 : Nat) (w : zWd) : Option (Int32 × zWd) :=
  zcl (mX10_copyFrom (v0 + 103) (v0 + 1) w) fun _ w2 =>
  zgd (zB (1 : Int32)) <|
  zbn (zup w2 v0 2 (1 : Int32)) fun w3 =>
  some (w3 (v0 + 1) 0, w3)
def mX11_undo (v0 : Nat) (w : zWd) : Option (Int32 × zWd) :=
  if (w v0 2) = 0 then (some ((-3 : Int32), w))
  else (zcl (mX10_copyFrom (v0 + 1) (v0 + 103) w) fun _ w2 =>
  some (w2 (v0 + 1) 0, w2))
def mX11_count (v0 : Nat) (v1 : Int32) (w : zWd) : Option (Int32 × zWd) :=
  if v1 = (0 : Int32) then (some (w ((v0 + 1) + 1) 1, w))
  else if v1 = (1 : Int32) then (some (w ((v0 + 1) + 13) 0, w))
  else if v1 = (2 : Int32) then (some (w ((v0 + 1) + 81) 0, w))
  else if v1 = (3 : Int32) then (some (w ((v0 + 1) + 81) 8, w))
  else if v1 = (4 : Int32) then (some (w ((v0 + 1) + 93) 0, w))
  else if v1 = (5 : Int32) then (some (w (v0 + 1) 0, w))
  else if v1 = (6 : Int32) then (some (w ((v0 + 1) + 11) 0, w))
  else if v1 = (7 : Int32) then (some (w ((v0 + 1) + 93) 9, w))
  else if v1 = (8 : Int32) then (zcl (mX0_allWater ((v0 + 1) + 1) w) fun r1 w2 =>
  some (r1, w2))
  else (some ((-1 : Int32), w))
def mX12_in_15 (s0 : Int32) (w : zWd) : Option (Int32 × zWd) :=
  zgd (zB s0) (some (s0, w))
def mX12_in_14 (w : zWd) : Option (Int32 × zWd) :=
  mX12_in_15 (0 : Int32) w
def mX12_in (v0 : Int32) (v1 : Int32) (v2 : Int32) (w : zWd) : Option (Int32 × zWd) :=
  if v0 < v1 then (mX12_in_14 w)
  else (if v2 < v0 then (mX12_in_14 w)
  else (mX12_in_15 (1 : Int32) w))
def mX12_isCell (v0 : Int32) (w : zWd) : Option (Int32 × zWd) :=
  zcl (mX12_in v0 (0 : Int32) (29 : Int32) w) fun r1 w2 =>
  zgd (zB r1) (some (r1, w2))
def mX12_isTap (v0 : Nat) (v1 : Int32) (w : zWd) : Option (Int32 × zWd) :=
  zgd (zin (1 : Int32) 21948) <|
  zcl (mX12_in v1 (0 : Int32) ((w (v0 + 1) (1 : Int32).toNatClampNeg) - (1 : Int32)) w) fun r1 w2 =>
  zgd (zB r1) (some (r1, w2))
def mX12_isTaker (v0 : Nat) (v1 : Int32) (w : zWd) : Option (Int32 × zWd) :=
  zgd (zin (3 : Int32) 21948) <|
  zcl (mX12_in v1 (0 : Int32) ((w (v0 + 1) (3 : Int32).toNatClampNeg) - (1 : Int32)) w) fun r1 w2 =>
  zgd (zB r1) (some (r1, w2))
def mX12_isDay (v0 : Int32) (w : zWd) : Option (Int32 × zWd) :=
  zcl (mX12_in v0 (0 : Int32) (400 : Int32) w) fun r1 w2 =>
  zgd (zB r1) (some (r1, w2))
def mX12_isGone (v0 : Nat) (v1 : Int32) (w : zWd) : Option (Int32 × zWd) :=
  zgd (zin (0 : Int32) 21948) <|
  zcl (mX12_in v1 (0 : Int32) ((w (v0 + 1) (0 : Int32).toNatClampNeg) - (1 : Int32)) w) fun r1 w2 =>
  zgd (zB r1) (some (r1, w2))
def mX12_size_10 (s0 : Int32) (w : zWd) : Option (Int32 × zWd) :=
  some (s0, w)
def mX12_size (v0 : Int32) (w : zWd) : Option (Int32 × zWd) :=
  if 0 ≤ v0 then (mX12_size_10 v0 w)
  else (mX12_size_10 (-v0) w)
def mX12_apart (v0 : Int32) (v1 : Int32) (w : zWd) : Option (Int32 × zWd) :=
  zcl (mX12_size ((v0 - v0 / (6 : Int32) * (6 : Int32)) - (v1 - v1 / (6 : Int32) * (6 : Int32))) w) fun r1 w2 =>
  zcl (mX12_size ((v0 / (6 : Int32)) - (v1 / (6 : Int32))) w2) fun r3 w4 =>
  some (r1 + r3, w4)
def mX12_under_16 (w : zWd) : Option (Int32 × zWd) :=
  some ((-1 : Int32), w)
def mX12_under_54 (v0 : Nat) (v1 : Int32) (v2 : Int32) (v3 : Int32) (s0 : Int32) (s1 : Int32) (s2 : Int32) (w : zWd) : Option (Int32 × zWd) :=
  zcl (mX12_in s2 s1 s0 w) fun r5 w6 =>
  if r5 = 0 then (some ((-2 : Int32), w6))
  else (zgd (zin (((20 : Int32) + ((30 : Int32) * v2)) + v1) 21948) <|
  zbn (w6 (v0 + 1) (((20 : Int32) + ((30 : Int32) * v2)) + v1).toNatClampNeg) fun x7 =>
  zgd (zin (((20 : Int32) + ((30 : Int32) * v2)) + v1) 21948) <|
  zbn (zup w6 (v0 + 1) (((20 : Int32) + ((30 : Int32) * v2)) + v1).toNatClampNeg v3) fun w8 =>
  some (x7, w8))
def mX12_under (v0 : Nat) (v1 : Int32) (v2 : Int32) (v3 : Int32) (w : zWd) : Option (Int32 × zWd) :=
  zcl (mX12_isCell v1 w) fun r1 w2 =>
  if r1 = 0 then (mX12_under_16 w2)
  else (zcl (mX12_in v2 (0 : Int32) (3 : Int32) w2) fun r3 w4 =>
  if r3 = 0 then (mX12_under_16 w4)
  else (if v2 = 0 then (mX12_under_54 v0 v1 v2 v3 (1500 : Int32) (0 : Int32) v3 w4)
  else (if v2 = (1 : Int32) then (mX12_under_54 v0 v1 v2 v3 (9999 : Int32) (0 : Int32) v3 w4)
  else (if v2 = (2 : Int32) then (mX12_under_54 v0 v1 v2 v3 (99 : Int32) (0 : Int32) v3 w4)
  else (mX12_under_54 v0 v1 v2 v3 (999 : Int32) (0 : Int32) v3 w4)))))
def mX12_cell_34 (s0 : Int32) (w : zWd) : Option (Int32 × zWd) :=
  some (s0, w)
def mX12_cell_33 (w : zWd) : Option (Int32 × zWd) :=
  mX12_cell_34 (-1 : Int32) w
def mX12_cell (v0 : Nat) (v1 : Int32) (v2 : Int32) (w : zWd) : Option (Int32 × zWd) :=
  zcl (mX12_isCell v1 w) fun r1 w2 =>
  if r1 = 0 then (mX12_cell_33 w2)
  else (zcl (mX12_in v2 (0 : Int32) (3 : Int32) w2) fun r3 w4 =>
  if r3 = 0 then (mX12_cell_33 w4)
  else (zgd (zin (((20 : Int32) + ((30 : Int32) * v2)) + v1) 21948) <|
  mX12_cell_34 (w4 (v0 + 1) (((20 : Int32) + ((30 : Int32) * v2)) + v1).toNatClampNeg) w4))
def mX12_here_45 (s0 : Int32) (w : zWd) : Option (Int32 × zWd) :=
  some (s0, w)
def mX12_here (v0 : Nat) (w : zWd) : Option (Int32 × zWd) :=
  zgd (zin ((252 : Int32) + (w v0 10)) 21948) <|
  if (w (v0 + 1) ((252 : Int32) + (w v0 10)).toNatClampNeg) ≤ (w v0 11) then (mX12_here_45 (-1 : Int32) w)
  else (zgd (zin (((264 : Int32) + ((120 : Int32) * (w v0 10))) + (w v0 11)) 21948) <|
  mX12_here_45 (w (v0 + 1) (((264 : Int32) + ((120 : Int32) * (w v0 10))) + (w v0 11)).toNatClampNeg) w)
def mX12_must_41 (s0 : Int32) (s1 : Int32) (s2 : Nat) (w : zWd) : Option (Unit × zWd) :=
  zbn (zup w s2 11 (s1 + s0)) fun w4 =>
  some ((), w4)
def mX12_must_21 (v0 : Nat) (s0 : Int32) (s1 : Nat) (w : zWd) : Option (Unit × zWd) :=
  zgd (zB s0) <|
  zbn (zup w s1 12 s0) fun w3 =>
  if (w3 v0 12) = 0 then (mX12_must_41 (1 : Int32) (w3 v0 11) v0 w3)
  else (mX12_must_41 (0 : Int32) (w3 v0 11) v0 w3)
def mX12_must_16 (v0 : Nat) (s0 : Nat) (w : zWd) : Option (Unit × zWd) :=
  mX12_must_21 v0 (1 : Int32) s0 w
def mX12_must (v0 : Nat) (v1 : Int32) (w : zWd) : Option (Unit × zWd) :=
  if (w v0 12) = 0 then (zcl (mX12_here v0 w) fun r1 w2 =>
  if r1 = v1 then (mX12_must_21 v0 (0 : Int32) v0 w2)
  else (mX12_must_16 v0 v0 w2))
  else (mX12_must_16 v0 v0 w)
def mX12_number_97 (v1 : Int32) (w : zWd) : Option (Int32 × zWd) :=
  some (v1, w)
def mX12_number_68 (k34 : Int32 × Int32 × zWd → Option (Int32 × zWd)) (v0 : Nat) (v1 : Int32) (v2 : Int32) (w : zWd) : Option (Int32 × zWd) :=
  zcl (mX12_here v0 w) fun r10 w11 =>
  zbn ((((10 : Int32) * v1) + r10) - (48 : Int32)) fun x12 =>
  zbn (zup w11 v0 11 ((w11 v0 11) + (1 : Int32))) fun w13 =>
  k34 (x12, v2 + (1 : Int32), w13)
def mX12_number_34b (v0 : Nat) (k34 : Int32 × Int32 × zWd → Option (Int32 × zWd)) (v1 : Int32) (v2 : Int32) (w : zWd) : Option (Int32 × zWd) :=
  if (3 : Int32) ≤ v2 then (mX12_number_97 v1 w)
  else (if (w v0 12) = 0 then (zcl (mX12_here v0 w) fun r6 w7 =>
  zcl (mX12_in r6 (48 : Int32) (57 : Int32) w7) fun r8 w9 =>
  if r8 = 0 then (mX12_number_97 v1 w9)
  else (if v2 = 0 then (mX12_number_68 k34 v0 v1 v2 w9)
  else (if v1 ≤ 0 then (mX12_number_97 v1 w9)
  else (mX12_number_68 k34 v0 v1 v2 w9))))
  else (mX12_number_97 v1 w))
def mX12_number_34 (v0 : Nat) (v1 : Int32) (v2 : Int32) (w : zWd) : Option (Int32 × zWd) :=
  zlp (fun k q => mX12_number_34b v0 k q.1 q.2.1 q.2.2) zFU (v1, v2, w)
def mX12_number_27 (v0 : Nat) (s0 : Int32) (s1 : Nat) (w : zWd) : Option (Int32 × zWd) :=
  zgd (zB s0) <|
  zbn (zup w s1 12 s0) fun w5 =>
  mX12_number_34 v0 (0 : Int32) (0 : Int32) w5
def mX12_number_22 (v0 : Nat) (s0 : Nat) (w : zWd) : Option (Int32 × zWd) :=
  mX12_number_27 v0 (1 : Int32) s0 w
def mX12_number (v0 : Nat) (w : zWd) : Option (Int32 × zWd) :=
  if (w v0 12) = 0 then (zcl (mX12_here v0 w) fun r1 w2 =>
  zcl (mX12_in r1 (48 : Int32) (57 : Int32) w2) fun r3 w4 =>
  if r3 = 0 then (mX12_number_22 v0 v0 w4)
  else (mX12_number_27 v0 (0 : Int32) v0 w4))
  else (mX12_number_22 v0 v0 w)
def mX12_told_61 (v0 : Nat) (s0 : Int32) (w : zWd) : Option (Int32 × zWd) :=
  zgd (zin (s0 + (w v0 14)) 21948) <|
  some (w (v0 + 1) (s0 + (w v0 14)).toNatClampNeg, w)
def mX12_told (v0 : Nat) (v1 : Int32) (w : zWd) : Option (Int32 × zWd) :=
  if (w v0 14) = (-1 : Int32) then (some ((0 : Int32), w))
  else (if v1 = (107 : Int32) then (mX12_told_61 v0 (2000 : Int32) w)
  else (if v1 = (116 : Int32) then (mX12_told_61 v0 (2008 : Int32) w)
  else (if v1 = (110 : Int32) then (mX12_told_61 v0 (2016 : Int32) w)
  else (if v1 = (115 : Int32) then (mX12_told_61 v0 (2032 : Int32) w)
  else (mX12_told_61 v0 (2024 : Int32) w)))))
def mX12_some_49 (c_X12_some : Nat → zWd → Option (Int32 × zWd)) (c_X12_every : Nat → zWd → Option (Int32 × zWd)) (c_X12_factor : Nat → zWd → Option (Int32 × zWd)) (k5 : Int32 × zWd → Option (Int32 × zWd)) (v0 : Nat) (s0 : Int32) (w : zWd) : Option (Int32 × zWd) :=
  k5 (s0, w)
def mX12_some_44 (c_X12_some : Nat → zWd → Option (Int32 × zWd)) (c_X12_every : Nat → zWd → Option (Int32 × zWd)) (c_X12_factor : Nat → zWd → Option (Int32 × zWd)) (k5 : Int32 × zWd → Option (Int32 × zWd)) (v0 : Nat) (w : zWd) : Option (Int32 × zWd) :=
  mX12_some_49 c_X12_some c_X12_every c_X12_factor k5 v0 (1 : Int32) w
def mX12_some_53 (c_X12_some : Nat → zWd → Option (Int32 × zWd)) (c_X12_every : Nat → zWd → Option (Int32 × zWd)) (c_X12_factor : Nat → zWd → Option (Int32 × zWd)) (v1 : Int32) (w : zWd) : Option (Int32 × zWd) :=
  zgd (zB v1) (some (v1, w))
def mX12_some_5b (c_X12_some : Nat → zWd → Option (Int32 × zWd)) (c_X12_every : Nat → zWd → Option (Int32 × zWd)) (c_X12_factor : Nat → zWd → Option (Int32 × zWd)) (v0 : Nat) (k5 : Int32 × zWd → Option (Int32 × zWd)) (v1 : Int32) (w : zWd) : Option (Int32 × zWd) :=
  if (w v0 12) = 0 then (zcl (mX12_here v0 w) fun r3 w4 =>
  if r3 = (124 : Int32) then (zbn (zup w4 v0 11 ((w4 v0 11) + (1 : Int32))) fun w5 =>
  zcl (c_X12_every v0 w5) fun r6 w7 =>
  if v1 = 0 then (if r6 = 0 then (mX12_some_49 c_X12_some c_X12_every c_X12_factor k5 v0 (0 : Int32) w7)
  else (mX12_some_44 c_X12_some c_X12_every c_X12_factor k5 v0 w7))
  else (mX12_some_44 c_X12_some c_X12_every c_X12_factor k5 v0 w7))
  else (mX12_some_53 c_X12_some c_X12_every c_X12_factor v1 w4))
  else (mX12_some_53 c_X12_some c_X12_every c_X12_factor v1 w)
def mX12_some_5 (c_X12_some : Nat → zWd → Option (Int32 × zWd)) (c_X12_every : Nat → zWd → Option (Int32 × zWd)) (c_X12_factor : Nat → zWd → Option (Int32 × zWd)) (v0 : Nat) (v1 : Int32) (w : zWd) : Option (Int32 × zWd) :=
  zlp (fun k q => mX12_some_5b c_X12_some c_X12_every c_X12_factor v0 k q.1 q.2) zFU (v1, w)
def mX12_someb (c_X12_some : Nat → zWd → Option (Int32 × zWd)) (c_X12_every : Nat → zWd → Option (Int32 × zWd)) (c_X12_factor : Nat → zWd → Option (Int32 × zWd)) (v0 : Nat) (w : zWd) : Option (Int32 × zWd) :=
  zcl (c_X12_every v0 w) fun r1 w2 =>
  mX12_some_5 c_X12_some c_X12_every c_X12_factor v0 r1 w2
def mX12_every_49 (c_X12_some : Nat → zWd → Option (Int32 × zWd)) (c_X12_every : Nat → zWd → Option (Int32 × zWd)) (c_X12_factor : Nat → zWd → Option (Int32 × zWd)) (k5 : Int32 × zWd → Option (Int32 × zWd)) (v0 : Nat) (s0 : Int32) (w : zWd) : Option (Int32 × zWd) :=
  k5 (s0, w)
def mX12_every_48 (c_X12_some : Nat → zWd → Option (Int32 × zWd)) (c_X12_every : Nat → zWd → Option (Int32 × zWd)) (c_X12_factor : Nat → zWd → Option (Int32 × zWd)) (k5 : Int32 × zWd → Option (Int32 × zWd)) (v0 : Nat) (w : zWd) : Option (Int32 × zWd) :=
  mX12_every_49 c_X12_some c_X12_every c_X12_factor k5 v0 (0 : Int32) w
def mX12_every_53 (c_X12_some : Nat → zWd → Option (Int32 × zWd)) (c_X12_every : Nat → zWd → Option (Int32 × zWd)) (c_X12_factor : Nat → zWd → Option (Int32 × zWd)) (v1 : Int32) (w : zWd) : Option (Int32 × zWd) :=
  zgd (zB v1) (some (v1, w))
def mX12_every_5b (c_X12_some : Nat → zWd → Option (Int32 × zWd)) (c_X12_every : Nat → zWd → Option (Int32 × zWd)) (c_X12_factor : Nat → zWd → Option (Int32 × zWd)) (v0 : Nat) (k5 : Int32 × zWd → Option (Int32 × zWd)) (v1 : Int32) (w : zWd) : Option (Int32 × zWd) :=
  if (w v0 12) = 0 then (zcl (mX12_here v0 w) fun r3 w4 =>
  if r3 = (38 : Int32) then (zbn (zup w4 v0 11 ((w4 v0 11) + (1 : Int32))) fun w5 =>
  zcl (c_X12_factor v0 w5) fun r6 w7 =>
  if v1 = 0 then (mX12_every_48 c_X12_some c_X12_every c_X12_factor k5 v0 w7)
  else (if r6 = 0 then (mX12_every_48 c_X12_some c_X12_every c_X12_factor k5 v0 w7)
  else (mX12_every_49 c_X12_some c_X12_every c_X12_factor k5 v0 (1 : Int32) w7)))
  else (mX12_every_53 c_X12_some c_X12_every c_X12_factor v1 w4))
  else (mX12_every_53 c_X12_some c_X12_every c_X12_factor v1 w)
def mX12_every_5 (c_X12_some : Nat → zWd → Option (Int32 × zWd)) (c_X12_every : Nat → zWd → Option (Int32 × zWd)) (c_X12_factor : Nat → zWd → Option (Int32 × zWd)) (v0 : Nat) (v1 : Int32) (w : zWd) : Option (Int32 × zWd) :=
  zlp (fun k q => mX12_every_5b c_X12_some c_X12_every c_X12_factor v0 k q.1 q.2) zFU (v1, w)
def mX12_everyb (c_X12_some : Nat → zWd → Option (Int32 × zWd)) (c_X12_every : Nat → zWd → Option (Int32 × zWd)) (c_X12_factor : Nat → zWd → Option (Int32 × zWd)) (v0 : Nat) (w : zWd) : Option (Int32 × zWd) :=
  zcl (c_X12_factor v0 w) fun r1 w2 =>
  mX12_every_5 c_X12_some c_X12_every c_X12_factor v0 r1 w2
def mX12_factor_123 (c_X12_some : Nat → zWd → Option (Int32 × zWd)) (c_X12_every : Nat → zWd → Option (Int32 × zWd)) (c_X12_factor : Nat → zWd → Option (Int32 × zWd)) (v0 : Nat) (v2 : Int32) (w : zWd) : Option (Int32 × zWd) :=
  zbn (zup w v0 13 ((w v0 13) - (1 : Int32))) fun w10 =>
  zgd (zB v2) (some (v2, w10))
def mX12_factor_110 (c_X12_some : Nat → zWd → Option (Int32 × zWd)) (c_X12_every : Nat → zWd → Option (Int32 × zWd)) (c_X12_factor : Nat → zWd → Option (Int32 × zWd)) (v0 : Nat) (v1 : Int32) (s0 : Int32) (w : zWd) : Option (Int32 × zWd) :=
  if v1 = (40 : Int32) then (zcl (mX12_must v0 (41 : Int32) w) fun _ w9 =>
  mX12_factor_123 c_X12_some c_X12_every c_X12_factor v0 s0 w9)
  else (mX12_factor_123 c_X12_some c_X12_every c_X12_factor v0 s0 w)
def mX12_factor_70 (c_X12_some : Nat → zWd → Option (Int32 × zWd)) (c_X12_every : Nat → zWd → Option (Int32 × zWd)) (c_X12_factor : Nat → zWd → Option (Int32 × zWd)) (v0 : Nat) (v1 : Int32) (s0 : Int32) (s1 : Int32) (s2 : Nat) (w : zWd) : Option (Int32 × zWd) :=
  zbn (zup w s2 11 (s1 + s0)) fun w5 =>
  if (w5 v0 12) = 0 then (if v1 = (33 : Int32) then (zcl (c_X12_factor v0 w5) fun r6 w7 =>
  if r6 = 0 then (mX12_factor_110 c_X12_some c_X12_every c_X12_factor v0 v1 (1 : Int32) w7)
  else (mX12_factor_110 c_X12_some c_X12_every c_X12_factor v0 v1 (0 : Int32) w7))
  else (zcl (c_X12_some v0 w5) fun r11 w12 =>
  mX12_factor_110 c_X12_some c_X12_every c_X12_factor v0 v1 r11 w12))
  else (mX12_factor_110 c_X12_some c_X12_every c_X12_factor v0 v1 (0 : Int32) w5)
def mX12_factor_40 (c_X12_some : Nat → zWd → Option (Int32 × zWd)) (c_X12_every : Nat → zWd → Option (Int32 × zWd)) (c_X12_factor : Nat → zWd → Option (Int32 × zWd)) (v0 : Nat) (v1 : Int32) (s0 : Int32) (s1 : Nat) (w : zWd) : Option (Int32 × zWd) :=
  zgd (zB s0) <|
  zbn (zup w s1 12 s0) fun w3 =>
  zbn (zup w3 v0 13 ((w3 v0 13) + (1 : Int32))) fun w4 =>
  if (w4 v0 12) = 0 then (mX12_factor_70 c_X12_some c_X12_every c_X12_factor v0 v1 (1 : Int32) (w4 v0 11) v0 w4)
  else (mX12_factor_70 c_X12_some c_X12_every c_X12_factor v0 v1 (0 : Int32) (w4 v0 11) v0 w4)
def mX12_factor_26 (c_X12_some : Nat → zWd → Option (Int32 × zWd)) (c_X12_every : Nat → zWd → Option (Int32 × zWd)) (c_X12_factor : Nat → zWd → Option (Int32 × zWd)) (v0 : Nat) (v1 : Int32) (w : zWd) : Option (Int32 × zWd) :=
  if (w v0 13) = (5 : Int32) then (mX12_factor_40 c_X12_some c_X12_every c_X12_factor v0 v1 (1 : Int32) v0 w)
  else (mX12_factor_40 c_X12_some c_X12_every c_X12_factor v0 v1 (0 : Int32) v0 w)
def mX12_factor_350 (c_X12_some : Nat → zWd → Option (Int32 × zWd)) (c_X12_every : Nat → zWd → Option (Int32 × zWd)) (c_X12_factor : Nat → zWd → Option (Int32 × zWd)) (s0 : Int32) (w : zWd) : Option (Int32 × zWd) :=
  zgd (zB s0) (some (s0, w))
def mX12_factor_294 (c_X12_some : Nat → zWd → Option (Int32 × zWd)) (c_X12_every : Nat → zWd → Option (Int32 × zWd)) (c_X12_factor : Nat → zWd → Option (Int32 × zWd)) (v3 : Int32) (v4 : Int32) (s0 : Int32) (w : zWd) : Option (Int32 × zWd) :=
  if v3 = (61 : Int32) then (if s0 = v4 then (mX12_factor_350 c_X12_some c_X12_every c_X12_factor (1 : Int32) w)
  else (mX12_factor_350 c_X12_some c_X12_every c_X12_factor (0 : Int32) w))
  else (if v3 = (60 : Int32) then (if v4 ≤ s0 then (mX12_factor_350 c_X12_some c_X12_every c_X12_factor (0 : Int32) w)
  else (mX12_factor_350 c_X12_some c_X12_every c_X12_factor (1 : Int32) w))
  else (if s0 ≤ v4 then (mX12_factor_350 c_X12_some c_X12_every c_X12_factor (0 : Int32) w)
  else (mX12_factor_350 c_X12_some c_X12_every c_X12_factor (1 : Int32) w)))
def mX12_factor_268 (c_X12_some : Nat → zWd → Option (Int32 × zWd)) (c_X12_every : Nat → zWd → Option (Int32 × zWd)) (c_X12_factor : Nat → zWd → Option (Int32 × zWd)) (v0 : Nat) (v1 : Int32) (v3 : Int32) (s0 : Int32) (s1 : Int32) (s2 : Nat) (w : zWd) : Option (Int32 × zWd) :=
  zbn (zup w s2 11 (s1 + s0)) fun w18 =>
  zcl (mX12_number v0 w18) fun r19 w20 =>
  if (w20 v0 12) = 0 then (zcl (mX12_told v0 v1 w20) fun r21 w22 =>
  mX12_factor_294 c_X12_some c_X12_every c_X12_factor v3 r19 r21 w22)
  else (mX12_factor_294 c_X12_some c_X12_every c_X12_factor v3 r19 (0 : Int32) w20)
def mX12_factor_248 (c_X12_some : Nat → zWd → Option (Int32 × zWd)) (c_X12_every : Nat → zWd → Option (Int32 × zWd)) (c_X12_factor : Nat → zWd → Option (Int32 × zWd)) (v0 : Nat) (v1 : Int32) (v3 : Int32) (s0 : Int32) (s1 : Nat) (w : zWd) : Option (Int32 × zWd) :=
  zgd (zB s0) <|
  zbn (zup w s1 12 s0) fun w17 =>
  if (w17 v0 12) = 0 then (mX12_factor_268 c_X12_some c_X12_every c_X12_factor v0 v1 v3 (1 : Int32) (w17 v0 11) v0 w17)
  else (mX12_factor_268 c_X12_some c_X12_every c_X12_factor v0 v1 v3 (0 : Int32) (w17 v0 11) v0 w17)
def mX12_factor_247 (c_X12_some : Nat → zWd → Option (Int32 × zWd)) (c_X12_every : Nat → zWd → Option (Int32 × zWd)) (c_X12_factor : Nat → zWd → Option (Int32 × zWd)) (v0 : Nat) (v1 : Int32) (v3 : Int32) (s0 : Nat) (w : zWd) : Option (Int32 × zWd) :=
  mX12_factor_248 c_X12_some c_X12_every c_X12_factor v0 v1 v3 (0 : Int32) s0 w
def mX12_factor_243 (c_X12_some : Nat → zWd → Option (Int32 × zWd)) (c_X12_every : Nat → zWd → Option (Int32 × zWd)) (c_X12_factor : Nat → zWd → Option (Int32 × zWd)) (v0 : Nat) (v1 : Int32) (v3 : Int32) (s0 : Nat) (w : zWd) : Option (Int32 × zWd) :=
  mX12_factor_248 c_X12_some c_X12_every c_X12_factor v0 v1 v3 (1 : Int32) s0 w
def mX12_factor_201 (c_X12_some : Nat → zWd → Option (Int32 × zWd)) (c_X12_every : Nat → zWd → Option (Int32 × zWd)) (c_X12_factor : Nat → zWd → Option (Int32 × zWd)) (v0 : Nat) (v1 : Int32) (v2 : Int32) (s0 : Int32) (s1 : Int32) (s2 : Nat) (w : zWd) : Option (Int32 × zWd) :=
  zbn (zup w s2 11 (s1 + s0)) fun w14 =>
  zcl (mX12_here v0 w14) fun r15 w16 =>
  if (w16 v0 12) = 0 then (if v2 = 0 then (if r15 = (60 : Int32) then (mX12_factor_247 c_X12_some c_X12_every c_X12_factor v0 v1 r15 v0 w16)
  else (if r15 = (62 : Int32) then (mX12_factor_247 c_X12_some c_X12_every c_X12_factor v0 v1 r15 v0 w16)
  else (mX12_factor_243 c_X12_some c_X12_every c_X12_factor v0 v1 r15 v0 w16)))
  else (if r15 = (61 : Int32) then (mX12_factor_247 c_X12_some c_X12_every c_X12_factor v0 v1 r15 v0 w16)
  else (mX12_factor_243 c_X12_some c_X12_every c_X12_factor v0 v1 r15 v0 w16)))
  else (mX12_factor_243 c_X12_some c_X12_every c_X12_factor v0 v1 r15 v0 w16)
def mX12_factor_181 (c_X12_some : Nat → zWd → Option (Int32 × zWd)) (c_X12_every : Nat → zWd → Option (Int32 × zWd)) (c_X12_factor : Nat → zWd → Option (Int32 × zWd)) (v0 : Nat) (v1 : Int32) (v2 : Int32) (s0 : Int32) (s1 : Nat) (w : zWd) : Option (Int32 × zWd) :=
  zgd (zB s0) <|
  zbn (zup w s1 12 s0) fun w13 =>
  if (w13 v0 12) = 0 then (mX12_factor_201 c_X12_some c_X12_every c_X12_factor v0 v1 v2 (1 : Int32) (w13 v0 11) v0 w13)
  else (mX12_factor_201 c_X12_some c_X12_every c_X12_factor v0 v1 v2 (0 : Int32) (w13 v0 11) v0 w13)
def mX12_factor_180 (c_X12_some : Nat → zWd → Option (Int32 × zWd)) (c_X12_every : Nat → zWd → Option (Int32 × zWd)) (c_X12_factor : Nat → zWd → Option (Int32 × zWd)) (v0 : Nat) (v1 : Int32) (v2 : Int32) (s0 : Nat) (w : zWd) : Option (Int32 × zWd) :=
  mX12_factor_181 c_X12_some c_X12_every c_X12_factor v0 v1 v2 (0 : Int32) s0 w
def mX12_factor_152 (c_X12_some : Nat → zWd → Option (Int32 × zWd)) (c_X12_every : Nat → zWd → Option (Int32 × zWd)) (c_X12_factor : Nat → zWd → Option (Int32 × zWd)) (v0 : Nat) (v1 : Int32) (s0 : Int32) (w : zWd) : Option (Int32 × zWd) :=
  if s0 = 0 then (if v1 = (110 : Int32) then (mX12_factor_180 c_X12_some c_X12_every c_X12_factor v0 v1 s0 v0 w)
  else (if v1 = (115 : Int32) then (mX12_factor_180 c_X12_some c_X12_every c_X12_factor v0 v1 s0 v0 w)
  else (if v1 = (104 : Int32) then (mX12_factor_180 c_X12_some c_X12_every c_X12_factor v0 v1 s0 v0 w)
  else (mX12_factor_181 c_X12_some c_X12_every c_X12_factor v0 v1 s0 (1 : Int32) v0 w))))
  else (mX12_factor_180 c_X12_some c_X12_every c_X12_factor v0 v1 s0 v0 w)
def mX12_factor_147 (c_X12_some : Nat → zWd → Option (Int32 × zWd)) (c_X12_every : Nat → zWd → Option (Int32 × zWd)) (c_X12_factor : Nat → zWd → Option (Int32 × zWd)) (v0 : Nat) (v1 : Int32) (w : zWd) : Option (Int32 × zWd) :=
  mX12_factor_152 c_X12_some c_X12_every c_X12_factor v0 v1 (1 : Int32) w
def mX12_factorb (c_X12_some : Nat → zWd → Option (Int32 × zWd)) (c_X12_every : Nat → zWd → Option (Int32 × zWd)) (c_X12_factor : Nat → zWd → Option (Int32 × zWd)) (v0 : Nat) (w : zWd) : Option (Int32 × zWd) :=
  if (w v0 12) = 0 then (zcl (mX12_here v0 w) fun r1 w2 =>
  if r1 = (33 : Int32) then (mX12_factor_26 c_X12_some c_X12_every c_X12_factor v0 r1 w2)
  else (if r1 = (40 : Int32) then (mX12_factor_26 c_X12_some c_X12_every c_X12_factor v0 r1 w2)
  else (if r1 = (107 : Int32) then (mX12_factor_147 c_X12_some c_X12_every c_X12_factor v0 r1 w2)
  else (if r1 = (116 : Int32) then (mX12_factor_147 c_X12_some c_X12_every c_X12_factor v0 r1 w2)
  else (mX12_factor_152 c_X12_some c_X12_every c_X12_factor v0 r1 (0 : Int32) w2)))))
  else (zgd (zB (0 : Int32)) (some ((0 : Int32), w)))
def mGS : Nat → Nat → Nat → zWd → Option (Int32 × zWd)
  | 0, _ => fun _ _ => none
  | n + 1, 0 => fun v0 w => mX12_someb (mGS n 0) (mGS n 1) (mGS n 2) v0 w
  | n + 1, 1 => fun v0 w => mX12_everyb (mGS n 0) (mGS n 1) (mGS n 2) v0 w
  | n + 1, _ => fun v0 w => mX12_factorb (mGS n 0) (mGS n 1) (mGS n 2) v0 w
def mX12_some (v0 : Nat) (w : zWd) : Option (Int32 × zWd) := mGS 40 0 v0 w
def mX12_every (v0 : Nat) (w : zWd) : Option (Int32 × zWd) := mGS 40 1 v0 w
def mX12_factor (v0 : Nat) (w : zWd) : Option (Int32 × zWd) := mGS 40 2 v0 w

def mX12_holds (v0 : Nat) (v1 : Int32) (v2 : Int32) (w : zWd) : Option (Int32 × zWd) :=
  zbn (zup w v0 10 (v1 / (8 : Int32))) fun w1 =>
  zgd (zin ((1790 : Int32) + v1) 21948) <|
  zbn (zup w1 v0 11 (w1 (v0 + 1) ((1790 : Int32) + v1).toNatClampNeg)) fun w2 =>
  zbn (zup w2 v0 13 (0 : Int32)) fun w3 =>
  zgd (zB (0 : Int32)) <|
  zbn (zup w3 v0 12 (0 : Int32)) fun w4 =>
  zbn (zup w4 v0 14 v2) fun w5 =>
  zcl (mX12_some v0 w5) fun r6 w7 =>
  zgd (zB r6) (some (r6, w7))
def mX12_ruling_159 (k6 : Int32 × Int32 × zWd → Option (Int32 × zWd)) (v0 : Nat) (v1 : Int32) (v2 : Int32) (v3 : Int32) (v4 : Int32) (v5 : Int32) (w : zWd) : Option (Int32 × zWd) :=
  k6 (v4, v5 + (1 : Int32), w)
def mX12_ruling_151 (k6 : Int32 × Int32 × zWd → Option (Int32 × zWd)) (k20 : Int32 × Int32 × zWd → Option (Int32 × zWd)) (v0 : Nat) (v1 : Int32) (v2 : Int32) (v3 : Int32) (v5 : Int32) (v6 : Int32) (s0 : Int32) (w : zWd) : Option (Int32 × zWd) :=
  k20 (s0, v6 + (1 : Int32), w)
def mX12_ruling_149 (k6 : Int32 × Int32 × zWd → Option (Int32 × zWd)) (k20 : Int32 × Int32 × zWd → Option (Int32 × zWd)) (v0 : Nat) (v1 : Int32) (v2 : Int32) (v3 : Int32) (v4 : Int32) (v5 : Int32) (v6 : Int32) (w : zWd) : Option (Int32 × zWd) :=
  mX12_ruling_151 k6 k20 v0 v1 v2 v3 v5 v6 v4 w
def mX12_ruling_138 (k6 : Int32 × Int32 × zWd → Option (Int32 × zWd)) (k20 : Int32 × Int32 × zWd → Option (Int32 × zWd)) (v0 : Nat) (v1 : Int32) (v2 : Int32) (v3 : Int32) (v5 : Int32) (v6 : Int32) (w : zWd) : Option (Int32 × zWd) :=
  mX12_ruling_151 k6 k20 v0 v1 v2 v3 v5 v6 (((8 : Int32) * v5) + v6) w
def mX12_ruling_111 (k6 : Int32 × Int32 × zWd → Option (Int32 × zWd)) (k20 : Int32 × Int32 × zWd → Option (Int32 × zWd)) (v0 : Nat) (v1 : Int32) (v2 : Int32) (v3 : Int32) (v4 : Int32) (v5 : Int32) (v6 : Int32) (s0 : Int32) (w : zWd) : Option (Int32 × zWd) :=
  if s0 = 0 then (mX12_ruling_149 k6 k20 v0 v1 v2 v3 v4 v5 v6 w)
  else (if v1 = 0 then (zcl (mX12_holds v0 (((8 : Int32) * v5) + v6) v2 w) fun r1 w2 =>
  if r1 = 0 then (mX12_ruling_149 k6 k20 v0 v1 v2 v3 v4 v5 v6 w2)
  else (mX12_ruling_138 k6 k20 v0 v1 v2 v3 v5 v6 w2))
  else (mX12_ruling_138 k6 k20 v0 v1 v2 v3 v5 v6 w))
def mX12_ruling_106 (k6 : Int32 × Int32 × zWd → Option (Int32 × zWd)) (k20 : Int32 × Int32 × zWd → Option (Int32 × zWd)) (v0 : Nat) (v1 : Int32) (v2 : Int32) (v3 : Int32) (v4 : Int32) (v5 : Int32) (v6 : Int32) (w : zWd) : Option (Int32 × zWd) :=
  mX12_ruling_111 k6 k20 v0 v1 v2 v3 v4 v5 v6 (1 : Int32) w
def mX12_ruling_110 (k6 : Int32 × Int32 × zWd → Option (Int32 × zWd)) (k20 : Int32 × Int32 × zWd → Option (Int32 × zWd)) (v0 : Nat) (v1 : Int32) (v2 : Int32) (v3 : Int32) (v4 : Int32) (v5 : Int32) (v6 : Int32) (w : zWd) : Option (Int32 × zWd) :=
  mX12_ruling_111 k6 k20 v0 v1 v2 v3 v4 v5 v6 (0 : Int32) w
def mX12_ruling_20b (k6 : Int32 × Int32 × zWd → Option (Int32 × zWd)) (v0 : Nat) (v1 : Int32) (v2 : Int32) (v3 : Int32) (v5 : Int32) (k20 : Int32 × Int32 × zWd → Option (Int32 × zWd)) (v4 : Int32) (v6 : Int32) (w : zWd) : Option (Int32 × zWd) :=
  zgd (zin ((1600 : Int32) + v5) 21948) <|
  if (w (v0 + 1) ((1600 : Int32) + v5).toNatClampNeg) ≤ v6 then (mX12_ruling_159 k6 v0 v1 v2 v3 v4 v5 w)
  else (zgd (zin ((240 : Int32) + v5) 21948) <|
  if v3 < (w (v0 + 1) ((240 : Int32) + v5).toNatClampNeg) then (mX12_ruling_159 k6 v0 v1 v2 v3 v4 v5 w)
  else (zgd (zin (((1612 : Int32) + ((8 : Int32) * v5)) + v6) 21948) <|
  if (w (v0 + 1) (((1612 : Int32) + ((8 : Int32) * v5)) + v6).toNatClampNeg) = v1 then (if v4 = (-1 : Int32) then (mX12_ruling_106 k6 k20 v0 v1 v2 v3 v4 v5 v6 w)
  else (zgd (zin ((240 : Int32) + v5) 21948) <|
  zgd (zin ((240 : Int32) + (v4 / (8 : Int32))) 21948) <|
  if (w (v0 + 1) ((240 : Int32) + v5).toNatClampNeg) < (w (v0 + 1) ((240 : Int32) + (v4 / (8 : Int32))).toNatClampNeg) then (mX12_ruling_110 k6 k20 v0 v1 v2 v3 v4 v5 v6 w)
  else (mX12_ruling_106 k6 k20 v0 v1 v2 v3 v4 v5 v6 w)))
  else (mX12_ruling_110 k6 k20 v0 v1 v2 v3 v4 v5 v6 w)))
def mX12_ruling_20 (k6 : Int32 × Int32 × zWd → Option (Int32 × zWd)) (v0 : Nat) (v1 : Int32) (v2 : Int32) (v3 : Int32) (v5 : Int32) (v4 : Int32) (v6 : Int32) (w : zWd) : Option (Int32 × zWd) :=
  zlp (fun k q => mX12_ruling_20b k6 v0 v1 v2 v3 v5 k q.1 q.2.1 q.2.2) zFU (v4, v6, w)
def mX12_ruling_6b (v0 : Nat) (v1 : Int32) (v2 : Int32) (v3 : Int32) (k6 : Int32 × Int32 × zWd → Option (Int32 × zWd)) (v4 : Int32) (v5 : Int32) (w : zWd) : Option (Int32 × zWd) :=
  zgd (zin (2 : Int32) 21948) <|
  if (w (v0 + 1) (2 : Int32).toNatClampNeg) ≤ v5 then (some (v4, w))
  else (mX12_ruling_20 k6 v0 v1 v2 v3 v5 v4 (0 : Int32) w)
def mX12_ruling_6 (v0 : Nat) (v1 : Int32) (v2 : Int32) (v3 : Int32) (v4 : Int32) (v5 : Int32) (w : zWd) : Option (Int32 × zWd) :=
  zlp (fun k q => mX12_ruling_6b v0 v1 v2 v3 k q.1 q.2.1 q.2.2) zFU (v4, v5, w)
def mX12_ruling (v0 : Nat) (v1 : Int32) (v2 : Int32) (v3 : Int32) (w : zWd) : Option (Int32 × zWd) :=
  mX12_ruling_6 v0 v1 v2 v3 (-1 : Int32) (0 : Int32) w
def mX12_ruleFor_61 (s0 : Int32) (w : zWd) : Option (Int32 × zWd) :=
  some (s0, w)
def mX12_ruleFor_46 (w : zWd) : Option (Int32 × zWd) :=
  mX12_ruleFor_61 (99 : Int32) w
def mX12_ruleFor (v0 : Nat) (v1 : Int32) (v2 : Int32) (v3 : Int32) (w : zWd) : Option (Int32 × zWd) :=
  zcl (mX12_ruling v0 v1 v2 v3 w) fun r1 w2 =>
  if r1 = (-1 : Int32) then (if v1 = 0 then (mX12_ruleFor_61 (100 : Int32) w2)
  else (if v1 = (1 : Int32) then (mX12_ruleFor_46 w2)
  else (if v1 = (3 : Int32) then (mX12_ruleFor_46 w2)
  else (if v1 = (2 : Int32) then (mX12_ruleFor_61 (1 : Int32) w2)
  else (mX12_ruleFor_61 (0 : Int32) w2)))))
  else (zgd (zin ((1700 : Int32) + r1) 21948) <|
  some (w2 (v0 + 1) ((1700 : Int32) + r1).toNatClampNeg, w2))
def mX12_rule (v0 : Nat) (v1 : Int32) (v2 : Int32) (w : zWd) : Option (Int32 × zWd) :=
  zcl (mX12_ruleFor v0 v1 (-1 : Int32) v2 w) fun r1 w2 =>
  some (r1, w2)
def mX12_mayBe_91 (k41 : Int32 × Int32 × zWd → Option (Int32 × zWd)) (v0 : Nat) (v1 : Int32) (v6 : Int32) (s0 : Int32) (w : zWd) : Option (Int32 × zWd) :=
  k41 (s0, v6 + (1 : Int32), w)
def mX12_mayBe_90 (k41 : Int32 × Int32 × zWd → Option (Int32 × zWd)) (v0 : Nat) (v1 : Int32) (v6 : Int32) (w : zWd) : Option (Int32 × zWd) :=
  mX12_mayBe_91 k41 v0 v1 v6 (0 : Int32) w
def mX12_mayBe_41b (v0 : Nat) (v1 : Int32) (k41 : Int32 × Int32 × zWd → Option (Int32 × zWd)) (v5 : Int32) (v6 : Int32) (w : zWd) : Option (Int32 × zWd) :=
  zgd (zin (1 : Int32) 21948) <|
  if (w (v0 + 1) (1 : Int32).toNatClampNeg) ≤ v6 then (zgd (zB v5) (some (v5, w)))
  else (if v5 = 0 then (mX12_mayBe_90 k41 v0 v1 v6 w)
  else (zgd (zin ((152 : Int32) + v6) 21948) <|
  zcl (mX12_apart (w (v0 + 1) ((152 : Int32) + v6).toNatClampNeg) v1 w) fun r3 w4 =>
  zgd (zin (0 : Int32) 21948) <|
  zcl (mX12_rule v0 (2 : Int32) (w4 (v0 + 1) (0 : Int32).toNatClampNeg) w4) fun r5 w6 =>
  if r3 < r5 then (mX12_mayBe_90 k41 v0 v1 v6 w6)
  else (mX12_mayBe_91 k41 v0 v1 v6 (1 : Int32) w6)))
def mX12_mayBe_41 (v0 : Nat) (v1 : Int32) (v5 : Int32) (v6 : Int32) (w : zWd) : Option (Int32 × zWd) :=
  zlp (fun k q => mX12_mayBe_41b v0 v1 k q.1 q.2.1 q.2.2) zFU (v5, v6, w)
def mX12_mayBe_36 (v0 : Nat) (v1 : Int32) (s0 : Int32) (w : zWd) : Option (Int32 × zWd) :=
  mX12_mayBe_41 v0 v1 s0 (0 : Int32) w
def mX12_mayBe_28 (v0 : Nat) (v1 : Int32) (s0 : Int32) (s1 : Int32) (w : zWd) : Option (Int32 × zWd) :=
  if s0 < s1 then (mX12_mayBe_36 v0 v1 (0 : Int32) w)
  else (mX12_mayBe_36 v0 v1 (1 : Int32) w)
def mX12_mayBe (v0 : Nat) (v1 : Int32) (v2 : Int32) (v3 : Int32) (w : zWd) : Option (Int32 × zWd) :=
  zgd (zin (0 : Int32) 21948) <|
  zcl (mX12_rule v0 (1 : Int32) (w (v0 + 1) (0 : Int32).toNatClampNeg) w) fun r1 w2 =>
  if v2 = (2 : Int32) then (mX12_mayBe_28 v0 v1 ((2 : Int32) * r1) v3 w2)
  else (mX12_mayBe_28 v0 v1 r1 v3 w2)
def mX12_hasTap_37 (k4 : Int32 × Int32 × zWd → Option (Int32 × zWd)) (v0 : Nat) (v1 : Int32) (v3 : Int32) (s0 : Int32) (w : zWd) : Option (Int32 × zWd) :=
  k4 (s0, v3 + (1 : Int32), w)
def mX12_hasTap_32 (k4 : Int32 × Int32 × zWd → Option (Int32 × zWd)) (v0 : Nat) (v1 : Int32) (v3 : Int32) (w : zWd) : Option (Int32 × zWd) :=
  mX12_hasTap_37 k4 v0 v1 v3 (1 : Int32) w
def mX12_hasTap_4b (v0 : Nat) (v1 : Int32) (k4 : Int32 × Int32 × zWd → Option (Int32 × zWd)) (v2 : Int32) (v3 : Int32) (w : zWd) : Option (Int32 × zWd) :=
  zgd (zin (1 : Int32) 21948) <|
  if (w (v0 + 1) (1 : Int32).toNatClampNeg) ≤ v3 then (zgd (zB v2) (some (v2, w)))
  else (if v2 = 0 then (zgd (zin ((152 : Int32) + v3) 21948) <|
  if (w (v0 + 1) ((152 : Int32) + v3).toNatClampNeg) = v1 then (mX12_hasTap_32 k4 v0 v1 v3 w)
  else (mX12_hasTap_37 k4 v0 v1 v3 (0 : Int32) w))
  else (mX12_hasTap_32 k4 v0 v1 v3 w))
def mX12_hasTap_4 (v0 : Nat) (v1 : Int32) (v2 : Int32) (v3 : Int32) (w : zWd) : Option (Int32 × zWd) :=
  zlp (fun k q => mX12_hasTap_4b v0 v1 k q.1 q.2.1 q.2.2) zFU (v2, v3, w)
def mX12_hasTap (v0 : Nat) (v1 : Int32) (w : zWd) : Option (Int32 × zWd) :=
  mX12_hasTap_4 v0 v1 (0 : Int32) (0 : Int32) w
def mX12_tap_16 (w : zWd) : Option (Int32 × zWd) :=
  some ((-1 : Int32), w)
def mX12_tap_73 (v0 : Nat) (v1 : Int32) (v2 : Int32) (v3 : Int32) (v4 : Int32) (w : zWd) : Option (Int32 × zWd) :=
  zgd (zin (1 : Int32) 21948) <|
  if (w (v0 + 1) (1 : Int32).toNatClampNeg) = (12 : Int32) then (some ((-4 : Int32), w))
  else (zgd (zin (1 : Int32) 21948) <|
  zbn (w (v0 + 1) (1 : Int32).toNatClampNeg) fun x7 =>
  zgd (zin ((140 : Int32) + x7) 21948) <|
  zbn (zup w (v0 + 1) ((140 : Int32) + x7).toNatClampNeg v1) fun w8 =>
  zgd (zin ((152 : Int32) + x7) 21948) <|
  zbn (zup w8 (v0 + 1) ((152 : Int32) + x7).toNatClampNeg v2) fun w9 =>
  zgd (zin ((164 : Int32) + x7) 21948) <|
  zbn (zup w9 (v0 + 1) ((164 : Int32) + x7).toNatClampNeg v3) fun w10 =>
  zgd (zin ((176 : Int32) + x7) 21948) <|
  zbn (zup w10 (v0 + 1) ((176 : Int32) + x7).toNatClampNeg v4) fun w11 =>
  zgd (zin ((188 : Int32) + x7) 21948) <|
  zbn (zup w11 (v0 + 1) ((188 : Int32) + x7).toNatClampNeg (0 : Int32)) fun w12 =>
  zgd (zin (0 : Int32) 21948) <|
  zgd (zin ((200 : Int32) + x7) 21948) <|
  zbn (zup w12 (v0 + 1) ((200 : Int32) + x7).toNatClampNeg (w12 (v0 + 1) (0 : Int32).toNatClampNeg)) fun w13 =>
  zgd (zin (1 : Int32) 21948) <|
  zgd (zin (1 : Int32) 21948) <|
  zbn (zup w13 (v0 + 1) (1 : Int32).toNatClampNeg ((w13 (v0 + 1) (1 : Int32).toNatClampNeg) + (1 : Int32))) fun w14 =>
  some (x7, w14))
def mX12_tap_70 (w : zWd) : Option (Int32 × zWd) :=
  some ((-3 : Int32), w)
def mX12_tap_47 (v0 : Nat) (v1 : Int32) (v2 : Int32) (v3 : Int32) (v4 : Int32) (w : zWd) : Option (Int32 × zWd) :=
  zcl (mX12_hasTap v0 v2 w) fun r5 w6 =>
  if r5 = 0 then (if v1 = 0 then (mX12_tap_73 v0 v1 v2 v3 v4 w6)
  else (zcl (mX12_mayBe v0 v2 v1 v4 w6) fun r15 w16 =>
  if r15 = 0 then (mX12_tap_70 w16)
  else (mX12_tap_73 v0 v1 v2 v3 v4 w16)))
  else (mX12_tap_70 w6)
def mX12_tap_44 (w : zWd) : Option (Int32 × zWd) :=
  some ((-2 : Int32), w)
def mX12_tap (v0 : Nat) (v1 : Int32) (v2 : Int32) (v3 : Int32) (v4 : Int32) (w : zWd) : Option (Int32 × zWd) :=
  zcl (mX12_in v1 (0 : Int32) (2 : Int32) w) fun r1 w2 =>
  if r1 = 0 then (mX12_tap_16 w2)
  else (zcl (mX12_isCell v2 w2) fun r3 w4 =>
  if r3 = 0 then (mX12_tap_16 w4)
  else (if v1 = 0 then (mX12_tap_47 v0 v1 v2 v3 v4 w4)
  else (zcl (mX12_in v3 (1 : Int32) (500 : Int32) w4) fun r17 w18 =>
  if r17 = 0 then (mX12_tap_44 w18)
  else (zcl (mX12_in v4 (0 : Int32) (99 : Int32) w18) fun r19 w20 =>
  if r19 = 0 then (mX12_tap_44 w20)
  else (mX12_tap_47 v0 v1 v2 v3 v4 w20)))))
def mX12_shut_39 (v3 : Int32) (s0 : Int32) (s1 : Int32) (s2 : Nat) (w : zWd) : Option (Int32 × zWd) :=
  zgd (zin s1 21948) <|
  zbn (zup w s2 s1.toNatClampNeg s0) fun w4 =>
  some (v3, w4)
def mX12_shut (v0 : Nat) (v1 : Int32) (v2 : Int32) (w : zWd) : Option (Int32 × zWd) :=
  zcl (mX12_isTap v0 v1 w) fun r1 w2 =>
  if r1 = 0 then (some ((-1 : Int32), w2))
  else (zgd (zin ((188 : Int32) + v1) 21948) <|
  zbn (w2 (v0 + 1) ((188 : Int32) + v1).toNatClampNeg) fun x3 =>
  if v2 = 0 then (mX12_shut_39 x3 (0 : Int32) ((188 : Int32) + v1) (v0 + 1) w2)
  else (mX12_shut_39 x3 (1 : Int32) ((188 : Int32) + v1) (v0 + 1) w2))
def mX12_gives_300 (s0 : Int32) (s1 : Int32) (s2 : Int32) (s3 : Nat) (w : zWd) : Option (Unit × zWd) :=
  zgd (zin s2 21948) <|
  zbn (zup w s3 s2.toNatClampNeg (s1 + s0)) fun w11 =>
  some ((), w11)
def mX12_gives_299 (s0 : Int32) (s1 : Int32) (s2 : Nat) (w : zWd) : Option (Unit × zWd) :=
  mX12_gives_300 (0 : Int32) s0 s1 s2 w
def mX12_gives_250 (v0 : Nat) (v1 : Int32) (v5 : Int32) (s0 : Int32) (s1 : Int32) (s2 : Nat) (w : zWd) : Option (Unit × zWd) :=
  zgd (zin s1 12) <|
  zbn (zup w s2 s1.toNatClampNeg s0) fun w10 =>
  zgd (zin ((224 : Int32) + v1) 21948) <|
  if v5 ≤ 0 then (mX12_gives_299 (w10 (v0 + 1) ((224 : Int32) + v1).toNatClampNeg) ((224 : Int32) + v1) (v0 + 1) w10)
  else (zgd (zin v1 12) <|
  if (w10 (v0 + 4) v1.toNatClampNeg) < (500 : Int32) then (mX12_gives_299 (w10 (v0 + 1) ((224 : Int32) + v1).toNatClampNeg) ((224 : Int32) + v1) (v0 + 1) w10)
  else (zgd (zin v1 12) <|
  if (w10 (v0 + 4) v1.toNatClampNeg) < (800 : Int32) then (mX12_gives_300 (1 : Int32) (w10 (v0 + 1) ((224 : Int32) + v1).toNatClampNeg) ((224 : Int32) + v1) (v0 + 1) w10)
  else (mX12_gives_300 (2 : Int32) (w10 (v0 + 1) ((224 : Int32) + v1).toNatClampNeg) ((224 : Int32) + v1) (v0 + 1) w10)))
def mX12_gives_205 (v0 : Nat) (v1 : Int32) (v5 : Int32) (s0 : Int32) (s1 : Int32) (s2 : Nat) (w : zWd) : Option (Unit × zWd) :=
  zgd (zin s1 12) <|
  zbn (zup w s2 s1.toNatClampNeg s0) fun w8 =>
  zgd (zin v1 12) <|
  zgd (zin ((212 : Int32) + v1) 21948) <|
  zgd (¬ (v5 + (10 : Int32)) = 0) <|
  zbn ((w8 (v0 + 4) v1.toNatClampNeg) - (((10 : Int32) * (w8 (v0 + 1) ((212 : Int32) + v1).toNatClampNeg)) / (v5 + (10 : Int32)))) fun x9 =>
  if 0 ≤ x9 then (mX12_gives_250 v0 v1 v5 x9 v1 (v0 + 6) w8)
  else (mX12_gives_250 v0 v1 v5 (0 : Int32) v1 (v0 + 6) w8)
def mX12_gives_169 (v0 : Nat) (v1 : Int32) (v5 : Int32) (s0 : Int32) (s1 : Int32) (s2 : Int32) (s3 : Nat) (w : zWd) : Option (Unit × zWd) :=
  zgd (zin s2 12) <|
  zbn (zup w s3 s2.toNatClampNeg (s1 + s0)) fun w6 =>
  zgd (zin ((224 : Int32) + v1) 21948) <|
  zbn (v5 - ((w6 (v0 + 1) ((224 : Int32) + v1).toNatClampNeg) / (10 : Int32))) fun x7 =>
  if 0 ≤ x7 then (mX12_gives_205 v0 v1 v5 x7 v1 (v0 + 5) w6)
  else (mX12_gives_205 v0 v1 v5 (0 : Int32) v1 (v0 + 5) w6)
def mX12_gives_111 (v0 : Nat) (v1 : Int32) (v2 : Int32) (s0 : Int32) (w : zWd) : Option (Unit × zWd) :=
  zgd (zin ((50 : Int32) + v2) 21948) <|
  zgd (zin ((50 : Int32) + v2) 21948) <|
  zbn (zup w (v0 + 1) ((50 : Int32) + v2).toNatClampNeg ((w (v0 + 1) ((50 : Int32) + v2).toNatClampNeg) - s0)) fun w4 =>
  zgd (zin v1 12) <|
  zbn (zup w4 (v0 + 3) v1.toNatClampNeg s0) fun w5 =>
  zgd (zin ((20 : Int32) + v2) 21948) <|
  zgd (zin ((140 : Int32) + v1) 21948) <|
  if (w5 (v0 + 1) ((140 : Int32) + v1).toNatClampNeg) = (2 : Int32) then (mX12_gives_169 v0 v1 s0 (50 : Int32) (w5 (v0 + 1) ((20 : Int32) + v2).toNatClampNeg) v1 (v0 + 4) w5)
  else (mX12_gives_169 v0 v1 s0 (0 : Int32) (w5 (v0 + 1) ((20 : Int32) + v2).toNatClampNeg) v1 (v0 + 4) w5)
def mX12_gives_79 (v0 : Nat) (v1 : Int32) (v2 : Int32) (v3 : Int32) (s0 : Int32) (w : zWd) : Option (Unit × zWd) :=
  zgd (zin ((188 : Int32) + v1) 21948) <|
  if (w (v0 + 1) ((188 : Int32) + v1).toNatClampNeg) = (1 : Int32) then (mX12_gives_111 v0 v1 v2 (0 : Int32) w)
  else (if s0 ≤ v3 then (mX12_gives_111 v0 v1 v2 s0 w)
  else (mX12_gives_111 v0 v1 v2 v3 w))
def mX12_gives (v0 : Nat) (v1 : Int32) (w : zWd) : Option (Unit × zWd) :=
  zgd (zin ((152 : Int32) + v1) 21948) <|
  zbn (w (v0 + 1) ((152 : Int32) + v1).toNatClampNeg) fun x1 =>
  zgd (zin ((50 : Int32) + x1) 21948) <|
  zbn (w (v0 + 1) ((50 : Int32) + x1).toNatClampNeg) fun x2 =>
  zgd (zin ((164 : Int32) + v1) 21948) <|
  zbn (w (v0 + 1) ((164 : Int32) + v1).toNatClampNeg) fun x3 =>
  zgd (zin ((140 : Int32) + v1) 21948) <|
  if (w (v0 + 1) ((140 : Int32) + v1).toNatClampNeg) = 0 then (mX12_gives_79 v0 v1 x1 x2 (x2 / (10 : Int32)) w)
  else (zgd (zin ((140 : Int32) + v1) 21948) <|
  if (w (v0 + 1) ((140 : Int32) + v1).toNatClampNeg) = (1 : Int32) then (mX12_gives_79 v0 v1 x1 x2 x3 w)
  else (mX12_gives_79 v0 v1 x1 x2 (x3 + (x3 / (2 : Int32))) w))
def mX12_flows_285 (k169 : Int32 × zWd → Option (Unit × zWd)) (k177 : Int32 × zWd → Option (Unit × zWd)) (v0 : Nat) (v1 : Int32) (v2 : Int32) (w : zWd) : Option (Unit × zWd) :=
  k177 (v2 + (1 : Int32), w)
def mX12_flows_212 (k169 : Int32 × zWd → Option (Unit × zWd)) (k177 : Int32 × zWd → Option (Unit × zWd)) (v0 : Nat) (v1 : Int32) (v2 : Int32) (s0 : Int32) (s1 : Int32) (w : zWd) : Option (Unit × zWd) :=
  zbn (s1 + s0) fun x1 =>
  zcl (mX12_isCell x1 w) fun r2 w3 =>
  if r2 = 0 then (mX12_flows_285 k169 k177 v0 v1 v2 w3)
  else (zcl (mX12_apart v1 x1 w3) fun r4 w5 =>
  if r4 = (1 : Int32) then (zgd (zin ((20 : Int32) + v1) 21948) <|
  zgd (zin x1 30) <|
  zgd (zin v1 30) <|
  zgd (zin ((20 : Int32) + v1) 21948) <|
  zbn (zup w5 (v0 + 1) ((20 : Int32) + v1).toNatClampNeg ((w5 (v0 + 1) ((20 : Int32) + v1).toNatClampNeg) + (((w5 (v0 + 7) x1.toNatClampNeg) - (w5 (v0 + 7) v1.toNatClampNeg)) / (8 : Int32)))) fun w6 =>
  zgd (zin ((50 : Int32) + v1) 21948) <|
  zgd (zin x1 30) <|
  zgd (zin v1 30) <|
  zgd (zin ((50 : Int32) + v1) 21948) <|
  zbn (zup w6 (v0 + 1) ((50 : Int32) + v1).toNatClampNeg ((w6 (v0 + 1) ((50 : Int32) + v1).toNatClampNeg) + (((w6 (v0 + 8) x1.toNatClampNeg) - (w6 (v0 + 8) v1.toNatClampNeg)) / (4 : Int32)))) fun w7 =>
  mX12_flows_285 k169 k177 v0 v1 v2 w7)
  else (mX12_flows_285 k169 k177 v0 v1 v2 w5))
def mX12_flows_177b (k169 : Int32 × zWd → Option (Unit × zWd)) (v0 : Nat) (v1 : Int32) (k177 : Int32 × zWd → Option (Unit × zWd)) (v2 : Int32) (w : zWd) : Option (Unit × zWd) :=
  if (4 : Int32) ≤ v2 then (k169 (v1 + (1 : Int32), w))
  else (if v2 = 0 then (mX12_flows_212 k169 k177 v0 v1 v2 (1 : Int32) v1 w)
  else (if v2 = (1 : Int32) then (mX12_flows_212 k169 k177 v0 v1 v2 (-1 : Int32) v1 w)
  else (if v2 = (2 : Int32) then (mX12_flows_212 k169 k177 v0 v1 v2 (6 : Int32) v1 w)
  else (mX12_flows_212 k169 k177 v0 v1 v2 (-6 : Int32) v1 w))))
def mX12_flows_177 (k169 : Int32 × zWd → Option (Unit × zWd)) (v0 : Nat) (v1 : Int32) (v2 : Int32) (w : zWd) : Option (Unit × zWd) :=
  zlp (fun k q => mX12_flows_177b k169 v0 v1 k q.1 q.2) zFU (v2, w)
def mX12_flows_169b (v0 : Nat) (k169 : Int32 × zWd → Option (Unit × zWd)) (v1 : Int32) (w : zWd) : Option (Unit × zWd) :=
  if (30 : Int32) ≤ v1 then (some ((), w))
  else (mX12_flows_177 k169 v0 v1 (0 : Int32) w)
def mX12_flows_169 (v0 : Nat) (v1 : Int32) (w : zWd) : Option (Unit × zWd) :=
  zlp (fun k q => mX12_flows_169b v0 k q.1 q.2) zFU (v1, w)
def mX12_flows_125b (v0 : Nat) (k125 : Int32 × zWd → Option (Unit × zWd)) (v1 : Int32) (w : zWd) : Option (Unit × zWd) :=
  if (30 : Int32) ≤ v1 then (mX12_flows_169 v0 (0 : Int32) w)
  else (zgd (zin ((20 : Int32) + v1) 21948) <|
  zgd (zin v1 30) <|
  zbn (zup w (v0 + 7) v1.toNatClampNeg (w (v0 + 1) ((20 : Int32) + v1).toNatClampNeg)) fun w8 =>
  zgd (zin ((50 : Int32) + v1) 21948) <|
  zgd (zin v1 30) <|
  zbn (zup w8 (v0 + 8) v1.toNatClampNeg (w8 (v0 + 1) ((50 : Int32) + v1).toNatClampNeg)) fun w9 =>
  k125 (v1 + (1 : Int32), w9))
def mX12_flows_125 (v0 : Nat) (v1 : Int32) (w : zWd) : Option (Unit × zWd) :=
  zlp (fun k q => mX12_flows_125b v0 k q.1 q.2) zFU (v1, w)
def mX12_flows_102b (v0 : Nat) (k102 : Int32 × zWd → Option (Unit × zWd)) (v1 : Int32) (w : zWd) : Option (Unit × zWd) :=
  zgd (zin (1 : Int32) 21948) <|
  if (w (v0 + 1) (1 : Int32).toNatClampNeg) ≤ v1 then (mX12_flows_125 v0 (0 : Int32) w)
  else (zcl (mX12_gives v0 v1 w) fun _ w11 =>
  k102 (v1 + (1 : Int32), w11))
def mX12_flows_102 (v0 : Nat) (v1 : Int32) (w : zWd) : Option (Unit × zWd) :=
  zlp (fun k q => mX12_flows_102b v0 k q.1 q.2) zFU (v1, w)
def mX12_flows_93 (k2 : Int32 × zWd → Option (Unit × zWd)) (v0 : Nat) (v1 : Int32) (s0 : Int32) (s1 : Int32) (s2 : Nat) (w : zWd) : Option (Unit × zWd) :=
  zgd (zin s1 21948) <|
  zbn (zup w s2 s1.toNatClampNeg s0) fun w15 =>
  k2 (v1 + (1 : Int32), w15)
def mX12_flows_70 (k2 : Int32 × zWd → Option (Unit × zWd)) (v0 : Nat) (v1 : Int32) (v3 : Int32) (s0 : Int32) (s1 : Int32) (s2 : Nat) (w : zWd) : Option (Unit × zWd) :=
  zgd (zin s1 21948) <|
  zbn (zup w s2 s1.toNatClampNeg s0) fun w14 =>
  if v3 ≤ (9999 : Int32) then (mX12_flows_93 k2 v0 v1 v3 ((50 : Int32) + v1) (v0 + 1) w14)
  else (mX12_flows_93 k2 v0 v1 (9999 : Int32) ((50 : Int32) + v1) (v0 + 1) w14)
def mX12_flows_2b (v0 : Nat) (k2 : Int32 × zWd → Option (Unit × zWd)) (v1 : Int32) (w : zWd) : Option (Unit × zWd) :=
  if (30 : Int32) ≤ v1 then (mX12_flows_102 v0 (0 : Int32) w)
  else (zgd (zin ((20 : Int32) + v1) 21948) <|
  zgd (zin ((80 : Int32) + v1) 21948) <|
  zbn ((w (v0 + 1) ((20 : Int32) + v1).toNatClampNeg) + (w (v0 + 1) ((80 : Int32) + v1).toNatClampNeg)) fun x12 =>
  zgd (zin ((50 : Int32) + v1) 21948) <|
  zgd (zin ((110 : Int32) + v1) 21948) <|
  zbn ((w (v0 + 1) ((50 : Int32) + v1).toNatClampNeg) + (w (v0 + 1) ((110 : Int32) + v1).toNatClampNeg)) fun x13 =>
  if x12 ≤ (1500 : Int32) then (mX12_flows_70 k2 v0 v1 x13 x12 ((20 : Int32) + v1) (v0 + 1) w)
  else (mX12_flows_70 k2 v0 v1 x13 (1500 : Int32) ((20 : Int32) + v1) (v0 + 1) w))
def mX12_flows_2 (v0 : Nat) (v1 : Int32) (w : zWd) : Option (Unit × zWd) :=
  zlp (fun k q => mX12_flows_2b v0 k q.1 q.2) zFU (v1, w)
def mX12_flows (v0 : Nat) (w : zWd) : Option (Unit × zWd) :=
  mX12_flows_2 v0 (0 : Int32) w
def mX12_goes_6b (v0 : Nat) (k6 : Int32 × zWd → Option (Unit × zWd)) (v1 : Int32) (w : zWd) : Option (Unit × zWd) :=
  zgd (zin (1 : Int32) 21948) <|
  if (w (v0 + 1) (1 : Int32).toNatClampNeg) ≤ v1 then (zgd (zin (0 : Int32) 21948) <|
  zgd (zin (0 : Int32) 21948) <|
  zbn (zup w (v0 + 1) (0 : Int32).toNatClampNeg ((w (v0 + 1) (0 : Int32).toNatClampNeg) + (1 : Int32))) fun w3 =>
  some ((), w3))
  else (zgd (zin (0 : Int32) 21948) <|
  zbn (((2700 : Int32) + ((1604 : Int32) * v1)) + ((4 : Int32) * (w (v0 + 1) (0 : Int32).toNatClampNeg))) fun x4 =>
  zgd (zin v1 12) <|
  zgd (zin x4 21948) <|
  zbn (zup w (v0 + 1) x4.toNatClampNeg (w (v0 + 3) v1.toNatClampNeg)) fun w5 =>
  zgd (zin v1 12) <|
  zgd (zin (x4 + (1 : Int32)) 21948) <|
  zbn (zup w5 (v0 + 1) (x4 + (1 : Int32)).toNatClampNeg (w5 (v0 + 4) v1.toNatClampNeg)) fun w6 =>
  zgd (zin v1 12) <|
  zgd (zin (x4 + (2 : Int32)) 21948) <|
  zbn (zup w6 (v0 + 1) (x4 + (2 : Int32)).toNatClampNeg (w6 (v0 + 5) v1.toNatClampNeg)) fun w7 =>
  zgd (zin v1 12) <|
  zgd (zin (x4 + (3 : Int32)) 21948) <|
  zbn (zup w7 (v0 + 1) (x4 + (3 : Int32)).toNatClampNeg (w7 (v0 + 6) v1.toNatClampNeg)) fun w8 =>
  k6 (v1 + (1 : Int32), w8))
def mX12_goes_6 (v0 : Nat) (v1 : Int32) (w : zWd) : Option (Unit × zWd) :=
  zlp (fun k q => mX12_goes_6b v0 k q.1 q.2) zFU (v1, w)
def mX12_goes (v0 : Nat) (w : zWd) : Option (Unit × zWd) :=
  zcl (mX12_flows v0 w) fun _ w2 =>
  mX12_goes_6 v0 (0 : Int32) w2
def mX12_dawn_24 (w : zWd) : Option (Int32 × zWd) :=
  some ((-2 : Int32), w)
def mX12_dawn_29b (v0 : Nat) (v1 : Int32) (k29 : Int32 × zWd → Option (Int32 × zWd)) (v2 : Int32) (w : zWd) : Option (Int32 × zWd) :=
  if v1 ≤ v2 then (zgd (zin (0 : Int32) 21948) <|
  some (w (v0 + 1) (0 : Int32).toNatClampNeg, w))
  else (zcl (mX12_goes v0 w) fun _ w4 =>
  k29 (v2 + (1 : Int32), w4))
def mX12_dawn_29 (v0 : Nat) (v1 : Int32) (v2 : Int32) (w : zWd) : Option (Int32 × zWd) :=
  zlp (fun k q => mX12_dawn_29b v0 v1 k q.1 q.2) zFU (v2, w)
def mX12_dawn (v0 : Nat) (v1 : Int32) (w : zWd) : Option (Int32 × zWd) :=
  zcl (mX12_in v1 (1 : Int32) (30 : Int32) w) fun r1 w2 =>
  if r1 = 0 then (mX12_dawn_24 w2)
  else (zgd (zin (0 : Int32) 21948) <|
  if ((w2 (v0 + 1) (0 : Int32).toNatClampNeg) + v1) ≤ (400 : Int32) then (mX12_dawn_29 v0 v1 (0 : Int32) w2)
  else (mX12_dawn_24 w2))
def mX12_flowOf (v0 : Nat) (v1 : Int32) (v2 : Int32) (v3 : Int32) (w : zWd) : Option (Int32 × zWd) :=
  zgd (zin ((((2700 : Int32) + ((1604 : Int32) * v1)) + ((4 : Int32) * v2)) + v3) 21948) <|
  some (w (v0 + 1) ((((2700 : Int32) + ((1604 : Int32) * v1)) + ((4 : Int32) * v2)) + v3).toNatClampNeg, w)
def mX12_flow_50 (s0 : Int32) (w : zWd) : Option (Int32 × zWd) :=
  some (s0, w)
def mX12_flow_49 (w : zWd) : Option (Int32 × zWd) :=
  mX12_flow_50 (-1 : Int32) w
def mX12_flow (v0 : Nat) (v1 : Int32) (v2 : Int32) (v3 : Int32) (w : zWd) : Option (Int32 × zWd) :=
  zcl (mX12_isTap v0 v1 w) fun r1 w2 =>
  if r1 = 0 then (mX12_flow_49 w2)
  else (zcl (mX12_isGone v0 v2 w2) fun r3 w4 =>
  if r3 = 0 then (mX12_flow_49 w4)
  else (zgd (zin ((200 : Int32) + v1) 21948) <|
  if v2 < (w4 (v0 + 1) ((200 : Int32) + v1).toNatClampNeg) then (mX12_flow_49 w4)
  else (zcl (mX12_in v3 (0 : Int32) (3 : Int32) w4) fun r5 w6 =>
  if r5 = 0 then (mX12_flow_49 w6)
  else (zcl (mX12_flowOf v0 v1 v2 v3 w6) fun r7 w8 =>
  mX12_flow_50 r7 w8))))
def mX12_pipe (v0 : Nat) (v1 : Int32) (v2 : Int32) (w : zWd) : Option (Int32 × zWd) :=
  zcl (mX12_isTap v0 v1 w) fun r1 w2 =>
  if r1 = 0 then (some ((-1 : Int32), w2))
  else (zcl (mX12_in v2 (0 : Int32) (99 : Int32) w2) fun r3 w4 =>
  if r3 = 0 then (some ((-2 : Int32), w4))
  else (zgd (zin ((212 : Int32) + v1) 21948) <|
  zbn (w4 (v0 + 1) ((212 : Int32) + v1).toNatClampNeg) fun x5 =>
  zgd (zin ((212 : Int32) + v1) 21948) <|
  zbn (zup w4 (v0 + 1) ((212 : Int32) + v1).toNatClampNeg v2) fun w6 =>
  some (x5, w6)))
def mX12_scale (v0 : Nat) (v1 : Int32) (w : zWd) : Option (Int32 × zWd) :=
  zcl (mX12_isTap v0 v1 w) fun r1 w2 =>
  if r1 = 0 then (some ((-1 : Int32), w2))
  else (zgd (zin ((224 : Int32) + v1) 21948) <|
  zbn (w2 (v0 + 1) ((224 : Int32) + v1).toNatClampNeg) fun x3 =>
  zgd (zin ((224 : Int32) + v1) 21948) <|
  zbn (zup w2 (v0 + 1) ((224 : Int32) + v1).toNatClampNeg (0 : Int32)) fun w4 =>
  some (x3, w4))
def mX12_feed_35b (v0 : Nat) (v1 : Int64) (k35 : Int32 × zWd → Option (Int32 × zWd)) (v4 : Int32) (w : zWd) : Option (Int32 × zWd) :=
  if v4 < 0 then (zgd (zin (6 : Int32) 21948) <|
  some (w (v0 + 1) (6 : Int32).toNatClampNeg, w))
  else (zgd (zin (6 : Int32) 21948) <|
  zgd (zin ((1880 : Int32) + (w (v0 + 1) (6 : Int32).toNatClampNeg)) 21948) <|
  zbn (zup w (v0 + 1) ((1880 : Int32) + (w (v0 + 1) (6 : Int32).toNatClampNeg)).toNatClampNeg (((v1 >>> (((8 : Int32) * v4).toInt64 &&& 63)) &&& (255 : Int64)).toInt32)) fun w4 =>
  zgd (zin (6 : Int32) 21948) <|
  zgd (zin (6 : Int32) 21948) <|
  zbn (zup w4 (v0 + 1) (6 : Int32).toNatClampNeg ((w4 (v0 + 1) (6 : Int32).toNatClampNeg) + (1 : Int32))) fun w5 =>
  k35 (v4 + (-1 : Int32), w5))
def mX12_feed_35 (v0 : Nat) (v1 : Int64) (v4 : Int32) (w : zWd) : Option (Int32 × zWd) :=
  zlp (fun k q => mX12_feed_35b v0 v1 k q.1 q.2) zFU (v4, w)
def mX12_feed (v0 : Nat) (v1 : Int64) (v3 : Int32) (w : zWd) : Option (Int32 × zWd) :=
  zcl (mX12_in v3 (1 : Int32) (8 : Int32) w) fun r1 w2 =>
  if r1 = 0 then (some ((-2 : Int32), w2))
  else (zgd (zin (6 : Int32) 21948) <|
  if ((w2 (v0 + 1) (6 : Int32).toNatClampNeg) + v3) ≤ (120 : Int32) then (zbn (v3 - (1 : Int32)) fun x3 =>
  mX12_feed_35 v0 v1 x3 w2)
  else (some ((-4 : Int32), w2)))
def mX12_spells_2b (v0 : Nat) (v1 : Nat) (k2 : Int32 × zWd → Option (Unit × zWd)) (v2 : Int32) (w : zWd) : Option (Unit × zWd) :=
  zcl (mJ0_length_8abf5 v1 w) fun r1 w2 =>
  if r1 ≤ v2 then (some ((), w2))
  else (zcl (mJ0_charAt_5068e v1 v2 w2) fun r3 w4 =>
  zcl (mX12_must v0 r3 w4) fun _ w6 =>
  k2 (v2 + (1 : Int32), w6))
def mX12_spells_2 (v0 : Nat) (v1 : Nat) (v2 : Int32) (w : zWd) : Option (Unit × zWd) :=
  zlp (fun k q => mX12_spells_2b v0 v1 k q.1 q.2) zFU (v2, w)
def mX12_spells (v0 : Nat) (v1 : Nat) (w : zWd) : Option (Unit × zWd) :=
  mX12_spells_2 v0 v1 (0 : Int32) w
def mX12_word (v0 : Nat) (w : zWd) : Option (Int32 × zWd) :=
  zcl (mX12_here v0 w) fun r1 w2 =>
  if r1 = (97 : Int32) then (zcl (mX12_spells v0 (253 + 8) w2) fun _ w4 =>
  some ((2 : Int32), w4))
  else if r1 = (100 : Int32) then (zcl (mX12_spells v0 (253 + 7) w2) fun _ w6 =>
  some ((1 : Int32), w6))
  else if r1 = (108 : Int32) then (zbn (zup w2 v0 11 ((w2 v0 11) + (1 : Int32))) fun w7 =>
  zcl (mX12_here v0 w7) fun r8 w9 =>
  if r8 = (97 : Int32) then (zcl (mX12_spells v0 (253 + 10) w9) fun _ w11 =>
  some ((3 : Int32), w11))
  else (zcl (mX12_spells v0 (253 + 11) w9) fun _ w13 =>
  some ((4 : Int32), w13)))
  else if r1 = (114 : Int32) then (zcl (mX12_spells v0 (253 + 6) w2) fun _ w15 =>
  some ((0 : Int32), w15))
  else if r1 = (115 : Int32) then (zcl (mX12_spells v0 (253 + 9) w2) fun _ w17 =>
  some ((5 : Int32), w17))
  else (zgd (zB (1 : Int32)) <|
  zbn (zup w2 v0 12 (1 : Int32)) fun w18 =>
  some ((0 : Int32), w18))
def mX12_reads_178 (s0 : Int32) (s1 : Int32) (s2 : Int32) (s3 : Nat) (w : zWd) : Option (Unit × zWd) :=
  zgd (zin s2 21948) <|
  zbn (zup w s3 s2.toNatClampNeg (s1 + s0)) fun w17 =>
  some ((), w17)
def mX12_reads_155 (v0 : Nat) (v1 : Int32) (w : zWd) : Option (Unit × zWd) :=
  zgd (zin ((1600 : Int32) + v1) 21948) <|
  if (w v0 12) = 0 then (mX12_reads_178 (1 : Int32) (w (v0 + 1) ((1600 : Int32) + v1).toNatClampNeg) ((1600 : Int32) + v1) (v0 + 1) w)
  else (mX12_reads_178 (0 : Int32) (w (v0 + 1) ((1600 : Int32) + v1).toNatClampNeg) ((1600 : Int32) + v1) (v0 + 1) w)
def mX12_reads_125 (v0 : Nat) (v1 : Int32) (v2 : Int32) (v3 : Int32) (w : zWd) : Option (Unit × zWd) :=
  if v3 = 0 then (zcl (mX12_must v0 (32 : Int32) w) fun _ w13 =>
  zgd (zin ((1790 : Int32) + v2) 21948) <|
  zbn (zup w13 (v0 + 1) ((1790 : Int32) + v2).toNatClampNeg (w13 v0 11)) fun w14 =>
  zcl (mX12_some v0 w14) fun r15 w16 =>
  mX12_reads_155 v0 v1 w16)
  else (mX12_reads_155 v0 v1 w)
def mX12_reads_89 (v0 : Nat) (v1 : Int32) (v2 : Int32) (v3 : Int32) (v4 : Int32) (s0 : Int32) (s1 : Int32) (s2 : Nat) (w : zWd) : Option (Unit × zWd) :=
  zbn (zup w s2 11 (s1 + s0)) fun w10 =>
  zgd (zin ((1700 : Int32) + v2) 21948) <|
  zbn (zup w10 (v0 + 1) ((1700 : Int32) + v2).toNatClampNeg (v4 - (48 : Int32))) fun w11 =>
  mX12_reads_125 v0 v1 v2 v3 w11
def mX12_reads_69 (v0 : Nat) (v1 : Int32) (v2 : Int32) (v3 : Int32) (v4 : Int32) (s0 : Int32) (s1 : Nat) (w : zWd) : Option (Unit × zWd) :=
  zgd (zB s0) <|
  zbn (zup w s1 12 s0) fun w9 =>
  if (w9 v0 12) = 0 then (mX12_reads_89 v0 v1 v2 v3 v4 (1 : Int32) (w9 v0 11) v0 w9)
  else (mX12_reads_89 v0 v1 v2 v3 v4 (0 : Int32) (w9 v0 11) v0 w9)
def mX12_reads (v0 : Nat) (v1 : Int32) (w : zWd) : Option (Unit × zWd) :=
  zgd (zin ((1600 : Int32) + v1) 21948) <|
  zbn (((8 : Int32) * v1) + (w (v0 + 1) ((1600 : Int32) + v1).toNatClampNeg)) fun x1 =>
  zcl (mX12_word v0 w) fun r2 w3 =>
  zgd (zin ((1612 : Int32) + x1) 21948) <|
  zbn (zup w3 (v0 + 1) ((1612 : Int32) + x1).toNatClampNeg r2) fun w4 =>
  if (w4 v0 12) = 0 then (if r2 = (5 : Int32) then (zcl (mX12_here v0 w4) fun r5 w6 =>
  zcl (mX12_in r5 (48 : Int32) (50 : Int32) w6) fun r7 w8 =>
  if r7 = 0 then (mX12_reads_69 v0 v1 x1 r2 r5 (1 : Int32) v0 w8)
  else (mX12_reads_69 v0 v1 x1 r2 r5 (0 : Int32) v0 w8))
  else (zcl (mX12_number v0 w4) fun r18 w19 =>
  zgd (zin ((1700 : Int32) + x1) 21948) <|
  zbn (zup w19 (v0 + 1) ((1700 : Int32) + x1).toNatClampNeg r18) fun w20 =>
  mX12_reads_125 v0 v1 x1 r2 w20))
  else (some ((), w4))
def mX12_readsOrder_215 (s0 : Int32) (w : zWd) : Option (Int32 × zWd) :=
  zgd (zB s0) (some (s0, w))
def mX12_readsOrder_200 (v0 : Nat) (s0 : Int32) (s1 : Nat) (w : zWd) : Option (Int32 × zWd) :=
  zgd (zB s0) <|
  zbn (zup w s1 12 s0) fun w12 =>
  if (w12 v0 12) = 0 then (mX12_readsOrder_215 (1 : Int32) w12)
  else (mX12_readsOrder_215 (0 : Int32) w12)
def mX12_readsOrder_195 (v0 : Nat) (s0 : Nat) (w : zWd) : Option (Int32 × zWd) :=
  mX12_readsOrder_200 v0 (1 : Int32) s0 w
def mX12_readsOrder_170 (v0 : Nat) (v1 : Int32) (w : zWd) : Option (Int32 × zWd) :=
  if (w v0 12) = 0 then (zgd (zin ((252 : Int32) + v1) 21948) <|
  if (w v0 11) = (w (v0 + 1) ((252 : Int32) + v1).toNatClampNeg) then (mX12_readsOrder_200 v0 (0 : Int32) v0 w)
  else (mX12_readsOrder_195 v0 v0 w))
  else (mX12_readsOrder_195 v0 v0 w)
def mX12_readsOrder_121b (v0 : Nat) (v1 : Int32) (k121 : zWd → Option (Int32 × zWd)) (w : zWd) : Option (Int32 × zWd) :=
  if (w v0 12) = 0 then (zgd (zin ((1600 : Int32) + v1) 21948) <|
  if (8 : Int32) ≤ (w (v0 + 1) ((1600 : Int32) + v1).toNatClampNeg) then (mX12_readsOrder_170 v0 v1 w)
  else (zcl (mX12_here v0 w) fun r13 w14 =>
  if r13 = (59 : Int32) then (zbn (zup w14 v0 11 ((w14 v0 11) + (1 : Int32))) fun w15 =>
  zcl (mX12_reads v0 v1 w15) fun _ w17 =>
  k121 w17)
  else (mX12_readsOrder_170 v0 v1 w14)))
  else (mX12_readsOrder_170 v0 v1 w)
def mX12_readsOrder_121 (v0 : Nat) (v1 : Int32) (w : zWd) : Option (Int32 × zWd) :=
  zlp (fun k q => mX12_readsOrder_121b v0 v1 k q) zFU (w)
def mX12_readsOrder_30b (v0 : Nat) (v1 : Int32) (k30 : Int32 × zWd → Option (Int32 × zWd)) (v3 : Int32) (w : zWd) : Option (Int32 × zWd) :=
  zgd (zin (6 : Int32) 21948) <|
  if (w (v0 + 1) (6 : Int32).toNatClampNeg) ≤ v3 then (zgd (zin (6 : Int32) 21948) <|
  zbn (zup w (v0 + 1) (6 : Int32).toNatClampNeg (0 : Int32)) fun w3 =>
  zgd (zin ((1600 : Int32) + v1) 21948) <|
  zbn (zup w3 (v0 + 1) ((1600 : Int32) + v1).toNatClampNeg (0 : Int32)) fun w4 =>
  zbn (zup w4 v0 10 v1) fun w5 =>
  zbn (zup w5 v0 11 (0 : Int32)) fun w6 =>
  zbn (zup w6 v0 13 (0 : Int32)) fun w7 =>
  zgd (zB (0 : Int32)) <|
  zbn (zup w7 v0 12 (0 : Int32)) fun w8 =>
  zbn (zup w8 v0 14 (-1 : Int32)) fun w9 =>
  zcl (mX12_reads v0 v1 w9) fun _ w11 =>
  mX12_readsOrder_121 v0 v1 w11)
  else (zgd (zin ((1880 : Int32) + v3) 21948) <|
  zgd (zin (((264 : Int32) + ((120 : Int32) * v1)) + v3) 21948) <|
  zbn (zup w (v0 + 1) (((264 : Int32) + ((120 : Int32) * v1)) + v3).toNatClampNeg (w (v0 + 1) ((1880 : Int32) + v3).toNatClampNeg)) fun w18 =>
  k30 (v3 + (1 : Int32), w18))
def mX12_readsOrder_30 (v0 : Nat) (v1 : Int32) (v3 : Int32) (w : zWd) : Option (Int32 × zWd) :=
  zlp (fun k q => mX12_readsOrder_30b v0 v1 k q.1 q.2) zFU (v3, w)
def mX12_readsOrder (v0 : Nat) (v1 : Int32) (v2 : Int32) (w : zWd) : Option (Int32 × zWd) :=
  zgd (zin ((240 : Int32) + v1) 21948) <|
  zbn (zup w (v0 + 1) ((240 : Int32) + v1).toNatClampNeg v2) fun w1 =>
  zgd (zin (6 : Int32) 21948) <|
  zgd (zin ((252 : Int32) + v1) 21948) <|
  zbn (zup w1 (v0 + 1) ((252 : Int32) + v1).toNatClampNeg (w1 (v0 + 1) (6 : Int32).toNatClampNeg)) fun w2 =>
  mX12_readsOrder_30 v0 v1 (0 : Int32) w2
def mX12_text (v0 : Nat) (v1 : Int32) (w : zWd) : Option (Int32 × zWd) :=
  zcl (mX12_isDay v1 w) fun r1 w2 =>
  if r1 = 0 then (some ((-2 : Int32), w2))
  else (zgd (zin (2 : Int32) 21948) <|
  if (w2 (v0 + 1) (2 : Int32).toNatClampNeg) = (10 : Int32) then (some ((-4 : Int32), w2))
  else (zgd (zin (2 : Int32) 21948) <|
  zcl (mX12_readsOrder v0 (w2 (v0 + 1) (2 : Int32).toNatClampNeg) v1 w2) fun r3 w4 =>
  if r3 = 0 then (some ((-10 : Int32) - (w4 v0 11), w4))
  else (zgd (zin (2 : Int32) 21948) <|
  zgd (zin (2 : Int32) 21948) <|
  zbn (zup w4 (v0 + 1) (2 : Int32).toNatClampNeg ((w4 (v0 + 1) (2 : Int32).toNatClampNeg) + (1 : Int32))) fun w5 =>
  zgd (zin (2 : Int32) 21948) <|
  some ((w5 (v0 + 1) (2 : Int32).toNatClampNeg) - (1 : Int32), w5))))
def mX12_force_21 (w : zWd) : Option (Int32 × zWd) :=
  some ((-1 : Int32), w)
def mX12_force_42 (s0 : Int32) (w : zWd) : Option (Int32 × zWd) :=
  some (s0, w)
def mX12_force_23 (v0 : Nat) (v1 : Int32) (v2 : Int32) (v3 : Int32) (w : zWd) : Option (Int32 × zWd) :=
  zcl (mX12_isDay v3 w) fun r5 w6 =>
  if r5 = 0 then (mX12_force_42 (-2 : Int32) w6)
  else (zcl (mX12_ruleFor v0 v1 v2 v3 w6) fun r7 w8 =>
  mX12_force_42 r7 w8)
def mX12_force (v0 : Nat) (v1 : Int32) (v2 : Int32) (v3 : Int32) (w : zWd) : Option (Int32 × zWd) :=
  zcl (mX12_in v1 (0 : Int32) (5 : Int32) w) fun r1 w2 =>
  if r1 = 0 then (mX12_force_21 w2)
  else (if v1 = 0 then (zcl (mX12_isTaker v0 v2 w2) fun r3 w4 =>
  if r3 = 0 then (mX12_force_21 w4)
  else (mX12_force_23 v0 v1 v2 v3 w4))
  else (mX12_force_23 v0 v1 v2 v3 w2))
def mX12_why_21 (w : zWd) : Option (Int32 × zWd) :=
  some ((-1 : Int32), w)
def mX12_why_67 (s0 : Int32) (w : zWd) : Option (Int32 × zWd) :=
  some (s0, w)
def mX12_why_23 (v0 : Nat) (v1 : Int32) (v2 : Int32) (v3 : Int32) (w : zWd) : Option (Int32 × zWd) :=
  zcl (mX12_isDay v3 w) fun r5 w6 =>
  if r5 = 0 then (some ((-2 : Int32), w6))
  else (zcl (mX12_ruling v0 v1 v2 v3 w6) fun r7 w8 =>
  if r7 = (-1 : Int32) then (mX12_why_67 (-5 : Int32) w8)
  else (mX12_why_67 (((100 : Int32) * (r7 / (8 : Int32))) + (r7 - r7 / (8 : Int32) * (8 : Int32))) w8))
def mX12_why (v0 : Nat) (v1 : Int32) (v2 : Int32) (v3 : Int32) (w : zWd) : Option (Int32 × zWd) :=
  zcl (mX12_in v1 (0 : Int32) (5 : Int32) w) fun r1 w2 =>
  if r1 = 0 then (mX12_why_21 w2)
  else (if v1 = 0 then (zcl (mX12_isTaker v0 v2 w2) fun r3 w4 =>
  if r3 = 0 then (mX12_why_21 w4)
  else (mX12_why_23 v0 v1 v2 v3 w4))
  else (mX12_why_23 v0 v1 v2 v3 w2))
def mX12_taker_19 (w : zWd) : Option (Int32 × zWd) :=
  some ((-1 : Int32), w)
def mX12_taker_57 (w : zWd) : Option (Int32 × zWd) :=
  some ((-2 : Int32), w)
def mX12_taker (v0 : Nat) (v1 : Int32) (v2 : Int32) (v3 : Int32) (v4 : Int32) (v5 : Int32) (w : zWd) : Option (Int32 × zWd) :=
  zcl (mX12_in v1 (0 : Int32) (5 : Int32) w) fun r1 w2 =>
  if r1 = 0 then (mX12_taker_19 w2)
  else (zcl (mX12_in v2 (0 : Int32) (11 : Int32) w2) fun r3 w4 =>
  if r3 = 0 then (mX12_taker_19 w4)
  else (zcl (mX12_in v3 (1 : Int32) (4 : Int32) w4) fun r5 w6 =>
  if r5 = 0 then (mX12_taker_57 w6)
  else (zcl (mX12_in v4 (0 : Int32) (1500 : Int32) w6) fun r7 w8 =>
  if r7 = 0 then (mX12_taker_57 w8)
  else (zgd (zin (0 : Int32) 21948) <|
  zcl (mX12_in v5 (0 : Int32) (w8 (v0 + 1) (0 : Int32).toNatClampNeg) w8) fun r9 w10 =>
  if r9 = 0 then (mX12_taker_57 w10)
  else (zgd (zin (3 : Int32) 21948) <|
  if (w10 (v0 + 1) (3 : Int32).toNatClampNeg) = (8 : Int32) then (some ((-4 : Int32), w10))
  else (zgd (zin (3 : Int32) 21948) <|
  zbn (w10 (v0 + 1) (3 : Int32).toNatClampNeg) fun x11 =>
  zgd (zin ((2000 : Int32) + x11) 21948) <|
  zbn (zup w10 (v0 + 1) ((2000 : Int32) + x11).toNatClampNeg v1) fun w12 =>
  zgd (zin ((2008 : Int32) + x11) 21948) <|
  zbn (zup w12 (v0 + 1) ((2008 : Int32) + x11).toNatClampNeg v2) fun w13 =>
  zgd (zin ((2016 : Int32) + x11) 21948) <|
  zbn (zup w13 (v0 + 1) ((2016 : Int32) + x11).toNatClampNeg v3) fun w14 =>
  zgd (zin ((2024 : Int32) + x11) 21948) <|
  zbn (zup w14 (v0 + 1) ((2024 : Int32) + x11).toNatClampNeg v4) fun w15 =>
  zgd (zin ((2032 : Int32) + x11) 21948) <|
  zbn (zup w15 (v0 + 1) ((2032 : Int32) + x11).toNatClampNeg v5) fun w16 =>
  zgd (zin ((2040 : Int32) + x11) 21948) <|
  zbn (zup w16 (v0 + 1) ((2040 : Int32) + x11).toNatClampNeg (0 : Int32)) fun w17 =>
  zgd (zin (3 : Int32) 21948) <|
  zgd (zin (3 : Int32) 21948) <|
  zbn (zup w17 (v0 + 1) (3 : Int32).toNatClampNeg ((w17 (v0 + 1) (3 : Int32).toNatClampNeg) + (1 : Int32))) fun w18 =>
  some (x11, w18)))))))
def mX12_needsOf_77 (v3 : Int32) (w : zWd) : Option (Int32 × zWd) :=
  some (v3, w)
def mX12_needsOf_25 (v0 : Nat) (v1 : Int32) (v2 : Int32) (s0 : Int32) (w : zWd) : Option (Int32 × zWd) :=
  zgd (zin ((2000 : Int32) + v1) 21948) <|
  if (w (v0 + 1) ((2000 : Int32) + v1).toNatClampNeg) = (1 : Int32) then (some (v2 + (10 : Int32), w))
  else if (w (v0 + 1) ((2000 : Int32) + v1).toNatClampNeg) = (2 : Int32) then (mX12_needsOf_77 s0 w)
  else if (w (v0 + 1) ((2000 : Int32) + v1).toNatClampNeg) = (3 : Int32) then (some (v2 / (2 : Int32), w))
  else if (w (v0 + 1) ((2000 : Int32) + v1).toNatClampNeg) = (4 : Int32) then (mX12_needsOf_77 s0 w)
  else if (w (v0 + 1) ((2000 : Int32) + v1).toNatClampNeg) = (5 : Int32) then (some (s0 + (5 : Int32), w))
  else (some (v2, w))
def mX12_needsOf (v0 : Nat) (v1 : Int32) (w : zWd) : Option (Int32 × zWd) :=
  zgd (zin ((2024 : Int32) + v1) 21948) <|
  zbn (w (v0 + 1) ((2024 : Int32) + v1).toNatClampNeg) fun x1 =>
  if (20 : Int32) ≤ x1 then (mX12_needsOf_25 v0 v1 x1 (x1 - (20 : Int32)) w)
  else (mX12_needsOf_25 v0 v1 x1 (0 : Int32) w)
def mX12_rankOf_37 (s0 : Int32) (s1 : Int32) (w : zWd) : Option (Int32 × zWd) :=
  some (s1 - s0, w)
def mX12_rankOf (v0 : Nat) (v1 : Int32) (v2 : Int32) (w : zWd) : Option (Int32 × zWd) :=
  zgd (zin ((2000 : Int32) + v1) 21948) <|
  zbn (w (v0 + 1) ((2000 : Int32) + v1).toNatClampNeg) fun x1 =>
  zcl (mX12_ruleFor v0 (0 : Int32) v1 v2 w) fun r2 w3 =>
  if x1 = (4 : Int32) then (mX12_rankOf_37 (1 : Int32) r2 w3)
  else (if x1 = (5 : Int32) then (mX12_rankOf_37 (2 : Int32) r2 w3)
  else (mX12_rankOf_37 (0 : Int32) r2 w3))
def mX12_rows_124 (k2 : Int32 × zWd → Option (Unit × zWd)) (v0 : Nat) (v1 : Int32) (v2 : Int32) (v3 : Int32) (w : zWd) : Option (Unit × zWd) :=
  zgd (zin v3 8) <|
  zbn (zup w (v0 + 9) v3.toNatClampNeg v2) fun w4 =>
  k2 (v2 + (1 : Int32), w4)
def mX12_rows_104 (k2 : Int32 × zWd → Option (Unit × zWd)) (k26 : Int32 × zWd → Option (Unit × zWd)) (v0 : Nat) (v1 : Int32) (v2 : Int32) (v3 : Int32) (w : zWd) : Option (Unit × zWd) :=
  zgd (zin (v3 - (1 : Int32)) 8) <|
  zgd (zin v3 8) <|
  zbn (zup w (v0 + 9) v3.toNatClampNeg (w (v0 + 9) (v3 - (1 : Int32)).toNatClampNeg)) fun w5 =>
  k26 (v3 + (-1 : Int32), w5)
def mX12_rows_26b (k2 : Int32 × zWd → Option (Unit × zWd)) (v0 : Nat) (v1 : Int32) (v2 : Int32) (k26 : Int32 × zWd → Option (Unit × zWd)) (v3 : Int32) (w : zWd) : Option (Unit × zWd) :=
  if v3 ≤ 0 then (mX12_rows_124 k2 v0 v1 v2 v3 w)
  else (zgd (zin (v3 - (1 : Int32)) 8) <|
  zgd (zin (w (v0 + 9) (v3 - (1 : Int32)).toNatClampNeg) 8) <|
  zgd (zin v2 8) <|
  if (w (v0 + 10) v2.toNatClampNeg) < (w (v0 + 10) (w (v0 + 9) (v3 - (1 : Int32)).toNatClampNeg).toNatClampNeg) then (mX12_rows_104 k2 k26 v0 v1 v2 v3 w)
  else (zgd (zin (v3 - (1 : Int32)) 8) <|
  zgd (zin (w (v0 + 9) (v3 - (1 : Int32)).toNatClampNeg) 8) <|
  zgd (zin v2 8) <|
  if (w (v0 + 10) (w (v0 + 9) (v3 - (1 : Int32)).toNatClampNeg).toNatClampNeg) = (w (v0 + 10) v2.toNatClampNeg) then (zgd (zin (v3 - (1 : Int32)) 8) <|
  zgd (zin ((2032 : Int32) + (w (v0 + 9) (v3 - (1 : Int32)).toNatClampNeg)) 21948) <|
  zgd (zin ((2032 : Int32) + v2) 21948) <|
  if (w (v0 + 1) ((2032 : Int32) + (w (v0 + 9) (v3 - (1 : Int32)).toNatClampNeg)).toNatClampNeg) ≤ (w (v0 + 1) ((2032 : Int32) + v2).toNatClampNeg) then (mX12_rows_124 k2 v0 v1 v2 v3 w)
  else (mX12_rows_104 k2 k26 v0 v1 v2 v3 w))
  else (mX12_rows_124 k2 v0 v1 v2 v3 w)))
def mX12_rows_26 (k2 : Int32 × zWd → Option (Unit × zWd)) (v0 : Nat) (v1 : Int32) (v2 : Int32) (v3 : Int32) (w : zWd) : Option (Unit × zWd) :=
  zlp (fun k q => mX12_rows_26b k2 v0 v1 v2 k q.1 q.2) zFU (v3, w)
def mX12_rows_2b (v0 : Nat) (v1 : Int32) (k2 : Int32 × zWd → Option (Unit × zWd)) (v2 : Int32) (w : zWd) : Option (Unit × zWd) :=
  zgd (zin (3 : Int32) 21948) <|
  if (w (v0 + 1) (3 : Int32).toNatClampNeg) ≤ v2 then (some ((), w))
  else (zcl (mX12_rankOf v0 v2 v1 w) fun r1 w2 =>
  zgd (zin v2 8) <|
  zbn (zup w2 (v0 + 10) v2.toNatClampNeg r1) fun w3 =>
  mX12_rows_26 k2 v0 v1 v2 v2 w3)
def mX12_rows_2 (v0 : Nat) (v1 : Int32) (v2 : Int32) (w : zWd) : Option (Unit × zWd) :=
  zlp (fun k q => mX12_rows_2b v0 v1 k q.1 q.2) zFU (v2, w)
def mX12_rows (v0 : Nat) (v1 : Int32) (w : zWd) : Option (Unit × zWd) :=
  mX12_rows_2 v0 v1 (0 : Int32) w
def mX12_of_66b (v0 : Nat) (v1 : Int32) (k66 : Int32 × zWd → Option (Int32 × zWd)) (v3 : Int32) (w : zWd) : Option (Int32 × zWd) :=
  zgd (zin v3 8) <|
  if (w (v0 + 9) v3.toNatClampNeg) = v1 then (some (v3, w))
  else (k66 (v3 + (1 : Int32), w))
def mX12_of_66 (v0 : Nat) (v1 : Int32) (v3 : Int32) (w : zWd) : Option (Int32 × zWd) :=
  zlp (fun k q => mX12_of_66b v0 v1 k q.1 q.2) zFU (v3, w)
def mX12_of (v0 : Nat) (v1 : Int32) (v2 : Int32) (w : zWd) : Option (Int32 × zWd) :=
  zcl (mX12_isTaker v0 v1 w) fun r1 w2 =>
  if r1 = 0 then (some ((-1 : Int32), w2))
  else (if v2 = (0 : Int32) then (zcl (mX12_needsOf v0 v1 w2) fun r3 w4 =>
  some (r3, w4))
  else if v2 = (1 : Int32) then (zgd (zin (0 : Int32) 21948) <|
  zcl (mX12_rankOf v0 v1 (w2 (v0 + 1) (0 : Int32).toNatClampNeg) w2) fun r5 w6 =>
  some (r5, w6))
  else if v2 = (2 : Int32) then (zgd (zin (0 : Int32) 21948) <|
  zcl (mX12_rows v0 (w2 (v0 + 1) (0 : Int32).toNatClampNeg) w2) fun _ w8 =>
  mX12_of_66 v0 v1 (0 : Int32) w8)
  else (some ((-1 : Int32), w2)))
def mX12_as_17 (w : zWd) : Option (Int32 × zWd) :=
  some ((-1 : Int32), w)
def mX12_as_86 (s0 : Int32) (w : zWd) : Option (Int32 × zWd) :=
  some (s0, w)
def mX12_as_64 (v0 : Nat) (v1 : Int32) (s0 : Int32) (w : zWd) : Option (Int32 × zWd) :=
  if s0 = 0 then (mX12_as_86 (-6 : Int32) w)
  else (zgd (zin ((2016 : Int32) + v1) 21948) <|
  mX12_as_86 (w (v0 + 1) ((2016 : Int32) + v1).toNatClampNeg) w)
def mX12_as_59 (v0 : Nat) (v1 : Int32) (w : zWd) : Option (Int32 × zWd) :=
  mX12_as_64 v0 v1 (1 : Int32) w
def mX12_as_63 (v0 : Nat) (v1 : Int32) (w : zWd) : Option (Int32 × zWd) :=
  mX12_as_64 v0 v1 (0 : Int32) w
def mX12_as_49 (v0 : Nat) (v1 : Int32) (v2 : Int32) (v3 : Int32) (w : zWd) : Option (Int32 × zWd) :=
  if v2 = (4 : Int32) then (if v3 = (5 : Int32) then (mX12_as_59 v0 v1 w)
  else (mX12_as_63 v0 v1 w))
  else (mX12_as_63 v0 v1 w)
def mX12_as (v0 : Nat) (v1 : Int32) (v2 : Int32) (w : zWd) : Option (Int32 × zWd) :=
  zcl (mX12_isTaker v0 v1 w) fun r1 w2 =>
  if r1 = 0 then (mX12_as_17 w2)
  else (zcl (mX12_in v2 (0 : Int32) (5 : Int32) w2) fun r3 w4 =>
  if r3 = 0 then (mX12_as_17 w4)
  else (zgd (zin ((2000 : Int32) + v1) 21948) <|
  zbn (w4 (v0 + 1) ((2000 : Int32) + v1).toNatClampNeg) fun x5 =>
  if v2 = 0 then (mX12_as_59 v0 v1 w4)
  else (if v2 = x5 then (mX12_as_59 v0 v1 w4)
  else (if v2 = (2 : Int32) then (if (4 : Int32) ≤ x5 then (mX12_as_59 v0 v1 w4)
  else (mX12_as_49 v0 v1 v2 x5 w4))
  else (mX12_as_49 v0 v1 v2 x5 w4)))))
def mX12_row (v0 : Nat) (v1 : Int32) (v2 : Int32) (w : zWd) : Option (Int32 × zWd) :=
  zgd (zin (3 : Int32) 21948) <|
  zcl (mX12_in v2 (0 : Int32) ((w (v0 + 1) (3 : Int32).toNatClampNeg) - (1 : Int32)) w) fun r1 w2 =>
  if r1 = 0 then (some ((-1 : Int32), w2))
  else (zcl (mX12_isDay v1 w2) fun r3 w4 =>
  if r3 = 0 then (some ((-2 : Int32), w4))
  else (zcl (mX12_rows v0 v1 w4) fun _ w6 =>
  zgd (zin v2 8) <|
  some (w6 (v0 + 9) v2.toNatClampNeg, w6)))
def mX12_isOwner (v0 : Int32) (w : zWd) : Option (Int32 × zWd) :=
  zcl (mX12_in v0 (0 : Int32) (9 : Int32) w) fun r1 w2 =>
  zgd (zB r1) (some (r1, w2))
def mX12_sell_22 (w : zWd) : Option (Int32 × zWd) :=
  some ((-1 : Int32), w)
def mX12_sell_44 (w : zWd) : Option (Int32 × zWd) :=
  some ((-2 : Int32), w)
def mX12_sell (v0 : Nat) (v1 : Int32) (v2 : Int32) (v3 : Int32) (v4 : Int32) (w : zWd) : Option (Int32 × zWd) :=
  zcl (mX12_isTaker v0 v1 w) fun r1 w2 =>
  if r1 = 0 then (mX12_sell_22 w2)
  else (zcl (mX12_isOwner v2 w2) fun r3 w4 =>
  if r3 = 0 then (mX12_sell_22 w4)
  else (zcl (mX12_isOwner v3 w4) fun r5 w6 =>
  if r5 = 0 then (mX12_sell_22 w6)
  else (zgd (zin (0 : Int32) 21948) <|
  zcl (mX12_in v4 (0 : Int32) (w6 (v0 + 1) (0 : Int32).toNatClampNeg) w6) fun r7 w8 =>
  if r7 = 0 then (mX12_sell_44 w8)
  else (if v2 = v3 then (mX12_sell_44 w8)
  else (zgd (zin (4 : Int32) 21948) <|
  if (w8 (v0 + 1) (4 : Int32).toNatClampNeg) = (30 : Int32) then (some ((-4 : Int32), w8))
  else (zgd (zin (4 : Int32) 21948) <|
  zbn (w8 (v0 + 1) (4 : Int32).toNatClampNeg) fun x9 =>
  zgd (zin ((2210 : Int32) + x9) 21948) <|
  zbn (zup w8 (v0 + 1) ((2210 : Int32) + x9).toNatClampNeg v1) fun w10 =>
  zgd (zin ((2240 : Int32) + x9) 21948) <|
  zbn (zup w10 (v0 + 1) ((2240 : Int32) + x9).toNatClampNeg v2) fun w11 =>
  zgd (zin ((2270 : Int32) + x9) 21948) <|
  zbn (zup w11 (v0 + 1) ((2270 : Int32) + x9).toNatClampNeg v3) fun w12 =>
  zgd (zin ((2300 : Int32) + x9) 21948) <|
  zbn (zup w12 (v0 + 1) ((2300 : Int32) + x9).toNatClampNeg v4) fun w13 =>
  zgd (zin (4 : Int32) 21948) <|
  zgd (zin (4 : Int32) 21948) <|
  zbn (zup w13 (v0 + 1) (4 : Int32).toNatClampNeg ((w13 (v0 + 1) (4 : Int32).toNatClampNeg) + (1 : Int32))) fun w14 =>
  zgd (zin (4 : Int32) 21948) <|
  some (w14 (v0 + 1) (4 : Int32).toNatClampNeg, w14)))))))
def mX12_whose_22 (w : zWd) : Option (Int32 × zWd) :=
  some ((-1 : Int32), w)
def mX12_whose_148 (k57 : Int32 × Int32 × zWd → Option (Int32 × zWd)) (k66 : Int32 × Int32 × zWd → Option (Int32 × zWd)) (v0 : Nat) (v1 : Int32) (v2 : Int32) (v4 : Int32) (v6 : Int32) (v7 : Int32) (s0 : Int32) (w : zWd) : Option (Int32 × zWd) :=
  k66 (s0, v7 + (1 : Int32), w)
def mX12_whose_125 (k57 : Int32 × Int32 × zWd → Option (Int32 × zWd)) (k66 : Int32 × Int32 × zWd → Option (Int32 × zWd)) (v0 : Nat) (v1 : Int32) (v2 : Int32) (v4 : Int32) (v5 : Int32) (v6 : Int32) (v7 : Int32) (s0 : Int32) (w : zWd) : Option (Int32 × zWd) :=
  if s0 = 0 then (mX12_whose_148 k57 k66 v0 v1 v2 v4 v6 v7 v5 w)
  else (zgd (zin ((2270 : Int32) + v7) 21948) <|
  mX12_whose_148 k57 k66 v0 v1 v2 v4 v6 v7 (w (v0 + 1) ((2270 : Int32) + v7).toNatClampNeg) w)
def mX12_whose_124 (k57 : Int32 × Int32 × zWd → Option (Int32 × zWd)) (k66 : Int32 × Int32 × zWd → Option (Int32 × zWd)) (v0 : Nat) (v1 : Int32) (v2 : Int32) (v4 : Int32) (v5 : Int32) (v6 : Int32) (v7 : Int32) (w : zWd) : Option (Int32 × zWd) :=
  mX12_whose_125 k57 k66 v0 v1 v2 v4 v5 v6 v7 (0 : Int32) w
def mX12_whose_66b (k57 : Int32 × Int32 × zWd → Option (Int32 × zWd)) (v0 : Nat) (v1 : Int32) (v2 : Int32) (v4 : Int32) (v6 : Int32) (k66 : Int32 × Int32 × zWd → Option (Int32 × zWd)) (v5 : Int32) (v7 : Int32) (w : zWd) : Option (Int32 × zWd) :=
  if v4 ≤ v7 then (k57 (v5, v6 + (1 : Int32), w))
  else (zgd (zin ((2210 : Int32) + v7) 21948) <|
  if (w (v0 + 1) ((2210 : Int32) + v7).toNatClampNeg) = v1 then (zgd (zin ((2300 : Int32) + v7) 21948) <|
  if (w (v0 + 1) ((2300 : Int32) + v7).toNatClampNeg) = v6 then (zgd (zin ((2240 : Int32) + v7) 21948) <|
  if (w (v0 + 1) ((2240 : Int32) + v7).toNatClampNeg) = v5 then (mX12_whose_125 k57 k66 v0 v1 v2 v4 v5 v6 v7 (1 : Int32) w)
  else (mX12_whose_124 k57 k66 v0 v1 v2 v4 v5 v6 v7 w))
  else (mX12_whose_124 k57 k66 v0 v1 v2 v4 v5 v6 v7 w))
  else (mX12_whose_124 k57 k66 v0 v1 v2 v4 v5 v6 v7 w))
def mX12_whose_66 (k57 : Int32 × Int32 × zWd → Option (Int32 × zWd)) (v0 : Nat) (v1 : Int32) (v2 : Int32) (v4 : Int32) (v6 : Int32) (v5 : Int32) (v7 : Int32) (w : zWd) : Option (Int32 × zWd) :=
  zlp (fun k q => mX12_whose_66b k57 v0 v1 v2 v4 v6 k q.1 q.2.1 q.2.2) zFU (v5, v7, w)
def mX12_whose_57b (v0 : Nat) (v1 : Int32) (v2 : Int32) (v4 : Int32) (k57 : Int32 × Int32 × zWd → Option (Int32 × zWd)) (v5 : Int32) (v6 : Int32) (w : zWd) : Option (Int32 × zWd) :=
  if v2 < v6 then (some (v5, w))
  else (mX12_whose_66 k57 v0 v1 v2 v4 v6 v5 (0 : Int32) w)
def mX12_whose_57 (v0 : Nat) (v1 : Int32) (v2 : Int32) (v4 : Int32) (v5 : Int32) (v6 : Int32) (w : zWd) : Option (Int32 × zWd) :=
  zlp (fun k q => mX12_whose_57b v0 v1 v2 v4 k q.1 q.2.1 q.2.2) zFU (v5, v6, w)
def mX12_whose_49 (v0 : Nat) (v1 : Int32) (v2 : Int32) (s0 : Int32) (w : zWd) : Option (Int32 × zWd) :=
  mX12_whose_57 v0 v1 v2 s0 (0 : Int32) (0 : Int32) w
def mX12_whose (v0 : Nat) (v1 : Int32) (v2 : Int32) (v3 : Int32) (w : zWd) : Option (Int32 × zWd) :=
  zcl (mX12_isTaker v0 v1 w) fun r1 w2 =>
  if r1 = 0 then (mX12_whose_22 w2)
  else (zgd (zin (4 : Int32) 21948) <|
  zcl (mX12_in v3 (-1 : Int32) (w2 (v0 + 1) (4 : Int32).toNatClampNeg) w2) fun r3 w4 =>
  if r3 = 0 then (mX12_whose_22 w4)
  else (zcl (mX12_isDay v2 w4) fun r5 w6 =>
  if r5 = 0 then (some ((-2 : Int32), w6))
  else (if v3 = (-1 : Int32) then (zgd (zin (4 : Int32) 21948) <|
  mX12_whose_49 v0 v1 v2 (w6 (v0 + 1) (4 : Int32).toNatClampNeg) w6)
  else (mX12_whose_49 v0 v1 v2 v3 w6))))
def mX12_used_38b (v0 : Nat) (v1 : Int32) (v2 : Int32) (k38 : Int32 × zWd → Option (Int32 × zWd)) (v3 : Int32) (w : zWd) : Option (Int32 × zWd) :=
  zgd (zin ((2040 : Int32) + v1) 21948) <|
  if (w (v0 + 1) ((2040 : Int32) + v1).toNatClampNeg) ≤ v3 then (zgd (zin ((2040 : Int32) + v1) 21948) <|
  if (w (v0 + 1) ((2040 : Int32) + v1).toNatClampNeg) = (20 : Int32) then (some ((-4 : Int32), w))
  else (zgd (zin ((2040 : Int32) + v1) 21948) <|
  zgd (zin (((2048 : Int32) + ((20 : Int32) * v1)) + (w (v0 + 1) ((2040 : Int32) + v1).toNatClampNeg)) 21948) <|
  zbn (zup w (v0 + 1) (((2048 : Int32) + ((20 : Int32) * v1)) + (w (v0 + 1) ((2040 : Int32) + v1).toNatClampNeg)).toNatClampNeg v2) fun w5 =>
  zgd (zin ((2040 : Int32) + v1) 21948) <|
  zgd (zin ((2040 : Int32) + v1) 21948) <|
  zbn (zup w5 (v0 + 1) ((2040 : Int32) + v1).toNatClampNeg ((w5 (v0 + 1) ((2040 : Int32) + v1).toNatClampNeg) + (1 : Int32))) fun w6 =>
  zgd (zin ((2040 : Int32) + v1) 21948) <|
  some (w6 (v0 + 1) ((2040 : Int32) + v1).toNatClampNeg, w6)))
  else (zgd (zin (((2048 : Int32) + ((20 : Int32) * v1)) + v3) 21948) <|
  if (w (v0 + 1) (((2048 : Int32) + ((20 : Int32) * v1)) + v3).toNatClampNeg) = v2 then (some ((-3 : Int32), w))
  else (k38 (v3 + (1 : Int32), w)))
def mX12_used_38 (v0 : Nat) (v1 : Int32) (v2 : Int32) (v3 : Int32) (w : zWd) : Option (Int32 × zWd) :=
  zlp (fun k q => mX12_used_38b v0 v1 v2 k q.1 q.2) zFU (v3, w)
def mX12_used (v0 : Nat) (v1 : Int32) (v2 : Int32) (w : zWd) : Option (Int32 × zWd) :=
  zcl (mX12_isTaker v0 v1 w) fun r1 w2 =>
  if r1 = 0 then (some ((-1 : Int32), w2))
  else (zgd (zin ((2032 : Int32) + v1) 21948) <|
  zgd (zin (0 : Int32) 21948) <|
  zcl (mX12_in v2 (w2 (v0 + 1) ((2032 : Int32) + v1).toNatClampNeg) (w2 (v0 + 1) (0 : Int32).toNatClampNeg) w2) fun r3 w4 =>
  if r3 = 0 then (some ((-2 : Int32), w4))
  else (mX12_used_38 v0 v1 v2 (0 : Int32) w4))
def mX12_lapsed_109 (s0 : Int32) (w : zWd) : Option (Int32 × zWd) :=
  some (s0, w)
def mX12_lapsed_85 (k34 : Int32 × Int32 × zWd → Option (Int32 × zWd)) (v0 : Nat) (v1 : Int32) (v2 : Int32) (v4 : Int32) (s0 : Int32) (w : zWd) : Option (Int32 × zWd) :=
  k34 (s0, v4 + (1 : Int32), w)
def mX12_lapsed_84 (k34 : Int32 × Int32 × zWd → Option (Int32 × zWd)) (v0 : Nat) (v1 : Int32) (v2 : Int32) (v3 : Int32) (v4 : Int32) (w : zWd) : Option (Int32 × zWd) :=
  mX12_lapsed_85 k34 v0 v1 v2 v4 v3 w
def mX12_lapsed_34b (v0 : Nat) (v1 : Int32) (v2 : Int32) (k34 : Int32 × Int32 × zWd → Option (Int32 × zWd)) (v3 : Int32) (v4 : Int32) (w : zWd) : Option (Int32 × zWd) :=
  zgd (zin ((2040 : Int32) + v1) 21948) <|
  if (w (v0 + 1) ((2040 : Int32) + v1).toNatClampNeg) ≤ v4 then (zcl (mX12_rule v0 (3 : Int32) v2 w) fun r6 w7 =>
  if (v2 - v3) ≤ r6 then (mX12_lapsed_109 (0 : Int32) w7)
  else (mX12_lapsed_109 (1 : Int32) w7))
  else (zgd (zin (((2048 : Int32) + ((20 : Int32) * v1)) + v4) 21948) <|
  zbn (w (v0 + 1) (((2048 : Int32) + ((20 : Int32) * v1)) + v4).toNatClampNeg) fun x8 =>
  if v2 < x8 then (mX12_lapsed_84 k34 v0 v1 v2 v3 v4 w)
  else (if x8 ≤ v3 then (mX12_lapsed_84 k34 v0 v1 v2 v3 v4 w)
  else (mX12_lapsed_85 k34 v0 v1 v2 v4 x8 w)))
def mX12_lapsed_34 (v0 : Nat) (v1 : Int32) (v2 : Int32) (v3 : Int32) (v4 : Int32) (w : zWd) : Option (Int32 × zWd) :=
  zlp (fun k q => mX12_lapsed_34b v0 v1 v2 k q.1 q.2.1 q.2.2) zFU (v3, v4, w)
def mX12_lapsed (v0 : Nat) (v1 : Int32) (v2 : Int32) (w : zWd) : Option (Int32 × zWd) :=
  zcl (mX12_isTaker v0 v1 w) fun r1 w2 =>
  if r1 = 0 then (some ((-1 : Int32), w2))
  else (zcl (mX12_isDay v2 w2) fun r3 w4 =>
  if r3 = 0 then (some ((-2 : Int32), w4))
  else (zgd (zin ((2032 : Int32) + v1) 21948) <|
  zbn (w4 (v0 + 1) ((2032 : Int32) + v1).toNatClampNeg) fun x5 =>
  mX12_lapsed_34 v0 v1 v2 x5 (0 : Int32) w4))
def mX12_without_10b (v0 : Nat) (k10 : Int32 × Int32 × Int32 × Int32 × zWd → Option (Int32 × zWd)) (v2 : Int32) (v3 : Int32) (v4 : Int32) (v5 : Int32) (w : zWd) : Option (Int32 × zWd) :=
  if (4 : Int32) ≤ v5 then (some (v3, w))
  else (zgd (zin v5 4) <|
  zbn ((v2 - v2 / (7 : Int32) * (7 : Int32)) - (w (v0 + 14) v5.toNatClampNeg)) fun x1 =>
  if 0 ≤ x1 then (zbn (v3 + (v4 * x1)) fun x2 =>
  zbn (v4 * (7 : Int32)) fun x3 =>
  zbn (v2 / (7 : Int32)) fun x4 =>
  k10 (x4, x2, x3, v5 + (1 : Int32), w))
  else (some ((-1 : Int32), w)))
def mX12_without_10 (v0 : Nat) (v2 : Int32) (v3 : Int32) (v4 : Int32) (v5 : Int32) (w : zWd) : Option (Int32 × zWd) :=
  zlp (fun k q => mX12_without_10b v0 k q.1 q.2.1 q.2.2.1 q.2.2.2.1 q.2.2.2.2) zFU (v2, v3, v4, v5, w)
def mX12_without (v0 : Nat) (v1 : Int32) (w : zWd) : Option (Int32 × zWd) :=
  mX12_without_10 v0 v1 (0 : Int32) (1 : Int32) (0 : Int32) w
def mX12_isWarm_75 (s0 : Int32) (w : zWd) : Option (Int32 × zWd) :=
  zgd (zB s0) (some (s0, w))
def mX12_isWarm_42 (k5 : Int32 × Int32 × zWd → Option (Int32 × zWd)) (v0 : Nat) (v1 : Int32) (v2 : Int32) (v4 : Int32) (s0 : Int32) (s1 : Int32) (w : zWd) : Option (Int32 × zWd) :=
  zbn (s1 + s0) fun x3 =>
  k5 (x3, v4 + (1 : Int32), w)
def mX12_isWarm_5b (v0 : Nat) (v1 : Int32) (v2 : Int32) (k5 : Int32 × Int32 × zWd → Option (Int32 × zWd)) (v3 : Int32) (v4 : Int32) (w : zWd) : Option (Int32 × zWd) :=
  if (4 : Int32) ≤ v4 then (zgd (zin ((2016 : Int32) + v1) 21948) <|
  zcl (mX12_needsOf v0 v1 w) fun r1 w2 =>
  if v3 < ((w (v0 + 1) ((2016 : Int32) + v1).toNatClampNeg) * r1) then (mX12_isWarm_75 (0 : Int32) w2)
  else (mX12_isWarm_75 (1 : Int32) w2))
  else (zgd (zin v4 4) <|
  if (w (v0 + 14) v4.toNatClampNeg) ≤ 0 then (mX12_isWarm_42 k5 v0 v1 v2 v4 (0 : Int32) v3 w)
  else (zgd (zin v4 4) <|
  zcl (mX12_flowOf v0 v4 v2 (3 : Int32) w) fun r4 w5 =>
  mX12_isWarm_42 k5 v0 v1 v2 v4 ((w (v0 + 14) v4.toNatClampNeg) * r4) v3 w5))
def mX12_isWarm_5 (v0 : Nat) (v1 : Int32) (v2 : Int32) (v3 : Int32) (v4 : Int32) (w : zWd) : Option (Int32 × zWd) :=
  zlp (fun k q => mX12_isWarm_5b v0 v1 v2 k q.1 q.2.1 q.2.2) zFU (v3, v4, w)
def mX12_isWarm (v0 : Nat) (v1 : Int32) (v2 : Int32) (w : zWd) : Option (Int32 × zWd) :=
  mX12_isWarm_5 v0 v1 v2 (0 : Int32) (0 : Int32) w
def mX12_serves_269 (v3 : Int32) (w : zWd) : Option (Int32 × zWd) :=
  zgd (zB v3) (some (v3, w))
def mX12_serves_237b (v0 : Nat) (v3 : Int32) (k237 : Int32 × zWd → Option (Int32 × zWd)) (v5 : Int32) (w : zWd) : Option (Int32 × zWd) :=
  if (2401 : Int32) ≤ v5 then (mX12_serves_269 v3 w)
  else (if v3 = 0 then (mX12_serves_269 v3 w)
  else (zgd (zin v5 2401) <|
  zgd (zin v5 2401) <|
  zbn (zup w (v0 + 11) v5.toNatClampNeg (vp_nar .boolean (w (v0 + 12) v5.toNatClampNeg))) fun w2 =>
  k237 (v5 + (1 : Int32), w2)))
def mX12_serves_237 (v0 : Nat) (v3 : Int32) (v5 : Int32) (w : zWd) : Option (Int32 × zWd) :=
  zlp (fun k q => mX12_serves_237b v0 v3 k q.1 q.2) zFU (v5, w)
def mX12_serves_228 (k42 : Int32 × Int32 × zWd → Option (Int32 × zWd)) (v0 : Nat) (v1 : Int32) (v2 : Int32) (v3 : Int32) (v4 : Int32) (v5 : Int32) (w : zWd) : Option (Int32 × zWd) :=
  k42 (v3, v5 + (1 : Int32), w)
def mX12_serves_222 (k42 : Int32 × Int32 × zWd → Option (Int32 × zWd)) (k176 : Int32 × Int32 × zWd → Option (Int32 × zWd)) (v0 : Nat) (v1 : Int32) (v2 : Int32) (v3 : Int32) (v4 : Int32) (v5 : Int32) (v9 : Int32) (w : zWd) : Option (Int32 × zWd) :=
  k176 (v3, v9 + (1 : Int32), w)
def mX12_serves_204 (k42 : Int32 × Int32 × zWd → Option (Int32 × zWd)) (k176 : Int32 × Int32 × zWd → Option (Int32 × zWd)) (v0 : Nat) (v1 : Int32) (v2 : Int32) (v3 : Int32) (v4 : Int32) (v5 : Int32) (v9 : Int32) (s0 : Int32) (w : zWd) : Option (Int32 × zWd) :=
  if s0 = (-1 : Int32) then (mX12_serves_222 k42 k176 v0 v1 v2 v3 v4 v5 v9 w)
  else (zgd (zin s0 2401) <|
  zbn (zup w (v0 + 12) s0.toNatClampNeg (vp_nar .boolean (1 : Int32))) fun w5 =>
  mX12_serves_222 k42 k176 v0 v1 v2 (1 : Int32) v4 v5 v9 w5)
def mX12_serves_176b (k42 : Int32 × Int32 × zWd → Option (Int32 × zWd)) (v0 : Nat) (v1 : Int32) (v2 : Int32) (v4 : Int32) (v5 : Int32) (k176 : Int32 × Int32 × zWd → Option (Int32 × zWd)) (v3 : Int32) (v9 : Int32) (w : zWd) : Option (Int32 × zWd) :=
  if (2401 : Int32) ≤ v9 then (mX12_serves_228 k42 v0 v1 v2 v3 v4 v5 w)
  else (zgd (zin v9 2401) <|
  if (w (v0 + 11) v9.toNatClampNeg) = 0 then (mX12_serves_204 k42 k176 v0 v1 v2 v3 v4 v5 v9 (-1 : Int32) w)
  else (zcl (mX12_without v0 v9 w) fun r6 w7 =>
  mX12_serves_204 k42 k176 v0 v1 v2 v3 v4 v5 v9 r6 w7))
def mX12_serves_176 (k42 : Int32 × Int32 × zWd → Option (Int32 × zWd)) (v0 : Nat) (v1 : Int32) (v2 : Int32) (v4 : Int32) (v5 : Int32) (v3 : Int32) (v9 : Int32) (w : zWd) : Option (Int32 × zWd) :=
  zlp (fun k q => mX12_serves_176b k42 v0 v1 v2 v4 v5 k q.1 q.2.1 q.2.2) zFU (v3, v9, w)
def mX12_serves_151 (k42 : Int32 × Int32 × zWd → Option (Int32 × zWd)) (k118 : Int32 × Int32 × zWd → Option (Int32 × zWd)) (v0 : Nat) (v1 : Int32) (v2 : Int32) (v3 : Int32) (v4 : Int32) (v5 : Int32) (v9 : Int32) (s0 : Int32) (w : zWd) : Option (Int32 × zWd) :=
  k118 (s0, v9 + (1 : Int32), w)
def mX12_serves_150 (k42 : Int32 × Int32 × zWd → Option (Int32 × zWd)) (k118 : Int32 × Int32 × zWd → Option (Int32 × zWd)) (v0 : Nat) (v1 : Int32) (v2 : Int32) (v3 : Int32) (v4 : Int32) (v5 : Int32) (v9 : Int32) (w : zWd) : Option (Int32 × zWd) :=
  mX12_serves_151 k42 k118 v0 v1 v2 v3 v4 v5 v9 (0 : Int32) w
def mX12_serves_118b (k42 : Int32 × Int32 × zWd → Option (Int32 × zWd)) (v0 : Nat) (v1 : Int32) (v2 : Int32) (v3 : Int32) (v4 : Int32) (v5 : Int32) (k118 : Int32 × Int32 × zWd → Option (Int32 × zWd)) (v8 : Int32) (v9 : Int32) (w : zWd) : Option (Int32 × zWd) :=
  if (4 : Int32) ≤ v9 then (if v8 = 0 then (mX12_serves_228 k42 v0 v1 v2 v3 v4 v5 w)
  else (zcl (mX12_isWarm v0 v1 v2 w) fun r3 w4 =>
  if r3 = 0 then (mX12_serves_228 k42 v0 v1 v2 v3 v4 v5 w4)
  else (mX12_serves_176 k42 v0 v1 v2 v4 v5 v3 (0 : Int32) w4)))
  else (if v8 = 0 then (mX12_serves_150 k42 k118 v0 v1 v2 v3 v4 v5 v9 w)
  else (zgd (zin v9 4) <|
  zgd (zin v9 4) <|
  if (w (v0 + 13) v9.toNatClampNeg) < (w (v0 + 14) v9.toNatClampNeg) then (mX12_serves_150 k42 k118 v0 v1 v2 v3 v4 v5 v9 w)
  else (mX12_serves_151 k42 k118 v0 v1 v2 v3 v4 v5 v9 (1 : Int32) w)))
def mX12_serves_118 (k42 : Int32 × Int32 × zWd → Option (Int32 × zWd)) (v0 : Nat) (v1 : Int32) (v2 : Int32) (v3 : Int32) (v4 : Int32) (v5 : Int32) (v8 : Int32) (v9 : Int32) (w : zWd) : Option (Int32 × zWd) :=
  zlp (fun k q => mX12_serves_118b k42 v0 v1 v2 v3 v4 v5 k q.1 q.2.1 q.2.2) zFU (v8, v9, w)
def mX12_serves_113 (k42 : Int32 × Int32 × zWd → Option (Int32 × zWd)) (v0 : Nat) (v1 : Int32) (v2 : Int32) (v3 : Int32) (v4 : Int32) (v5 : Int32) (s0 : Int32) (w : zWd) : Option (Int32 × zWd) :=
  mX12_serves_118 k42 v0 v1 v2 v3 v4 v5 s0 (0 : Int32) w
def mX12_serves_60b (k42 : Int32 × Int32 × zWd → Option (Int32 × zWd)) (v0 : Nat) (v1 : Int32) (v2 : Int32) (v3 : Int32) (v4 : Int32) (v5 : Int32) (k60 : Int32 × Int32 × Int32 × zWd → Option (Int32 × zWd)) (v6 : Int32) (v7 : Int32) (v8 : Int32) (w : zWd) : Option (Int32 × zWd) :=
  if (4 : Int32) ≤ v8 then (if v6 = v4 then (mX12_serves_113 k42 v0 v1 v2 v3 v4 v5 (1 : Int32) w)
  else (mX12_serves_113 k42 v0 v1 v2 v3 v4 v5 (0 : Int32) w))
  else (zgd (zin v8 4) <|
  zbn (zup w (v0 + 14) v8.toNatClampNeg (v7 - v7 / (5 : Int32) * (5 : Int32))) fun w8 =>
  zgd (zin v8 4) <|
  zbn (v6 + (w8 (v0 + 14) v8.toNatClampNeg)) fun x9 =>
  zbn (v7 / (5 : Int32)) fun x10 =>
  k60 (x9, x10, v8 + (1 : Int32), w8))
def mX12_serves_60 (k42 : Int32 × Int32 × zWd → Option (Int32 × zWd)) (v0 : Nat) (v1 : Int32) (v2 : Int32) (v3 : Int32) (v4 : Int32) (v5 : Int32) (v6 : Int32) (v7 : Int32) (v8 : Int32) (w : zWd) : Option (Int32 × zWd) :=
  zlp (fun k q => mX12_serves_60b k42 v0 v1 v2 v3 v4 v5 k q.1 q.2.1 q.2.2.1 q.2.2.2) zFU (v6, v7, v8, w)
def mX12_serves_42b (v0 : Nat) (v1 : Int32) (v2 : Int32) (v4 : Int32) (k42 : Int32 × Int32 × zWd → Option (Int32 × zWd)) (v3 : Int32) (v5 : Int32) (w : zWd) : Option (Int32 × zWd) :=
  if (625 : Int32) ≤ v5 then (mX12_serves_237 v0 v3 (0 : Int32) w)
  else (mX12_serves_60 k42 v0 v1 v2 v3 v4 v5 (0 : Int32) v5 (0 : Int32) w)
def mX12_serves_42 (v0 : Nat) (v1 : Int32) (v2 : Int32) (v4 : Int32) (v3 : Int32) (v5 : Int32) (w : zWd) : Option (Int32 × zWd) :=
  zlp (fun k q => mX12_serves_42b v0 v1 v2 v4 k q.1 q.2.1 q.2.2) zFU (v3, v5, w)
def mX12_serves_5b (v0 : Nat) (v1 : Int32) (v2 : Int32) (v3 : Int32) (k5 : Int32 × zWd → Option (Int32 × zWd)) (v4 : Int32) (w : zWd) : Option (Int32 × zWd) :=
  if (2401 : Int32) ≤ v4 then (zgd (zin ((2016 : Int32) + v1) 21948) <|
  zbn (w (v0 + 1) ((2016 : Int32) + v1).toNatClampNeg) fun x1 =>
  mX12_serves_42 v0 v1 v2 x1 v3 (0 : Int32) w)
  else (zgd (zin v4 2401) <|
  zbn (zup w (v0 + 12) v4.toNatClampNeg (vp_nar .boolean (0 : Int32))) fun w11 =>
  k5 (v4 + (1 : Int32), w11))
def mX12_serves_5 (v0 : Nat) (v1 : Int32) (v2 : Int32) (v3 : Int32) (v4 : Int32) (w : zWd) : Option (Int32 × zWd) :=
  zlp (fun k q => mX12_serves_5b v0 v1 v2 v3 k q.1 q.2) zFU (v4, w)
def mX12_serves (v0 : Nat) (v1 : Int32) (v2 : Int32) (w : zWd) : Option (Int32 × zWd) :=
  mX12_serves_5 v0 v1 v2 (0 : Int32) (0 : Int32) w
def mX12_mixOf_189 (k148 : Int32 × Int32 × zWd → Option (Int32 × zWd)) (v0 : Nat) (v1 : Int32) (v6 : Int32) (s0 : Int32) (s1 : Int32) (w : zWd) : Option (Int32 × zWd) :=
  zbn (s1 ||| s0) fun x5 =>
  k148 (x5, v6 + (1 : Int32), w)
def mX12_mixOf_148b (v0 : Nat) (v1 : Int32) (k148 : Int32 × Int32 × zWd → Option (Int32 × zWd)) (v5 : Int32) (v6 : Int32) (w : zWd) : Option (Int32 × zWd) :=
  zgd (zin (3 : Int32) 21948) <|
  if (w (v0 + 1) (3 : Int32).toNatClampNeg) ≤ v6 then (some (v5, w))
  else (zgd (zin v6 8) <|
  zcl (mX12_serves v0 (w (v0 + 9) v6.toNatClampNeg) v1 w) fun r3 w4 =>
  if r3 = 0 then (mX12_mixOf_189 k148 v0 v1 v6 (0 : Int32) v5 w4)
  else (zgd (zin v6 8) <|
  mX12_mixOf_189 k148 v0 v1 v6 ((1 : Int32) <<< ((w4 (v0 + 9) v6.toNatClampNeg) &&& 31)) v5 w4))
def mX12_mixOf_148 (v0 : Nat) (v1 : Int32) (v5 : Int32) (v6 : Int32) (w : zWd) : Option (Int32 × zWd) :=
  zlp (fun k q => mX12_mixOf_148b v0 v1 k q.1 q.2.1 q.2.2) zFU (v5, v6, w)
def mX12_mixOf_135 (k110 : Int32 × zWd → Option (Int32 × zWd)) (v0 : Nat) (v1 : Int32) (v3 : Int32) (v5 : Int32) (s0 : Int32) (s1 : Int32) (s2 : Nat) (w : zWd) : Option (Int32 × zWd) :=
  zgd (zin s1 2401) <|
  zbn (zup w s2 s1.toNatClampNeg (vp_nar .boolean s0)) fun w6 =>
  k110 (v5 + (1 : Int32), w6)
def mX12_mixOf_110b (v0 : Nat) (v1 : Int32) (v3 : Int32) (k110 : Int32 × zWd → Option (Int32 × zWd)) (v5 : Int32) (w : zWd) : Option (Int32 × zWd) :=
  if (2401 : Int32) ≤ v5 then (mX12_mixOf_148 v0 v1 (0 : Int32) (0 : Int32) w)
  else (if v5 = v3 then (mX12_mixOf_135 k110 v0 v1 v3 v5 (1 : Int32) v5 (v0 + 11) w)
  else (mX12_mixOf_135 k110 v0 v1 v3 v5 (0 : Int32) v5 (v0 + 11) w))
def mX12_mixOf_110 (v0 : Nat) (v1 : Int32) (v3 : Int32) (v5 : Int32) (w : zWd) : Option (Int32 × zWd) :=
  zlp (fun k q => mX12_mixOf_110b v0 v1 v3 k q.1 q.2) zFU (v5, w)
def mX12_mixOf_80 (k13 : Int32 × Int32 × Int32 × zWd → Option (Int32 × zWd)) (v0 : Nat) (v1 : Int32) (v3 : Int32) (v4 : Int32) (v5 : Int32) (s0 : Int32) (s1 : Int32) (s2 : Nat) (w : zWd) : Option (Int32 × zWd) :=
  zgd (zin s1 4) <|
  zbn (zup w s2 s1.toNatClampNeg s0) fun w9 =>
  zgd (zin v5 4) <|
  zbn (v3 + (v4 * (w9 (v0 + 13) v5.toNatClampNeg))) fun x10 =>
  zbn (v4 * (7 : Int32)) fun x11 =>
  k13 (x10, x11, v5 + (1 : Int32), w9)
def mX12_mixOf_58 (k13 : Int32 × Int32 × Int32 × zWd → Option (Int32 × zWd)) (v0 : Nat) (v1 : Int32) (v3 : Int32) (v4 : Int32) (v5 : Int32) (s0 : Int32) (w : zWd) : Option (Int32 × zWd) :=
  if s0 ≤ (6 : Int32) then (mX12_mixOf_80 k13 v0 v1 v3 v4 v5 s0 v5 (v0 + 13) w)
  else (mX12_mixOf_80 k13 v0 v1 v3 v4 v5 (6 : Int32) v5 (v0 + 13) w)
def mX12_mixOf_57 (k13 : Int32 × Int32 × Int32 × zWd → Option (Int32 × zWd)) (v0 : Nat) (v1 : Int32) (v3 : Int32) (v4 : Int32) (v5 : Int32) (w : zWd) : Option (Int32 × zWd) :=
  mX12_mixOf_58 k13 v0 v1 v3 v4 v5 (0 : Int32) w
def mX12_mixOf_13b (v0 : Nat) (v1 : Int32) (k13 : Int32 × Int32 × Int32 × zWd → Option (Int32 × zWd)) (v3 : Int32) (v4 : Int32) (v5 : Int32) (w : zWd) : Option (Int32 × zWd) :=
  if (4 : Int32) ≤ v5 then (mX12_mixOf_110 v0 v1 v3 (0 : Int32) w)
  else (zcl (mX12_isTap v0 v5 w) fun r7 w8 =>
  if r7 = 0 then (mX12_mixOf_57 k13 v0 v1 v3 v4 v5 w8)
  else (zgd (zin ((200 : Int32) + v5) 21948) <|
  if v1 < (w8 (v0 + 1) ((200 : Int32) + v5).toNatClampNeg) then (mX12_mixOf_57 k13 v0 v1 v3 v4 v5 w8)
  else (zcl (mX12_flowOf v0 v5 v1 (2 : Int32) w8) fun r12 w13 =>
  mX12_mixOf_58 k13 v0 v1 v3 v4 v5 (r12 / (10 : Int32)) w13)))
def mX12_mixOf_13 (v0 : Nat) (v1 : Int32) (v3 : Int32) (v4 : Int32) (v5 : Int32) (w : zWd) : Option (Int32 × zWd) :=
  zlp (fun k q => mX12_mixOf_13b v0 v1 k q.1 q.2.1 q.2.2.1 q.2.2.2) zFU (v3, v4, v5, w)
def mX12_mixOf (v0 : Nat) (v1 : Int32) (v2 : Int32) (w : zWd) : Option (Int32 × zWd) :=
  zcl (mX12_rows v0 v2 w) fun _ w2 =>
  mX12_mixOf_13 v0 v1 (0 : Int32) (1 : Int32) (0 : Int32) w2
def mX12_mix_18 (s0 : Int32) (w : zWd) : Option (Int32 × zWd) :=
  some (s0, w)
def mX12_mix (v0 : Nat) (v1 : Int32) (w : zWd) : Option (Int32 × zWd) :=
  zcl (mX12_isGone v0 v1 w) fun r1 w2 =>
  if r1 = 0 then (mX12_mix_18 (-1 : Int32) w2)
  else (zcl (mX12_mixOf v0 v1 v1 w2) fun r3 w4 =>
  mX12_mix_18 r3 w4)
def mX12_want_396 (v0 : Nat) (v2 : Int32) (w : zWd) : Option (Int32 × zWd) :=
  zgd (zin v2 8) <|
  some (w (v0 + 15) v2.toNatClampNeg, w)
def mX12_want_161 (k103 : Int32 × Int32 × zWd → Option (Int32 × zWd)) (v0 : Nat) (v2 : Int32) (v5 : Int32) (v6 : Int32) (v7 : Int32) (s0 : Int32) (s1 : Int32) (s2 : Nat) (w : zWd) : Option (Int32 × zWd) :=
  zgd (zin s1 8) <|
  zbn (zup w s2 s1.toNatClampNeg s0) fun w10 =>
  zgd (zin v7 8) <|
  zbn (v5 - (w10 (v0 + 15) v7.toNatClampNeg)) fun x11 =>
  k103 (x11, v6 + (1 : Int32), w10)
def mX12_want_103b (v0 : Nat) (v2 : Int32) (k103 : Int32 × Int32 × zWd → Option (Int32 × zWd)) (v5 : Int32) (v6 : Int32) (w : zWd) : Option (Int32 × zWd) :=
  zgd (zin (3 : Int32) 21948) <|
  if (w (v0 + 1) (3 : Int32).toNatClampNeg) ≤ v6 then (mX12_want_396 v0 v2 w)
  else (zgd (zin v6 8) <|
  zbn (w (v0 + 9) v6.toNatClampNeg) fun x9 =>
  zgd (zin ((2016 : Int32) + x9) 21948) <|
  if v5 ≤ (w (v0 + 1) ((2016 : Int32) + x9).toNatClampNeg) then (mX12_want_161 k103 v0 v2 v5 v6 x9 v5 x9 (v0 + 15) w)
  else (zgd (zin ((2016 : Int32) + x9) 21948) <|
  mX12_want_161 k103 v0 v2 v5 v6 x9 (w (v0 + 1) ((2016 : Int32) + x9).toNatClampNeg) x9 (v0 + 15) w))
def mX12_want_103 (v0 : Nat) (v2 : Int32) (v5 : Int32) (v6 : Int32) (w : zWd) : Option (Int32 × zWd) :=
  zlp (fun k q => mX12_want_103b v0 v2 k q.1 q.2.1 q.2.2) zFU (v5, v6, w)
def mX12_want_246b (v0 : Nat) (v2 : Int32) (v5 : Int32) (k246 : Int32 × zWd → Option (Int32 × zWd)) (v6 : Int32) (w : zWd) : Option (Int32 × zWd) :=
  if v5 ≤ v6 then (mX12_want_396 v0 v2 w)
  else (zgd (zin v6 8) <|
  zgd (zin (w (v0 + 9) v6.toNatClampNeg) 8) <|
  zgd (zin (w (v0 + 9) v6.toNatClampNeg) 8) <|
  zbn (zup w (v0 + 15) (w (v0 + 9) v6.toNatClampNeg).toNatClampNeg ((w (v0 + 15) (w (v0 + 9) v6.toNatClampNeg).toNatClampNeg) + (1 : Int32))) fun w12 =>
  k246 (v6 + (1 : Int32), w12))
def mX12_want_246 (v0 : Nat) (v2 : Int32) (v5 : Int32) (v6 : Int32) (w : zWd) : Option (Int32 × zWd) :=
  zlp (fun k q => mX12_want_246b v0 v2 v5 k q.1 q.2) zFU (v6, w)
def mX12_want_191b (v0 : Nat) (v1 : Int32) (v2 : Int32) (v4 : Int32) (k191 : Int32 × Int32 × zWd → Option (Int32 × zWd)) (v5 : Int32) (v6 : Int32) (w : zWd) : Option (Int32 × zWd) :=
  zgd (zin (3 : Int32) 21948) <|
  if (w (v0 + 1) (3 : Int32).toNatClampNeg) ≤ v6 then (mX12_want_246 v0 v2 v5 (0 : Int32) w)
  else (zgd (zin ((2016 : Int32) + v6) 21948) <|
  zgd (¬ v4 = 0) <|
  zgd (zin v6 8) <|
  zbn (zup w (v0 + 15) v6.toNatClampNeg ((v1 * (w (v0 + 1) ((2016 : Int32) + v6).toNatClampNeg)) / v4)) fun w13 =>
  zgd (zin v6 8) <|
  zbn (v5 - (w13 (v0 + 15) v6.toNatClampNeg)) fun x14 =>
  k191 (x14, v6 + (1 : Int32), w13))
def mX12_want_191 (v0 : Nat) (v1 : Int32) (v2 : Int32) (v4 : Int32) (v5 : Int32) (v6 : Int32) (w : zWd) : Option (Int32 × zWd) :=
  zlp (fun k q => mX12_want_191b v0 v1 v2 v4 k q.1 q.2.1 q.2.2) zFU (v5, v6, w)
def mX12_want_381 (k281 : Int32 × Int32 × zWd → Option (Int32 × zWd)) (k290 : Int32 × Int32 × zWd → Option (Int32 × zWd)) (v0 : Nat) (v2 : Int32) (v6 : Int32) (v7 : Int32) (s0 : Int32) (s1 : Int32) (w : zWd) : Option (Int32 × zWd) :=
  zbn (s1 - s0) fun x16 =>
  k290 (x16, v7 + (1 : Int32), w)
def mX12_want_367 (k281 : Int32 × Int32 × zWd → Option (Int32 × zWd)) (k290 : Int32 × Int32 × zWd → Option (Int32 × zWd)) (v0 : Nat) (v2 : Int32) (v5 : Int32) (v6 : Int32) (v7 : Int32) (v8 : Int32) (s0 : Int32) (s1 : Int32) (s2 : Int32) (s3 : Nat) (w : zWd) : Option (Int32 × zWd) :=
  zgd (zin s2 8) <|
  zbn (zup w s3 s2.toNatClampNeg (s1 + s0)) fun w15 =>
  if v8 = 0 then (mX12_want_381 k281 k290 v0 v2 v6 v7 (0 : Int32) v5 w15)
  else (mX12_want_381 k281 k290 v0 v2 v6 v7 (1 : Int32) v5 w15)
def mX12_want_342 (k281 : Int32 × Int32 × zWd → Option (Int32 × zWd)) (k290 : Int32 × Int32 × zWd → Option (Int32 × zWd)) (v0 : Nat) (v2 : Int32) (v5 : Int32) (v6 : Int32) (v7 : Int32) (s0 : Int32) (w : zWd) : Option (Int32 × zWd) :=
  zgd (zin v7 8) <|
  zgd (zin (w (v0 + 9) v7.toNatClampNeg) 8) <|
  if s0 = 0 then (mX12_want_367 k281 k290 v0 v2 v5 v6 v7 s0 (0 : Int32) (w (v0 + 15) (w (v0 + 9) v7.toNatClampNeg).toNatClampNeg) (w (v0 + 9) v7.toNatClampNeg) (v0 + 15) w)
  else (mX12_want_367 k281 k290 v0 v2 v5 v6 v7 s0 (1 : Int32) (w (v0 + 15) (w (v0 + 9) v7.toNatClampNeg).toNatClampNeg) (w (v0 + 9) v7.toNatClampNeg) (v0 + 15) w)
def mX12_want_341 (k281 : Int32 × Int32 × zWd → Option (Int32 × zWd)) (k290 : Int32 × Int32 × zWd → Option (Int32 × zWd)) (v0 : Nat) (v2 : Int32) (v5 : Int32) (v6 : Int32) (v7 : Int32) (w : zWd) : Option (Int32 × zWd) :=
  mX12_want_342 k281 k290 v0 v2 v5 v6 v7 (0 : Int32) w
def mX12_want_290b (k281 : Int32 × Int32 × zWd → Option (Int32 × zWd)) (v0 : Nat) (v2 : Int32) (v6 : Int32) (k290 : Int32 × Int32 × zWd → Option (Int32 × zWd)) (v5 : Int32) (v7 : Int32) (w : zWd) : Option (Int32 × zWd) :=
  zgd (zin (3 : Int32) 21948) <|
  if (w (v0 + 1) (3 : Int32).toNatClampNeg) ≤ v7 then (k281 (v5, v6 + (1 : Int32), w))
  else (if v5 ≤ 0 then (mX12_want_341 k281 k290 v0 v2 v5 v6 v7 w)
  else (zgd (zin v7 8) <|
  zgd (zin (w (v0 + 9) v7.toNatClampNeg) 8) <|
  zgd (zin v7 8) <|
  zgd (zin ((2016 : Int32) + (w (v0 + 9) v7.toNatClampNeg)) 21948) <|
  if (w (v0 + 1) ((2016 : Int32) + (w (v0 + 9) v7.toNatClampNeg)).toNatClampNeg) ≤ (w (v0 + 15) (w (v0 + 9) v7.toNatClampNeg).toNatClampNeg) then (mX12_want_341 k281 k290 v0 v2 v5 v6 v7 w)
  else (mX12_want_342 k281 k290 v0 v2 v5 v6 v7 (1 : Int32) w)))
def mX12_want_290 (k281 : Int32 × Int32 × zWd → Option (Int32 × zWd)) (v0 : Nat) (v2 : Int32) (v6 : Int32) (v5 : Int32) (v7 : Int32) (w : zWd) : Option (Int32 × zWd) :=
  zlp (fun k q => mX12_want_290b k281 v0 v2 v6 k q.1 q.2.1 q.2.2) zFU (v5, v7, w)
def mX12_want_281b (v0 : Nat) (v2 : Int32) (k281 : Int32 × Int32 × zWd → Option (Int32 × zWd)) (v5 : Int32) (v6 : Int32) (w : zWd) : Option (Int32 × zWd) :=
  if (4 : Int32) ≤ v6 then (mX12_want_396 v0 v2 w)
  else (mX12_want_290 k281 v0 v2 v6 v5 (0 : Int32) w)
def mX12_want_281 (v0 : Nat) (v2 : Int32) (v5 : Int32) (v6 : Int32) (w : zWd) : Option (Int32 × zWd) :=
  zlp (fun k q => mX12_want_281b v0 v2 k q.1 q.2.1 q.2.2) zFU (v5, v6, w)
def mX12_want_52b (v0 : Nat) (v1 : Int32) (v2 : Int32) (v3 : Int32) (k52 : Int32 × Int32 × zWd → Option (Int32 × zWd)) (v4 : Int32) (v5 : Int32) (w : zWd) : Option (Int32 × zWd) :=
  zgd (zin (3 : Int32) 21948) <|
  if (w (v0 + 1) (3 : Int32).toNatClampNeg) ≤ v5 then (if v3 = 0 then (mX12_want_103 v0 v2 v1 (0 : Int32) w)
  else (if v3 = (1 : Int32) then (mX12_want_191 v0 v1 v2 v4 v1 (0 : Int32) w)
  else (mX12_want_281 v0 v2 v1 (0 : Int32) w)))
  else (zgd (zin ((2016 : Int32) + v5) 21948) <|
  zbn (v4 + (w (v0 + 1) ((2016 : Int32) + v5).toNatClampNeg)) fun x17 =>
  zgd (zin v5 8) <|
  zbn (zup w (v0 + 15) v5.toNatClampNeg (0 : Int32)) fun w18 =>
  k52 (x17, v5 + (1 : Int32), w18))
def mX12_want_52 (v0 : Nat) (v1 : Int32) (v2 : Int32) (v3 : Int32) (v4 : Int32) (v5 : Int32) (w : zWd) : Option (Int32 × zWd) :=
  zlp (fun k q => mX12_want_52b v0 v1 v2 v3 k q.1 q.2.1 q.2.2) zFU (v4, v5, w)
def mX12_want (v0 : Nat) (v1 : Int32) (v2 : Int32) (w : zWd) : Option (Int32 × zWd) :=
  zcl (mX12_isTaker v0 v2 w) fun r1 w2 =>
  if r1 = 0 then (some ((-1 : Int32), w2))
  else (zcl (mX12_in v1 (0 : Int32) (999 : Int32) w2) fun r3 w4 =>
  if r3 = 0 then (some ((-2 : Int32), w4))
  else (zgd (zin (0 : Int32) 21948) <|
  zcl (mX12_rows v0 (w4 (v0 + 1) (0 : Int32).toNatClampNeg) w4) fun _ w6 =>
  zgd (zin (0 : Int32) 21948) <|
  zcl (mX12_rule v0 (5 : Int32) (w6 (v0 + 1) (0 : Int32).toNatClampNeg) w6) fun r7 w8 =>
  mX12_want_52 v0 v1 v2 r7 (0 : Int32) (0 : Int32) w8))
def mX12_look_40 (w : zWd) : Option (Int32 × zWd) :=
  some ((-2 : Int32), w)
def mX12_look (v0 : Nat) (v1 : Int32) (v2 : Int32) (v3 : Int32) (v4 : Int32) (w : zWd) : Option (Int32 × zWd) :=
  zcl (mX12_isTap v0 v1 w) fun r1 w2 =>
  if r1 = 0 then (some ((-1 : Int32), w2))
  else (zcl (mX12_isDay v2 w2) fun r3 w4 =>
  if r3 = 0 then (mX12_look_40 w4)
  else (zcl (mX12_in v3 (0 : Int32) (9999 : Int32) w4) fun r5 w6 =>
  if r5 = 0 then (mX12_look_40 w6)
  else (zcl (mX12_in v4 (0 : Int32) (2000 : Int32) w6) fun r7 w8 =>
  if r7 = 0 then (mX12_look_40 w8)
  else (zgd (zin (5 : Int32) 21948) <|
  if (w8 (v0 + 1) (5 : Int32).toNatClampNeg) = (60 : Int32) then (some ((-4 : Int32), w8))
  else (zgd (zin (5 : Int32) 21948) <|
  zbn (w8 (v0 + 1) (5 : Int32).toNatClampNeg) fun x9 =>
  zgd (zin ((2330 : Int32) + x9) 21948) <|
  zbn (zup w8 (v0 + 1) ((2330 : Int32) + x9).toNatClampNeg v1) fun w10 =>
  zgd (zin ((2390 : Int32) + x9) 21948) <|
  zbn (zup w10 (v0 + 1) ((2390 : Int32) + x9).toNatClampNeg v2) fun w11 =>
  zgd (zin ((2450 : Int32) + x9) 21948) <|
  zbn (zup w11 (v0 + 1) ((2450 : Int32) + x9).toNatClampNeg v3) fun w12 =>
  zgd (zin ((2510 : Int32) + x9) 21948) <|
  zbn (zup w12 (v0 + 1) ((2510 : Int32) + x9).toNatClampNeg v4) fun w13 =>
  zgd (zin (5 : Int32) 21948) <|
  zgd (zin (5 : Int32) 21948) <|
  zbn (zup w13 (v0 + 1) (5 : Int32).toNatClampNeg ((w13 (v0 + 1) (5 : Int32).toNatClampNeg) + (1 : Int32))) fun w14 =>
  zgd (zin (5 : Int32) 21948) <|
  some (w14 (v0 + 1) (5 : Int32).toNatClampNeg, w14))))))
def mX12_off_157 (k14 : Int32 × Int32 × zWd → Option (Int32 × zWd)) (v0 : Nat) (v1 : Int32) (v2 : Int32) (v3 : Int32) (w : zWd) : Option (Int32 × zWd) :=
  k14 (v2, v3 + (1 : Int32), w)
def mX12_off_155 (k14 : Int32 × Int32 × zWd → Option (Int32 × zWd)) (v0 : Nat) (v1 : Int32) (v3 : Int32) (s0 : Int32) (s1 : Int32) (w : zWd) : Option (Int32 × zWd) :=
  zbn (s1 + s0) fun x12 =>
  mX12_off_157 k14 v0 v1 x12 v3 w
def mX12_off_142 (k14 : Int32 × Int32 × zWd → Option (Int32 × zWd)) (v0 : Nat) (v1 : Int32) (v2 : Int32) (v3 : Int32) (s0 : Int32) (w : zWd) : Option (Int32 × zWd) :=
  if s0 = 0 then (mX12_off_155 k14 v0 v1 v3 (0 : Int32) v2 w)
  else (mX12_off_155 k14 v0 v1 v3 (1 : Int32) v2 w)
def mX12_off_137 (k14 : Int32 × Int32 × zWd → Option (Int32 × zWd)) (v0 : Nat) (v1 : Int32) (v2 : Int32) (v3 : Int32) (w : zWd) : Option (Int32 × zWd) :=
  mX12_off_142 k14 v0 v1 v2 v3 (1 : Int32) w
def mX12_off_14b (v0 : Nat) (v1 : Int32) (k14 : Int32 × Int32 × zWd → Option (Int32 × zWd)) (v2 : Int32) (v3 : Int32) (w : zWd) : Option (Int32 × zWd) :=
  zgd (zin (5 : Int32) 21948) <|
  if (w (v0 + 1) (5 : Int32).toNatClampNeg) ≤ v3 then (some (v2, w))
  else (zgd (zin ((2390 : Int32) + v3) 21948) <|
  zbn (w (v0 + 1) ((2390 : Int32) + v3).toNatClampNeg) fun x3 =>
  zgd (zin ((2330 : Int32) + v3) 21948) <|
  if (w (v0 + 1) ((2330 : Int32) + v3).toNatClampNeg) = v1 then (zcl (mX12_isGone v0 x3 w) fun r4 w5 =>
  if r4 = 0 then (mX12_off_157 k14 v0 v1 v2 v3 w5)
  else (zgd (zin ((200 : Int32) + v1) 21948) <|
  if x3 < (w5 (v0 + 1) ((200 : Int32) + v1).toNatClampNeg) then (mX12_off_157 k14 v0 v1 v2 v3 w5)
  else (zcl (mX12_rule v0 (4 : Int32) x3 w5) fun r6 w7 =>
  zgd (zin ((2450 : Int32) + v3) 21948) <|
  zcl (mX12_flowOf v0 v1 x3 (0 : Int32) w7) fun r8 w9 =>
  zcl (mX12_size ((w7 (v0 + 1) ((2450 : Int32) + v3).toNatClampNeg) - r8) w9) fun r10 w11 =>
  if r6 < r10 then (mX12_off_137 k14 v0 v1 v2 v3 w11)
  else (zgd (zin ((2510 : Int32) + v3) 21948) <|
  zcl (mX12_flowOf v0 v1 x3 (1 : Int32) w11) fun r13 w14 =>
  zcl (mX12_size ((w11 (v0 + 1) ((2510 : Int32) + v3).toNatClampNeg) - r13) w14) fun r15 w16 =>
  if r15 ≤ r6 then (mX12_off_142 k14 v0 v1 v2 v3 (0 : Int32) w16)
  else (mX12_off_137 k14 v0 v1 v2 v3 w16)))))
  else (mX12_off_157 k14 v0 v1 v2 v3 w))
def mX12_off_14 (v0 : Nat) (v1 : Int32) (v2 : Int32) (v3 : Int32) (w : zWd) : Option (Int32 × zWd) :=
  zlp (fun k q => mX12_off_14b v0 v1 k q.1 q.2.1 q.2.2) zFU (v2, v3, w)
def mX12_off (v0 : Nat) (v1 : Int32) (w : zWd) : Option (Int32 × zWd) :=
  zcl (mX12_isTap v0 v1 w) fun r1 w2 =>
  if r1 = 0 then (some ((-1 : Int32), w2))
  else (mX12_off_14 v0 v1 (0 : Int32) (0 : Int32) w2)
def mX12_drops_30 (k4 : Int32 × Int32 × zWd → Option (Int32 × zWd)) (v0 : Nat) (v2 : Int32) (s0 : Int32) (s1 : Int32) (w : zWd) : Option (Int32 × zWd) :=
  zbn (s1 + s0) fun x1 =>
  k4 (x1, v2 + (1 : Int32), w)
def mX12_drops_4b (v0 : Nat) (k4 : Int32 × Int32 × zWd → Option (Int32 × zWd)) (v1 : Int32) (v2 : Int32) (w : zWd) : Option (Int32 × zWd) :=
  if (12 : Int32) ≤ v2 then (some (v1, w))
  else (zgd (zin ((2570 : Int32) + v2) 21948) <|
  if (w (v0 + 1) ((2570 : Int32) + v2).toNatClampNeg) = (-1 : Int32) then (mX12_drops_30 k4 v0 v2 (0 : Int32) v1 w)
  else (mX12_drops_30 k4 v0 v2 (1 : Int32) v1 w))
def mX12_drops_4 (v0 : Nat) (v1 : Int32) (v2 : Int32) (w : zWd) : Option (Int32 × zWd) :=
  zlp (fun k q => mX12_drops_4b v0 k q.1 q.2.1 q.2.2) zFU (v1, v2, w)
def mX12_drops (v0 : Nat) (w : zWd) : Option (Int32 × zWd) :=
  mX12_drops_4 v0 (0 : Int32) (0 : Int32) w
def mX12_drop_49 (v0 : Nat) (v1 : Int32) (v2 : Int32) (w : zWd) : Option (Int32 × zWd) :=
  zgd (zin ((2570 : Int32) + v1) 21948) <|
  zbn (zup w (v0 + 1) ((2570 : Int32) + v1).toNatClampNeg v2) fun w7 =>
  zcl (mX12_drops v0 w7) fun r8 w9 =>
  some (r8, w9)
def mX12_drop (v0 : Nat) (v1 : Int32) (v2 : Int32) (w : zWd) : Option (Int32 × zWd) :=
  zcl (mX12_isTap v0 v1 w) fun r1 w2 =>
  if r1 = 0 then (some ((-1 : Int32), w2))
  else (zcl (mX12_in v2 (0 : Int32) (999 : Int32) w2) fun r3 w4 =>
  if r3 = 0 then (some ((-2 : Int32), w4))
  else (zgd (zin ((2570 : Int32) + v1) 21948) <|
  if (w4 (v0 + 1) ((2570 : Int32) + v1).toNatClampNeg) = (-1 : Int32) then (zcl (mX12_drops v0 w4) fun r5 w6 =>
  if r5 = (4 : Int32) then (some ((-4 : Int32), w6))
  else (mX12_drop_49 v0 v1 v2 w6))
  else (mX12_drop_49 v0 v1 v2 w4)))
def mX12_count1_4b (v0 : Int32) (k4 : Int32 × Int32 × zWd → Option (Int32 × zWd)) (v1 : Int32) (v2 : Int32) (w : zWd) : Option (Int32 × zWd) :=
  if (12 : Int32) ≤ v2 then (some (v1, w))
  else (zbn (v1 + ((v0 >>> (v2 &&& 31)) &&& (1 : Int32))) fun x1 =>
  k4 (x1, v2 + (1 : Int32), w))
def mX12_count1_4 (v0 : Int32) (v1 : Int32) (v2 : Int32) (w : zWd) : Option (Int32 × zWd) :=
  zlp (fun k q => mX12_count1_4b v0 k q.1 q.2.1 q.2.2) zFU (v1, v2, w)
def mX12_count1 (v0 : Int32) (w : zWd) : Option (Int32 × zWd) :=
  mX12_count1_4 v0 (0 : Int32) (0 : Int32) w
def mX12_explains_175 (k6 : Int32 × Int32 × zWd → Option (Int32 × zWd)) (v0 : Nat) (v1 : Int32) (v2 : Int32) (v3 : Int32) (v4 : Int32) (v5 : Int32) (w : zWd) : Option (Int32 × zWd) :=
  k6 (v4, v5 + (1 : Int32), w)
def mX12_explains_173 (k6 : Int32 × Int32 × zWd → Option (Int32 × zWd)) (v0 : Nat) (v1 : Int32) (v2 : Int32) (v3 : Int32) (v5 : Int32) (s0 : Int32) (w : zWd) : Option (Int32 × zWd) :=
  mX12_explains_175 k6 v0 v1 v2 v3 s0 v5 w
def mX12_explains_172 (k6 : Int32 × Int32 × zWd → Option (Int32 × zWd)) (v0 : Nat) (v1 : Int32) (v2 : Int32) (v3 : Int32) (v5 : Int32) (w : zWd) : Option (Int32 × zWd) :=
  mX12_explains_173 k6 v0 v1 v2 v3 v5 (0 : Int32) w
def mX12_explains_133 (k6 : Int32 × Int32 × zWd → Option (Int32 × zWd)) (k38 : Int32 × Int32 × zWd → Option (Int32 × zWd)) (v0 : Nat) (v1 : Int32) (v2 : Int32) (v3 : Int32) (v4 : Int32) (v5 : Int32) (v7 : Int32) (s0 : Int32) (s1 : Int32) (w : zWd) : Option (Int32 × zWd) :=
  zbn (s1 + s0) fun x3 =>
  k38 (x3, v7 + (1 : Int32), w)
def mX12_explains_71 (k6 : Int32 × Int32 × zWd → Option (Int32 × zWd)) (k38 : Int32 × Int32 × zWd → Option (Int32 × zWd)) (v0 : Nat) (v1 : Int32) (v2 : Int32) (v3 : Int32) (v4 : Int32) (v5 : Int32) (v6 : Int32) (v7 : Int32) (s0 : Int32) (w : zWd) : Option (Int32 × zWd) :=
  if s0 = 0 then (mX12_explains_133 k6 k38 v0 v1 v2 v3 v4 v5 v7 (0 : Int32) v6 w)
  else (zgd (zin v7 8) <|
  zgd (zin ((164 : Int32) + (w (v0 + 16) v7.toNatClampNeg)) 21948) <|
  zgd (zin v7 8) <|
  zgd (zin ((152 : Int32) + (w (v0 + 16) v7.toNatClampNeg)) 21948) <|
  zgd (zin ((152 : Int32) + v5) 21948) <|
  zcl (mX12_apart (w (v0 + 1) ((152 : Int32) + (w (v0 + 16) v7.toNatClampNeg)).toNatClampNeg) (w (v0 + 1) ((152 : Int32) + v5).toNatClampNeg) w) fun r4 w5 =>
  zgd (¬ (r4 + (1 : Int32)) = 0) <|
  mX12_explains_133 k6 k38 v0 v1 v2 v3 v4 v5 v7 ((w (v0 + 1) ((164 : Int32) + (w (v0 + 16) v7.toNatClampNeg)).toNatClampNeg) / (r4 + (1 : Int32))) v6 w5)
def mX12_explains_70 (k6 : Int32 × Int32 × zWd → Option (Int32 × zWd)) (k38 : Int32 × Int32 × zWd → Option (Int32 × zWd)) (v0 : Nat) (v1 : Int32) (v2 : Int32) (v3 : Int32) (v4 : Int32) (v5 : Int32) (v6 : Int32) (v7 : Int32) (w : zWd) : Option (Int32 × zWd) :=
  mX12_explains_71 k6 k38 v0 v1 v2 v3 v4 v5 v6 v7 (0 : Int32) w
def mX12_explains_38b (k6 : Int32 × Int32 × zWd → Option (Int32 × zWd)) (v0 : Nat) (v1 : Int32) (v2 : Int32) (v3 : Int32) (v4 : Int32) (v5 : Int32) (k38 : Int32 × Int32 × zWd → Option (Int32 × zWd)) (v6 : Int32) (v7 : Int32) (w : zWd) : Option (Int32 × zWd) :=
  if v2 ≤ v7 then (if v4 = 0 then (mX12_explains_172 k6 v0 v1 v2 v3 v5 w)
  else (zgd (zin ((2570 : Int32) + v5) 21948) <|
  zcl (mX12_size (v6 - (w (v0 + 1) ((2570 : Int32) + v5).toNatClampNeg)) w) fun r1 w2 =>
  if v3 < r1 then (mX12_explains_172 k6 v0 v1 v2 v3 v5 w2)
  else (mX12_explains_173 k6 v0 v1 v2 v3 v5 (1 : Int32) w2)))
  else (if ((v1 >>> (v7 &&& 31)) &&& (1 : Int32)) = (1 : Int32) then (zgd (zin v7 8) <|
  if (w (v0 + 16) v7.toNatClampNeg) = v5 then (mX12_explains_70 k6 k38 v0 v1 v2 v3 v4 v5 v6 v7 w)
  else (mX12_explains_71 k6 k38 v0 v1 v2 v3 v4 v5 v6 v7 (1 : Int32) w))
  else (mX12_explains_70 k6 k38 v0 v1 v2 v3 v4 v5 v6 v7 w))
def mX12_explains_38 (k6 : Int32 × Int32 × zWd → Option (Int32 × zWd)) (v0 : Nat) (v1 : Int32) (v2 : Int32) (v3 : Int32) (v4 : Int32) (v5 : Int32) (v6 : Int32) (v7 : Int32) (w : zWd) : Option (Int32 × zWd) :=
  zlp (fun k q => mX12_explains_38b k6 v0 v1 v2 v3 v4 v5 k q.1 q.2.1 q.2.2) zFU (v6, v7, w)
def mX12_explains_6b (v0 : Nat) (v1 : Int32) (v2 : Int32) (v3 : Int32) (k6 : Int32 × Int32 × zWd → Option (Int32 × zWd)) (v4 : Int32) (v5 : Int32) (w : zWd) : Option (Int32 × zWd) :=
  zgd (zin (1 : Int32) 21948) <|
  if (w (v0 + 1) (1 : Int32).toNatClampNeg) ≤ v5 then (zgd (zB v4) (some (v4, w)))
  else (zgd (zin ((2570 : Int32) + v5) 21948) <|
  if (w (v0 + 1) ((2570 : Int32) + v5).toNatClampNeg) = (-1 : Int32) then (mX12_explains_175 k6 v0 v1 v2 v3 v4 v5 w)
  else (mX12_explains_38 k6 v0 v1 v2 v3 v4 v5 (0 : Int32) (0 : Int32) w))
def mX12_explains_6 (v0 : Nat) (v1 : Int32) (v2 : Int32) (v3 : Int32) (v4 : Int32) (v5 : Int32) (w : zWd) : Option (Int32 × zWd) :=
  zlp (fun k q => mX12_explains_6b v0 v1 v2 v3 k q.1 q.2.1 q.2.2) zFU (v4, v5, w)
def mX12_explains (v0 : Nat) (v1 : Int32) (v2 : Int32) (v3 : Int32) (w : zWd) : Option (Int32 × zWd) :=
  mX12_explains_6 v0 v1 v2 v3 (1 : Int32) (0 : Int32) w
def mX12_cause_204 (s0 : Int32) (w : zWd) : Option (Int32 × zWd) :=
  some (s0, w)
def mX12_cause_197 (v4 : Int32) (w : zWd) : Option (Int32 × zWd) :=
  mX12_cause_204 v4 w
def mX12_cause_180 (k87 : Int32 × Int32 × Int32 × zWd → Option (Int32 × zWd)) (v0 : Nat) (v1 : Int32) (v2 : Int32) (v3 : Int32) (v4 : Int32) (v5 : Int32) (v6 : Int32) (w : zWd) : Option (Int32 × zWd) :=
  k87 (v4, v5, v6 + (1 : Int32), w)
def mX12_cause_178 (k87 : Int32 × Int32 × Int32 × zWd → Option (Int32 × zWd)) (v0 : Nat) (v1 : Int32) (v2 : Int32) (v3 : Int32) (v5 : Int32) (v6 : Int32) (s0 : Int32) (w : zWd) : Option (Int32 × zWd) :=
  mX12_cause_180 k87 v0 v1 v2 v3 s0 v5 v6 w
def mX12_cause_164 (k87 : Int32 × Int32 × Int32 × zWd → Option (Int32 × zWd)) (v0 : Nat) (v1 : Int32) (v2 : Int32) (v3 : Int32) (v4 : Int32) (v6 : Int32) (v7 : Int32) (s0 : Int32) (w : zWd) : Option (Int32 × zWd) :=
  if v7 = 0 then (mX12_cause_178 k87 v0 v1 v2 v3 s0 v6 v4 w)
  else (mX12_cause_178 k87 v0 v1 v2 v3 s0 v6 v6 w)
def mX12_cause_131 (k87 : Int32 × Int32 × Int32 × zWd → Option (Int32 × zWd)) (v0 : Nat) (v1 : Int32) (v2 : Int32) (v3 : Int32) (v4 : Int32) (v5 : Int32) (v6 : Int32) (s0 : Int32) (w : zWd) : Option (Int32 × zWd) :=
  if s0 = 0 then (zcl (mX12_count1 v6 w) fun r7 w8 =>
  zcl (mX12_count1 v4 w8) fun r9 w10 =>
  if r7 = r9 then (mX12_cause_164 k87 v0 v1 v2 v3 v4 v6 s0 (v5 + (1 : Int32)) w10)
  else (mX12_cause_164 k87 v0 v1 v2 v3 v4 v6 s0 v5 w10))
  else (mX12_cause_164 k87 v0 v1 v2 v3 v4 v6 s0 (1 : Int32) w)
def mX12_cause_126 (k87 : Int32 × Int32 × Int32 × zWd → Option (Int32 × zWd)) (v0 : Nat) (v1 : Int32) (v2 : Int32) (v3 : Int32) (v4 : Int32) (v5 : Int32) (v6 : Int32) (w : zWd) : Option (Int32 × zWd) :=
  mX12_cause_131 k87 v0 v1 v2 v3 v4 v5 v6 (1 : Int32) w
def mX12_cause_87b (v0 : Nat) (v1 : Int32) (v2 : Int32) (v3 : Int32) (k87 : Int32 × Int32 × Int32 × zWd → Option (Int32 × zWd)) (v4 : Int32) (v5 : Int32) (v6 : Int32) (w : zWd) : Option (Int32 × zWd) :=
  if ((1 : Int32) <<< (v3 &&& 31)) ≤ v6 then (if v4 = (-5 : Int32) then (mX12_cause_197 v4 w)
  else (if v2 = 0 then (mX12_cause_197 v4 w)
  else (mX12_cause_204 v5 w)))
  else (zcl (mX12_explains v0 v6 v3 v1 w) fun r5 w6 =>
  if r5 = 0 then (mX12_cause_180 k87 v0 v1 v2 v3 v4 v5 v6 w6)
  else (if v4 = (-5 : Int32) then (mX12_cause_126 k87 v0 v1 v2 v3 v4 v5 v6 w6)
  else (zcl (mX12_count1 v6 w6) fun r11 w12 =>
  zcl (mX12_count1 v4 w12) fun r13 w14 =>
  if r13 ≤ r11 then (mX12_cause_131 k87 v0 v1 v2 v3 v4 v5 v6 (0 : Int32) w14)
  else (mX12_cause_126 k87 v0 v1 v2 v3 v4 v5 v6 w14))))
def mX12_cause_87 (v0 : Nat) (v1 : Int32) (v2 : Int32) (v3 : Int32) (v4 : Int32) (v5 : Int32) (v6 : Int32) (w : zWd) : Option (Int32 × zWd) :=
  zlp (fun k q => mX12_cause_87b v0 v1 v2 v3 k q.1 q.2.1 q.2.2.1 q.2.2.2) zFU (v4, v5, v6, w)
def mX12_cause_77 (v0 : Nat) (v1 : Int32) (v2 : Int32) (v3 : Int32) (w : zWd) : Option (Int32 × zWd) :=
  mX12_cause_87 v0 v1 v2 v3 (-5 : Int32) (0 : Int32) (0 : Int32) w
def mX12_cause_71 (k29 : Int32 × Int32 × zWd → Option (Int32 × zWd)) (v0 : Nat) (v1 : Int32) (v2 : Int32) (v3 : Int32) (v4 : Int32) (w : zWd) : Option (Int32 × zWd) :=
  k29 (v3, v4 + (1 : Int32), w)
def mX12_cause_29b (v0 : Nat) (v1 : Int32) (v2 : Int32) (k29 : Int32 × Int32 × zWd → Option (Int32 × zWd)) (v3 : Int32) (v4 : Int32) (w : zWd) : Option (Int32 × zWd) :=
  zgd (zin (1 : Int32) 21948) <|
  if (w (v0 + 1) (1 : Int32).toNatClampNeg) ≤ v4 then (mX12_cause_77 v0 v1 v2 v3 w)
  else (if (8 : Int32) ≤ v3 then (mX12_cause_77 v0 v1 v2 v3 w)
  else (zgd (zin ((140 : Int32) + v4) 21948) <|
  if (w (v0 + 1) ((140 : Int32) + v4).toNatClampNeg) = 0 then (mX12_cause_71 k29 v0 v1 v2 v3 v4 w)
  else (zgd (zin v3 8) <|
  zbn (zup w (v0 + 16) v3.toNatClampNeg v4) fun w15 =>
  mX12_cause_71 k29 v0 v1 v2 (v3 + (1 : Int32)) v4 w15)))
def mX12_cause_29 (v0 : Nat) (v1 : Int32) (v2 : Int32) (v3 : Int32) (v4 : Int32) (w : zWd) : Option (Int32 × zWd) :=
  zlp (fun k q => mX12_cause_29b v0 v1 v2 k q.1 q.2.1 q.2.2) zFU (v3, v4, w)
def mX12_cause (v0 : Nat) (v1 : Int32) (v2 : Int32) (w : zWd) : Option (Int32 × zWd) :=
  zcl (mX12_in v2 (0 : Int32) (1 : Int32) w) fun r1 w2 =>
  if r1 = 0 then (some ((-1 : Int32), w2))
  else (zcl (mX12_in v1 (0 : Int32) (99 : Int32) w2) fun r3 w4 =>
  if r3 = 0 then (some ((-2 : Int32), w4))
  else (mX12_cause_29 v0 v1 v2 (0 : Int32) (0 : Int32) w4))
def mX12_keeps_31b (v0 : Nat) (k31 : Int32 × zWd → Option (Unit × zWd)) (v1 : Int32) (w : zWd) : Option (Unit × zWd) :=
  if (12 : Int32) ≤ v1 then (some ((), w))
  else (zgd (zin ((224 : Int32) + v1) 21948) <|
  zgd (zin v1 12) <|
  zbn (zup w (v0 + 18) v1.toNatClampNeg (w (v0 + 1) ((224 : Int32) + v1).toNatClampNeg)) fun w1 =>
  k31 (v1 + (1 : Int32), w1))
def mX12_keeps_31 (v0 : Nat) (v1 : Int32) (w : zWd) : Option (Unit × zWd) :=
  zlp (fun k q => mX12_keeps_31b v0 k q.1 q.2) zFU (v1, w)
def mX12_keeps_2b (v0 : Nat) (k2 : Int32 × zWd → Option (Unit × zWd)) (v1 : Int32) (w : zWd) : Option (Unit × zWd) :=
  if (60 : Int32) ≤ v1 then (mX12_keeps_31 v0 (0 : Int32) w)
  else (zgd (zin ((20 : Int32) + v1) 21948) <|
  zgd (zin v1 60) <|
  zbn (zup w (v0 + 17) v1.toNatClampNeg (w (v0 + 1) ((20 : Int32) + v1).toNatClampNeg)) fun w2 =>
  k2 (v1 + (1 : Int32), w2))
def mX12_keeps_2 (v0 : Nat) (v1 : Int32) (w : zWd) : Option (Unit × zWd) :=
  zlp (fun k q => mX12_keeps_2b v0 k q.1 q.2) zFU (v1, w)
def mX12_keeps (v0 : Nat) (w : zWd) : Option (Unit × zWd) :=
  mX12_keeps_2 v0 (0 : Int32) w
def mX12_givesBack_31b (v0 : Nat) (k31 : Int32 × zWd → Option (Unit × zWd)) (v1 : Int32) (w : zWd) : Option (Unit × zWd) :=
  if (12 : Int32) ≤ v1 then (some ((), w))
  else (zgd (zin v1 12) <|
  zgd (zin ((224 : Int32) + v1) 21948) <|
  zbn (zup w (v0 + 1) ((224 : Int32) + v1).toNatClampNeg (w (v0 + 18) v1.toNatClampNeg)) fun w1 =>
  k31 (v1 + (1 : Int32), w1))
def mX12_givesBack_31 (v0 : Nat) (v1 : Int32) (w : zWd) : Option (Unit × zWd) :=
  zlp (fun k q => mX12_givesBack_31b v0 k q.1 q.2) zFU (v1, w)
def mX12_givesBack_2b (v0 : Nat) (k2 : Int32 × zWd → Option (Unit × zWd)) (v1 : Int32) (w : zWd) : Option (Unit × zWd) :=
  if (60 : Int32) ≤ v1 then (mX12_givesBack_31 v0 (0 : Int32) w)
  else (zgd (zin v1 60) <|
  zgd (zin ((20 : Int32) + v1) 21948) <|
  zbn (zup w (v0 + 1) ((20 : Int32) + v1).toNatClampNeg (w (v0 + 17) v1.toNatClampNeg)) fun w2 =>
  k2 (v1 + (1 : Int32), w2))
def mX12_givesBack_2 (v0 : Nat) (v1 : Int32) (w : zWd) : Option (Unit × zWd) :=
  zlp (fun k q => mX12_givesBack_2b v0 k q.1 q.2) zFU (v1, w)
def mX12_givesBack (v0 : Nat) (w : zWd) : Option (Unit × zWd) :=
  mX12_givesBack_2 v0 (0 : Int32) w
def mX12_tire_95 (v0 : Nat) (v3 : Int32) (w : zWd) : Option (Int32 × zWd) :=
  zcl (mX12_givesBack v0 w) fun _ w9 =>
  some (v3, w9)
def mX12_tire_88 (k39 : Int32 × Int32 × zWd → Option (Int32 × zWd)) (v0 : Nat) (v1 : Int32) (v2 : Int32) (v4 : Int32) (s0 : Int32) (w : zWd) : Option (Int32 × zWd) :=
  k39 (s0, v4 + (1 : Int32), w)
def mX12_tire_39b (v0 : Nat) (v1 : Int32) (v2 : Int32) (k39 : Int32 × Int32 × zWd → Option (Int32 × zWd)) (v3 : Int32) (v4 : Int32) (w : zWd) : Option (Int32 × zWd) :=
  if (400 : Int32) ≤ v4 then (mX12_tire_95 v0 v3 w)
  else (zgd (zin (0 : Int32) 21948) <|
  if ((w (v0 + 1) (0 : Int32).toNatClampNeg) + (60 : Int32)) ≤ v4 then (mX12_tire_95 v0 v3 w)
  else (if v3 = (-5 : Int32) then (zcl (mX12_flows v0 w) fun _ w11 =>
  zgd (zin v1 12) <|
  if v2 ≤ (w11 (v0 + 5) v1.toNatClampNeg) then (mX12_tire_88 k39 v0 v1 v2 v4 (-5 : Int32) w11)
  else (mX12_tire_88 k39 v0 v1 v2 v4 v4 w11))
  else (mX12_tire_95 v0 v3 w)))
def mX12_tire_39 (v0 : Nat) (v1 : Int32) (v2 : Int32) (v3 : Int32) (v4 : Int32) (w : zWd) : Option (Int32 × zWd) :=
  zlp (fun k q => mX12_tire_39b v0 v1 v2 k q.1 q.2.1 q.2.2) zFU (v3, v4, w)
def mX12_tire (v0 : Nat) (v1 : Int32) (v2 : Int32) (w : zWd) : Option (Int32 × zWd) :=
  zcl (mX12_isTap v0 v1 w) fun r1 w2 =>
  if r1 = 0 then (some ((-1 : Int32), w2))
  else (zcl (mX12_in v2 (1 : Int32) (9999 : Int32) w2) fun r3 w4 =>
  if r3 = 0 then (some ((-2 : Int32), w4))
  else (zcl (mX12_keeps v0 w4) fun _ w6 =>
  zgd (zin (0 : Int32) 21948) <|
  zbn (w6 (v0 + 1) (0 : Int32).toNatClampNeg) fun x7 =>
  mX12_tire_39 v0 v1 v2 (-5 : Int32) x7 w6))
def mX12_shakes_4b (v0 : Nat) (k4 : Int32 × Int32 × zWd → Option (Int32 × zWd)) (v1 : Int32) (v2 : Int32) (w : zWd) : Option (Int32 × zWd) :=
  if (30 : Int32) ≤ v2 then (some (v1, w))
  else (zgd (zin ((2590 : Int32) + v2) 21948) <|
  zbn (v1 + (w (v0 + 1) ((2590 : Int32) + v2).toNatClampNeg)) fun x1 =>
  k4 (x1, v2 + (1 : Int32), w))
def mX12_shakes_4 (v0 : Nat) (v1 : Int32) (v2 : Int32) (w : zWd) : Option (Int32 × zWd) :=
  zlp (fun k q => mX12_shakes_4b v0 k q.1 q.2.1 q.2.2) zFU (v1, v2, w)
def mX12_shakes (v0 : Nat) (w : zWd) : Option (Int32 × zWd) :=
  mX12_shakes_4 v0 (0 : Int32) (0 : Int32) w
def mX12_shake_50 (v0 : Nat) (v1 : Int32) (v2 : Int32) (w : zWd) : Option (Int32 × zWd) :=
  zgd (zin ((2590 : Int32) + v1) 21948) <|
  zbn (zup w (v0 + 1) ((2590 : Int32) + v1).toNatClampNeg (1 : Int32)) fun w7 =>
  zgd (zin ((2620 : Int32) + v1) 21948) <|
  zbn (zup w7 (v0 + 1) ((2620 : Int32) + v1).toNatClampNeg v2) fun w8 =>
  zcl (mX12_shakes v0 w8) fun r9 w10 =>
  some (r9, w10)
def mX12_shake (v0 : Nat) (v1 : Int32) (v2 : Int32) (w : zWd) : Option (Int32 × zWd) :=
  zcl (mX12_isCell v1 w) fun r1 w2 =>
  if r1 = 0 then (some ((-1 : Int32), w2))
  else (zcl (mX12_in v2 (-999 : Int32) (999 : Int32) w2) fun r3 w4 =>
  if r3 = 0 then (some ((-2 : Int32), w4))
  else (zgd (zin ((2590 : Int32) + v1) 21948) <|
  if (w4 (v0 + 1) ((2590 : Int32) + v1).toNatClampNeg) = 0 then (zcl (mX12_shakes v0 w4) fun r5 w6 =>
  if r5 = (6 : Int32) then (some ((-4 : Int32), w6))
  else (mX12_shake_50 v0 v1 v2 w6))
  else (mX12_shake_50 v0 v1 v2 w4)))
def mX12_push (v0 : Nat) (v1 : Int32) (v2 : Int32) (w : zWd) : Option (Int32 × zWd) :=
  zcl (mX12_isCell v1 w) fun r1 w2 =>
  if r1 = 0 then (some ((-1 : Int32), w2))
  else (zcl (mX12_in v2 (-99 : Int32) (99 : Int32) w2) fun r3 w4 =>
  if r3 = 0 then (some ((-2 : Int32), w4))
  else (zgd (zin (7 : Int32) 21948) <|
  if (w4 (v0 + 1) (7 : Int32).toNatClampNeg) = (6 : Int32) then (some ((-4 : Int32), w4))
  else (zgd (zin (7 : Int32) 21948) <|
  zgd (zin ((2650 : Int32) + (w4 (v0 + 1) (7 : Int32).toNatClampNeg)) 21948) <|
  zbn (zup w4 (v0 + 1) ((2650 : Int32) + (w4 (v0 + 1) (7 : Int32).toNatClampNeg)).toNatClampNeg v1) fun w5 =>
  zgd (zin (7 : Int32) 21948) <|
  zgd (zin ((2660 : Int32) + (w5 (v0 + 1) (7 : Int32).toNatClampNeg)) 21948) <|
  zbn (zup w5 (v0 + 1) ((2660 : Int32) + (w5 (v0 + 1) (7 : Int32).toNatClampNeg)).toNatClampNeg v2) fun w6 =>
  zgd (zin (7 : Int32) 21948) <|
  zgd (zin (7 : Int32) 21948) <|
  zbn (zup w6 (v0 + 1) (7 : Int32).toNatClampNeg ((w6 (v0 + 1) (7 : Int32).toNatClampNeg) + (1 : Int32))) fun w7 =>
  zgd (zin (7 : Int32) 21948) <|
  some (w7 (v0 + 1) (7 : Int32).toNatClampNeg, w7))))
def mX12_shook_154 (k4 : Int32 × Int32 × zWd → Option (Int32 × zWd)) (v0 : Nat) (v1 : Int32) (v3 : Int32) (s0 : Int32) (w : zWd) : Option (Int32 × zWd) :=
  k4 (s0, v3 + (1 : Int32), w)
def mX12_shook_153 (k4 : Int32 × Int32 × zWd → Option (Int32 × zWd)) (v0 : Nat) (v1 : Int32) (v3 : Int32) (w : zWd) : Option (Int32 × zWd) :=
  mX12_shook_154 k4 v0 v1 v3 (0 : Int32) w
def mX12_shook_149 (k4 : Int32 × Int32 × zWd → Option (Int32 × zWd)) (v0 : Nat) (v1 : Int32) (v3 : Int32) (w : zWd) : Option (Int32 × zWd) :=
  mX12_shook_154 k4 v0 v1 v3 (1 : Int32) w
def mX12_shook_108 (k4 : Int32 × Int32 × zWd → Option (Int32 × zWd)) (k16 : Int32 × Int32 × zWd → Option (Int32 × zWd)) (v0 : Nat) (v1 : Int32) (v2 : Int32) (v3 : Int32) (v5 : Int32) (s0 : Int32) (s1 : Int32) (w : zWd) : Option (Int32 × zWd) :=
  zbn (s1 + s0) fun x3 =>
  k16 (x3, v5 + (1 : Int32), w)
def mX12_shook_88 (k4 : Int32 × Int32 × zWd → Option (Int32 × zWd)) (k16 : Int32 × Int32 × zWd → Option (Int32 × zWd)) (v0 : Nat) (v1 : Int32) (v2 : Int32) (v3 : Int32) (v4 : Int32) (v5 : Int32) (s0 : Int32) (w : zWd) : Option (Int32 × zWd) :=
  if ((v1 >>> (v5 &&& 31)) &&& (1 : Int32)) = (1 : Int32) then (mX12_shook_108 k4 k16 v0 v1 v2 v3 v5 s0 v4 w)
  else (mX12_shook_108 k4 k16 v0 v1 v2 v3 v5 (0 : Int32) v4 w)
def mX12_shook_16b (k4 : Int32 × Int32 × zWd → Option (Int32 × zWd)) (v0 : Nat) (v1 : Int32) (v2 : Int32) (v3 : Int32) (k16 : Int32 × Int32 × zWd → Option (Int32 × zWd)) (v4 : Int32) (v5 : Int32) (w : zWd) : Option (Int32 × zWd) :=
  zgd (zin (7 : Int32) 21948) <|
  if (w (v0 + 1) (7 : Int32).toNatClampNeg) ≤ v5 then (if v2 = 0 then (mX12_shook_153 k4 v0 v1 v3 w)
  else (zgd (zin ((2590 : Int32) + v3) 21948) <|
  if (w (v0 + 1) ((2590 : Int32) + v3).toNatClampNeg) = 0 then (mX12_shook_149 k4 v0 v1 v3 w)
  else (zgd (zin ((2620 : Int32) + v3) 21948) <|
  if v4 = (w (v0 + 1) ((2620 : Int32) + v3).toNatClampNeg) then (mX12_shook_149 k4 v0 v1 v3 w)
  else (mX12_shook_153 k4 v0 v1 v3 w))))
  else (zgd (zin ((2650 : Int32) + v5) 21948) <|
  zcl (mX12_apart (w (v0 + 1) ((2650 : Int32) + v5).toNatClampNeg) v3 w) fun r1 w2 =>
  if (2 : Int32) ≤ r1 then (if r1 = (2 : Int32) then (zgd (zin ((2660 : Int32) + v5) 21948) <|
  mX12_shook_88 k4 k16 v0 v1 v2 v3 v4 v5 ((w2 (v0 + 1) ((2660 : Int32) + v5).toNatClampNeg) / (2 : Int32)) w2)
  else (mX12_shook_88 k4 k16 v0 v1 v2 v3 v4 v5 (0 : Int32) w2))
  else (zgd (zin ((2660 : Int32) + v5) 21948) <|
  mX12_shook_88 k4 k16 v0 v1 v2 v3 v4 v5 (w2 (v0 + 1) ((2660 : Int32) + v5).toNatClampNeg) w2))
def mX12_shook_16 (k4 : Int32 × Int32 × zWd → Option (Int32 × zWd)) (v0 : Nat) (v1 : Int32) (v2 : Int32) (v3 : Int32) (v4 : Int32) (v5 : Int32) (w : zWd) : Option (Int32 × zWd) :=
  zlp (fun k q => mX12_shook_16b k4 v0 v1 v2 v3 k q.1 q.2.1 q.2.2) zFU (v4, v5, w)
def mX12_shook_4b (v0 : Nat) (v1 : Int32) (k4 : Int32 × Int32 × zWd → Option (Int32 × zWd)) (v2 : Int32) (v3 : Int32) (w : zWd) : Option (Int32 × zWd) :=
  if (30 : Int32) ≤ v3 then (zgd (zB v2) (some (v2, w)))
  else (mX12_shook_16 k4 v0 v1 v2 v3 (0 : Int32) (0 : Int32) w)
def mX12_shook_4 (v0 : Nat) (v1 : Int32) (v2 : Int32) (v3 : Int32) (w : zWd) : Option (Int32 × zWd) :=
  zlp (fun k q => mX12_shook_4b v0 v1 k q.1 q.2.1 q.2.2) zFU (v2, v3, w)
def mX12_shook (v0 : Nat) (v1 : Int32) (w : zWd) : Option (Int32 × zWd) :=
  mX12_shook_4 v0 v1 (1 : Int32) (0 : Int32) w
def mX12_shift_129 (s0 : Int32) (w : zWd) : Option (Int32 × zWd) :=
  some (s0, w)
def mX12_shift_124 (v2 : Int32) (w : zWd) : Option (Int32 × zWd) :=
  mX12_shift_129 v2 w
def mX12_shift_108 (k19 : Int32 × Int32 × Int32 × zWd → Option (Int32 × zWd)) (v0 : Nat) (v1 : Int32) (v2 : Int32) (v3 : Int32) (v4 : Int32) (w : zWd) : Option (Int32 × zWd) :=
  k19 (v2, v3, v4 + (1 : Int32), w)
def mX12_shift_107 (k19 : Int32 × Int32 × Int32 × zWd → Option (Int32 × zWd)) (v0 : Nat) (v1 : Int32) (v3 : Int32) (v4 : Int32) (s0 : Int32) (w : zWd) : Option (Int32 × zWd) :=
  mX12_shift_108 k19 v0 v1 s0 v3 v4 w
def mX12_shift_95 (k19 : Int32 × Int32 × Int32 × zWd → Option (Int32 × zWd)) (v0 : Nat) (v1 : Int32) (v2 : Int32) (v4 : Int32) (v5 : Int32) (s0 : Int32) (w : zWd) : Option (Int32 × zWd) :=
  if v5 = 0 then (mX12_shift_107 k19 v0 v1 s0 v4 v2 w)
  else (mX12_shift_107 k19 v0 v1 s0 v4 v4 w)
def mX12_shift_65 (k19 : Int32 × Int32 × Int32 × zWd → Option (Int32 × zWd)) (v0 : Nat) (v1 : Int32) (v2 : Int32) (v3 : Int32) (v4 : Int32) (s0 : Int32) (w : zWd) : Option (Int32 × zWd) :=
  if s0 = 0 then (zcl (mX12_count1 v4 w) fun r5 w6 =>
  zcl (mX12_count1 v2 w6) fun r7 w8 =>
  if r5 = r7 then (mX12_shift_95 k19 v0 v1 v2 v4 s0 (v3 + (1 : Int32)) w8)
  else (mX12_shift_95 k19 v0 v1 v2 v4 s0 v3 w8))
  else (mX12_shift_95 k19 v0 v1 v2 v4 s0 (1 : Int32) w)
def mX12_shift_60 (k19 : Int32 × Int32 × Int32 × zWd → Option (Int32 × zWd)) (v0 : Nat) (v1 : Int32) (v2 : Int32) (v3 : Int32) (v4 : Int32) (w : zWd) : Option (Int32 × zWd) :=
  mX12_shift_65 k19 v0 v1 v2 v3 v4 (1 : Int32) w
def mX12_shift_19b (v0 : Nat) (v1 : Int32) (k19 : Int32 × Int32 × Int32 × zWd → Option (Int32 × zWd)) (v2 : Int32) (v3 : Int32) (v4 : Int32) (w : zWd) : Option (Int32 × zWd) :=
  zgd (zin (7 : Int32) 21948) <|
  if ((1 : Int32) <<< ((w (v0 + 1) (7 : Int32).toNatClampNeg) &&& 31)) ≤ v4 then (if v2 = (-5 : Int32) then (mX12_shift_124 v2 w)
  else (if v1 = 0 then (mX12_shift_124 v2 w)
  else (mX12_shift_129 v3 w)))
  else (zcl (mX12_shook v0 v4 w) fun r3 w4 =>
  if r3 = 0 then (mX12_shift_108 k19 v0 v1 v2 v3 v4 w4)
  else (if v2 = (-5 : Int32) then (mX12_shift_60 k19 v0 v1 v2 v3 v4 w4)
  else (zcl (mX12_count1 v4 w4) fun r9 w10 =>
  zcl (mX12_count1 v2 w10) fun r11 w12 =>
  if r11 ≤ r9 then (mX12_shift_65 k19 v0 v1 v2 v3 v4 (0 : Int32) w12)
  else (mX12_shift_60 k19 v0 v1 v2 v3 v4 w12))))
def mX12_shift_19 (v0 : Nat) (v1 : Int32) (v2 : Int32) (v3 : Int32) (v4 : Int32) (w : zWd) : Option (Int32 × zWd) :=
  zlp (fun k q => mX12_shift_19b v0 v1 k q.1 q.2.1 q.2.2.1 q.2.2.2) zFU (v2, v3, v4, w)
def mX12_shift (v0 : Nat) (v1 : Int32) (w : zWd) : Option (Int32 × zWd) :=
  zcl (mX12_in v1 (0 : Int32) (1 : Int32) w) fun r1 w2 =>
  if r1 = 0 then (some ((-1 : Int32), w2))
  else (mX12_shift_19 v0 v1 (-5 : Int32) (0 : Int32) (0 : Int32) w2)
def mX12_givenWith_96b (k83 : Int32 × Int32 × zWd → Option (Int32 × zWd)) (v0 : Nat) (v3 : Int32) (v4 : Int32) (v6 : Int32) (k96 : Int32 × Int32 × zWd → Option (Int32 × zWd)) (v5 : Int32) (v7 : Int32) (w : zWd) : Option (Int32 × zWd) :=
  if v3 ≤ v7 then (k83 (v5, v6 + (1 : Int32), w))
  else (zgd (zin v7 12) <|
  zbn (v5 + (w (v0 + 3) v7.toNatClampNeg)) fun x16 =>
  k96 (x16, v7 + (1 : Int32), w))
def mX12_givenWith_96 (k83 : Int32 × Int32 × zWd → Option (Int32 × zWd)) (v0 : Nat) (v3 : Int32) (v4 : Int32) (v6 : Int32) (v5 : Int32) (v7 : Int32) (w : zWd) : Option (Int32 × zWd) :=
  zlp (fun k q => mX12_givenWith_96b k83 v0 v3 v4 v6 k q.1 q.2.1 q.2.2) zFU (v5, v7, w)
def mX12_givenWith_83b (v0 : Nat) (v3 : Int32) (v4 : Int32) (k83 : Int32 × Int32 × zWd → Option (Int32 × zWd)) (v5 : Int32) (v6 : Int32) (w : zWd) : Option (Int32 × zWd) :=
  if (5 : Int32) ≤ v6 then (zgd (zin (1 : Int32) 21948) <|
  zgd (zin (1 : Int32) 21948) <|
  zbn (zup w (v0 + 1) (1 : Int32).toNatClampNeg ((w (v0 + 1) (1 : Int32).toNatClampNeg) - (1 : Int32))) fun w10 =>
  zcl (mX12_givesBack v0 w10) fun _ w12 =>
  zgd (zin ((212 : Int32) + v3) 21948) <|
  zbn (zup w12 (v0 + 1) ((212 : Int32) + v3).toNatClampNeg v4) fun w13 =>
  some (v5, w13))
  else (zcl (mX12_flows v0 w) fun _ w15 =>
  mX12_givenWith_96 k83 v0 v3 v4 v6 v5 (0 : Int32) w15)
def mX12_givenWith_83 (v0 : Nat) (v3 : Int32) (v4 : Int32) (v5 : Int32) (v6 : Int32) (w : zWd) : Option (Int32 × zWd) :=
  zlp (fun k q => mX12_givenWith_83b v0 v3 v4 k q.1 q.2.1 q.2.2) zFU (v5, v6, w)
def mX12_givenWith (v0 : Nat) (v1 : Int32) (v2 : Int32) (w : zWd) : Option (Int32 × zWd) :=
  zgd (zin (1 : Int32) 21948) <|
  zbn (w (v0 + 1) (1 : Int32).toNatClampNeg) fun x1 =>
  zgd (zin ((140 : Int32) + x1) 21948) <|
  zbn (zup w (v0 + 1) ((140 : Int32) + x1).toNatClampNeg (1 : Int32)) fun w2 =>
  zgd (zin ((152 : Int32) + x1) 21948) <|
  zbn (zup w2 (v0 + 1) ((152 : Int32) + x1).toNatClampNeg v1) fun w3 =>
  zgd (zin ((164 : Int32) + x1) 21948) <|
  zbn (zup w3 (v0 + 1) ((164 : Int32) + x1).toNatClampNeg v2) fun w4 =>
  zgd (zin ((188 : Int32) + x1) 21948) <|
  zbn (zup w4 (v0 + 1) ((188 : Int32) + x1).toNatClampNeg (0 : Int32)) fun w5 =>
  zgd (zin ((212 : Int32) + x1) 21948) <|
  zbn (w5 (v0 + 1) ((212 : Int32) + x1).toNatClampNeg) fun x6 =>
  zcl (mX12_keeps v0 w5) fun _ w8 =>
  zgd (zin (1 : Int32) 21948) <|
  zgd (zin (1 : Int32) 21948) <|
  zbn (zup w8 (v0 + 1) (1 : Int32).toNatClampNeg ((w8 (v0 + 1) (1 : Int32).toNatClampNeg) + (1 : Int32))) fun w9 =>
  mX12_givenWith_83 v0 x1 x6 (0 : Int32) (0 : Int32) w9
def mX12_place_39 (w : zWd) : Option (Int32 × zWd) :=
  some ((-3 : Int32), w)
def mX12_place_112 (k50 : Int32 × Int32 × Int32 × zWd → Option (Int32 × zWd)) (v0 : Nat) (v1 : Int32) (v2 : Int32) (v3 : Int32) (v4 : Int32) (w : zWd) : Option (Int32 × zWd) :=
  k50 (v2, v3, v4 + (1 : Int32), w)
def mX12_place_111 (k50 : Int32 × Int32 × Int32 × zWd → Option (Int32 × zWd)) (v0 : Nat) (v1 : Int32) (v2 : Int32) (v4 : Int32) (s0 : Int32) (w : zWd) : Option (Int32 × zWd) :=
  mX12_place_112 k50 v0 v1 v2 s0 v4 w
def mX12_place_98 (k50 : Int32 × Int32 × Int32 × zWd → Option (Int32 × zWd)) (v0 : Nat) (v1 : Int32) (v3 : Int32) (v4 : Int32) (v5 : Int32) (s0 : Int32) (w : zWd) : Option (Int32 × zWd) :=
  if v5 ≤ v3 then (mX12_place_111 k50 v0 v1 s0 v4 v3 w)
  else (mX12_place_111 k50 v0 v1 s0 v4 v5 w)
def mX12_place_50b (v0 : Nat) (v1 : Int32) (k50 : Int32 × Int32 × Int32 × zWd → Option (Int32 × zWd)) (v2 : Int32) (v3 : Int32) (v4 : Int32) (w : zWd) : Option (Int32 × zWd) :=
  if (30 : Int32) ≤ v4 then (some (v2, w))
  else (zcl (mX12_hasTap v0 v4 w) fun r3 w4 =>
  if r3 = 0 then (zcl (mX12_mayBe v0 v4 (1 : Int32) (1 : Int32) w4) fun r5 w6 =>
  if r5 = 0 then (mX12_place_112 k50 v0 v1 v2 v3 v4 w6)
  else (zcl (mX12_givenWith v0 v4 v1 w6) fun r7 w8 =>
  if r7 ≤ v3 then (mX12_place_98 k50 v0 v1 v3 v4 r7 v2 w8)
  else (mX12_place_98 k50 v0 v1 v3 v4 r7 v4 w8)))
  else (mX12_place_112 k50 v0 v1 v2 v3 v4 w4))
def mX12_place_50 (v0 : Nat) (v1 : Int32) (v2 : Int32) (v3 : Int32) (v4 : Int32) (w : zWd) : Option (Int32 × zWd) :=
  zlp (fun k q => mX12_place_50b v0 v1 k q.1 q.2.1 q.2.2.1 q.2.2.2) zFU (v2, v3, v4, w)
def mX12_place (v0 : Nat) (v1 : Int32) (w : zWd) : Option (Int32 × zWd) :=
  zcl (mX12_in v1 (1 : Int32) (500 : Int32) w) fun r1 w2 =>
  if r1 = 0 then (some ((-2 : Int32), w2))
  else (zgd (zin (1 : Int32) 21948) <|
  if (w2 (v0 + 1) (1 : Int32).toNatClampNeg) = (12 : Int32) then (mX12_place_39 w2)
  else (zgd (zin (0 : Int32) 21948) <|
  if ((w2 (v0 + 1) (0 : Int32).toNatClampNeg) + (5 : Int32)) ≤ (400 : Int32) then (mX12_place_50 v0 v1 (-5 : Int32) (-1 : Int32) (0 : Int32) w2)
  else (mX12_place_39 w2)))
def mX12_tried_22 (w : zWd) : Option (Int32 × zWd) :=
  some ((-1 : Int32), w)
def mX12_tried_112 (v0 : Nat) (v3 : Int32) (w : zWd) : Option (Int32 × zWd) :=
  zgd (zin (2 : Int32) 21948) <|
  zgd (zin (2 : Int32) 21948) <|
  zbn (zup w (v0 + 1) (2 : Int32).toNatClampNeg ((w (v0 + 1) (2 : Int32).toNatClampNeg) - (1 : Int32))) fun w12 =>
  some (v3, w12)
def mX12_tried_24 (v0 : Nat) (v1 : Int32) (v2 : Int32) (w : zWd) : Option (Int32 × zWd) :=
  zgd (zin (2 : Int32) 21948) <|
  zgd (zin (0 : Int32) 21948) <|
  zcl (mX12_readsOrder v0 (w (v0 + 1) (2 : Int32).toNatClampNeg) (w (v0 + 1) (0 : Int32).toNatClampNeg) w) fun r5 w6 =>
  if r5 = 0 then (some ((-10 : Int32) - (w6 v0 11), w6))
  else (zgd (zin (2 : Int32) 21948) <|
  zgd (zin (2 : Int32) 21948) <|
  zbn (zup w6 (v0 + 1) (2 : Int32).toNatClampNeg ((w6 (v0 + 1) (2 : Int32).toNatClampNeg) + (1 : Int32))) fun w7 =>
  if v1 = (1 : Int32) then (zgd (zin (0 : Int32) 21948) <|
  zcl (mX12_mixOf v0 v2 (w7 (v0 + 1) (0 : Int32).toNatClampNeg) w7) fun r8 w9 =>
  zcl (mX12_count1 r8 w9) fun r10 w11 =>
  mX12_tried_112 v0 r10 w11)
  else (zgd (zin (3 : Int32) 21948) <|
  if (w7 (v0 + 1) (3 : Int32).toNatClampNeg) ≤ 0 then (mX12_tried_112 v0 (-1 : Int32) w7)
  else (zgd (zin (0 : Int32) 21948) <|
  zcl (mX12_rows v0 (w7 (v0 + 1) (0 : Int32).toNatClampNeg) w7) fun _ w14 =>
  zgd (zin (0 : Int32) 8) <|
  zbn (w14 (v0 + 9) (0 : Int32).toNatClampNeg) fun x15 =>
  mX12_tried_112 v0 x15 w14)))
def mX12_tried (v0 : Nat) (v1 : Int32) (v2 : Int32) (w : zWd) : Option (Int32 × zWd) :=
  zcl (mX12_in v1 (0 : Int32) (1 : Int32) w) fun r1 w2 =>
  if r1 = 0 then (mX12_tried_22 w2)
  else (if v1 = (1 : Int32) then (zcl (mX12_isGone v0 v2 w2) fun r3 w4 =>
  if r3 = 0 then (mX12_tried_22 w4)
  else (mX12_tried_24 v0 v1 v2 w4))
  else (mX12_tried_24 v0 v1 v2 w2))
def mX12_image_2b (v0 : Nat) (k2 : Int32 × zWd → Option (Int32 × zWd)) (v1 : Int32) (w : zWd) : Option (Int32 × zWd) :=
  if (21948 : Int32) ≤ v1 then (zgd (zB (1 : Int32)) <|
  zbn (zup w v0 3 (1 : Int32)) fun w1 =>
  zgd (zin (0 : Int32) 21948) <|
  some (w1 (v0 + 1) (0 : Int32).toNatClampNeg, w1))
  else (zgd (zin v1 21948) <|
  zgd (zin v1 21948) <|
  zbn (zup w (v0 + 2) v1.toNatClampNeg (w (v0 + 1) v1.toNatClampNeg)) fun w2 =>
  k2 (v1 + (1 : Int32), w2))
def mX12_image_2 (v0 : Nat) (v1 : Int32) (w : zWd) : Option (Int32 × zWd) :=
  zlp (fun k q => mX12_image_2b v0 k q.1 q.2) zFU (v1, w)
def mX12_image (v0 : Nat) (w : zWd) : Option (Int32 × zWd) :=
  mX12_image_2 v0 (0 : Int32) w
def mX12_undo_12b (v0 : Nat) (k12 : Int32 × zWd → Option (Int32 × zWd)) (v1 : Int32) (w : zWd) : Option (Int32 × zWd) :=
  if (21948 : Int32) ≤ v1 then (zgd (zin (0 : Int32) 21948) <|
  some (w (v0 + 1) (0 : Int32).toNatClampNeg, w))
  else (zgd (zin v1 21948) <|
  zgd (zin v1 21948) <|
  zbn (zup w (v0 + 1) v1.toNatClampNeg (w (v0 + 2) v1.toNatClampNeg)) fun w1 =>
  k12 (v1 + (1 : Int32), w1))
def mX12_undo_12 (v0 : Nat) (v1 : Int32) (w : zWd) : Option (Int32 × zWd) :=
  zlp (fun k q => mX12_undo_12b v0 k q.1 q.2) zFU (v1, w)
def mX12_undo (v0 : Nat) (w : zWd) : Option (Int32 × zWd) :=
  if (w v0 3) = 0 then (some ((-3 : Int32), w))
  else (mX12_undo_12 v0 (0 : Int32) w)
def mX12_count_114b (v0 : Nat) (k114 : Int32 × Int32 × zWd → Option (Int32 × zWd)) (v2 : Int32) (v3 : Int32) (w : zWd) : Option (Int32 × zWd) :=
  if (30 : Int32) ≤ v3 then (some (v2, w))
  else (zgd (zin ((50 : Int32) + v3) 21948) <|
  zbn (v2 + (w (v0 + 1) ((50 : Int32) + v3).toNatClampNeg)) fun x1 =>
  k114 (x1, v3 + (1 : Int32), w))
def mX12_count_114 (v0 : Nat) (v2 : Int32) (v3 : Int32) (w : zWd) : Option (Int32 × zWd) :=
  zlp (fun k q => mX12_count_114b v0 k q.1 q.2.1 q.2.2) zFU (v2, v3, w)
def mX12_count (v0 : Nat) (v1 : Int32) (w : zWd) : Option (Int32 × zWd) :=
  if v1 = (0 : Int32) then (zgd (zin (1 : Int32) 21948) <|
  some (w (v0 + 1) (1 : Int32).toNatClampNeg, w))
  else if v1 = (1 : Int32) then (zgd (zin (2 : Int32) 21948) <|
  some (w (v0 + 1) (2 : Int32).toNatClampNeg, w))
  else if v1 = (2 : Int32) then (zgd (zin (3 : Int32) 21948) <|
  some (w (v0 + 1) (3 : Int32).toNatClampNeg, w))
  else if v1 = (3 : Int32) then (zgd (zin (4 : Int32) 21948) <|
  some (w (v0 + 1) (4 : Int32).toNatClampNeg, w))
  else if v1 = (4 : Int32) then (zgd (zin (5 : Int32) 21948) <|
  some (w (v0 + 1) (5 : Int32).toNatClampNeg, w))
  else if v1 = (5 : Int32) then (zgd (zin (0 : Int32) 21948) <|
  some (w (v0 + 1) (0 : Int32).toNatClampNeg, w))
  else if v1 = (6 : Int32) then (zgd (zin (6 : Int32) 21948) <|
  some (w (v0 + 1) (6 : Int32).toNatClampNeg, w))
  else if v1 = (7 : Int32) then (zgd (zin (7 : Int32) 21948) <|
  some (w (v0 + 1) (7 : Int32).toNatClampNeg, w))
  else if v1 = (8 : Int32) then (mX12_count_114 v0 (0 : Int32) (0 : Int32) w)
  else (some ((-1 : Int32), w))
def mL_law_1409 (L : Nat) (xs : Nat → Int32) (k18 : Int32 × zWd → Option (Int32 × zWd)) (v0 : Nat) (v1 : Nat) (v2 : Nat) (v3 : Int32) (w : zWd) : Option (Int32 × zWd) :=
  k18 (v3 + (6 : Int32), w)
def mL_law_358 (L : Nat) (xs : Nat → Int32) (k18 : Int32 × zWd → Option (Int32 × zWd)) (v0 : Nat) (v1 : Nat) (v2 : Nat) (v3 : Int32) (s0 : Int32) (s1 : Int32) (s2 : Nat) (s3 : Int32) (w : zWd) : Option (Int32 × zWd) :=
  zcl (mX12_shut s2 s1 s0 w) fun r15 w16 =>
  if s3 = r15 then (mL_law_1409 L xs k18 v0 v1 v2 v3 w16)
  else (zgd (zB (0 : Int32)) (some ((0 : Int32), w16)))
def mL_law_336 (L : Nat) (xs : Nat → Int32) (k18 : Int32 × zWd → Option (Int32 × zWd)) (v0 : Nat) (v1 : Nat) (v2 : Nat) (v3 : Int32) (s0 : Int32) (s1 : Int32) (s2 : Nat) (w : zWd) : Option (Int32 × zWd) :=
  zcl (mX11_shut s2 s1 s0 w) fun r13 w14 =>
  zgd (zin (v3 + (1 : Int32)) L) <|
  zgd (zin (v3 + (2 : Int32)) L) <|
  if (xs (v3 + (2 : Int32)).toNatClampNeg) = 0 then (mL_law_358 L xs k18 v0 v1 v2 v3 (0 : Int32) (xs (v3 + (1 : Int32)).toNatClampNeg) v2 r13 w14)
  else (mL_law_358 L xs k18 v0 v1 v2 v3 (1 : Int32) (xs (v3 + (1 : Int32)).toNatClampNeg) v2 r13 w14)
def mL_law_18b (L : Nat) (xs : Nat → Int32) (v0 : Nat) (v1 : Nat) (v2 : Nat) (k18 : Int32 × zWd → Option (Int32 × zWd)) (v3 : Int32) (w : zWd) : Option (Int32 × zWd) :=
  if ((Int32.ofNat L) - (6 : Int32)) < v3 then (zgd (zB (1 : Int32)) (some ((1 : Int32), w)))
  else (zgd (zin v3 L) <|
  if ((xs v3.toNatClampNeg) &&& (63 : Int32)) = (0 : Int32) then (zgd (zin (v3 + (1 : Int32)) L) <|
  zgd (zin (v3 + (2 : Int32)) L) <|
  zgd (zin (v3 + (3 : Int32)) L) <|
  zcl (mX11_under v1 (xs (v3 + (1 : Int32)).toNatClampNeg) (xs (v3 + (2 : Int32)).toNatClampNeg) (xs (v3 + (3 : Int32)).toNatClampNeg) w) fun r1 w2 =>
  zgd (zin (v3 + (1 : Int32)) L) <|
  zgd (zin (v3 + (2 : Int32)) L) <|
  zgd (zin (v3 + (3 : Int32)) L) <|
  zcl (mX12_under v2 (xs (v3 + (1 : Int32)).toNatClampNeg) (xs (v3 + (2 : Int32)).toNatClampNeg) (xs (v3 + (3 : Int32)).toNatClampNeg) w2) fun r3 w4 =>
  if r1 = r3 then (mL_law_1409 L xs k18 v0 v1 v2 v3 w4)
  else (zgd (zB (0 : Int32)) (some ((0 : Int32), w4))))
  else if ((xs v3.toNatClampNeg) &&& (63 : Int32)) = (1 : Int32) then (zgd (zin (v3 + (1 : Int32)) L) <|
  zgd (zin (v3 + (2 : Int32)) L) <|
  zcl (mX11_cell v1 (xs (v3 + (1 : Int32)).toNatClampNeg) (xs (v3 + (2 : Int32)).toNatClampNeg) w) fun r5 w6 =>
  zgd (zin (v3 + (1 : Int32)) L) <|
  zgd (zin (v3 + (2 : Int32)) L) <|
  zcl (mX12_cell v2 (xs (v3 + (1 : Int32)).toNatClampNeg) (xs (v3 + (2 : Int32)).toNatClampNeg) w6) fun r7 w8 =>
  if r5 = r7 then (mL_law_1409 L xs k18 v0 v1 v2 v3 w8)
  else (zgd (zB (0 : Int32)) (some ((0 : Int32), w8))))
  else if ((xs v3.toNatClampNeg) &&& (63 : Int32)) = (2 : Int32) then (zgd (zin (v3 + (1 : Int32)) L) <|
  zgd (zin (v3 + (2 : Int32)) L) <|
  zgd (zin (v3 + (3 : Int32)) L) <|
  zgd (zin (v3 + (4 : Int32)) L) <|
  zcl (mX11_tap v1 (xs (v3 + (1 : Int32)).toNatClampNeg) (xs (v3 + (2 : Int32)).toNatClampNeg) (xs (v3 + (3 : Int32)).toNatClampNeg) (xs (v3 + (4 : Int32)).toNatClampNeg) w) fun r9 w10 =>
  zgd (zin (v3 + (1 : Int32)) L) <|
  zgd (zin (v3 + (2 : Int32)) L) <|
  zgd (zin (v3 + (3 : Int32)) L) <|
  zgd (zin (v3 + (4 : Int32)) L) <|
  zcl (mX12_tap v2 (xs (v3 + (1 : Int32)).toNatClampNeg) (xs (v3 + (2 : Int32)).toNatClampNeg) (xs (v3 + (3 : Int32)).toNatClampNeg) (xs (v3 + (4 : Int32)).toNatClampNeg) w10) fun r11 w12 =>
  if r9 = r11 then (mL_law_1409 L xs k18 v0 v1 v2 v3 w12)
  else (zgd (zB (0 : Int32)) (some ((0 : Int32), w12))))
  else if ((xs v3.toNatClampNeg) &&& (63 : Int32)) = (3 : Int32) then (zgd (zin (v3 + (1 : Int32)) L) <|
  zgd (zin (v3 + (2 : Int32)) L) <|
  if (xs (v3 + (2 : Int32)).toNatClampNeg) = 0 then (mL_law_336 L xs k18 v0 v1 v2 v3 (0 : Int32) (xs (v3 + (1 : Int32)).toNatClampNeg) v1 w)
  else (mL_law_336 L xs k18 v0 v1 v2 v3 (1 : Int32) (xs (v3 + (1 : Int32)).toNatClampNeg) v1 w))
  else if ((xs v3.toNatClampNeg) &&& (63 : Int32)) = (4 : Int32) then (zgd (zin (v3 + (1 : Int32)) L) <|
  zcl (mX11_dawn v1 (xs (v3 + (1 : Int32)).toNatClampNeg) w) fun r17 w18 =>
  zgd (zin (v3 + (1 : Int32)) L) <|
  zcl (mX12_dawn v2 (xs (v3 + (1 : Int32)).toNatClampNeg) w18) fun r19 w20 =>
  if r17 = r19 then (mL_law_1409 L xs k18 v0 v1 v2 v3 w20)
  else (zgd (zB (0 : Int32)) (some ((0 : Int32), w20))))
  else if ((xs v3.toNatClampNeg) &&& (63 : Int32)) = (5 : Int32) then (zgd (zin (v3 + (1 : Int32)) L) <|
  zgd (zin (v3 + (2 : Int32)) L) <|
  zgd (zin (v3 + (3 : Int32)) L) <|
  zcl (mX11_flow v1 (xs (v3 + (1 : Int32)).toNatClampNeg) (xs (v3 + (2 : Int32)).toNatClampNeg) (xs (v3 + (3 : Int32)).toNatClampNeg) w) fun r21 w22 =>
  zgd (zin (v3 + (1 : Int32)) L) <|
  zgd (zin (v3 + (2 : Int32)) L) <|
  zgd (zin (v3 + (3 : Int32)) L) <|
  zcl (mX12_flow v2 (xs (v3 + (1 : Int32)).toNatClampNeg) (xs (v3 + (2 : Int32)).toNatClampNeg) (xs (v3 + (3 : Int32)).toNatClampNeg) w22) fun r23 w24 =>
  if r21 = r23 then (mL_law_1409 L xs k18 v0 v1 v2 v3 w24)
  else (zgd (zB (0 : Int32)) (some ((0 : Int32), w24))))
  else if ((xs v3.toNatClampNeg) &&& (63 : Int32)) = (6 : Int32) then (zgd (zin (v3 + (1 : Int32)) L) <|
  zgd (zin (v3 + (2 : Int32)) L) <|
  zcl (mX11_pipe v1 (xs (v3 + (1 : Int32)).toNatClampNeg) (xs (v3 + (2 : Int32)).toNatClampNeg) w) fun r25 w26 =>
  zgd (zin (v3 + (1 : Int32)) L) <|
  zgd (zin (v3 + (2 : Int32)) L) <|
  zcl (mX12_pipe v2 (xs (v3 + (1 : Int32)).toNatClampNeg) (xs (v3 + (2 : Int32)).toNatClampNeg) w26) fun r27 w28 =>
  if r25 = r27 then (mL_law_1409 L xs k18 v0 v1 v2 v3 w28)
  else (zgd (zB (0 : Int32)) (some ((0 : Int32), w28))))
  else if ((xs v3.toNatClampNeg) &&& (63 : Int32)) = (7 : Int32) then (zgd (zin (v3 + (1 : Int32)) L) <|
  zcl (mX11_scale v1 (xs (v3 + (1 : Int32)).toNatClampNeg) w) fun r29 w30 =>
  zgd (zin (v3 + (1 : Int32)) L) <|
  zcl (mX12_scale v2 (xs (v3 + (1 : Int32)).toNatClampNeg) w30) fun r31 w32 =>
  if r29 = r31 then (mL_law_1409 L xs k18 v0 v1 v2 v3 w32)
  else (zgd (zB (0 : Int32)) (some ((0 : Int32), w32))))
  else if ((xs v3.toNatClampNeg) &&& (63 : Int32)) = (8 : Int32) then (zgd (zin (v3 + (1 : Int32)) L) <|
  zgd (zin (v3 + (2 : Int32)) L) <|
  zgd (zin (v3 + (3 : Int32)) L) <|
  zcl (mX11_feed v1 ((((xs (v3 + (1 : Int32)).toNatClampNeg).toInt64) <<< ((32 : Int32).toInt64 &&& 63)) ||| (((xs (v3 + (2 : Int32)).toNatClampNeg).toInt64) &&& (4294967295 : Int64))) (xs (v3 + (3 : Int32)).toNatClampNeg) w) fun r33 w34 =>
  zgd (zin (v3 + (1 : Int32)) L) <|
  zgd (zin (v3 + (2 : Int32)) L) <|
  zgd (zin (v3 + (3 : Int32)) L) <|
  zcl (mX12_feed v2 ((((xs (v3 + (1 : Int32)).toNatClampNeg).toInt64) <<< ((32 : Int32).toInt64 &&& 63)) ||| (((xs (v3 + (2 : Int32)).toNatClampNeg).toInt64) &&& (4294967295 : Int64))) (xs (v3 + (3 : Int32)).toNatClampNeg) w34) fun r35 w36 =>
  if r33 = r35 then (mL_law_1409 L xs k18 v0 v1 v2 v3 w36)
  else (zgd (zB (0 : Int32)) (some ((0 : Int32), w36))))
  else if ((xs v3.toNatClampNeg) &&& (63 : Int32)) = (9 : Int32) then (zgd (zin (v3 + (1 : Int32)) L) <|
  zcl (mX11_text v1 (xs (v3 + (1 : Int32)).toNatClampNeg) w) fun r37 w38 =>
  zgd (zin (v3 + (1 : Int32)) L) <|
  zcl (mX12_text v2 (xs (v3 + (1 : Int32)).toNatClampNeg) w38) fun r39 w40 =>
  if r37 = r39 then (mL_law_1409 L xs k18 v0 v1 v2 v3 w40)
  else (zgd (zB (0 : Int32)) (some ((0 : Int32), w40))))
  else if ((xs v3.toNatClampNeg) &&& (63 : Int32)) = (10 : Int32) then (zgd (zin (v3 + (1 : Int32)) L) <|
  zgd (zin (v3 + (2 : Int32)) L) <|
  zgd (zin (v3 + (3 : Int32)) L) <|
  zcl (mX11_force v1 (xs (v3 + (1 : Int32)).toNatClampNeg) (xs (v3 + (2 : Int32)).toNatClampNeg) (xs (v3 + (3 : Int32)).toNatClampNeg) w) fun r41 w42 =>
  zgd (zin (v3 + (1 : Int32)) L) <|
  zgd (zin (v3 + (2 : Int32)) L) <|
  zgd (zin (v3 + (3 : Int32)) L) <|
  zcl (mX12_force v2 (xs (v3 + (1 : Int32)).toNatClampNeg) (xs (v3 + (2 : Int32)).toNatClampNeg) (xs (v3 + (3 : Int32)).toNatClampNeg) w42) fun r43 w44 =>
  if r41 = r43 then (mL_law_1409 L xs k18 v0 v1 v2 v3 w44)
  else (zgd (zB (0 : Int32)) (some ((0 : Int32), w44))))
  else if ((xs v3.toNatClampNeg) &&& (63 : Int32)) = (11 : Int32) then (zgd (zin (v3 + (1 : Int32)) L) <|
  zgd (zin (v3 + (2 : Int32)) L) <|
  zgd (zin (v3 + (3 : Int32)) L) <|
  zcl (mX11_why v1 (xs (v3 + (1 : Int32)).toNatClampNeg) (xs (v3 + (2 : Int32)).toNatClampNeg) (xs (v3 + (3 : Int32)).toNatClampNeg) w) fun r45 w46 =>
  zgd (zin (v3 + (1 : Int32)) L) <|
  zgd (zin (v3 + (2 : Int32)) L) <|
  zgd (zin (v3 + (3 : Int32)) L) <|
  zcl (mX12_why v2 (xs (v3 + (1 : Int32)).toNatClampNeg) (xs (v3 + (2 : Int32)).toNatClampNeg) (xs (v3 + (3 : Int32)).toNatClampNeg) w46) fun r47 w48 =>
  if r45 = r47 then (mL_law_1409 L xs k18 v0 v1 v2 v3 w48)
  else (zgd (zB (0 : Int32)) (some ((0 : Int32), w48))))
  else if ((xs v3.toNatClampNeg) &&& (63 : Int32)) = (12 : Int32) then (zgd (zin (v3 + (1 : Int32)) L) <|
  zgd (zin (v3 + (2 : Int32)) L) <|
  zgd (zin (v3 + (3 : Int32)) L) <|
  zgd (zin (v3 + (4 : Int32)) L) <|
  zgd (zin (v3 + (5 : Int32)) L) <|
  zcl (mX11_taker v1 (xs (v3 + (1 : Int32)).toNatClampNeg) (xs (v3 + (2 : Int32)).toNatClampNeg) (xs (v3 + (3 : Int32)).toNatClampNeg) (xs (v3 + (4 : Int32)).toNatClampNeg) (xs (v3 + (5 : Int32)).toNatClampNeg) w) fun r49 w50 =>
  zgd (zin (v3 + (1 : Int32)) L) <|
  zgd (zin (v3 + (2 : Int32)) L) <|
  zgd (zin (v3 + (3 : Int32)) L) <|
  zgd (zin (v3 + (4 : Int32)) L) <|
  zgd (zin (v3 + (5 : Int32)) L) <|
  zcl (mX12_taker v2 (xs (v3 + (1 : Int32)).toNatClampNeg) (xs (v3 + (2 : Int32)).toNatClampNeg) (xs (v3 + (3 : Int32)).toNatClampNeg) (xs (v3 + (4 : Int32)).toNatClampNeg) (xs (v3 + (5 : Int32)).toNatClampNeg) w50) fun r51 w52 =>
  if r49 = r51 then (mL_law_1409 L xs k18 v0 v1 v2 v3 w52)
  else (zgd (zB (0 : Int32)) (some ((0 : Int32), w52))))
  else if ((xs v3.toNatClampNeg) &&& (63 : Int32)) = (13 : Int32) then (zgd (zin (v3 + (1 : Int32)) L) <|
  zgd (zin (v3 + (2 : Int32)) L) <|
  zcl (mX11_of v1 (xs (v3 + (1 : Int32)).toNatClampNeg) (xs (v3 + (2 : Int32)).toNatClampNeg) w) fun r53 w54 =>
  zgd (zin (v3 + (1 : Int32)) L) <|
  zgd (zin (v3 + (2 : Int32)) L) <|
  zcl (mX12_of v2 (xs (v3 + (1 : Int32)).toNatClampNeg) (xs (v3 + (2 : Int32)).toNatClampNeg) w54) fun r55 w56 =>
  if r53 = r55 then (mL_law_1409 L xs k18 v0 v1 v2 v3 w56)
  else (zgd (zB (0 : Int32)) (some ((0 : Int32), w56))))
  else if ((xs v3.toNatClampNeg) &&& (63 : Int32)) = (14 : Int32) then (zgd (zin (v3 + (1 : Int32)) L) <|
  zgd (zin (v3 + (2 : Int32)) L) <|
  zcl (mX11_as v1 (xs (v3 + (1 : Int32)).toNatClampNeg) (xs (v3 + (2 : Int32)).toNatClampNeg) w) fun r57 w58 =>
  zgd (zin (v3 + (1 : Int32)) L) <|
  zgd (zin (v3 + (2 : Int32)) L) <|
  zcl (mX12_as v2 (xs (v3 + (1 : Int32)).toNatClampNeg) (xs (v3 + (2 : Int32)).toNatClampNeg) w58) fun r59 w60 =>
  if r57 = r59 then (mL_law_1409 L xs k18 v0 v1 v2 v3 w60)
  else (zgd (zB (0 : Int32)) (some ((0 : Int32), w60))))
  else if ((xs v3.toNatClampNeg) &&& (63 : Int32)) = (15 : Int32) then (zgd (zin (v3 + (1 : Int32)) L) <|
  zgd (zin (v3 + (2 : Int32)) L) <|
  zcl (mX11_row v1 (xs (v3 + (1 : Int32)).toNatClampNeg) (xs (v3 + (2 : Int32)).toNatClampNeg) w) fun r61 w62 =>
  zgd (zin (v3 + (1 : Int32)) L) <|
  zgd (zin (v3 + (2 : Int32)) L) <|
  zcl (mX12_row v2 (xs (v3 + (1 : Int32)).toNatClampNeg) (xs (v3 + (2 : Int32)).toNatClampNeg) w62) fun r63 w64 =>
  if r61 = r63 then (mL_law_1409 L xs k18 v0 v1 v2 v3 w64)
  else (zgd (zB (0 : Int32)) (some ((0 : Int32), w64))))
  else if ((xs v3.toNatClampNeg) &&& (63 : Int32)) = (16 : Int32) then (zgd (zin (v3 + (1 : Int32)) L) <|
  zgd (zin (v3 + (2 : Int32)) L) <|
  zgd (zin (v3 + (3 : Int32)) L) <|
  zgd (zin (v3 + (4 : Int32)) L) <|
  zcl (mX11_sell v1 (xs (v3 + (1 : Int32)).toNatClampNeg) (xs (v3 + (2 : Int32)).toNatClampNeg) (xs (v3 + (3 : Int32)).toNatClampNeg) (xs (v3 + (4 : Int32)).toNatClampNeg) w) fun r65 w66 =>
  zgd (zin (v3 + (1 : Int32)) L) <|
  zgd (zin (v3 + (2 : Int32)) L) <|
  zgd (zin (v3 + (3 : Int32)) L) <|
  zgd (zin (v3 + (4 : Int32)) L) <|
  zcl (mX12_sell v2 (xs (v3 + (1 : Int32)).toNatClampNeg) (xs (v3 + (2 : Int32)).toNatClampNeg) (xs (v3 + (3 : Int32)).toNatClampNeg) (xs (v3 + (4 : Int32)).toNatClampNeg) w66) fun r67 w68 =>
  if r65 = r67 then (mL_law_1409 L xs k18 v0 v1 v2 v3 w68)
  else (zgd (zB (0 : Int32)) (some ((0 : Int32), w68))))
  else if ((xs v3.toNatClampNeg) &&& (63 : Int32)) = (17 : Int32) then (zgd (zin (v3 + (1 : Int32)) L) <|
  zgd (zin (v3 + (2 : Int32)) L) <|
  zgd (zin (v3 + (3 : Int32)) L) <|
  zcl (mX11_whose v1 (xs (v3 + (1 : Int32)).toNatClampNeg) (xs (v3 + (2 : Int32)).toNatClampNeg) (xs (v3 + (3 : Int32)).toNatClampNeg) w) fun r69 w70 =>
  zgd (zin (v3 + (1 : Int32)) L) <|
  zgd (zin (v3 + (2 : Int32)) L) <|
  zgd (zin (v3 + (3 : Int32)) L) <|
  zcl (mX12_whose v2 (xs (v3 + (1 : Int32)).toNatClampNeg) (xs (v3 + (2 : Int32)).toNatClampNeg) (xs (v3 + (3 : Int32)).toNatClampNeg) w70) fun r71 w72 =>
  if r69 = r71 then (mL_law_1409 L xs k18 v0 v1 v2 v3 w72)
  else (zgd (zB (0 : Int32)) (some ((0 : Int32), w72))))
  else if ((xs v3.toNatClampNeg) &&& (63 : Int32)) = (18 : Int32) then (zgd (zin (v3 + (1 : Int32)) L) <|
  zgd (zin (v3 + (2 : Int32)) L) <|
  zcl (mX11_used v1 (xs (v3 + (1 : Int32)).toNatClampNeg) (xs (v3 + (2 : Int32)).toNatClampNeg) w) fun r73 w74 =>
  zgd (zin (v3 + (1 : Int32)) L) <|
  zgd (zin (v3 + (2 : Int32)) L) <|
  zcl (mX12_used v2 (xs (v3 + (1 : Int32)).toNatClampNeg) (xs (v3 + (2 : Int32)).toNatClampNeg) w74) fun r75 w76 =>
  if r73 = r75 then (mL_law_1409 L xs k18 v0 v1 v2 v3 w76)
  else (zgd (zB (0 : Int32)) (some ((0 : Int32), w76))))
  else if ((xs v3.toNatClampNeg) &&& (63 : Int32)) = (19 : Int32) then (zgd (zin (v3 + (1 : Int32)) L) <|
  zgd (zin (v3 + (2 : Int32)) L) <|
  zcl (mX11_lapsed v1 (xs (v3 + (1 : Int32)).toNatClampNeg) (xs (v3 + (2 : Int32)).toNatClampNeg) w) fun r77 w78 =>
  zgd (zin (v3 + (1 : Int32)) L) <|
  zgd (zin (v3 + (2 : Int32)) L) <|
  zcl (mX12_lapsed v2 (xs (v3 + (1 : Int32)).toNatClampNeg) (xs (v3 + (2 : Int32)).toNatClampNeg) w78) fun r79 w80 =>
  if r77 = r79 then (mL_law_1409 L xs k18 v0 v1 v2 v3 w80)
  else (zgd (zB (0 : Int32)) (some ((0 : Int32), w80))))
  else if ((xs v3.toNatClampNeg) &&& (63 : Int32)) = (20 : Int32) then (zgd (zin (v3 + (1 : Int32)) L) <|
  zcl (mX11_mix v1 (xs (v3 + (1 : Int32)).toNatClampNeg) w) fun r81 w82 =>
  zgd (zin (v3 + (1 : Int32)) L) <|
  zcl (mX12_mix v2 (xs (v3 + (1 : Int32)).toNatClampNeg) w82) fun r83 w84 =>
  if r81 = r83 then (mL_law_1409 L xs k18 v0 v1 v2 v3 w84)
  else (zgd (zB (0 : Int32)) (some ((0 : Int32), w84))))
  else if ((xs v3.toNatClampNeg) &&& (63 : Int32)) = (21 : Int32) then (zgd (zin (v3 + (1 : Int32)) L) <|
  zgd (zin (v3 + (2 : Int32)) L) <|
  zcl (mX11_want v1 (xs (v3 + (1 : Int32)).toNatClampNeg) (xs (v3 + (2 : Int32)).toNatClampNeg) w) fun r85 w86 =>
  zgd (zin (v3 + (1 : Int32)) L) <|
  zgd (zin (v3 + (2 : Int32)) L) <|
  zcl (mX12_want v2 (xs (v3 + (1 : Int32)).toNatClampNeg) (xs (v3 + (2 : Int32)).toNatClampNeg) w86) fun r87 w88 =>
  if r85 = r87 then (mL_law_1409 L xs k18 v0 v1 v2 v3 w88)
  else (zgd (zB (0 : Int32)) (some ((0 : Int32), w88))))
  else if ((xs v3.toNatClampNeg) &&& (63 : Int32)) = (22 : Int32) then (zgd (zin (v3 + (1 : Int32)) L) <|
  zgd (zin (v3 + (2 : Int32)) L) <|
  zgd (zin (v3 + (3 : Int32)) L) <|
  zgd (zin (v3 + (4 : Int32)) L) <|
  zcl (mX11_look v1 (xs (v3 + (1 : Int32)).toNatClampNeg) (xs (v3 + (2 : Int32)).toNatClampNeg) (xs (v3 + (3 : Int32)).toNatClampNeg) (xs (v3 + (4 : Int32)).toNatClampNeg) w) fun r89 w90 =>
  zgd (zin (v3 + (1 : Int32)) L) <|
  zgd (zin (v3 + (2 : Int32)) L) <|
  zgd (zin (v3 + (3 : Int32)) L) <|
  zgd (zin (v3 + (4 : Int32)) L) <|
  zcl (mX12_look v2 (xs (v3 + (1 : Int32)).toNatClampNeg) (xs (v3 + (2 : Int32)).toNatClampNeg) (xs (v3 + (3 : Int32)).toNatClampNeg) (xs (v3 + (4 : Int32)).toNatClampNeg) w90) fun r91 w92 =>
  if r89 = r91 then (mL_law_1409 L xs k18 v0 v1 v2 v3 w92)
  else (zgd (zB (0 : Int32)) (some ((0 : Int32), w92))))
  else if ((xs v3.toNatClampNeg) &&& (63 : Int32)) = (23 : Int32) then (zgd (zin (v3 + (1 : Int32)) L) <|
  zcl (mX11_off v1 (xs (v3 + (1 : Int32)).toNatClampNeg) w) fun r93 w94 =>
  zgd (zin (v3 + (1 : Int32)) L) <|
  zcl (mX12_off v2 (xs (v3 + (1 : Int32)).toNatClampNeg) w94) fun r95 w96 =>
  if r93 = r95 then (mL_law_1409 L xs k18 v0 v1 v2 v3 w96)
  else (zgd (zB (0 : Int32)) (some ((0 : Int32), w96))))
  else if ((xs v3.toNatClampNeg) &&& (63 : Int32)) = (24 : Int32) then (zgd (zin (v3 + (1 : Int32)) L) <|
  zgd (zin (v3 + (2 : Int32)) L) <|
  zcl (mX11_drop v1 (xs (v3 + (1 : Int32)).toNatClampNeg) (xs (v3 + (2 : Int32)).toNatClampNeg) w) fun r97 w98 =>
  zgd (zin (v3 + (1 : Int32)) L) <|
  zgd (zin (v3 + (2 : Int32)) L) <|
  zcl (mX12_drop v2 (xs (v3 + (1 : Int32)).toNatClampNeg) (xs (v3 + (2 : Int32)).toNatClampNeg) w98) fun r99 w100 =>
  if r97 = r99 then (mL_law_1409 L xs k18 v0 v1 v2 v3 w100)
  else (zgd (zB (0 : Int32)) (some ((0 : Int32), w100))))
  else if ((xs v3.toNatClampNeg) &&& (63 : Int32)) = (25 : Int32) then (zgd (zin (v3 + (1 : Int32)) L) <|
  zgd (zin (v3 + (2 : Int32)) L) <|
  zcl (mX11_cause v1 (xs (v3 + (1 : Int32)).toNatClampNeg) (xs (v3 + (2 : Int32)).toNatClampNeg) w) fun r101 w102 =>
  zgd (zin (v3 + (1 : Int32)) L) <|
  zgd (zin (v3 + (2 : Int32)) L) <|
  zcl (mX12_cause v2 (xs (v3 + (1 : Int32)).toNatClampNeg) (xs (v3 + (2 : Int32)).toNatClampNeg) w102) fun r103 w104 =>
  if r101 = r103 then (mL_law_1409 L xs k18 v0 v1 v2 v3 w104)
  else (zgd (zB (0 : Int32)) (some ((0 : Int32), w104))))
  else if ((xs v3.toNatClampNeg) &&& (63 : Int32)) = (26 : Int32) then (zgd (zin (v3 + (1 : Int32)) L) <|
  zgd (zin (v3 + (2 : Int32)) L) <|
  zcl (mX11_tire v1 (xs (v3 + (1 : Int32)).toNatClampNeg) (xs (v3 + (2 : Int32)).toNatClampNeg) w) fun r105 w106 =>
  zgd (zin (v3 + (1 : Int32)) L) <|
  zgd (zin (v3 + (2 : Int32)) L) <|
  zcl (mX12_tire v2 (xs (v3 + (1 : Int32)).toNatClampNeg) (xs (v3 + (2 : Int32)).toNatClampNeg) w106) fun r107 w108 =>
  if r105 = r107 then (mL_law_1409 L xs k18 v0 v1 v2 v3 w108)
  else (zgd (zB (0 : Int32)) (some ((0 : Int32), w108))))
  else if ((xs v3.toNatClampNeg) &&& (63 : Int32)) = (27 : Int32) then (zgd (zin (v3 + (1 : Int32)) L) <|
  zgd (zin (v3 + (2 : Int32)) L) <|
  zcl (mX11_shake v1 (xs (v3 + (1 : Int32)).toNatClampNeg) (xs (v3 + (2 : Int32)).toNatClampNeg) w) fun r109 w110 =>
  zgd (zin (v3 + (1 : Int32)) L) <|
  zgd (zin (v3 + (2 : Int32)) L) <|
  zcl (mX12_shake v2 (xs (v3 + (1 : Int32)).toNatClampNeg) (xs (v3 + (2 : Int32)).toNatClampNeg) w110) fun r111 w112 =>
  if r109 = r111 then (mL_law_1409 L xs k18 v0 v1 v2 v3 w112)
  else (zgd (zB (0 : Int32)) (some ((0 : Int32), w112))))
  else if ((xs v3.toNatClampNeg) &&& (63 : Int32)) = (28 : Int32) then (zgd (zin (v3 + (1 : Int32)) L) <|
  zgd (zin (v3 + (2 : Int32)) L) <|
  zcl (mX11_push v1 (xs (v3 + (1 : Int32)).toNatClampNeg) (xs (v3 + (2 : Int32)).toNatClampNeg) w) fun r113 w114 =>
  zgd (zin (v3 + (1 : Int32)) L) <|
  zgd (zin (v3 + (2 : Int32)) L) <|
  zcl (mX12_push v2 (xs (v3 + (1 : Int32)).toNatClampNeg) (xs (v3 + (2 : Int32)).toNatClampNeg) w114) fun r115 w116 =>
  if r113 = r115 then (mL_law_1409 L xs k18 v0 v1 v2 v3 w116)
  else (zgd (zB (0 : Int32)) (some ((0 : Int32), w116))))
  else if ((xs v3.toNatClampNeg) &&& (63 : Int32)) = (29 : Int32) then (zgd (zin (v3 + (1 : Int32)) L) <|
  zcl (mX11_shift v1 (xs (v3 + (1 : Int32)).toNatClampNeg) w) fun r117 w118 =>
  zgd (zin (v3 + (1 : Int32)) L) <|
  zcl (mX12_shift v2 (xs (v3 + (1 : Int32)).toNatClampNeg) w118) fun r119 w120 =>
  if r117 = r119 then (mL_law_1409 L xs k18 v0 v1 v2 v3 w120)
  else (zgd (zB (0 : Int32)) (some ((0 : Int32), w120))))
  else if ((xs v3.toNatClampNeg) &&& (63 : Int32)) = (30 : Int32) then (zgd (zin (v3 + (1 : Int32)) L) <|
  zcl (mX11_place v1 (xs (v3 + (1 : Int32)).toNatClampNeg) w) fun r121 w122 =>
  zgd (zin (v3 + (1 : Int32)) L) <|
  zcl (mX12_place v2 (xs (v3 + (1 : Int32)).toNatClampNeg) w122) fun r123 w124 =>
  if r121 = r123 then (mL_law_1409 L xs k18 v0 v1 v2 v3 w124)
  else (zgd (zB (0 : Int32)) (some ((0 : Int32), w124))))
  else if ((xs v3.toNatClampNeg) &&& (63 : Int32)) = (31 : Int32) then (zgd (zin (v3 + (1 : Int32)) L) <|
  zgd (zin (v3 + (2 : Int32)) L) <|
  zcl (mX11_tried v1 (xs (v3 + (1 : Int32)).toNatClampNeg) (xs (v3 + (2 : Int32)).toNatClampNeg) w) fun r125 w126 =>
  zgd (zin (v3 + (1 : Int32)) L) <|
  zgd (zin (v3 + (2 : Int32)) L) <|
  zcl (mX12_tried v2 (xs (v3 + (1 : Int32)).toNatClampNeg) (xs (v3 + (2 : Int32)).toNatClampNeg) w126) fun r127 w128 =>
  if r125 = r127 then (mL_law_1409 L xs k18 v0 v1 v2 v3 w128)
  else (zgd (zB (0 : Int32)) (some ((0 : Int32), w128))))
  else if ((xs v3.toNatClampNeg) &&& (63 : Int32)) = (32 : Int32) then (zcl (mX11_image v1 w) fun r129 w130 =>
  zcl (mX12_image v2 w130) fun r131 w132 =>
  if r129 = r131 then (mL_law_1409 L xs k18 v0 v1 v2 v3 w132)
  else (zgd (zB (0 : Int32)) (some ((0 : Int32), w132))))
  else if ((xs v3.toNatClampNeg) &&& (63 : Int32)) = (33 : Int32) then (zcl (mX11_undo v1 w) fun r133 w134 =>
  zcl (mX12_undo v2 w134) fun r135 w136 =>
  if r133 = r135 then (mL_law_1409 L xs k18 v0 v1 v2 v3 w136)
  else (zgd (zB (0 : Int32)) (some ((0 : Int32), w136))))
  else if ((xs v3.toNatClampNeg) &&& (63 : Int32)) = (34 : Int32) then (zgd (zin (v3 + (1 : Int32)) L) <|
  zcl (mX11_count v1 (xs (v3 + (1 : Int32)).toNatClampNeg) w) fun r137 w138 =>
  zgd (zin (v3 + (1 : Int32)) L) <|
  zcl (mX12_count v2 (xs (v3 + (1 : Int32)).toNatClampNeg) w138) fun r139 w140 =>
  if r137 = r139 then (mL_law_1409 L xs k18 v0 v1 v2 v3 w140)
  else (zgd (zB (0 : Int32)) (some ((0 : Int32), w140))))
  else (mL_law_1409 L xs k18 v0 v1 v2 v3 w))
def mL_law_18 (L : Nat) (xs : Nat → Int32) (v0 : Nat) (v1 : Nat) (v2 : Nat) (v3 : Int32) (w : zWd) : Option (Int32 × zWd) :=
  zlp (fun k q => mL_law_18b L xs v0 v1 v2 k q.1 q.2) zFU (v3, w)
