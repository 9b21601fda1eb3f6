/-- MarketTown.isWithin -/
def f_Mk_isWithin (x0 : Int32) (x1 : Int32) (x2 : Int32) : Option (Int32) :=
  some (if x0 < x1 then 0 else (if x2 < x0 then 0 else 1 : Int32) : Int32)
/-- MarketTown.isKind -/
def f_Mk_isKind (x0 : Int32) : Option (Int32) :=
  bd1 (f_Mk_isWithin x0 0 5) fun v1 =>
  if v1 = 0 ∨ v1 = 1 then
  some v1
  else none
/-- MarketTown$Town.welcome -/
def f_Tw_welcome (x1 : Int32) (x2 : Int32) (C0 : St) : Option (Int32 × St) :=
  if inb (C0 1 0) 12 then
  some (C0 1 0, mj_wr (mj_wr (mj_wr (mj_wr C0 2 ((C0 1 0).toNatClampNeg) x1) 3 ((C0 1 0).toNatClampNeg) x2) 5 ((C0 1 0).toNatClampNeg) (-1000000005)) 1 0 ((mj_wr (mj_wr (mj_wr C0 2 ((C0 1 0).toNatClampNeg) x1) 3 ((C0 1 0).toNatClampNeg) x2) 5 ((C0 1 0).toNatClampNeg) (-1000000005) 1 0) + 1))
  else none
/-- MarketTown.agent -/
def f_Mk_agent (x1 : Int32) (x2 : Int32) (C0 : St) : Option (Int32 × St) :=
  bd1 (f_Mk_isKind x1) fun v1 =>
  if v1 = 0 then
    some ((-1000000001), C0)
  else
  bd1 (f_Mk_isWithin x2 0 100000) fun v4 =>
  if v4 = 0 then
    some ((-1000000001), C0)
  else
  if (C0 1 0) < 12 then
    bd2 (f_Tw_welcome x1 x2 C0) fun v8 C9 =>
    some (v8, C9)
  else
  some ((-1000000003), C0)
/-- MarketTown$Town.isThere -/
def f_Tw_isThere (x1 : Int32) (C0 : St) : Option (Int32) :=
  bd1 (f_Mk_isWithin x1 0 ((C0 1 0) - 1)) fun v1 =>
  if v1 = 0 ∨ v1 = 1 then
  some v1
  else none
/-- MarketTown.isGood -/
def f_Mk_isGood (x0 : Int32) : Option (Int32) :=
  bd1 (f_Mk_isWithin x0 0 4) fun v1 =>
  if v1 = 0 ∨ v1 = 1 then
  some v1
  else none
/-- MarketTown$Stock.bring -/
def f_Sk_bring (x1 : Int32) (x2 : Int32) (x3 : Int32) (C0 : St) : Option (St) :=
  if inb (((x1 * 5) + x2) * 10) 600 then
  if inb ((x1 * 5) + x2) 60 then
  some (mj_wr (mj_wr C0 8 ((((x1 * 5) + x2) * 10).toNatClampNeg) ((C0 8 (((x1 * 5) + x2) * 10).toNatClampNeg) + x3)) 9 (((x1 * 5) + x2).toNatClampNeg) ((mj_wr C0 8 ((((x1 * 5) + x2) * 10).toNatClampNeg) ((C0 8 (((x1 * 5) + x2) * 10).toNatClampNeg) + x3) 9 ((x1 * 5) + x2).toNatClampNeg) + x3))
  else none
  else none
/-- MarketTown$Stock.all -/
def f_Sk_all (x1 : Int32) (x2 : Int32) (C0 : St) : Option (Int32) :=
  if inb ((x1 * 5) + x2) 60 then
  some (C0 9 ((x1 * 5) + x2).toNatClampNeg)
  else none
/-- MarketTown.give -/
def f_Mk_give (x1 : Int32) (x2 : Int32) (x3 : Int32) (C0 : St) : Option (Int32 × St) :=
  bd1 (f_Tw_isThere x1 C0) fun v1 =>
  if v1 = 0 then
    some ((-1000000001), C0)
  else
  bd1 (f_Mk_isGood x2) fun v4 =>
  if v4 = 0 then
    some ((-1000000001), C0)
  else
  bd1 (f_Mk_isWithin x3 1 999) fun v7 =>
  if v7 = 0 then
    some ((-1000000001), C0)
  else
  bd1 (f_Sk_bring x1 x2 x3 C0) fun C10 =>
  bd1 (f_Sk_all x1 x2 C10) fun v12 =>
  some (v12, C10)
/-- MarketTown$Wares.put -/
def f_Wr_put (x1 : Int32) (x2 : Int32) (x3 : Int32) (C0 : St) : Option (St) :=
  if inb ((x1 * 11) + x2) 55 then
  some (mj_wr C0 11 (((x1 * 11) + x2).toNatClampNeg) x3)
  else none
/-- MarketTown.good -/
def f_Mk_good (x1 : Int32) (x2 : Int32) (x3 : Int32) (C0 : St) : Option (Int32 × St) :=
  bd1 (f_Mk_isGood x1) fun v1 =>
  if v1 = 0 then
    some ((-1000000001), C0)
  else
  bd1 (f_Mk_isWithin x2 0 9) fun v4 =>
  if v4 = 0 then
    some ((-1000000001), C0)
  else
  bd1 (f_Mk_isWithin x3 0 2) fun v7 =>
  if v7 = 0 then
    some ((-1000000001), C0)
  else
  bd1 (f_Wr_put x1 0 x2 C0) fun C10 =>
  bd1 (f_Wr_put x1 1 x3 C10) fun C12 =>
  some (0, C12)
/-- MarketTown.recipe -/
def f_Mk_recipe (x1 : Int32) (x2 : Int32) (x3 : Int32) (x4 : Int32) (x5 : Int32) (C0 : St) : Option (Int32 × St) :=
  bd1 (f_Mk_isGood x1) fun v1 =>
  if v1 = 0 then
    some ((-1000000001), C0)
  else
  bd1 (f_Mk_isGood x2) fun v4 =>
  if v4 = 0 then
    some ((-1000000001), C0)
  else
  bd1 (f_Mk_isGood x4) fun v7 =>
  if v7 = 0 then
    some ((-1000000001), C0)
  else
  bd1 (f_Mk_isWithin x3 (-1) 9) fun v10 =>
  if v10 = 0 then
    some ((-1000000001), C0)
  else
  bd1 (f_Mk_isWithin x5 0 9) fun v13 =>
  if v13 = 0 then
    some ((-1000000001), C0)
  else
  bd1 (f_Wr_put x1 7 x2 C0) fun C16 =>
  bd1 (f_Wr_put x1 8 x3 C16) fun C18 =>
  bd1 (f_Wr_put x1 9 x4 C18) fun C20 =>
  bd1 (f_Wr_put x1 10 x5 C20) fun C22 =>
  some (0, C22)
/-- MarketTown.policy -/
def f_Mk_policy (x1 : Int32) (x2 : Int32) (C0 : St) : Option (Int32 × St) :=
  bd1 (f_Mk_isWithin x1 0 1000) fun v1 =>
  if v1 = 0 then
    some ((-1000000001), C0)
  else
  bd1 (f_Mk_isWithin x2 0 100) fun v4 =>
  if v4 = 0 then
    some ((-1000000001), C0)
  else
  some (0, mj_wr (mj_wr C0 1 3 x1) 1 4 x2)
/-- MarketTown.lots -/
def f_Mk_lots (x1 : Int32) (C0 : St) : Option (Int32 × St) :=
  if 0 ≤ x1 then
    some (0, mj_wr C0 1 2 x1)
  else
  some ((-1000000001), C0)
/-- MarketTown$Tape.hasRoom -/
def f_Tp_hasRoom  (C0 : St) : Option (Int32) :=
  some (if 60 < ((C0 19 0) + 20) then 0 else 1 : Int32)
/-- MarketTown$Tape.append -/
def L_Tp_append_2 : Nat → Int32 → Int32 → St → Option (St)
  | 0, _, _, _ => none
  | n + 1, y1, y2, C =>
    if y2 < 0 then
      some C
    else
    if 60 ≤ (C 19 0) then
      some C
    else
    if inb (C 19 0) 60 then
    L_Tp_append_2 n y1 (y2 + (-1)) (mj_wr (mj_wr C 20 ((C 19 0).toNatClampNeg) (((y1.toUInt32 >>> (Int32.toUInt32 (8 * y2) &&& Int32.toUInt32 31)).toInt32) &&& 255)) 19 0 ((mj_wr C 20 ((C 19 0).toNatClampNeg) (((y1.toUInt32 >>> (Int32.toUInt32 (8 * y2) &&& Int32.toUInt32 31)).toInt32) &&& 255) 19 0) + 1))
    else none
def f_Tp_append (x1 : Int32) (C0 : St) : Option (St) :=
  bd1 (L_Tp_append_2 3000 x1 3 C0) fun C4 =>
  some C4
/-- MarketTown.feed -/
def f_Mk_feed (x1 : Int32) (x2 : Int32) (x3 : Int32) (x4 : Int32) (x5 : Int32) (C0 : St) : Option (Int32 × St) :=
  bd1 (f_Tp_hasRoom C0) fun v1 =>
  if v1 = 0 then
    some ((-1000000003), C0)
  else
  bd1 (f_Tp_append x1 C0) fun C4 =>
  bd1 (f_Tp_append x2 C4) fun C6 =>
  bd1 (f_Tp_append x3 C6) fun C8 =>
  bd1 (f_Tp_append x4 C8) fun C10 =>
  bd1 (f_Tp_append x5 C10) fun C12 =>
  some (C12 19 0, C12)
/-- MarketTown.trim -/
def f_Mk_trim (x1 : Int32) (C0 : St) : Option (Int32 × St) :=
  bd1 (f_Mk_isWithin x1 0 (C0 19 0)) fun v1 =>
  if v1 = 0 then
    some ((-1000000001), C0)
  else
  some (x1, mj_wr C0 19 0 x1)
/-- MarketTown$RuleReader.clearRow -/
def L_Rr_clearRow_2 : Nat → Int32 → St → Option (St)
  | 0, _, _ => none
  | n + 1, y1, C =>
    if 9 ≤ y1 then
      some C
    else
    if inb y1 9 then
    L_Rr_clearRow_2 n (y1 + 1) (mj_wr C 22 (y1.toNatClampNeg) (-1000000005))
    else none
def f_Rr_clearRow  (C0 : St) : Option (St) :=
  bd1 (L_Rr_clearRow_2 3000 0 C0) fun C3 =>
  some (mj_wr (mj_wr C3 22 4 1) 22 8 0)
/-- MarketTown$Tape.next -/
def L_Tp_next_2 : Nat → Int32 → Int32 → St → Option (Int32)
  | 0, _, _, _ => none
  | n + 1, y2, y3, C =>
    if (C 19 0) ≤ y3 then
      some y3
    else
    if inb y3 60 then
    if (if (C 20 y3.toNatClampNeg) = 32 then 1 else 0 : Int32) = y2 then
      some y3
    else
    L_Tp_next_2 n y2 (y3 + 1) C
    else none
def f_Tp_next (x1 : Int32) (x2 : Int32) (C0 : St) : Option (Int32) :=
  bd1 (L_Tp_next_2 3000 x2 x1 C0) fun o6 =>
  some o6
/-- MarketTown$RuleReader.nextWord -/
def f_Rr_nextWord  (C0 : St) : Option (Int32 × St) :=
  bd1 (f_Tp_next (C0 21 2) 0 C0) fun v1 =>
  bd1 (f_Tp_next (mj_wr C0 21 1 v1 21 1) 1 (mj_wr C0 21 1 v1)) fun v3 =>
  some ((if (mj_wr (mj_wr C0 21 1 v1) 21 2 v3 21 2) ≤ (mj_wr (mj_wr C0 21 1 v1) 21 2 v3 21 1) then 0 else 1 : Int32), mj_wr (mj_wr C0 21 1 v1) 21 2 v3)
/-- java/lang/String.coder -/
def f_Js_coder (j0 : Nat) : Option (Int32) :=
  if narrow .byte (.int 0) = .int 0 then
  some 0
  else none
/-- java/lang/String.length -/
def f_Js_length (j0 : Nat) : Option (Int32) :=
  bd1 (f_Js_coder j0) fun v1 =>
  some ((Int32.ofNat (kSln.getD j0 0)) >>> (v1 &&& 31))
/-- MarketTown$Tape.byteAt -/
def f_Tp_byteAt (x1 : Int32) (C0 : St) : Option (Int32) :=
  bd1 (
    if x1 < 0 then
      some 32
    else
    if (C0 19 0) ≤ x1 then
      some 32
    else
    if inb x1 60 then
    some (C0 20 x1.toNatClampNeg)
    else none) fun (w4 : Int32) =>
  some w4
/-- java/lang/String.isLatin1 -/
def f_Js_isLatin1 (j0 : Nat) : Option (Int32) :=
  some 1
/-- jdk/internal/util/Preconditions.checkIndex -/
def f_Jp_checkIndex (x0 : Int32) (x1 : Int32) : Option (Int32) :=
  if x0 < 0 then
    none
  else
  if x0 < x1 then
    some x0
  else
  none
/-- java/lang/String.checkIndex -/
def f_Js_checkIndex (x0 : Int32) (x1 : Int32) : Option (Unit) :=
  bd1 (f_Jp_checkIndex x0 x1) fun v1 =>
  some ()
/-- java/lang/StringLatin1.charAt -/
def f_Jl_charAt (j0 : Nat) (x1 : Int32) : Option (Int32) :=
  bd1 (f_Js_checkIndex x1 (Int32.ofNat (kSln.getD j0 0))) fun _uhb1 =>
  if inb x1 (kSln.getD j0 0) then
  if narrow .char (.int (((((kSby.getD j0 []).getD x1.toNatClampNeg 0) &&& 255).toUInt32 % 65536).toInt32)) = .int (((((kSby.getD j0 []).getD x1.toNatClampNeg 0) &&& 255).toUInt32 % 65536).toInt32) then
  some (((((kSby.getD j0 []).getD x1.toNatClampNeg 0) &&& 255).toUInt32 % 65536).toInt32)
  else none
  else none
/-- java/lang/String.charAt -/
def f_Js_charAt (j0 : Nat) (x1 : Int32) : Option (Int32) :=
  bd1 (f_Js_isLatin1 j0) fun v1 =>
  if v1 = 0 then
    none
  else
  bd1 (f_Jl_charAt j0 x1) fun v4 =>
  if narrow .char (.int v4) = .int v4 then
  some v4
  else none
/-- MarketTown$RuleReader.isWord -/
def L_Rr_isWord_20 : Nat → Nat → Int32 → St → Option ((Int32) ⊕ (Unit))
  | 0, _, _, _ => none
  | n + 1, j2, y3, C =>
    bd1 (f_Js_length j2) fun v4 =>
    if v4 ≤ y3 then
      some (.inr ())
    else
    bd1 (f_Tp_byteAt ((C 21 1) + y3) C) fun v7 =>
    bd1 (f_Js_charAt j2 y3) fun v9 =>
    if v7 = v9 then
      L_Rr_isWord_20 n j2 (y3 + 1) C
    else
    some (.inl 0)
def f_Rr_isWord (j2 : Nat) (C0 : St) : Option (Int32) :=
  bd1 (f_Js_length j2) fun v1 =>
  if ((C0 21 2) - (C0 21 1)) = v1 then
    bdS (L_Rr_isWord_20 3000 j2 0 C0) (fun e13 => some e13) fun _u =>
    some 1
  else
  some 0
/-- MarketTown$RuleReader.actOf -/
def f_Rr_actOf  (C0 : St) : Option (Int32) :=
  bd1 (f_Rr_isWord 8 C0) fun v1 =>
  if v1 = 0 then
    bd1 (f_Rr_isWord 9 C0) fun v4 =>
    if v4 = 0 then
      bd1 (f_Rr_isWord 10 C0) fun v7 =>
      if v7 = 0 then
        bd1 (f_Rr_isWord 11 C0) fun v10 =>
        if v10 = 0 then
          bd1 (f_Rr_isWord 12 C0) fun v13 =>
          if v13 = 0 then
            bd1 (f_Rr_isWord 13 C0) fun v16 =>
            some (if v16 = 0 then (-1) else 5 : Int32)
          else
          some 4
        else
        some 3
      else
      some 2
    else
    some 1
  else
  some 0
/-- MarketTown$RuleReader.number -/
def L_Rr_number_7 : Nat → Int32 → Int32 → St → Option ((Int32) ⊕ (Int32))
  | 0, _, _, _ => none
  | n + 1, y2, y3, C =>
    if (C 21 2) ≤ y3 then
      some (.inr y2)
    else
    bd1 (f_Tp_byteAt y3 C) fun v2 =>
    bd1 (f_Mk_isWithin (v2 - 48) 0 9) fun v4 =>
    if v4 = 0 then
      some (.inl (-1))
    else
    if ((y2 * 10) + (v2 - 48)) ≤ 9999 then
      L_Rr_number_7 n ((y2 * 10) + (v2 - 48)) (y3 + 1) C
    else
    some (.inl (-1))
def f_Rr_number  (C0 : St) : Option (Int32) :=
  bdS (L_Rr_number_7 3000 0 (C0 21 1) C0) (fun e10 => some e10) fun o8 =>
  some o8
/-- MarketTown$RuleReader.reads -/
def f_Rr_reads (x2 : Int32) (x3 : Int32) (x4 : Int32) (C0 : St) : Option (Int32 × St) :=
  bd2 (f_Rr_nextWord C0) fun v1 C2 =>
  bd1 (
    if v1 = 0 then
      some (-1)
    else
    bd1 (f_Rr_number C2) fun v5 =>
    some v5) fun (w7 : Int32) =>
  bd1 (f_Mk_isWithin w7 x3 x4) fun v10 =>
  if v10 = 0 then
    some (0, C2)
  else
  if inb x2 9 then
  some (1, mj_wr C2 22 (x2.toNatClampNeg) w7)
  else none
/-- MarketTown$RuleReader.readsAct -/
def f_Rr_readsAct (x2 : Int32) (x3 : Int32) (C0 : St) : Option (Int32 × St) :=
  bd1 (f_Rr_actOf C0) fun v1 =>
  if v1 = (-1) then
    some (0, C0)
  else
  bd2 (f_Rr_reads 1 0 (if (if v1 = 4 then 1 else (if v1 = 5 then 1 else 0 : Int32) : Int32) = 0 then 4 else x3 - 1 : Int32) (mj_wr C0 22 0 v1)) fun v9 C10 =>
  if v9 = 0 then
    some (0, C10)
  else
  if (if v1 = 4 then 1 else (if v1 = 5 then 1 else 0 : Int32) : Int32) = 0 then
    bd2 (f_Rr_reads 2 1 999 C10) fun v14 C15 =>
    if v14 = 0 then
      some (0, C15)
    else
    if v1 = 2 then
      bd2 (f_Rr_reads 3 1 999 C15) fun v22 C23 =>
      if v22 = 0 ∨ v22 = 1 then
      some (v22, C23)
      else none
    else
    if v1 = 3 then
      bd2 (f_Rr_reads 3 1 999 C15) fun v26 C27 =>
      if v26 = 0 ∨ v26 = 1 then
      some (v26, C27)
      else none
    else
    if v1 = 4 then
      some (1, C15)
    else
    if v1 = 5 then
      bd2 (f_Rr_reads 3 1 30 C15) fun v30 C31 =>
      if v30 = 0 ∨ v30 = 1 then
      some (v30, C31)
      else none
    else
    some (1, C15)
  else
  if (C10 22 1) = x2 then
    some (0, C10)
  else
  bd2 (f_Rr_reads 2 1 999 C10) fun v36 C37 =>
  if v36 = 0 then
    some (0, C37)
  else
  if v1 = 2 then
    bd2 (f_Rr_reads 3 1 999 C37) fun v44 C45 =>
    if v44 = 0 ∨ v44 = 1 then
    some (v44, C45)
    else none
  else
  if v1 = 3 then
    bd2 (f_Rr_reads 3 1 999 C37) fun v48 C49 =>
    if v48 = 0 ∨ v48 = 1 then
    some (v48, C49)
    else none
  else
  if v1 = 4 then
    some (1, C37)
  else
  if v1 = 5 then
    bd2 (f_Rr_reads 3 1 30 C37) fun v52 C53 =>
    if v52 = 0 ∨ v52 = 1 then
    some (v52, C53)
    else none
  else
  some (1, C37)
/-- MarketTown$RuleReader.condOf -/
def f_Rr_condOf  (C0 : St) : Option (Int32) :=
  bd1 (f_Rr_isWord 2 C0) fun v1 =>
  if v1 = 0 then
    bd1 (f_Rr_isWord 3 C0) fun v4 =>
    if v4 = 0 then
      bd1 (f_Rr_isWord 4 C0) fun v7 =>
      if v7 = 0 then
        bd1 (f_Rr_isWord 5 C0) fun v10 =>
        some (if v10 = 0 then (-1) else 3 : Int32)
      else
      some 2
    else
    some 1
  else
  some 0
/-- MarketTown$RuleReader.readsCond -/
def f_Rr_readsCond  (C0 : St) : Option (Int32 × St) :=
  bd2 (f_Rr_nextWord C0) fun v1 C2 =>
  bd1 (f_Rr_condOf C2) fun v4 =>
  if v4 = (-1) then
    some (0, C2)
  else
  if (if v4 = 1 then 1 else (if v4 = 3 then 1 else 0 : Int32) : Int32) = 0 then
    bd2 (f_Rr_nextWord C2) fun v11 C12 =>
    bd1 (f_Rr_isWord 6 C12) fun v14 =>
    if v14 = 0 then
      bd1 (f_Rr_isWord 7 C12) fun v23 =>
      if v23 = 0 then
        some (0, C12)
      else
      bd2 (f_Rr_reads 7 0 9999 (mj_wr C12 22 5 (if v14 = 0 then v4 else v4 + 4 : Int32))) fun v28 C29 =>
      if v28 = 0 ∨ v28 = 1 then
      some (v28, C29)
      else none
    else
    bd2 (f_Rr_reads 7 0 9999 (mj_wr C12 22 5 (if v14 = 0 then v4 else v4 + 4 : Int32))) fun v19 C20 =>
    if v19 = 0 ∨ v19 = 1 then
    some (v19, C20)
    else none
  else
  bd2 (f_Rr_reads 6 0 4 C2) fun v32 C33 =>
  if v32 = 0 then
    some (0, C33)
  else
  bd2 (f_Rr_nextWord C33) fun v36 C37 =>
  bd1 (f_Rr_isWord 6 C37) fun v39 =>
  if v39 = 0 then
    bd1 (f_Rr_isWord 7 C37) fun v48 =>
    if v48 = 0 then
      some (0, C37)
    else
    bd2 (f_Rr_reads 7 0 9999 (mj_wr C37 22 5 (if v39 = 0 then v4 else v4 + 4 : Int32))) fun v53 C54 =>
    if v53 = 0 ∨ v53 = 1 then
    some (v53, C54)
    else none
  else
  bd2 (f_Rr_reads 7 0 9999 (mj_wr C37 22 5 (if v39 = 0 then v4 else v4 + 4 : Int32))) fun v44 C45 =>
  if v44 = 0 ∨ v44 = 1 then
  some (v44, C45)
  else none
/-- MarketTown$RuleReader.understands -/
def f_Rr_understands (x2 : Int32) (x3 : Int32) (C0 : St) : Option (Int32 × St) :=
  bd1 (f_Rr_clearRow C0) fun C1 =>
  bd2 (f_Rr_nextWord (mj_wr C1 21 2 0)) fun v3 C4 =>
  bd1 (f_Rr_isWord 0 C4) fun v6 =>
  if v6 = 0 then
    bd1 (f_Rr_isWord 1 C4) fun v9 =>
    if v9 = 0 then
      bd2 (f_Rr_readsAct x2 x3 C4) fun v12 C13 =>
      bd2 (
        if v12 = 0 then
          some (0, C13)
        else
        bd2 (f_Rr_nextWord C13) fun v16 C17 =>
        if v16 = 0 then
          some (1, C17)
        else
        some (0, C17)) fun (w20 : Int32) (C21 : St) =>
      if w20 = 0 ∨ w20 = 1 then
      some (w20, C21)
      else none
    else
    bd2 (f_Rr_readsCond C4) fun v25 C26 =>
    if v25 = 0 then
      some (0, C26)
    else
    bd2 (f_Rr_nextWord C26) fun v29 C30 =>
    if v29 = 0 then
      some (0, C30)
    else
    bd2 (f_Rr_readsAct x2 x3 C30) fun v33 C34 =>
    bd2 (
      if v33 = 0 then
        some (0, C34)
      else
      bd2 (f_Rr_nextWord C34) fun v37 C38 =>
      if v37 = 0 then
        some (1, C38)
      else
      some (0, C38)) fun (w41 : Int32) (C42 : St) =>
    if w41 = 0 ∨ w41 = 1 then
    some (w41, C42)
    else none
  else
  bd2 (f_Rr_reads 4 1 99 C4) fun v46 C47 =>
  if v46 = 0 then
    some (0, C47)
  else
  bd2 (f_Rr_nextWord C47) fun v50 C51 =>
  if v50 = 0 then
    some (0, C51)
  else
  bd1 (f_Rr_isWord 1 C51) fun v54 =>
  if v54 = 0 then
    bd2 (f_Rr_readsAct x2 x3 C51) fun v57 C58 =>
    bd2 (
      if v57 = 0 then
        some (0, C58)
      else
      bd2 (f_Rr_nextWord C58) fun v61 C62 =>
      if v61 = 0 then
        some (1, C62)
      else
      some (0, C62)) fun (w65 : Int32) (C66 : St) =>
    if w65 = 0 ∨ w65 = 1 then
    some (w65, C66)
    else none
  else
  bd2 (f_Rr_readsCond C51) fun v70 C71 =>
  if v70 = 0 then
    some (0, C71)
  else
  bd2 (f_Rr_nextWord C71) fun v74 C75 =>
  if v74 = 0 then
    some (0, C75)
  else
  bd2 (f_Rr_readsAct x2 x3 C75) fun v78 C79 =>
  bd2 (
    if v78 = 0 then
      some (0, C79)
    else
    bd2 (f_Rr_nextWord C79) fun v82 C83 =>
    if v82 = 0 then
      some (1, C83)
    else
    some (0, C83)) fun (w86 : Int32) (C87 : St) =>
  if w86 = 0 ∨ w86 = 1 then
  some (w86, C87)
  else none
/-- MarketTown$Rules.start -/
def f_Rl_start (x0 : Int32) (x1 : Int32) : Option (Int32) :=
  some (((x0 * 6) + x1) * 9)
/-- MarketTown$Rules.append -/
def f_Rl_append (x1 : Int32) (C0 : St) : Option (Int32 × St) :=
  if inb x1 12 then
  if (C0 13 x1.toNatClampNeg) < 6 then
    bd1 (f_Rl_start x1 (C0 13 x1.toNatClampNeg)) fun v3 =>
    if 0 ≤ Int32.toInt 0 ∧ 0 ≤ (v3).toInt ∧ 0 ≤ Int32.toInt 9 ∧ Int32.toInt 0 + Int32.toInt 9 ≤ 9 ∧ (v3).toInt + Int32.toInt 9 ≤ 648 then
    some (C0 13 x1.toNatClampNeg, mj_wr (mj_cp C0 22 14 0 (v3.toNatClampNeg) 9) 13 (x1.toNatClampNeg) ((mj_cp C0 22 14 0 (v3.toNatClampNeg) 9 13 x1.toNatClampNeg) + 1))
    else none
  else
  some ((-1000000003), C0)
  else none
/-- MarketTown.readRule -/
def f_Mk_readRule (x1 : Int32) (C0 : St) : Option (Int32 × St) :=
  bd1 (f_Tw_isThere x1 C0) fun v1 =>
  if v1 = 0 then
    some ((-1000000001), C0)
  else
  bd2 (f_Rr_understands x1 (C0 1 0) C0) fun v4 C5 =>
  if v4 = 0 then
    some ((-100) - (C5 21 1), C5)
  else
  bd2 (f_Rl_append x1 C5) fun v8 C9 =>
  some (v8, C9)
/-- MarketTown.rule -/
def f_Mk_rule (x1 : Int32) (C0 : St) : Option (Int32 × St) :=
  bd2 (f_Mk_readRule x1 C0) fun v1 C2 =>
  some (v1, mj_wr C2 19 0 0)
/-- MarketTown$Rules.dropLast -/
def f_Rl_dropLast (x1 : Int32) (C0 : St) : Option (Int32 × St) :=
  if inb x1 12 then
  if 0 < (C0 13 x1.toNatClampNeg) then
    some (mj_wr C0 13 (x1.toNatClampNeg) ((C0 13 x1.toNatClampNeg) - 1) 13 x1.toNatClampNeg, mj_wr C0 13 (x1.toNatClampNeg) ((C0 13 x1.toNatClampNeg) - 1))
  else
  some ((-1000000002), C0)
  else none
/-- MarketTown.unrule -/
def f_Mk_unrule (x1 : Int32) (C0 : St) : Option (Int32 × St) :=
  bd1 (f_Tw_isThere x1 C0) fun v1 =>
  if v1 = 0 then
    some ((-1000000001), C0)
  else
  bd2 (f_Rl_dropLast x1 C0) fun v4 C5 =>
  some (v4, C5)
/-- MarketTown$Day.drawOrder -/
def L_Dy_drawOrder_2 : Nat → Int32 → St → Option (St)
  | 0, _, _ => none
  | n + 1, y2, C =>
    if (C 1 0) ≤ y2 then
      some C
    else
    if inb y2 12 then
    L_Dy_drawOrder_2 n (y2 + 1) (mj_wr C 24 (y2.toNatClampNeg) y2)
    else none
def L_Dy_drawOrder_30 : Nat → Int32 → St → Option (St)
  | 0, _, _ => none
  | n + 1, y2, C =>
    if y2 < 1 then
      some C
    else
    if (y2 + 1) = 0 then none else
    if inb (((mj_wr C 1 2 ((((((C 1 2).toInt64) * 1103515245) + 12345) - ((((C 1 2).toInt64) * 1103515245) + 12345) / 2147483648 * 2147483648).toInt32) 1 2) / 65536) - ((mj_wr C 1 2 ((((((C 1 2).toInt64) * 1103515245) + 12345) - ((((C 1 2).toInt64) * 1103515245) + 12345) / 2147483648 * 2147483648).toInt32) 1 2) / 65536) / (y2 + 1) * (y2 + 1)) 12 then
    if inb y2 12 then
    L_Dy_drawOrder_30 n (y2 + (-1)) (mj_wr (mj_wr (mj_wr C 1 2 ((((((C 1 2).toInt64) * 1103515245) + 12345) - ((((C 1 2).toInt64) * 1103515245) + 12345) / 2147483648 * 2147483648).toInt32)) 24 ((((mj_wr C 1 2 ((((((C 1 2).toInt64) * 1103515245) + 12345) - ((((C 1 2).toInt64) * 1103515245) + 12345) / 2147483648 * 2147483648).toInt32) 1 2) / 65536) - ((mj_wr C 1 2 ((((((C 1 2).toInt64) * 1103515245) + 12345) - ((((C 1 2).toInt64) * 1103515245) + 12345) / 2147483648 * 2147483648).toInt32) 1 2) / 65536) / (y2 + 1) * (y2 + 1)).toNatClampNeg) (mj_wr C 1 2 ((((((C 1 2).toInt64) * 1103515245) + 12345) - ((((C 1 2).toInt64) * 1103515245) + 12345) / 2147483648 * 2147483648).toInt32) 24 y2.toNatClampNeg)) 24 (y2.toNatClampNeg) (mj_wr C 1 2 ((((((C 1 2).toInt64) * 1103515245) + 12345) - ((((C 1 2).toInt64) * 1103515245) + 12345) / 2147483648 * 2147483648).toInt32) 24 (((mj_wr C 1 2 ((((((C 1 2).toInt64) * 1103515245) + 12345) - ((((C 1 2).toInt64) * 1103515245) + 12345) / 2147483648 * 2147483648).toInt32) 1 2) / 65536) - ((mj_wr C 1 2 ((((((C 1 2).toInt64) * 1103515245) + 12345) - ((((C 1 2).toInt64) * 1103515245) + 12345) / 2147483648 * 2147483648).toInt32) 1 2) / 65536) / (y2 + 1) * (y2 + 1)).toNatClampNeg))
    else none
    else none
def L_Dy_drawOrder_105 : Nat → Int32 → St → Option (St)
  | 0, _, _ => none
  | n + 1, y2, C =>
    if (C 1 0) ≤ y2 then
      some C
    else
    if inb y2 12 then
    if inb (C 24 y2.toNatClampNeg) 12 then
    L_Dy_drawOrder_105 n (y2 + 1) (mj_wr C 5 ((C 24 y2.toNatClampNeg).toNatClampNeg) y2)
    else none
    else none
def f_Dy_drawOrder  (C0 : St) : Option (St) :=
  bd1 (L_Dy_drawOrder_2 3000 0 C0) fun C3 =>
  bd1 (L_Dy_drawOrder_30 3000 ((C3 1 0) - 1) C3) fun C9 =>
  bd1 (L_Dy_drawOrder_105 3000 0 C9) fun C14 =>
  some C14
/-- MarketTown$Offers.clear -/
def f_Of_clear  (C0 : St) : Option (St) :=
  some (mj_wr (mj_wr C0 26 6 0) 26 4 0)
/-- MarketTown$Offers.clear -/
def f_Of_clear_1  (C0 : St) : Option (St) :=
  some (mj_wr (mj_wr C0 32 6 0) 32 4 0)
/-- MarketTown$Market.clear -/
def L_Mt_clear_16 : Nat → Int32 → St → Option (St)
  | 0, _, _ => none
  | n + 1, y1, C =>
    if 60 ≤ y1 then
      some C
    else
    if inb y1 60 then
    L_Mt_clear_16 n (y1 + 1) (mj_wr C 38 (y1.toNatClampNeg) 0)
    else none
def L_Mt_clear_40 : Nat → Int32 → St → Option (St)
  | 0, _, _ => none
  | n + 1, y1, C =>
    if 12 ≤ y1 then
      some C
    else
    if inb y1 12 then
    L_Mt_clear_40 n (y1 + 1) (mj_wr C 39 (y1.toNatClampNeg) 0)
    else none
def f_Mt_clear  (C0 : St) : Option (St) :=
  bd1 (f_Of_clear C0) fun C1 =>
  bd1 (f_Of_clear_1 C1) fun C3 =>
  bd1 (L_Mt_clear_16 3000 0 C3) fun C7 =>
  bd1 (L_Mt_clear_40 3000 0 C7) fun C11 =>
  some C11
/-- MarketTown$Rules.get -/
def f_Rl_get (x1 : Int32) (x2 : Int32) (x3 : Int32) (C0 : St) : Option (Int32) :=
  bd1 (f_Rl_start x1 x2) fun v1 =>
  if inb (v1 + x3) 648 then
  some (C0 14 (v1 + x3).toNatClampNeg)
  else none
/-- MarketTown$Town.belongs -/
def f_Tw_belongs (x1 : Int32) (x2 : Int32) (C0 : St) : Option (Int32) :=
  if inb x1 12 then
  some (if x2 = 0 then 1 else (if (C0 2 x1.toNatClampNeg) = x2 then 1 else (if x2 = 2 then (if (C0 2 x1.toNatClampNeg) = 3 then 1 else 0 : Int32) else 0 : Int32) : Int32) : Int32)
  else none
/-- MarketTown$Day.mayAct -/
def f_Dy_mayAct (x1 : Int32) (x2 : Int32) (C0 : St) : Option (Int32) :=
  if x2 = 0 then
    bd1 (f_Tw_belongs x1 2 C0) fun v4 =>
    if v4 = 0 ∨ v4 = 1 then
    some v4
    else none
  else
  if x2 = 1 then
    bd1 (f_Tw_belongs x1 1 C0) fun v7 =>
    if v7 = 0 ∨ v7 = 1 then
    some v7
    else none
  else
  if x2 = 5 then
    bd1 (f_Tw_belongs x1 4 C0) fun v10 =>
    bd1 (
      if v10 = 0 then
        bd1 (f_Tw_belongs x1 5 C0) fun v13 =>
        if v13 = 0 then
          some 0
        else
        some 1
      else
      some 1) fun (w16 : Int32) =>
    if w16 = 0 ∨ w16 = 1 then
    some w16
    else none
  else
  some 1
/-- MarketTown$Wares.get -/
def f_Wr_get (x1 : Int32) (x2 : Int32) (C0 : St) : Option (Int32) :=
  if inb ((x1 * 11) + x2) 55 then
  some (C0 11 ((x1 * 11) + x2).toNatClampNeg)
  else none
/-- MarketTown$Day.subjectOf -/
def f_Dy_subjectOf (x1 : Int32) (x2 : Int32) (x3 : Int32) (C0 : St) : Option (Int32) :=
  if x2 = 0 then
    if inb x1 12 then
    some (C0 3 x1.toNatClampNeg)
    else none
  else
  if x2 = 1 then
    bd1 (f_Sk_all x1 x3 C0) fun v5 =>
    some v5
  else
  if x2 = 2 then
    some (C0 1 1)
  else
  bd1 (f_Wr_get x3 2 C0) fun v7 =>
  some v7
/-- MarketTown$Day.condHolds -/
def f_Dy_condHolds (x1 : Int32) (x2 : Int32) (C0 : St) : Option (Int32) :=
  bd1 (f_Rl_get x1 x2 5 C0) fun v1 =>
  if v1 = (-1000000005) then
    some 1
  else
  bd1 (f_Rl_get x1 x2 6 C0) fun v8 =>
  bd1 (f_Dy_subjectOf x1 (if (if v1 < 4 then 0 else 1 : Int32) = 0 then v1 else v1 - 4 : Int32) v8 C0) fun v10 =>
  bd1 (f_Rl_get x1 x2 7 C0) fun v12 =>
  some (if (if v1 < 4 then 0 else 1 : Int32) = 0 then (if v12 ≤ v10 then 0 else 1 : Int32) else (if v10 ≤ v12 then 0 else 1 : Int32) : Int32)
/-- MarketTown$Day.fires -/
def f_Dy_fires (x1 : Int32) (x2 : Int32) (C0 : St) : Option (Int32) :=
  bd1 (f_Rl_get x1 x2 4 C0) fun v1 =>
  bd1 (f_Rl_get x1 x2 0 C0) fun v3 =>
  bd1 (f_Dy_mayAct x1 v3 C0) fun v5 =>
  bd1 (
    if v5 = 0 then
      some 0
    else
    if v1 ≤ 0 then
      some 0
    else
    if v1 = 0 then none else
    if ((C0 1 1) - (C0 1 1) / v1 * v1) = 0 then
      bd1 (f_Dy_condHolds x1 x2 C0) fun v11 =>
      if v11 = 0 then
        some 0
      else
      some 1
    else
    some 0) fun (w14 : Int32) =>
  if w14 = 0 ∨ w14 = 1 then
  some w14
  else none
/-- MarketTown$Rules.countFire -/
def f_Rl_countFire (x1 : Int32) (x2 : Int32) (C0 : St) : Option (St) :=
  bd1 (f_Rl_start x1 x2) fun v1 =>
  if inb (v1 + 8) 648 then
  some (mj_wr C0 14 ((v1 + 8).toNatClampNeg) ((C0 14 (v1 + 8).toNatClampNeg) + 1))
  else none
/-- MarketTown$Market.freeOf -/
def f_Mt_freeOf (x2 : Int32) (x3 : Int32) (C0 : St) : Option (Int32) :=
  bd1 (f_Sk_all x2 x3 C0) fun v1 =>
  if inb ((x2 * 5) + x3) 60 then
  some (v1 - (C0 38 ((x2 * 5) + x3).toNatClampNeg))
  else none
/-- MarketTown$Day.allowed -/
def f_Dy_allowed (x0 : Int32) (x1 : Int32) (x2 : Int32) : Option (Int32) :=
  bd1 (
    if x1 ≤ 0 then
      some x0
    else
    if x1 = 0 then none else
    some (if (x2 / x1) < x0 then x2 / x1 else x0 : Int32)) fun (w3 : Int32) =>
  some w3
/-- MarketTown$Stock.use -/
def L_Sk_use_14 : Nat → Int32 → Int32 → Int32 → Int32 → St → Option (Int32 × St)
  | 0, _, _, _, _, _ => none
  | n + 1, y3, y4, y5, y6, C =>
    if y6 < 0 then
      some (y5, C)
    else
    if y5 ≤ 0 then
      some (y5, C)
    else
    if inb ((y4 * 10) + y6) 600 then
    L_Sk_use_14 n y3 y4 (y5 - (if (C 8 ((y4 * 10) + y6).toNatClampNeg) < y5 then C 8 ((y4 * 10) + y6).toNatClampNeg else y5 : Int32)) (y6 + (-1)) (mj_wr C 8 (((y4 * 10) + y6).toNatClampNeg) ((C 8 ((y4 * 10) + y6).toNatClampNeg) - (if (C 8 ((y4 * 10) + y6).toNatClampNeg) < y5 then C 8 ((y4 * 10) + y6).toNatClampNeg else y5 : Int32)))
    else none
def f_Sk_use (x1 : Int32) (x2 : Int32) (x3 : Int32) (C0 : St) : Option (St) :=
  bd2 (L_Sk_use_14 3000 x3 ((x1 * 5) + x2) x3 9 C0) fun o5 C6 =>
  if inb ((x1 * 5) + x2) 60 then
  some (mj_wr C6 9 (((x1 * 5) + x2).toNatClampNeg) ((C6 9 ((x1 * 5) + x2).toNatClampNeg) - (x3 - o5)))
  else none
/-- MarketTown$Wares.increase -/
def f_Wr_increase (x1 : Int32) (x2 : Int32) (x3 : Int32) (C0 : St) : Option (St) :=
  if inb ((x1 * 11) + x2) 55 then
  some (mj_wr C0 11 (((x1 * 11) + x2).toNatClampNeg) ((C0 11 ((x1 * 11) + x2).toNatClampNeg) + x3))
  else none
/-- MarketTown$Day.make -/
def f_Dy_make (x2 : Int32) (x3 : Int32) (x4 : Int32) (C0 : St) : Option (St) :=
  bd1 (f_Wr_get x3 7 C0) fun v1 =>
  bd1 (f_Wr_get x3 9 C0) fun v3 =>
  bd1 (f_Wr_get x3 8 C0) fun v5 =>
  bd1 (f_Wr_get x3 10 C0) fun v7 =>
  if v5 = (-1) then
    some C0
  else
  bd1 (f_Mt_freeOf x2 v1 C0) fun v12 =>
  bd1 (f_Dy_allowed x4 (if v1 = v3 then v5 + v7 else v5 : Int32) v12) fun v14 =>
  bd1 (f_Mt_freeOf x2 v3 C0) fun v16 =>
  bd1 (f_Dy_allowed x4 (if v1 = v3 then 0 else v7 : Int32) v16) fun v18 =>
  bd1 (f_Sk_use x2 v1 ((if v18 < v14 then v18 else v14 : Int32) * (if v1 = v3 then v5 + v7 else v5 : Int32)) C0) fun C20 =>
  bd1 (f_Sk_use x2 v3 ((if v18 < v14 then v18 else v14 : Int32) * (if v1 = v3 then 0 else v7 : Int32)) C20) fun C22 =>
  bd1 (f_Sk_bring x2 x3 (if v18 < v14 then v18 else v14 : Int32) C22) fun C24 =>
  bd1 (f_Wr_increase x3 5 (if v18 < v14 then v18 else v14 : Int32) C24) fun C26 =>
  some C26
/-- MarketTown$Day.eat -/
def f_Dy_eat (x2 : Int32) (x3 : Int32) (x4 : Int32) (C0 : St) : Option (St) :=
  bd1 (f_Mt_freeOf x2 x3 C0) fun v1 =>
  bd1 (f_Sk_use x2 x3 (if v1 < x4 then v1 else x4 : Int32) C0) fun C3 =>
  bd1 (f_Wr_increase x3 4 (if v1 < x4 then v1 else x4 : Int32) C3) fun C5 =>
  some C5
/-- MarketTown$Offers.append -/
def f_Of_append (x1 : Int32) (x2 : Int32) (x3 : Int32) (x4 : Int32) (C0 : St) : Option (St) :=
  if (C0 26 6) < 72 then
    if inb (C0 26 6) 72 then
    if inb (mj_wr C0 27 ((C0 26 6).toNatClampNeg) x1 26 6) 72 then
    if inb (mj_wr (mj_wr C0 27 ((C0 26 6).toNatClampNeg) x1) 31 ((mj_wr C0 27 ((C0 26 6).toNatClampNeg) x1 26 6).toNatClampNeg) x2 26 6) 72 then
    if inb (mj_wr (mj_wr (mj_wr C0 27 ((C0 26 6).toNatClampNeg) x1) 31 ((mj_wr C0 27 ((C0 26 6).toNatClampNeg) x1 26 6).toNatClampNeg) x2) 29 ((mj_wr (mj_wr C0 27 ((C0 26 6).toNatClampNeg) x1) 31 ((mj_wr C0 27 ((C0 26 6).toNatClampNeg) x1 26 6).toNatClampNeg) x2 26 6).toNatClampNeg) x3 26 6) 72 then
    some (mj_wr (mj_wr (mj_wr (mj_wr (mj_wr C0 27 ((C0 26 6).toNatClampNeg) x1) 31 ((mj_wr C0 27 ((C0 26 6).toNatClampNeg) x1 26 6).toNatClampNeg) x2) 29 ((mj_wr (mj_wr C0 27 ((C0 26 6).toNatClampNeg) x1) 31 ((mj_wr C0 27 ((C0 26 6).toNatClampNeg) x1 26 6).toNatClampNeg) x2 26 6).toNatClampNeg) x3) 28 ((mj_wr (mj_wr (mj_wr C0 27 ((C0 26 6).toNatClampNeg) x1) 31 ((mj_wr C0 27 ((C0 26 6).toNatClampNeg) x1 26 6).toNatClampNeg) x2) 29 ((mj_wr (mj_wr C0 27 ((C0 26 6).toNatClampNeg) x1) 31 ((mj_wr C0 27 ((C0 26 6).toNatClampNeg) x1 26 6).toNatClampNeg) x2 26 6).toNatClampNeg) x3 26 6).toNatClampNeg) x4) 26 6 ((mj_wr (mj_wr (mj_wr (mj_wr C0 27 ((C0 26 6).toNatClampNeg) x1) 31 ((mj_wr C0 27 ((C0 26 6).toNatClampNeg) x1 26 6).toNatClampNeg) x2) 29 ((mj_wr (mj_wr C0 27 ((C0 26 6).toNatClampNeg) x1) 31 ((mj_wr C0 27 ((C0 26 6).toNatClampNeg) x1 26 6).toNatClampNeg) x2 26 6).toNatClampNeg) x3) 28 ((mj_wr (mj_wr (mj_wr C0 27 ((C0 26 6).toNatClampNeg) x1) 31 ((mj_wr C0 27 ((C0 26 6).toNatClampNeg) x1 26 6).toNatClampNeg) x2) 29 ((mj_wr (mj_wr C0 27 ((C0 26 6).toNatClampNeg) x1) 31 ((mj_wr C0 27 ((C0 26 6).toNatClampNeg) x1 26 6).toNatClampNeg) x2 26 6).toNatClampNeg) x3 26 6).toNatClampNeg) x4 26 6) + 1))
    else none
    else none
    else none
    else none
  else
  some C0
/-- MarketTown$Market.ask -/
def f_Mt_ask (x2 : Int32) (x3 : Int32) (x4 : Int32) (x5 : Int32) (C0 : St) : Option (St) :=
  bd1 (f_Mt_freeOf x2 x3 C0) fun v1 =>
  bd1 (
    if (if v1 < x4 then v1 else x4 : Int32) ≤ 0 then
      some C0
    else
    bd1 (f_Of_append x2 x3 (if v1 < x4 then v1 else x4 : Int32) x5 C0) fun C4 =>
    if inb ((x2 * 5) + x3) 60 then
    some (mj_wr C4 38 (((x2 * 5) + x3).toNatClampNeg) ((C4 38 ((x2 * 5) + x3).toNatClampNeg) + (if v1 < x4 then v1 else x4 : Int32)))
    else none) fun (C7 : St) =>
  some C7
/-- MarketTown$Market.freeCash -/
def f_Mt_freeCash (x2 : Int32) (C0 : St) : Option (Int32) :=
  if inb x2 12 then
  some ((C0 3 x2.toNatClampNeg) - (C0 39 x2.toNatClampNeg))
  else none
/-- MarketTown$Offers.append -/
def f_Of_append_1 (x1 : Int32) (x2 : Int32) (x3 : Int32) (x4 : Int32) (C0 : St) : Option (St) :=
  if (C0 32 6) < 72 then
    if inb (C0 32 6) 72 then
    if inb (mj_wr C0 33 ((C0 32 6).toNatClampNeg) x1 32 6) 72 then
    if inb (mj_wr (mj_wr C0 33 ((C0 32 6).toNatClampNeg) x1) 37 ((mj_wr C0 33 ((C0 32 6).toNatClampNeg) x1 32 6).toNatClampNeg) x2 32 6) 72 then
    if inb (mj_wr (mj_wr (mj_wr C0 33 ((C0 32 6).toNatClampNeg) x1) 37 ((mj_wr C0 33 ((C0 32 6).toNatClampNeg) x1 32 6).toNatClampNeg) x2) 35 ((mj_wr (mj_wr C0 33 ((C0 32 6).toNatClampNeg) x1) 37 ((mj_wr C0 33 ((C0 32 6).toNatClampNeg) x1 32 6).toNatClampNeg) x2 32 6).toNatClampNeg) x3 32 6) 72 then
    some (mj_wr (mj_wr (mj_wr (mj_wr (mj_wr C0 33 ((C0 32 6).toNatClampNeg) x1) 37 ((mj_wr C0 33 ((C0 32 6).toNatClampNeg) x1 32 6).toNatClampNeg) x2) 35 ((mj_wr (mj_wr C0 33 ((C0 32 6).toNatClampNeg) x1) 37 ((mj_wr C0 33 ((C0 32 6).toNatClampNeg) x1 32 6).toNatClampNeg) x2 32 6).toNatClampNeg) x3) 34 ((mj_wr (mj_wr (mj_wr C0 33 ((C0 32 6).toNatClampNeg) x1) 37 ((mj_wr C0 33 ((C0 32 6).toNatClampNeg) x1 32 6).toNatClampNeg) x2) 35 ((mj_wr (mj_wr C0 33 ((C0 32 6).toNatClampNeg) x1) 37 ((mj_wr C0 33 ((C0 32 6).toNatClampNeg) x1 32 6).toNatClampNeg) x2 32 6).toNatClampNeg) x3 32 6).toNatClampNeg) x4) 32 6 ((mj_wr (mj_wr (mj_wr (mj_wr C0 33 ((C0 32 6).toNatClampNeg) x1) 37 ((mj_wr C0 33 ((C0 32 6).toNatClampNeg) x1 32 6).toNatClampNeg) x2) 35 ((mj_wr (mj_wr C0 33 ((C0 32 6).toNatClampNeg) x1) 37 ((mj_wr C0 33 ((C0 32 6).toNatClampNeg) x1 32 6).toNatClampNeg) x2 32 6).toNatClampNeg) x3) 34 ((mj_wr (mj_wr (mj_wr C0 33 ((C0 32 6).toNatClampNeg) x1) 37 ((mj_wr C0 33 ((C0 32 6).toNatClampNeg) x1 32 6).toNatClampNeg) x2) 35 ((mj_wr (mj_wr C0 33 ((C0 32 6).toNatClampNeg) x1) 37 ((mj_wr C0 33 ((C0 32 6).toNatClampNeg) x1 32 6).toNatClampNeg) x2 32 6).toNatClampNeg) x3 32 6).toNatClampNeg) x4 32 6) + 1))
    else none
    else none
    else none
    else none
  else
  some C0
/-- MarketTown$Market.bid -/
def f_Mt_bid (x2 : Int32) (x3 : Int32) (x4 : Int32) (x5 : Int32) (C0 : St) : Option (St) :=
  bd1 (
    if x5 ≤ 0 then
      some 0
    else
    bd1 (f_Mt_freeCash x2 C0) fun v2 =>
    if x5 = 0 then none else
    some (if (v2 / x5) < x4 then v2 / x5 else x4 : Int32)) fun (w5 : Int32) =>
  bd1 (
    if w5 ≤ 0 then
      some C0
    else
    bd1 (f_Of_append_1 x2 x3 w5 x5 C0) fun C9 =>
    if inb x2 12 then
    some (mj_wr C9 39 (x2.toNatClampNeg) ((C9 39 x2.toNatClampNeg) + (w5 * x5)))
    else none) fun (C12 : St) =>
  some C12
/-- MarketTown$Town.entry -/
def f_Tw_entry (x0 : Int32) (x1 : Int32) (x2 : Int32) : Option (Int32) :=
  some ((((x0 * 12) + x1) * 5) + x2)
/-- MarketTown$Town.hand -/
def f_Tw_hand (x1 : Int32) (x2 : Int32) (x3 : Int32) (x4 : Int32) (C0 : St) : Option (St) :=
  if inb x1 12 then
  if inb x2 12 then
  bd1 (f_Tw_entry x1 x2 x3) fun v3 =>
  if inb v3 720 then
  some (mj_wr (mj_wr (mj_wr C0 3 (x1.toNatClampNeg) ((C0 3 x1.toNatClampNeg) - x4)) 3 (x2.toNatClampNeg) ((mj_wr C0 3 (x1.toNatClampNeg) ((C0 3 x1.toNatClampNeg) - x4) 3 x2.toNatClampNeg) + x4)) 6 (v3.toNatClampNeg) ((mj_wr (mj_wr C0 3 (x1.toNatClampNeg) ((C0 3 x1.toNatClampNeg) - x4)) 3 (x2.toNatClampNeg) ((mj_wr C0 3 (x1.toNatClampNeg) ((C0 3 x1.toNatClampNeg) - x4) 3 x2.toNatClampNeg) + x4) 6 v3.toNatClampNeg) + x4))
  else none
  else none
  else none
/-- MarketTown$Loans.hasRoom -/
def f_Ln_hasRoom  (C0 : St) : Option (Int32) :=
  some (if 20 ≤ (C0 15 0) then 0 else 1 : Int32)
/-- MarketTown$Loans.append -/
def f_Ln_append (x1 : Int32) (x2 : Int32) (x3 : Int32) (x4 : Int32) (C0 : St) : Option (St) :=
  bd1 (f_Ln_hasRoom C0) fun v1 =>
  if v1 = 0 then
    some C0
  else
  if inb (((C0 15 0) * 4) + 0) 80 then
  if inb (((C0 15 0) * 4) + 1) 80 then
  if inb (((C0 15 0) * 4) + 2) 80 then
  if inb (((C0 15 0) * 4) + 3) 80 then
  some (mj_wr (mj_wr (mj_wr (mj_wr (mj_wr C0 16 ((((C0 15 0) * 4) + 0).toNatClampNeg) x1) 16 ((((C0 15 0) * 4) + 1).toNatClampNeg) x2) 16 ((((C0 15 0) * 4) + 2).toNatClampNeg) x3) 16 ((((C0 15 0) * 4) + 3).toNatClampNeg) x4) 15 0 ((mj_wr (mj_wr (mj_wr (mj_wr C0 16 ((((C0 15 0) * 4) + 0).toNatClampNeg) x1) 16 ((((C0 15 0) * 4) + 1).toNatClampNeg) x2) 16 ((((C0 15 0) * 4) + 2).toNatClampNeg) x3) 16 ((((C0 15 0) * 4) + 3).toNatClampNeg) x4 15 0) + 1))
  else none
  else none
  else none
  else none
/-- MarketTown$Day.lend -/
def f_Dy_lend (x2 : Int32) (x3 : Int32) (x4 : Int32) (x5 : Int32) (C0 : St) : Option (St) :=
  bd1 (f_Mt_freeCash x2 C0) fun v1 =>
  bd1 (
    if (if v1 < x4 then v1 else x4 : Int32) ≤ 0 then
      some C0
    else
    bd1 (f_Ln_hasRoom C0) fun v4 =>
    if v4 = 0 then
      some C0
    else
    bd1 (f_Tw_hand x2 x3 3 (if v1 < x4 then v1 else x4 : Int32) C0) fun C7 =>
    bd1 (f_Ln_append x2 x3 ((if v1 < x4 then v1 else x4 : Int32) + (((if v1 < x4 then v1 else x4 : Int32) * (C7 1 4)) / 100)) ((C7 1 1) + x5) C7) fun C9 =>
    some C9) fun (C11 : St) =>
  some C11
/-- MarketTown$Day.act -/
def f_Dy_act (x2 : Int32) (x3 : Int32) (C0 : St) : Option (St) :=
  bd1 (f_Rl_get x2 x3 1 C0) fun v1 =>
  bd1 (f_Rl_get x2 x3 2 C0) fun v3 =>
  bd1 (f_Rl_get x2 x3 3 C0) fun v5 =>
  bd1 (f_Rl_get x2 x3 0 C0) fun v7 =>
  bd1 (
    if v7 = 0 then
      bd1 (f_Dy_make x2 v1 v3 C0) fun C14 =>
      some C14
    else
    if v7 = 1 then
      bd1 (f_Dy_eat x2 v1 v3 C0) fun C16 =>
      some C16
    else
    if v7 = 2 then
      bd1 (f_Mt_ask x2 v1 v3 v5 C0) fun C18 =>
      some C18
    else
    if v7 = 3 then
      bd1 (f_Mt_bid x2 v1 v3 v5 C0) fun C20 =>
      some C20
    else
    if v7 = 4 then
      bd1 (f_Mt_freeCash x2 C0) fun v22 =>
      bd1 (f_Tw_hand x2 v1 2 (if v22 < v3 then v22 else v3 : Int32) C0) fun C24 =>
      some C24
    else
    bd1 (f_Dy_lend x2 v1 v3 v5 C0) fun C26 =>
    some C26) fun (C28 : St) =>
  some C28
/-- MarketTown$Day.followRules -/
def L_Dy_followRules_2 : Nat → Int32 → Int32 → St → Option (St)
  | 0, _, _, _ => none
  | n + 1, y2, y3, C =>
    if inb y2 12 then
    if (C 13 y2.toNatClampNeg) ≤ y3 then
      some C
    else
    bd1 (f_Dy_fires y2 y3 C) fun v3 =>
    bd1 (
      if v3 = 0 then
        some C
      else
      bd1 (f_Rl_countFire y2 y3 C) fun C6 =>
      bd1 (f_Dy_act y2 y3 C6) fun C8 =>
      some C8) fun (C10 : St) =>
    L_Dy_followRules_2 n y2 (y3 + 1) C10
    else none
def f_Dy_followRules (x2 : Int32) (C0 : St) : Option (St) :=
  bd1 (L_Dy_followRules_2 3000 x2 0 C0) fun C13 =>
  some C13
/-- MarketTown$Town.firstCouncil -/
def L_Tw_firstCouncil_2 : Nat → Int32 → St → Option ((Int32) ⊕ (Unit))
  | 0, _, _ => none
  | n + 1, y1, C =>
    if (C 1 0) ≤ y1 then
      some (.inr ())
    else
    if inb y1 12 then
    if (C 2 y1.toNatClampNeg) = 5 then
      some (.inl y1)
    else
    L_Tw_firstCouncil_2 n (y1 + 1) C
    else none
def f_Tw_firstCouncil  (C0 : St) : Option (Int32) :=
  bdS (L_Tw_firstCouncil_2 3000 0 C0) (fun e5 => some e5) fun _u =>
  some (-1000000005)
/-- MarketTown$Offers.insert -/
def L_Of_insert_5 : Nat → Int32 → Int32 → Int32 → St → Option (Int32 × St)
  | 0, _, _, _, _ => none
  | n + 1, y1, y2, y3, C =>
    if y3 ≤ 0 then
      some (y3, C)
    else
    if inb (y3 - 1) 72 then
    if inb (C 30 (y3 - 1).toNatClampNeg) 72 then
    if inb y1 72 then
    if (y2 * (C 28 (C 30 (y3 - 1).toNatClampNeg).toNatClampNeg)) ≤ (y2 * (C 28 y1.toNatClampNeg)) then
      some (y3, C)
    else
    if inb y3 72 then
    L_Of_insert_5 n y1 y2 (y3 + (-1)) (mj_wr C 30 (y3.toNatClampNeg) (C 30 (y3 - 1).toNatClampNeg))
    else none
    else none
    else none
    else none
def f_Of_insert (x1 : Int32) (x2 : Int32) (C0 : St) : Option (St) :=
  bd2 (L_Of_insert_5 3000 x1 x2 (C0 26 4) C0) fun o8 C9 =>
  if inb o8 72 then
  some (mj_wr (mj_wr C9 30 (o8.toNatClampNeg) x1) 26 4 ((mj_wr C9 30 (o8.toNatClampNeg) x1 26 4) + 1))
  else none
/-- MarketTown$Offers.pick -/
def L_Of_pick_7 : Nat → Int32 → Int32 → Int32 → St → Option (St)
  | 0, _, _, _, _ => none
  | n + 1, y1, y2, y3, C =>
    if (C 26 6) ≤ y3 then
      some C
    else
    if inb y3 72 then
    bd1 (
      if (C 31 y3.toNatClampNeg) = y1 then
        bd1 (f_Of_insert y3 y2 C) fun C4 =>
        some C4
      else
      some C) fun (C6 : St) =>
    L_Of_pick_7 n y1 y2 (y3 + 1) C6
    else none
def f_Of_pick (x1 : Int32) (x2 : Int32) (C0 : St) : Option (St) :=
  bd1 (L_Of_pick_7 3000 x1 x2 0 (mj_wr C0 26 4 0)) fun C9 =>
  some C9
/-- MarketTown$Offers.insert -/
def L_Of_insert_1_5 : Nat → Int32 → Int32 → Int32 → St → Option (Int32 × St)
  | 0, _, _, _, _ => none
  | n + 1, y1, y2, y3, C =>
    if y3 ≤ 0 then
      some (y3, C)
    else
    if inb (y3 - 1) 72 then
    if inb (C 36 (y3 - 1).toNatClampNeg) 72 then
    if inb y1 72 then
    if (y2 * (C 34 (C 36 (y3 - 1).toNatClampNeg).toNatClampNeg)) ≤ (y2 * (C 34 y1.toNatClampNeg)) then
      some (y3, C)
    else
    if inb y3 72 then
    L_Of_insert_1_5 n y1 y2 (y3 + (-1)) (mj_wr C 36 (y3.toNatClampNeg) (C 36 (y3 - 1).toNatClampNeg))
    else none
    else none
    else none
    else none
def f_Of_insert_1 (x1 : Int32) (x2 : Int32) (C0 : St) : Option (St) :=
  bd2 (L_Of_insert_1_5 3000 x1 x2 (C0 32 4) C0) fun o8 C9 =>
  if inb o8 72 then
  some (mj_wr (mj_wr C9 36 (o8.toNatClampNeg) x1) 32 4 ((mj_wr C9 36 (o8.toNatClampNeg) x1 32 4) + 1))
  else none
/-- MarketTown$Offers.pick -/
def L_Of_pick_1_7 : Nat → Int32 → Int32 → Int32 → St → Option (St)
  | 0, _, _, _, _ => none
  | n + 1, y1, y2, y3, C =>
    if (C 32 6) ≤ y3 then
      some C
    else
    if inb y3 72 then
    bd1 (
      if (C 37 y3.toNatClampNeg) = y1 then
        bd1 (f_Of_insert_1 y3 y2 C) fun C4 =>
        some C4
      else
      some C) fun (C6 : St) =>
    L_Of_pick_1_7 n y1 y2 (y3 + 1) C6
    else none
def f_Of_pick_1 (x1 : Int32) (x2 : Int32) (C0 : St) : Option (St) :=
  bd1 (L_Of_pick_1_7 3000 x1 x2 0 (mj_wr C0 32 4 0)) fun C9 =>
  some C9
/-- MarketTown$Market.agree -/
def f_Mt_agree (x1 : Int32) (x2 : Int32) (C0 : St) : Option (Int32) :=
  if inb x1 72 then
  if inb (C0 30 x1.toNatClampNeg) 72 then
  if inb x2 72 then
  if inb (C0 36 x2.toNatClampNeg) 72 then
  some (if (C0 34 (C0 36 x2.toNatClampNeg).toNatClampNeg) < (C0 28 (C0 30 x1.toNatClampNeg).toNatClampNeg) then 0 else 1 : Int32)
  else none
  else none
  else none
  else none
/-- MarketTown$Market.calledPrice -/
def L_Mt_calledPrice_12 : Nat → Int32 → Int32 → Int32 → Int32 → Int32 → St → Option (Int32)
  | 0, _, _, _, _, _, _ => none
  | n + 1, y1, y2, y3, y4, y5, C =>
    if (C 26 4) ≤ y2 then
      some y1
    else
    if (C 32 4) ≤ y3 then
      some y1
    else
    bd1 (f_Mt_agree y2 y3 C) fun v3 =>
    if v3 = 0 then
      some y1
    else
    if inb y2 72 then
    if inb (C 30 y2.toNatClampNeg) 72 then
    if inb y3 72 then
    if inb (C 36 y3.toNatClampNeg) 72 then
    L_Mt_calledPrice_12 n (C 28 (C 30 y2.toNatClampNeg).toNatClampNeg) (if (y5 + (C 35 (C 36 y3.toNatClampNeg).toNatClampNeg)) ≤ (y4 + (C 29 (C 30 y2.toNatClampNeg).toNatClampNeg)) then y2 else y2 + 1 : Int32) (if (y5 + (C 35 (C 36 y3.toNatClampNeg).toNatClampNeg)) ≤ (y4 + (C 29 (C 30 y2.toNatClampNeg).toNatClampNeg)) then y3 + 1 else y3 : Int32) (if (y5 + (C 35 (C 36 y3.toNatClampNeg).toNatClampNeg)) ≤ (y4 + (C 29 (C 30 y2.toNatClampNeg).toNatClampNeg)) then y4 else y4 + (C 29 (C 30 y2.toNatClampNeg).toNatClampNeg) : Int32) (if (y5 + (C 35 (C 36 y3.toNatClampNeg).toNatClampNeg)) ≤ (y4 + (C 29 (C 30 y2.toNatClampNeg).toNatClampNeg)) then y5 + (C 35 (C 36 y3.toNatClampNeg).toNatClampNeg) else y5 : Int32) C
    else none
    else none
    else none
    else none
def f_Mt_calledPrice  (C0 : St) : Option (Int32) :=
  bd1 (L_Mt_calledPrice_12 3000 0 0 0 0 0 C0) fun o14 =>
  some o14
/-- MarketTown$Market.priceOf -/
def f_Mt_priceOf (x1 : Int32) (x2 : Int32) (x3 : Int32) (x4 : Int32) (C0 : St) : Option (Int32) :=
  if x1 = 1 then
    some x4
  else
  if x1 = 2 then
    if inb x3 72 then
    if inb x2 72 then
    some (((C0 34 x3.toNatClampNeg) + (C0 28 x2.toNatClampNeg)) / 2)
    else none
    else none
  else
  if inb x2 72 then
  some (C0 28 x2.toNatClampNeg)
  else none
/-- MarketTown$Stock.carry -/
def L_Sk_carry_22 : Nat → Int32 → Int32 → Int32 → Int32 → Int32 → St → Option (Int32 × St)
  | 0, _, _, _, _, _, _ => none
  | n + 1, y4, y5, y6, y7, y8, C =>
    if y8 < 0 then
      some (y7, C)
    else
    if y7 ≤ 0 then
      some (y7, C)
    else
    if inb ((y5 * 10) + y8) 600 then
    if inb ((y6 * 10) + y8) 600 then
    L_Sk_carry_22 n y4 y5 y6 (y7 - (if (C 8 ((y5 * 10) + y8).toNatClampNeg) < y7 then C 8 ((y5 * 10) + y8).toNatClampNeg else y7 : Int32)) (y8 + (-1)) (mj_wr (mj_wr C 8 (((y5 * 10) + y8).toNatClampNeg) ((C 8 ((y5 * 10) + y8).toNatClampNeg) - (if (C 8 ((y5 * 10) + y8).toNatClampNeg) < y7 then C 8 ((y5 * 10) + y8).toNatClampNeg else y7 : Int32))) 8 (((y6 * 10) + y8).toNatClampNeg) ((mj_wr C 8 (((y5 * 10) + y8).toNatClampNeg) ((C 8 ((y5 * 10) + y8).toNatClampNeg) - (if (C 8 ((y5 * 10) + y8).toNatClampNeg) < y7 then C 8 ((y5 * 10) + y8).toNatClampNeg else y7 : Int32)) 8 ((y6 * 10) + y8).toNatClampNeg) + (if (C 8 ((y5 * 10) + y8).toNatClampNeg) < y7 then C 8 ((y5 * 10) + y8).toNatClampNeg else y7 : Int32)))
    else none
    else none
def f_Sk_carry (x1 : Int32) (x2 : Int32) (x3 : Int32) (x4 : Int32) (C0 : St) : Option (St) :=
  bd2 (L_Sk_carry_22 3000 x4 ((x1 * 5) + x3) ((x2 * 5) + x3) x4 9 C0) fun o6 C7 =>
  if inb ((x1 * 5) + x3) 60 then
  if inb ((x2 * 5) + x3) 60 then
  some (mj_wr (mj_wr C7 9 (((x1 * 5) + x3).toNatClampNeg) ((C7 9 ((x1 * 5) + x3).toNatClampNeg) - (x4 - o6))) 9 (((x2 * 5) + x3).toNatClampNeg) ((mj_wr C7 9 (((x1 * 5) + x3).toNatClampNeg) ((C7 9 ((x1 * 5) + x3).toNatClampNeg) - (x4 - o6)) 9 ((x2 * 5) + x3).toNatClampNeg) + (x4 - o6)))
  else none
  else none
/-- MarketTown$Market.trade -/
def f_Mt_trade (x2 : Int32) (x3 : Int32) (x4 : Int32) (x5 : Int32) (C0 : St) : Option (St) :=
  if inb x3 72 then
  if inb x4 72 then
  if 0 < (if (C0 35 x4.toNatClampNeg) < (C0 29 x3.toNatClampNeg) then C0 35 x4.toNatClampNeg else C0 29 x3.toNatClampNeg : Int32) then
    bd1 (f_Tw_hand (mj_wr (mj_wr C0 29 (x3.toNatClampNeg) ((C0 29 x3.toNatClampNeg) - (if (C0 35 x4.toNatClampNeg) < (C0 29 x3.toNatClampNeg) then C0 35 x4.toNatClampNeg else C0 29 x3.toNatClampNeg : Int32))) 35 (x4.toNatClampNeg) ((mj_wr C0 29 (x3.toNatClampNeg) ((C0 29 x3.toNatClampNeg) - (if (C0 35 x4.toNatClampNeg) < (C0 29 x3.toNatClampNeg) then C0 35 x4.toNatClampNeg else C0 29 x3.toNatClampNeg : Int32)) 35 x4.toNatClampNeg) - (if (C0 35 x4.toNatClampNeg) < (C0 29 x3.toNatClampNeg) then C0 35 x4.toNatClampNeg else C0 29 x3.toNatClampNeg : Int32)) 33 x4.toNatClampNeg) (mj_wr (mj_wr C0 29 (x3.toNatClampNeg) ((C0 29 x3.toNatClampNeg) - (if (C0 35 x4.toNatClampNeg) < (C0 29 x3.toNatClampNeg) then C0 35 x4.toNatClampNeg else C0 29 x3.toNatClampNeg : Int32))) 35 (x4.toNatClampNeg) ((mj_wr C0 29 (x3.toNatClampNeg) ((C0 29 x3.toNatClampNeg) - (if (C0 35 x4.toNatClampNeg) < (C0 29 x3.toNatClampNeg) then C0 35 x4.toNatClampNeg else C0 29 x3.toNatClampNeg : Int32)) 35 x4.toNatClampNeg) - (if (C0 35 x4.toNatClampNeg) < (C0 29 x3.toNatClampNeg) then C0 35 x4.toNatClampNeg else C0 29 x3.toNatClampNeg : Int32)) 27 x3.toNatClampNeg) 0 (x5 * (if (C0 35 x4.toNatClampNeg) < (C0 29 x3.toNatClampNeg) then C0 35 x4.toNatClampNeg else C0 29 x3.toNatClampNeg : Int32)) (mj_wr (mj_wr C0 29 (x3.toNatClampNeg) ((C0 29 x3.toNatClampNeg) - (if (C0 35 x4.toNatClampNeg) < (C0 29 x3.toNatClampNeg) then C0 35 x4.toNatClampNeg else C0 29 x3.toNatClampNeg : Int32))) 35 (x4.toNatClampNeg) ((mj_wr C0 29 (x3.toNatClampNeg) ((C0 29 x3.toNatClampNeg) - (if (C0 35 x4.toNatClampNeg) < (C0 29 x3.toNatClampNeg) then C0 35 x4.toNatClampNeg else C0 29 x3.toNatClampNeg : Int32)) 35 x4.toNatClampNeg) - (if (C0 35 x4.toNatClampNeg) < (C0 29 x3.toNatClampNeg) then C0 35 x4.toNatClampNeg else C0 29 x3.toNatClampNeg : Int32)))) fun C8 =>
    bd1 (
      if (C8 25 4) = (-1000000005) then
        some C8
      else
      bd1 (f_Tw_hand (mj_wr (mj_wr C0 29 (x3.toNatClampNeg) ((C0 29 x3.toNatClampNeg) - (if (C0 35 x4.toNatClampNeg) < (C0 29 x3.toNatClampNeg) then C0 35 x4.toNatClampNeg else C0 29 x3.toNatClampNeg : Int32))) 35 (x4.toNatClampNeg) ((mj_wr C0 29 (x3.toNatClampNeg) ((C0 29 x3.toNatClampNeg) - (if (C0 35 x4.toNatClampNeg) < (C0 29 x3.toNatClampNeg) then C0 35 x4.toNatClampNeg else C0 29 x3.toNatClampNeg : Int32)) 35 x4.toNatClampNeg) - (if (C0 35 x4.toNatClampNeg) < (C0 29 x3.toNatClampNeg) then C0 35 x4.toNatClampNeg else C0 29 x3.toNatClampNeg : Int32)) 27 x3.toNatClampNeg) (C8 25 4) 1 (((((x5 * (if (C0 35 x4.toNatClampNeg) < (C0 29 x3.toNatClampNeg) then C0 35 x4.toNatClampNeg else C0 29 x3.toNatClampNeg : Int32)).toInt64) * ((C8 1 3).toInt64)) / 1000).toInt32) C8) fun C11 =>
      some C11) fun (C13 : St) =>
    bd1 (f_Sk_carry (mj_wr (mj_wr C0 29 (x3.toNatClampNeg) ((C0 29 x3.toNatClampNeg) - (if (C0 35 x4.toNatClampNeg) < (C0 29 x3.toNatClampNeg) then C0 35 x4.toNatClampNeg else C0 29 x3.toNatClampNeg : Int32))) 35 (x4.toNatClampNeg) ((mj_wr C0 29 (x3.toNatClampNeg) ((C0 29 x3.toNatClampNeg) - (if (C0 35 x4.toNatClampNeg) < (C0 29 x3.toNatClampNeg) then C0 35 x4.toNatClampNeg else C0 29 x3.toNatClampNeg : Int32)) 35 x4.toNatClampNeg) - (if (C0 35 x4.toNatClampNeg) < (C0 29 x3.toNatClampNeg) then C0 35 x4.toNatClampNeg else C0 29 x3.toNatClampNeg : Int32)) 27 x3.toNatClampNeg) (C13 33 x4.toNatClampNeg) x2 (if (C0 35 x4.toNatClampNeg) < (C0 29 x3.toNatClampNeg) then C0 35 x4.toNatClampNeg else C0 29 x3.toNatClampNeg : Int32) C13) fun C17 =>
    bd1 (f_Wr_put x2 2 x5 C17) fun C19 =>
    bd1 (f_Wr_increase x2 3 (if (C0 35 x4.toNatClampNeg) < (C0 29 x3.toNatClampNeg) then C0 35 x4.toNatClampNeg else C0 29 x3.toNatClampNeg : Int32) C19) fun C21 =>
    some C21
  else
  some C0
  else none
  else none
/-- MarketTown$Market.serve -/
def L_Mt_serve_6 : Nat → Int32 → Int32 → Int32 → Int32 → Int32 → St → Option (St)
  | 0, _, _, _, _, _, _ => none
  | n + 1, y2, y3, y4, y5, y6, C =>
    if (C 26 4) ≤ y5 then
      some C
    else
    if (C 32 4) ≤ y6 then
      some C
    else
    if inb y5 72 then
    if inb y6 72 then
    bd1 (f_Mt_agree y5 y6 C) fun v5 =>
    bd1 (
      if v5 = 0 then
        some C
      else
      bd1 (f_Mt_priceOf y3 (C 30 y5.toNatClampNeg) (C 36 y6.toNatClampNeg) y4 C) fun v8 =>
      bd1 (f_Mt_trade y2 (C 30 y5.toNatClampNeg) (C 36 y6.toNatClampNeg) v8 C) fun C10 =>
      some C10) fun (C12 : St) =>
    if inb (C 30 y5.toNatClampNeg) 72 then
    L_Mt_serve_6 n y2 y3 y4 (if (C12 29 (C 30 y5.toNatClampNeg).toNatClampNeg) = 0 then y5 + 1 else y5 : Int32) (if (C12 29 (C 30 y5.toNatClampNeg).toNatClampNeg) = 0 then y6 else y6 + 1 : Int32) C12
    else none
    else none
    else none
def f_Mt_serve (x2 : Int32) (x3 : Int32) (x4 : Int32) (C0 : St) : Option (St) :=
  bd1 (L_Mt_serve_6 3000 x2 x3 x4 0 0 C0) fun C18 =>
  some C18
/-- MarketTown$Market.open -/
def L_Mt_open_10 : Nat → Int32 → St → Option (St)
  | 0, _, _ => none
  | n + 1, y2, C =>
    if 5 ≤ y2 then
      some C
    else
    bd1 (f_Wr_get y2 1 C) fun v4 =>
    bd1 (f_Of_pick y2 1 C) fun C6 =>
    bd1 (f_Of_pick_1 y2 (if v4 = 0 then 0 else (-1) : Int32) C6) fun C10 =>
    bd1 (
      if v4 = 1 then
        bd1 (f_Mt_calledPrice C10) fun v13 =>
        some v13
      else
      some 0) fun (w15 : Int32) =>
    bd1 (f_Mt_serve y2 v4 w15 C10) fun C18 =>
    L_Mt_open_10 n (y2 + 1) C18
def f_Mt_open  (C0 : St) : Option (St) :=
  bd1 (f_Tw_firstCouncil C0) fun v1 =>
  bd1 (L_Mt_open_10 3000 0 (mj_wr C0 25 4 v1)) fun C20 =>
  some C20
/-- MarketTown$Loans.get -/
def f_Ln_get (x1 : Int32) (x2 : Int32) (C0 : St) : Option (Int32) :=
  if inb ((x1 * 4) + x2) 80 then
  some (C0 16 ((x1 * 4) + x2).toNatClampNeg)
  else none
/-- MarketTown$Loans.owedWhere -/
def L_Ln_owedWhere_5 : Nat → Int32 → Int32 → Int32 → Int32 → St → Option (Int32)
  | 0, _, _, _, _, _ => none
  | n + 1, y1, y2, y3, y4, C =>
    if (C 15 0) ≤ y4 then
      some y3
    else
    bd1 (f_Ln_get y4 y1 C) fun v2 =>
    bd1 (
      if v2 = y2 then
        bd1 (f_Ln_get y4 2 C) fun v5 =>
        some (y3 + v5)
      else
      some y3) fun (w7 : Int32) =>
    L_Ln_owedWhere_5 n y1 y2 w7 (y4 + 1) C
def f_Ln_owedWhere (x1 : Int32) (x2 : Int32) (C0 : St) : Option (Int32) :=
  bd1 (L_Ln_owedWhere_5 3000 x1 x2 0 0 C0) fun o10 =>
  some o10
/-- MarketTown$Loans.shareOut -/
def L_Ln_shareOut_3 : Nat → Int32 → Int64 → Int64 → Int32 → St → Option (St)
  | 0, _, _, _, _, _ => none
  | n + 1, y2, y3, y5, y7, C =>
    if (C 15 0) ≤ y7 then
      some C
    else
    bd1 (f_Ln_get y7 1 C) fun v2 =>
    bd1 (
      if v2 = y2 then
        if (lg_cmp y5 0) ≤ 0 then
          some C
        else
        bd1 (f_Ln_get y7 2 C) fun v6 =>
        if y5 = 0 then none else
        bd1 (f_Ln_get y7 0 C) fun v9 =>
        bd1 (f_Tw_hand y2 v9 4 (((y3 * (v6.toInt64)) / y5).toInt32) C) fun C11 =>
        some C11
      else
      some C) fun (C13 : St) =>
    L_Ln_shareOut_3 n y2 y3 y5 (y7 + 1) C13
def f_Ln_shareOut (x2 : Int32) (x3 : Int64) (x5 : Int64) (C0 : St) : Option (St) :=
  bd1 (L_Ln_shareOut_3 3000 x2 x3 x5 0 C0) fun C16 =>
  some C16
/-- MarketTown$Loans.close -/
def f_Ln_close (x1 : Int32) (C0 : St) : Option (St) :=
  if inb ((x1 * 4) + 2) 80 then
  some (mj_wr C0 16 (((x1 * 4) + 2).toNatClampNeg) 0)
  else none
/-- MarketTown$Loans.handOutRest -/
def L_Ln_handOutRest_2 : Nat → Int32 → Int32 → St → Option (St)
  | 0, _, _, _ => none
  | n + 1, y2, y3, C =>
    if (C 15 0) ≤ y3 then
      some C
    else
    bd1 (f_Ln_get y3 1 C) fun v2 =>
    bd1 (
      if v2 = y2 then
        bd1 (f_Ln_get y3 2 C) fun v5 =>
        if v5 = 0 then
          some C
        else
        bd1 (f_Ln_get y3 0 C) fun v8 =>
        if inb y2 12 then
        bd1 (f_Tw_hand y2 v8 4 (if (C 3 y2.toNatClampNeg) < 1 then C 3 y2.toNatClampNeg else 1 : Int32) C) fun C11 =>
        bd1 (f_Ln_close y3 C11) fun C13 =>
        some C13
        else none
      else
      some C) fun (C15 : St) =>
    L_Ln_handOutRest_2 n y2 (y3 + 1) C15
def f_Ln_handOutRest (x2 : Int32) (C0 : St) : Option (St) :=
  bd1 (L_Ln_handOutRest_2 3000 x2 0 C0) fun C18 =>
  some C18
/-- MarketTown$Loans.settle -/
def f_Ln_settle (x2 : Int32) (x3 : Int32) (C0 : St) : Option (St) :=
  if inb x3 12 then
  bd1 (f_Ln_get x2 2 C0) fun v2 =>
  bd1 (
    if (C0 3 x3.toNatClampNeg) < v2 then
      bd1 (f_Ln_owedWhere 1 x3 (mj_wr C0 4 (x3.toNatClampNeg) 1)) fun v6 =>
      bd1 (f_Ln_shareOut x3 ((mj_wr C0 4 (x3.toNatClampNeg) 1 3 x3.toNatClampNeg).toInt64) (v6.toInt64) (mj_wr C0 4 (x3.toNatClampNeg) 1)) fun C8 =>
      bd1 (f_Ln_handOutRest x3 C8) fun C10 =>
      some C10
    else
    bd1 (f_Ln_get x2 0 C0) fun v12 =>
    bd1 (f_Ln_get x2 2 C0) fun v14 =>
    bd1 (f_Tw_hand x3 v12 4 v14 C0) fun C16 =>
    bd1 (f_Ln_close x2 C16) fun C18 =>
    some C18) fun (C20 : St) =>
  some C20
  else none
/-- MarketTown$Loans.forgetClosed -/
def L_Ln_forgetClosed_4 : Nat → Int32 → Int32 → St → Option (Int32 × St)
  | 0, _, _, _ => none
  | n + 1, y1, y2, C =>
    if (C 15 0) ≤ y2 then
      some (y1, C)
    else
    bd1 (f_Ln_get y2 2 C) fun v2 =>
    bd2 (
      if v2 = 0 then
        some (y1, C)
      else
      if 0 ≤ (y2 * 4).toInt ∧ 0 ≤ (y1 * 4).toInt ∧ 0 ≤ Int32.toInt 4 ∧ (y2 * 4).toInt + Int32.toInt 4 ≤ 80 ∧ (y1 * 4).toInt + Int32.toInt 4 ≤ 80 then
      some (y1 + 1, mj_cp C 16 16 ((y2 * 4).toNatClampNeg) ((y1 * 4).toNatClampNeg) 4)
      else none) fun (w6 : Int32) (C7 : St) =>
    L_Ln_forgetClosed_4 n w6 (y2 + 1) C7
def f_Ln_forgetClosed  (C0 : St) : Option (St) :=
  bd2 (L_Ln_forgetClosed_4 3000 0 0 C0) fun o10 C11 =>
  some (mj_wr C11 15 0 o10)
/-- MarketTown$Loans.fallDue -/
def L_Ln_fallDue_2 : Nat → Int32 → St → Option (St)
  | 0, _, _ => none
  | n + 1, y2, C =>
    if (C 15 0) ≤ y2 then
      some C
    else
    bd1 (f_Ln_get y2 2 C) fun v2 =>
    bd1 (
      if v2 = 0 then
        some C
      else
      bd1 (f_Ln_get y2 3 C) fun v5 =>
      if v5 = (C 1 1) then
        bd1 (f_Ln_get y2 1 C) fun v8 =>
        bd1 (f_Ln_settle y2 v8 C) fun C10 =>
        some C10
      else
      some C) fun (C12 : St) =>
    L_Ln_fallDue_2 n (y2 + 1) C12
def f_Ln_fallDue  (C0 : St) : Option (St) :=
  bd1 (L_Ln_fallDue_2 3000 0 C0) fun C15 =>
  bd1 (f_Ln_forgetClosed C15) fun C17 =>
  some C17
/-- MarketTown$Stock.shiftAges -/
def L_Sk_shiftAges_28 : Nat → Int32 → Int32 → St → Option (St)
  | 0, _, _, _ => none
  | n + 1, y1, y3, C =>
    if y3 ≤ y1 then
      some C
    else
    if inb (y3 - 1) 600 then
    if inb y3 600 then
    L_Sk_shiftAges_28 n y1 (y3 + (-1)) (mj_wr C 8 (y3.toNatClampNeg) (C 8 (y3 - 1).toNatClampNeg))
    else none
    else none
def f_Sk_shiftAges (x1 : Int32) (C0 : St) : Option (St) :=
  if inb ((x1 + 10) - 1) 600 then
  if inb (((x1 + 10) - 1) - 1) 600 then
  bd1 (L_Sk_shiftAges_28 3000 x1 (((x1 + 10) - 1) - 1) (mj_wr C0 8 (((x1 + 10) - 1).toNatClampNeg) ((C0 8 ((x1 + 10) - 1).toNatClampNeg) + (C0 8 (((x1 + 10) - 1) - 1).toNatClampNeg)))) fun C6 =>
  if inb x1 600 then
  some (mj_wr C6 8 (x1.toNatClampNeg) 0)
  else none
  else none
  else none
/-- MarketTown$Stock.takeFromAge -/
def L_Sk_takeFromAge_5 : Nat → Int32 → Int32 → Int32 → St → Option (Int32 × St)
  | 0, _, _, _, _ => none
  | n + 1, y1, y3, y4, C =>
    if 10 ≤ y4 then
      some (y3, C)
    else
    if inb (y1 + y4) 600 then
    L_Sk_takeFromAge_5 n y1 (y3 + (C 8 (y1 + y4).toNatClampNeg)) (y4 + 1) (mj_wr C 8 ((y1 + y4).toNatClampNeg) 0)
    else none
def f_Sk_takeFromAge (x1 : Int32) (x2 : Int32) (C0 : St) : Option (Int32 × St) :=
  bd2 (L_Sk_takeFromAge_5 3000 x1 0 x2 C0) fun o3 C4 =>
  some (o3, C4)
/-- MarketTown$Stock.grow -/
def L_Sk_grow_5 : Nat → Int32 → Int32 → Int32 → Int32 → St → Option (Int32 × St)
  | 0, _, _, _, _, _ => none
  | n + 1, y1, y2, y3, y4, C =>
    if 12 ≤ y4 then
      some (y3, C)
    else
    if inb ((y4 * 5) + y1) 60 then
    bd2 (
      if (C 9 ((y4 * 5) + y1).toNatClampNeg) ≤ 0 then
        some (y3, C)
      else
      bd1 (f_Sk_shiftAges (((y4 * 5) + y1) * 10) C) fun C4 =>
      bd2 (
        if y2 ≤ 0 then
          some (0, C4)
        else
        bd2 (f_Sk_takeFromAge (((y4 * 5) + y1) * 10) y2 C4) fun v7 C8 =>
        some (v7, C8)) fun (w10 : Int32) (C11 : St) =>
      some (y3 + w10, mj_wr C11 9 (((y4 * 5) + y1).toNatClampNeg) ((C11 9 ((y4 * 5) + y1).toNatClampNeg) - w10))) fun (w15 : Int32) (C16 : St) =>
    L_Sk_grow_5 n y1 y2 w15 (y4 + 1) C16
    else none
def f_Sk_grow (x1 : Int32) (x2 : Int32) (C0 : St) : Option (Int32 × St) :=
  bd2 (L_Sk_grow_5 3000 x1 x2 0 0 C0) fun o19 C20 =>
  some (o19, C20)
/-- MarketTown$Day.pass -/
def L_Dy_pass_14 : Nat → Int32 → St → Option (St)
  | 0, _, _ => none
  | n + 1, y2, C =>
    if (C 1 0) ≤ y2 then
      some C
    else
    if inb y2 12 then
    if inb (C 24 y2.toNatClampNeg) 12 then
    bd1 (
      if (C 4 (C 24 y2.toNatClampNeg).toNatClampNeg) = 0 then
        bd1 (f_Dy_followRules (C 24 y2.toNatClampNeg) C) fun C10 =>
        some C10
      else
      some C) fun (C12 : St) =>
    L_Dy_pass_14 n (y2 + 1) C12
    else none
    else none
def L_Dy_pass_71 : Nat → Int32 → St → Option (St)
  | 0, _, _ => none
  | n + 1, y2, C =>
    if 5 ≤ y2 then
      some C
    else
    bd1 (f_Wr_get y2 0 C) fun v22 =>
    bd2 (f_Sk_grow y2 v22 C) fun v24 C25 =>
    bd1 (f_Wr_increase y2 6 v24 C25) fun C27 =>
    L_Dy_pass_71 n (y2 + 1) C27
def f_Dy_pass  (C0 : St) : Option (St) :=
  bd1 (f_Dy_drawOrder C0) fun C1 =>
  bd1 (f_Mt_clear C1) fun C3 =>
  bd1 (L_Dy_pass_14 3000 0 C3) fun C15 =>
  bd1 (f_Mt_open C15) fun C17 =>
  bd1 (f_Ln_fallDue C17) fun C19 =>
  bd1 (L_Dy_pass_71 3000 0 C19) fun C29 =>
  some (mj_wr C29 1 1 ((C29 1 1) + 1))
/-- MarketTown.live -/
def L_Mk_live_30 : Nat → Int32 → Int32 → St → Option (St)
  | 0, _, _, _ => none
  | n + 1, y1, y2, C =>
    if y1 ≤ y2 then
      some C
    else
    bd1 (f_Dy_pass C) fun C6 =>
    L_Mk_live_30 n y1 (y2 + 1) C6
def f_Mk_live (x1 : Int32) (C0 : St) : Option (Int32 × St) :=
  bd1 (f_Mk_isWithin x1 1 30) fun v1 =>
  if v1 = 0 then
    some ((-1000000001), C0)
  else
  if ((C0 1 1) + x1) ≤ 700 then
    bd1 (L_Mk_live_30 3000 x1 0 C0) fun C8 =>
    some (C8 1 1, C8)
  else
  some ((-1000000001), C0)
/-- MarketTown.about -/
def f_Mk_about (x1 : Int32) (x2 : Int32) (C0 : St) : Option (Int32) :=
  bd1 (f_Tw_isThere x1 C0) fun v1 =>
  if v1 = 0 then
    some (-1000000001)
  else
  if x2 = 0 then
    if inb x1 12 then
    some (C0 2 x1.toNatClampNeg)
    else none
  else
  if x2 = 1 then
    if inb x1 12 then
    some (C0 3 x1.toNatClampNeg)
    else none
  else
  if x2 = 2 then
    if inb x1 12 then
    some (C0 4 x1.toNatClampNeg)
    else none
  else
  if x2 = 3 then
    if inb x1 12 then
    some (C0 13 x1.toNatClampNeg)
    else none
  else
  if x2 = 4 then
    bd1 (f_Ln_owedWhere 1 x1 C0) fun v15 =>
    some v15
  else
  if x2 = 5 then
    bd1 (f_Ln_owedWhere 0 x1 C0) fun v17 =>
    some v17
  else
  if x2 = 6 then
    if inb x1 12 then
    some (C0 5 x1.toNatClampNeg)
    else none
  else
  some (-1000000001)
/-- MarketTown.isOf -/
def f_Mk_isOf (x1 : Int32) (x2 : Int32) (C0 : St) : Option (Int32) :=
  bd1 (f_Tw_isThere x1 C0) fun v1 =>
  if v1 = 0 then
    some (-1000000001)
  else
  bd1 (f_Mk_isKind x2) fun v4 =>
  if v4 = 0 then
    some (-1000000001)
  else
  bd1 (f_Tw_belongs x1 x2 C0) fun v7 =>
  some (if v7 = 0 then 0 else 1 : Int32)
/-- MarketTown$Stock.ofAge -/
def f_Sk_ofAge (x1 : Int32) (x2 : Int32) (x3 : Int32) (C0 : St) : Option (Int32) :=
  if inb ((((x1 * 5) + x2) * 10) + x3) 600 then
  some (C0 8 ((((x1 * 5) + x2) * 10) + x3).toNatClampNeg)
  else none
/-- MarketTown.has -/
def f_Mk_has (x1 : Int32) (x2 : Int32) (x3 : Int32) (C0 : St) : Option (Int32) :=
  bd1 (f_Tw_isThere x1 C0) fun v1 =>
  if v1 = 0 then
    some (-1000000001)
  else
  bd1 (f_Mk_isGood x2) fun v4 =>
  if v4 = 0 then
    some (-1000000001)
  else
  bd1 (f_Mk_isWithin x3 (-1) 9) fun v7 =>
  if v7 = 0 then
    some (-1000000001)
  else
  bd1 (
    if 0 ≤ x3 then
      bd1 (f_Sk_ofAge x1 x2 x3 C0) fun v11 =>
      some v11
    else
    bd1 (f_Sk_all x1 x2 C0) fun v13 =>
    some v13) fun (w15 : Int32) =>
  some w15
/-- MarketTown.told -/
def f_Mk_told (x1 : Int32) (x2 : Int32) (x3 : Int32) (C0 : St) : Option (Int32) :=
  bd1 (f_Tw_isThere x1 C0) fun v1 =>
  if v1 = 0 then
    some (-1000000001)
  else
  bd1 (f_Mk_isWithin x3 0 8) fun v4 =>
  if v4 = 0 then
    some (-1000000001)
  else
  if inb x1 12 then
  bd1 (f_Mk_isWithin x2 0 ((C0 13 x1.toNatClampNeg) - 1)) fun v8 =>
  if v8 = 0 then
    some (-1000000001)
  else
  bd1 (f_Rl_get x1 x2 x3 C0) fun v11 =>
  some v11
  else none
/-- MarketTown$Stock.inTown -/
def L_Sk_inTown_4 : Nat → Int32 → Int32 → Int32 → St → Option (Int32)
  | 0, _, _, _, _ => none
  | n + 1, y1, y2, y3, C =>
    if 12 ≤ y3 then
      some y2
    else
    bd1 (f_Sk_all y3 y1 C) fun v2 =>
    L_Sk_inTown_4 n y1 (y2 + v2) (y3 + 1) C
def f_Sk_inTown (x1 : Int32) (C0 : St) : Option (Int32) :=
  bd1 (L_Sk_inTown_4 3000 x1 0 0 C0) fun o4 =>
  some o4
/-- MarketTown.goods -/
def f_Mk_goods (x1 : Int32) (x2 : Int32) (C0 : St) : Option (Int32) :=
  bd1 (f_Mk_isGood x1) fun v1 =>
  if v1 = 0 then
    some (-1000000001)
  else
  bd1 (f_Mk_isWithin x2 0 7) fun v4 =>
  if v4 = 0 then
    some (-1000000001)
  else
  bd1 (
    if 6 < x2 then
      bd1 (f_Sk_inTown x1 C0) fun v8 =>
      some v8
    else
    bd1 (f_Wr_get x1 x2 C0) fun v10 =>
    some v10) fun (w12 : Int32) =>
  some w12
/-- MarketTown$Town.paidInAll -/
def L_Tw_paidInAll_5 : Nat → Int32 → Int32 → Int32 → Int32 → St → Option (Int32)
  | 0, _, _, _, _, _ => none
  | n + 1, y1, y2, y3, y4, C =>
    if 5 ≤ y4 then
      some y3
    else
    bd1 (f_Tw_entry y1 y2 y4) fun v2 =>
    if inb v2 720 then
    L_Tw_paidInAll_5 n y1 y2 (y3 + (C 6 v2.toNatClampNeg)) (y4 + 1) C
    else none
def f_Tw_paidInAll (x1 : Int32) (x2 : Int32) (C0 : St) : Option (Int32) :=
  bd1 (L_Tw_paidInAll_5 3000 x1 x2 0 0 C0) fun o5 =>
  some o5
/-- MarketTown.paid -/
def f_Mk_paid (x1 : Int32) (x2 : Int32) (x3 : Int32) (C0 : St) : Option (Int32) :=
  bd1 (f_Tw_isThere x1 C0) fun v1 =>
  if v1 = 0 then
    some (-1000000001)
  else
  bd1 (f_Tw_isThere x2 C0) fun v4 =>
  if v4 = 0 then
    some (-1000000001)
  else
  bd1 (f_Mk_isWithin x3 (-1) 4) fun v7 =>
  if v7 = 0 then
    some (-1000000001)
  else
  bd1 (
    if 0 ≤ x3 then
      bd1 (f_Tw_entry x1 x2 x3) fun v11 =>
      if inb v11 720 then
      some (C0 6 v11.toNatClampNeg)
      else none
    else
    bd1 (f_Tw_paidInAll x1 x2 C0) fun v14 =>
    some v14) fun (w16 : Int32) =>
  some w16
/-- MarketTown.loan -/
def f_Mk_loan (x1 : Int32) (x2 : Int32) (C0 : St) : Option (Int32) :=
  if x1 < 0 then
    some (-1000000001)
  else
  bd1 (f_Mk_isWithin x2 0 3) fun v2 =>
  if v2 = 0 then
    some (-1000000001)
  else
  bd1 (
    if (C0 15 0) ≤ x1 then
      some (-1000000005)
    else
    bd1 (f_Ln_get x1 x2 C0) fun v6 =>
    some v6) fun (w8 : Int32) =>
  some w8
/-- MarketTown$Town.cashNotAbove -/
def L_Tw_cashNotAbove_5 : Nat → Int32 → Int32 → Int32 → Int32 → St → Option (Int32)
  | 0, _, _, _, _, _ => none
  | n + 1, y1, y2, y3, y4, C =>
    if (C 1 0) ≤ y4 then
      some y3
    else
    bd1 (f_Tw_belongs y4 y1 C) fun v2 =>
    bd1 (
      if v2 = 0 then
        some y3
      else
      if inb y4 12 then
      if y2 < (C 3 y4.toNatClampNeg) then
        some y3
      else
      some (y3 + 1)
      else none) fun (w7 : Int32) =>
    L_Tw_cashNotAbove_5 n y1 y2 w7 (y4 + 1) C
def f_Tw_cashNotAbove (x1 : Int32) (x2 : Int32) (C0 : St) : Option (Int32) :=
  bd1 (L_Tw_cashNotAbove_5 3000 x1 x2 0 0 C0) fun o10 =>
  some o10
/-- MarketTown$Town.middleCash -/
def L_Tw_middleCash_14 : Nat → Int32 → Int32 → Int32 → St → Option ((Int32) ⊕ (Unit))
  | 0, _, _, _, _ => none
  | n + 1, y1, y2, y3, C =>
    if (C 1 0) ≤ y3 then
      some (.inr ())
    else
    bd1 (f_Tw_belongs y3 y1 C) fun v4 =>
    if v4 = 0 then
      L_Tw_middleCash_14 n y1 y2 (y3 + 1) C
    else
    if inb y3 12 then
    bd1 (f_Tw_cashNotAbove y1 ((C 3 y3.toNatClampNeg) - 1) C) fun v8 =>
    if y2 < v8 then
      L_Tw_middleCash_14 n y1 y2 (y3 + 1) C
    else
    bd1 (f_Tw_cashNotAbove y1 (C 3 y3.toNatClampNeg) C) fun v12 =>
    if v12 ≤ y2 then
      L_Tw_middleCash_14 n y1 y2 (y3 + 1) C
    else
    some (.inl (C 3 y3.toNatClampNeg))
    else none
def f_Tw_middleCash (x1 : Int32) (C0 : St) : Option (Int32) :=
  bd1 (f_Tw_cashNotAbove x1 1200000 C0) fun v1 =>
  bdS (L_Tw_middleCash_14 3000 x1 ((v1 - 1) / 2) 0 C0) (fun e17 => some e17) fun _u =>
  some (-1000000005)
/-- MarketTown.median -/
def f_Mk_median (x1 : Int32) (C0 : St) : Option (Int32) :=
  bd1 (f_Mk_isKind x1) fun v1 =>
  bd1 (
    if v1 = 0 then
      some (-1000000001)
    else
    bd1 (f_Tw_middleCash x1 C0) fun v4 =>
    some v4) fun (w6 : Int32) =>
  some w6
/-- MarketTown$Stock.become -/
def f_Sk_become  (C0 : St) : Option (St) :=
  some (mj_cp (mj_cp C0 8 47 0 0 600) 9 48 0 0 60)
/-- MarketTown$Wares.become -/
def f_Wr_become  (C0 : St) : Option (St) :=
  some (mj_cp C0 11 50 0 0 55)
/-- MarketTown$Rules.become -/
def f_Rl_become  (C0 : St) : Option (St) :=
  some (mj_cp (mj_cp C0 13 52 0 0 12) 14 53 0 0 648)
/-- MarketTown$Loans.become -/
def f_Ln_become  (C0 : St) : Option (St) :=
  some (mj_cp (mj_wr C0 54 0 (C0 15 0)) 16 55 0 0 80)
/-- MarketTown$Town.become -/
def f_Tw_become  (C0 : St) : Option (St) :=
  bd1 (f_Sk_become (mj_cp (mj_cp (mj_cp (mj_cp (mj_cp (mj_wr (mj_wr (mj_wr (mj_wr (mj_wr C0 40 0 (C0 1 0)) 40 1 (mj_wr C0 40 0 (C0 1 0) 1 1)) 40 2 (mj_wr (mj_wr C0 40 0 (C0 1 0)) 40 1 (mj_wr C0 40 0 (C0 1 0) 1 1) 1 2)) 40 3 (mj_wr (mj_wr (mj_wr C0 40 0 (C0 1 0)) 40 1 (mj_wr C0 40 0 (C0 1 0) 1 1)) 40 2 (mj_wr (mj_wr C0 40 0 (C0 1 0)) 40 1 (mj_wr C0 40 0 (C0 1 0) 1 1) 1 2) 1 3)) 40 4 (mj_wr (mj_wr (mj_wr (mj_wr C0 40 0 (C0 1 0)) 40 1 (mj_wr C0 40 0 (C0 1 0) 1 1)) 40 2 (mj_wr (mj_wr C0 40 0 (C0 1 0)) 40 1 (mj_wr C0 40 0 (C0 1 0) 1 1) 1 2)) 40 3 (mj_wr (mj_wr (mj_wr C0 40 0 (C0 1 0)) 40 1 (mj_wr C0 40 0 (C0 1 0) 1 1)) 40 2 (mj_wr (mj_wr C0 40 0 (C0 1 0)) 40 1 (mj_wr C0 40 0 (C0 1 0) 1 1) 1 2) 1 3) 1 4)) 2 41 0 0 12) 3 42 0 0 12) 4 43 0 0 12) 5 44 0 0 12) 6 45 0 0 720)) fun C1 =>
  bd1 (f_Wr_become C1) fun C3 =>
  bd1 (f_Rl_become C3) fun C5 =>
  bd1 (f_Ln_become C5) fun C7 =>
  some C7
/-- MarketTown$Stock.become -/
def f_Sk_become_1  (C0 : St) : Option (St) :=
  some (mj_cp (mj_cp C0 8 63 0 0 600) 9 64 0 0 60)
/-- MarketTown$Wares.become -/
def f_Wr_become_1  (C0 : St) : Option (St) :=
  some (mj_cp C0 11 66 0 0 55)
/-- MarketTown$Rules.become -/
def f_Rl_become_1  (C0 : St) : Option (St) :=
  some (mj_cp (mj_cp C0 13 68 0 0 12) 14 69 0 0 648)
/-- MarketTown$Loans.become -/
def f_Ln_become_1  (C0 : St) : Option (St) :=
  some (mj_cp (mj_wr C0 70 0 (C0 15 0)) 16 71 0 0 80)
/-- MarketTown$Town.become -/
def f_Tw_become_1  (C0 : St) : Option (St) :=
  bd1 (f_Sk_become_1 (mj_cp (mj_cp (mj_cp (mj_cp (mj_cp (mj_wr (mj_wr (mj_wr (mj_wr (mj_wr C0 56 0 (C0 1 0)) 56 1 (mj_wr C0 56 0 (C0 1 0) 1 1)) 56 2 (mj_wr (mj_wr C0 56 0 (C0 1 0)) 56 1 (mj_wr C0 56 0 (C0 1 0) 1 1) 1 2)) 56 3 (mj_wr (mj_wr (mj_wr C0 56 0 (C0 1 0)) 56 1 (mj_wr C0 56 0 (C0 1 0) 1 1)) 56 2 (mj_wr (mj_wr C0 56 0 (C0 1 0)) 56 1 (mj_wr C0 56 0 (C0 1 0) 1 1) 1 2) 1 3)) 56 4 (mj_wr (mj_wr (mj_wr (mj_wr C0 56 0 (C0 1 0)) 56 1 (mj_wr C0 56 0 (C0 1 0) 1 1)) 56 2 (mj_wr (mj_wr C0 56 0 (C0 1 0)) 56 1 (mj_wr C0 56 0 (C0 1 0) 1 1) 1 2)) 56 3 (mj_wr (mj_wr (mj_wr C0 56 0 (C0 1 0)) 56 1 (mj_wr C0 56 0 (C0 1 0) 1 1)) 56 2 (mj_wr (mj_wr C0 56 0 (C0 1 0)) 56 1 (mj_wr C0 56 0 (C0 1 0) 1 1) 1 2) 1 3) 1 4)) 2 57 0 0 12) 3 58 0 0 12) 4 59 0 0 12) 5 60 0 0 12) 6 61 0 0 720)) fun C1 =>
  bd1 (f_Wr_become_1 C1) fun C3 =>
  bd1 (f_Rl_become_1 C3) fun C5 =>
  bd1 (f_Ln_become_1 C5) fun C7 =>
  some C7
/-- MarketTown$Stock.become -/
def f_Sk_become_2  (C0 : St) : Option (St) :=
  some (mj_cp (mj_cp C0 8 79 0 0 600) 9 80 0 0 60)
/-- MarketTown$Wares.become -/
def f_Wr_become_2  (C0 : St) : Option (St) :=
  some (mj_cp C0 11 82 0 0 55)
/-- MarketTown$Rules.become -/
def f_Rl_become_2  (C0 : St) : Option (St) :=
  some (mj_cp (mj_cp C0 13 84 0 0 12) 14 85 0 0 648)
/-- MarketTown$Loans.become -/
def f_Ln_become_2  (C0 : St) : Option (St) :=
  some (mj_cp (mj_wr C0 86 0 (C0 15 0)) 16 87 0 0 80)
/-- MarketTown$Town.become -/
def f_Tw_become_2  (C0 : St) : Option (St) :=
  bd1 (f_Sk_become_2 (mj_cp (mj_cp (mj_cp (mj_cp (mj_cp (mj_wr (mj_wr (mj_wr (mj_wr (mj_wr C0 72 0 (C0 1 0)) 72 1 (mj_wr C0 72 0 (C0 1 0) 1 1)) 72 2 (mj_wr (mj_wr C0 72 0 (C0 1 0)) 72 1 (mj_wr C0 72 0 (C0 1 0) 1 1) 1 2)) 72 3 (mj_wr (mj_wr (mj_wr C0 72 0 (C0 1 0)) 72 1 (mj_wr C0 72 0 (C0 1 0) 1 1)) 72 2 (mj_wr (mj_wr C0 72 0 (C0 1 0)) 72 1 (mj_wr C0 72 0 (C0 1 0) 1 1) 1 2) 1 3)) 72 4 (mj_wr (mj_wr (mj_wr (mj_wr C0 72 0 (C0 1 0)) 72 1 (mj_wr C0 72 0 (C0 1 0) 1 1)) 72 2 (mj_wr (mj_wr C0 72 0 (C0 1 0)) 72 1 (mj_wr C0 72 0 (C0 1 0) 1 1) 1 2)) 72 3 (mj_wr (mj_wr (mj_wr C0 72 0 (C0 1 0)) 72 1 (mj_wr C0 72 0 (C0 1 0) 1 1)) 72 2 (mj_wr (mj_wr C0 72 0 (C0 1 0)) 72 1 (mj_wr C0 72 0 (C0 1 0) 1 1) 1 2) 1 3) 1 4)) 2 73 0 0 12) 3 74 0 0 12) 4 75 0 0 12) 5 76 0 0 12) 6 77 0 0 720)) fun C1 =>
  bd1 (f_Wr_become_2 C1) fun C3 =>
  bd1 (f_Rl_become_2 C3) fun C5 =>
  bd1 (f_Ln_become_2 C5) fun C7 =>
  some C7
/-- MarketTown.save -/
def f_Mk_save (x1 : Int32) (C0 : St) : Option (Int32 × St) :=
  bd1 (f_Mk_isWithin x1 0 2) fun v1 =>
  if v1 = 0 then
    some ((-1000000001), C0)
  else
  if x1 = 0 then
    bd1 (f_Tw_become C0) fun C4 =>
    if inb x1 3 then
    some (mj_wr C4 18 (x1.toNatClampNeg) (vp_nar .boolean 1) 1 1, mj_wr C4 18 (x1.toNatClampNeg) (vp_nar .boolean 1))
    else none
  else
  if x1 = 1 then
    bd1 (f_Tw_become_1 C0) fun C8 =>
    if inb x1 3 then
    some (mj_wr C8 18 (x1.toNatClampNeg) (vp_nar .boolean 1) 1 1, mj_wr C8 18 (x1.toNatClampNeg) (vp_nar .boolean 1))
    else none
  else
  if x1 = 2 then
    bd1 (f_Tw_become_2 C0) fun C12 =>
    if inb x1 3 then
    some (mj_wr C12 18 (x1.toNatClampNeg) (vp_nar .boolean 1) 1 1, mj_wr C12 18 (x1.toNatClampNeg) (vp_nar .boolean 1))
    else none
  else
  none
/-- MarketTown$Stock.become -/
def f_Sk_become_3  (C0 : St) : Option (St) :=
  some (mj_cp (mj_cp C0 47 8 0 0 600) 48 9 0 0 60)
/-- MarketTown$Wares.become -/
def f_Wr_become_3  (C0 : St) : Option (St) :=
  some (mj_cp C0 50 11 0 0 55)
/-- MarketTown$Rules.become -/
def f_Rl_become_3  (C0 : St) : Option (St) :=
  some (mj_cp (mj_cp C0 52 13 0 0 12) 53 14 0 0 648)
/-- MarketTown$Loans.become -/
def f_Ln_become_3  (C0 : St) : Option (St) :=
  some (mj_cp (mj_wr C0 15 0 (C0 54 0)) 55 16 0 0 80)
/-- MarketTown$Town.become -/
def f_Tw_become_3  (C0 : St) : Option (St) :=
  bd1 (f_Sk_become_3 (mj_cp (mj_cp (mj_cp (mj_cp (mj_cp (mj_wr (mj_wr (mj_wr (mj_wr (mj_wr C0 1 0 (C0 40 0)) 1 1 (mj_wr C0 1 0 (C0 40 0) 40 1)) 1 2 (mj_wr (mj_wr C0 1 0 (C0 40 0)) 1 1 (mj_wr C0 1 0 (C0 40 0) 40 1) 40 2)) 1 3 (mj_wr (mj_wr (mj_wr C0 1 0 (C0 40 0)) 1 1 (mj_wr C0 1 0 (C0 40 0) 40 1)) 1 2 (mj_wr (mj_wr C0 1 0 (C0 40 0)) 1 1 (mj_wr C0 1 0 (C0 40 0) 40 1) 40 2) 40 3)) 1 4 (mj_wr (mj_wr (mj_wr (mj_wr C0 1 0 (C0 40 0)) 1 1 (mj_wr C0 1 0 (C0 40 0) 40 1)) 1 2 (mj_wr (mj_wr C0 1 0 (C0 40 0)) 1 1 (mj_wr C0 1 0 (C0 40 0) 40 1) 40 2)) 1 3 (mj_wr (mj_wr (mj_wr C0 1 0 (C0 40 0)) 1 1 (mj_wr C0 1 0 (C0 40 0) 40 1)) 1 2 (mj_wr (mj_wr C0 1 0 (C0 40 0)) 1 1 (mj_wr C0 1 0 (C0 40 0) 40 1) 40 2) 40 3) 40 4)) 41 2 0 0 12) 42 3 0 0 12) 43 4 0 0 12) 44 5 0 0 12) 45 6 0 0 720)) fun C1 =>
  bd1 (f_Wr_become_3 C1) fun C3 =>
  bd1 (f_Rl_become_3 C3) fun C5 =>
  bd1 (f_Ln_become_3 C5) fun C7 =>
  some C7
/-- MarketTown$Stock.become -/
def f_Sk_become_4  (C0 : St) : Option (St) :=
  some (mj_cp (mj_cp C0 63 8 0 0 600) 64 9 0 0 60)
/-- MarketTown$Wares.become -/
def f_Wr_become_4  (C0 : St) : Option (St) :=
  some (mj_cp C0 66 11 0 0 55)
/-- MarketTown$Rules.become -/
def f_Rl_become_4  (C0 : St) : Option (St) :=
  some (mj_cp (mj_cp C0 68 13 0 0 12) 69 14 0 0 648)
/-- MarketTown$Loans.become -/
def f_Ln_become_4  (C0 : St) : Option (St) :=
  some (mj_cp (mj_wr C0 15 0 (C0 70 0)) 71 16 0 0 80)
/-- MarketTown$Town.become -/
def f_Tw_become_4  (C0 : St) : Option (St) :=
  bd1 (f_Sk_become_4 (mj_cp (mj_cp (mj_cp (mj_cp (mj_cp (mj_wr (mj_wr (mj_wr (mj_wr (mj_wr C0 1 0 (C0 56 0)) 1 1 (mj_wr C0 1 0 (C0 56 0) 56 1)) 1 2 (mj_wr (mj_wr C0 1 0 (C0 56 0)) 1 1 (mj_wr C0 1 0 (C0 56 0) 56 1) 56 2)) 1 3 (mj_wr (mj_wr (mj_wr C0 1 0 (C0 56 0)) 1 1 (mj_wr C0 1 0 (C0 56 0) 56 1)) 1 2 (mj_wr (mj_wr C0 1 0 (C0 56 0)) 1 1 (mj_wr C0 1 0 (C0 56 0) 56 1) 56 2) 56 3)) 1 4 (mj_wr (mj_wr (mj_wr (mj_wr C0 1 0 (C0 56 0)) 1 1 (mj_wr C0 1 0 (C0 56 0) 56 1)) 1 2 (mj_wr (mj_wr C0 1 0 (C0 56 0)) 1 1 (mj_wr C0 1 0 (C0 56 0) 56 1) 56 2)) 1 3 (mj_wr (mj_wr (mj_wr C0 1 0 (C0 56 0)) 1 1 (mj_wr C0 1 0 (C0 56 0) 56 1)) 1 2 (mj_wr (mj_wr C0 1 0 (C0 56 0)) 1 1 (mj_wr C0 1 0 (C0 56 0) 56 1) 56 2) 56 3) 56 4)) 57 2 0 0 12) 58 3 0 0 12) 59 4 0 0 12) 60 5 0 0 12) 61 6 0 0 720)) fun C1 =>
  bd1 (f_Wr_become_4 C1) fun C3 =>
  bd1 (f_Rl_become_4 C3) fun C5 =>
  bd1 (f_Ln_become_4 C5) fun C7 =>
  some C7
/-- MarketTown$Stock.become -/
def f_Sk_become_5  (C0 : St) : Option (St) :=
  some (mj_cp (mj_cp C0 79 8 0 0 600) 80 9 0 0 60)
/-- MarketTown$Wares.become -/
def f_Wr_become_5  (C0 : St) : Option (St) :=
  some (mj_cp C0 82 11 0 0 55)
/-- MarketTown$Rules.become -/
def f_Rl_become_5  (C0 : St) : Option (St) :=
  some (mj_cp (mj_cp C0 84 13 0 0 12) 85 14 0 0 648)
/-- MarketTown$Loans.become -/
def f_Ln_become_5  (C0 : St) : Option (St) :=
  some (mj_cp (mj_wr C0 15 0 (C0 86 0)) 87 16 0 0 80)
/-- MarketTown$Town.become -/
def f_Tw_become_5  (C0 : St) : Option (St) :=
  bd1 (f_Sk_become_5 (mj_cp (mj_cp (mj_cp (mj_cp (mj_cp (mj_wr (mj_wr (mj_wr (mj_wr (mj_wr C0 1 0 (C0 72 0)) 1 1 (mj_wr C0 1 0 (C0 72 0) 72 1)) 1 2 (mj_wr (mj_wr C0 1 0 (C0 72 0)) 1 1 (mj_wr C0 1 0 (C0 72 0) 72 1) 72 2)) 1 3 (mj_wr (mj_wr (mj_wr C0 1 0 (C0 72 0)) 1 1 (mj_wr C0 1 0 (C0 72 0) 72 1)) 1 2 (mj_wr (mj_wr C0 1 0 (C0 72 0)) 1 1 (mj_wr C0 1 0 (C0 72 0) 72 1) 72 2) 72 3)) 1 4 (mj_wr (mj_wr (mj_wr (mj_wr C0 1 0 (C0 72 0)) 1 1 (mj_wr C0 1 0 (C0 72 0) 72 1)) 1 2 (mj_wr (mj_wr C0 1 0 (C0 72 0)) 1 1 (mj_wr C0 1 0 (C0 72 0) 72 1) 72 2)) 1 3 (mj_wr (mj_wr (mj_wr C0 1 0 (C0 72 0)) 1 1 (mj_wr C0 1 0 (C0 72 0) 72 1)) 1 2 (mj_wr (mj_wr C0 1 0 (C0 72 0)) 1 1 (mj_wr C0 1 0 (C0 72 0) 72 1) 72 2) 72 3) 72 4)) 73 2 0 0 12) 74 3 0 0 12) 75 4 0 0 12) 76 5 0 0 12) 77 6 0 0 720)) fun C1 =>
  bd1 (f_Wr_become_5 C1) fun C3 =>
  bd1 (f_Rl_become_5 C3) fun C5 =>
  bd1 (f_Ln_become_5 C5) fun C7 =>
  some C7
/-- MarketTown.load -/
def f_Mk_load (x1 : Int32) (C0 : St) : Option (Int32 × St) :=
  bd1 (f_Mk_isWithin x1 0 2) fun v1 =>
  if v1 = 0 then
    some ((-1000000001), C0)
  else
  if inb x1 3 then
  if (C0 18 x1.toNatClampNeg) = 0 then
    some ((-1000000002), C0)
  else
  if x1 = 0 then
    bd1 (f_Tw_become_3 C0) fun C6 =>
    some (C6 1 1, C6)
  else
  if x1 = 1 then
    bd1 (f_Tw_become_4 C0) fun C9 =>
    some (C9 1 1, C9)
  else
  if x1 = 2 then
    bd1 (f_Tw_become_5 C0) fun C12 =>
    some (C12 1 1, C12)
  else
  none
  else none
/-- MarketTown$Stock.isAlike -/
def L_Sk_isAlike_17 : Nat → Int32 → Int32 → St → Option ((Int32) ⊕ (Unit))
  | 0, _, _, _ => none
  | n + 1, y3, y4, C =>
    if y3 ≤ y4 then
      some (.inr ())
    else
    if inb y4 600 then
    if (C 8 y4.toNatClampNeg) = (C 47 y4.toNatClampNeg) then
      L_Sk_isAlike_17 n y3 (y4 + 1) C
    else
    some (.inl 0)
    else none
def f_Sk_isAlike (x2 : Int32) (C0 : St) : Option (Int32) :=
  bdS (L_Sk_isAlike_17 3000 (((x2 + 1) * 5) * 10) ((x2 * 5) * 10) C0) (fun e6 => some e6) fun _u =>
  some 1
/-- MarketTown$Town.firstUnlike -/
def L_Tw_firstUnlike_14 : Nat → Int32 → Int32 → St → Option ((Int32) ⊕ (Unit))
  | 0, _, _, _ => none
  | n + 1, y2, y3, C =>
    if y2 ≤ y3 then
      some (.inr ())
    else
    if inb y3 12 then
    if (C 3 y3.toNatClampNeg) = (C 42 y3.toNatClampNeg) then
      bd1 (f_Sk_isAlike y3 C) fun v5 =>
      if v5 = 0 then
        some (.inl y3)
      else
      L_Tw_firstUnlike_14 n y2 (y3 + 1) C
    else
    some (.inl y3)
    else none
def f_Tw_firstUnlike  (C0 : St) : Option (Int32) :=
  bdS (L_Tw_firstUnlike_14 3000 (if (C0 40 0) < (C0 1 0) then C0 40 0 else C0 1 0 : Int32) 0 C0) (fun e11 => some e11) fun _u =>
  some (if (C0 1 0) = (C0 40 0) then (-1000000005) else (if (C0 40 0) < (C0 1 0) then C0 40 0 else C0 1 0 : Int32) : Int32)
/-- MarketTown$Stock.isAlike -/
def L_Sk_isAlike_1_17 : Nat → Int32 → Int32 → St → Option ((Int32) ⊕ (Unit))
  | 0, _, _, _ => none
  | n + 1, y3, y4, C =>
    if y3 ≤ y4 then
      some (.inr ())
    else
    if inb y4 600 then
    if (C 8 y4.toNatClampNeg) = (C 63 y4.toNatClampNeg) then
      L_Sk_isAlike_1_17 n y3 (y4 + 1) C
    else
    some (.inl 0)
    else none
def f_Sk_isAlike_1 (x2 : Int32) (C0 : St) : Option (Int32) :=
  bdS (L_Sk_isAlike_1_17 3000 (((x2 + 1) * 5) * 10) ((x2 * 5) * 10) C0) (fun e6 => some e6) fun _u =>
  some 1
/-- MarketTown$Town.firstUnlike -/
def L_Tw_firstUnlike_1_14 : Nat → Int32 → Int32 → St → Option ((Int32) ⊕ (Unit))
  | 0, _, _, _ => none
  | n + 1, y2, y3, C =>
    if y2 ≤ y3 then
      some (.inr ())
    else
    if inb y3 12 then
    if (C 3 y3.toNatClampNeg) = (C 58 y3.toNatClampNeg) then
      bd1 (f_Sk_isAlike_1 y3 C) fun v5 =>
      if v5 = 0 then
        some (.inl y3)
      else
      L_Tw_firstUnlike_1_14 n y2 (y3 + 1) C
    else
    some (.inl y3)
    else none
def f_Tw_firstUnlike_1  (C0 : St) : Option (Int32) :=
  bdS (L_Tw_firstUnlike_1_14 3000 (if (C0 56 0) < (C0 1 0) then C0 56 0 else C0 1 0 : Int32) 0 C0) (fun e11 => some e11) fun _u =>
  some (if (C0 1 0) = (C0 56 0) then (-1000000005) else (if (C0 56 0) < (C0 1 0) then C0 56 0 else C0 1 0 : Int32) : Int32)
/-- MarketTown$Stock.isAlike -/
def L_Sk_isAlike_2_17 : Nat → Int32 → Int32 → St → Option ((Int32) ⊕ (Unit))
  | 0, _, _, _ => none
  | n + 1, y3, y4, C =>
    if y3 ≤ y4 then
      some (.inr ())
    else
    if inb y4 600 then
    if (C 8 y4.toNatClampNeg) = (C 79 y4.toNatClampNeg) then
      L_Sk_isAlike_2_17 n y3 (y4 + 1) C
    else
    some (.inl 0)
    else none
def f_Sk_isAlike_2 (x2 : Int32) (C0 : St) : Option (Int32) :=
  bdS (L_Sk_isAlike_2_17 3000 (((x2 + 1) * 5) * 10) ((x2 * 5) * 10) C0) (fun e6 => some e6) fun _u =>
  some 1
/-- MarketTown$Town.firstUnlike -/
def L_Tw_firstUnlike_2_14 : Nat → Int32 → Int32 → St → Option ((Int32) ⊕ (Unit))
  | 0, _, _, _ => none
  | n + 1, y2, y3, C =>
    if y2 ≤ y3 then
      some (.inr ())
    else
    if inb y3 12 then
    if (C 3 y3.toNatClampNeg) = (C 74 y3.toNatClampNeg) then
      bd1 (f_Sk_isAlike_2 y3 C) fun v5 =>
      if v5 = 0 then
        some (.inl y3)
      else
      L_Tw_firstUnlike_2_14 n y2 (y3 + 1) C
    else
    some (.inl y3)
    else none
def f_Tw_firstUnlike_2  (C0 : St) : Option (Int32) :=
  bdS (L_Tw_firstUnlike_2_14 3000 (if (C0 72 0) < (C0 1 0) then C0 72 0 else C0 1 0 : Int32) 0 C0) (fun e11 => some e11) fun _u =>
  some (if (C0 1 0) = (C0 72 0) then (-1000000005) else (if (C0 72 0) < (C0 1 0) then C0 72 0 else C0 1 0 : Int32) : Int32)
/-- MarketTown.differs -/
def f_Mk_differs (x1 : Int32) (C0 : St) : Option (Int32) :=
  bd1 (f_Mk_isWithin x1 0 2) fun v1 =>
  if v1 = 0 then
    some (-1000000001)
  else
  if inb x1 3 then
  bd1 (
    if (C0 18 x1.toNatClampNeg) = 0 then
      some (-1000000002)
    else
    if x1 = 0 then
      bd1 (f_Tw_firstUnlike C0) fun v6 =>
      some v6
    else
    if x1 = 1 then
      bd1 (f_Tw_firstUnlike_1 C0) fun v9 =>
      some v9
    else
    if x1 = 2 then
      bd1 (f_Tw_firstUnlike_2 C0) fun v12 =>
      some v12
    else
    none) fun (w15 : Int32) =>
  some w15
  else none
/-- MarketTown$Town.cashInAll -/
def L_Tw_cashInAll_4 : Nat → Int32 → Int32 → St → Option (Int32)
  | 0, _, _, _ => none
  | n + 1, y1, y2, C =>
    if (C 1 0) ≤ y2 then
      some y1
    else
    if inb y2 12 then
    L_Tw_cashInAll_4 n (y1 + (C 3 y2.toNatClampNeg)) (y2 + 1) C
    else none
def f_Tw_cashInAll  (C0 : St) : Option (Int32) :=
  bd1 (L_Tw_cashInAll_4 3000 0 0 C0) fun o3 =>
  some o3
/-- MarketTown$Town.brokeAgents -/
def L_Tw_brokeAgents_4 : Nat → Int32 → Int32 → St → Option (Int32)
  | 0, _, _, _ => none
  | n + 1, y1, y2, C =>
    if (C 1 0) ≤ y2 then
      some y1
    else
    if inb y2 12 then
    L_Tw_brokeAgents_4 n (y1 + (C 4 y2.toNatClampNeg)) (y2 + 1) C
    else none
def f_Tw_brokeAgents  (C0 : St) : Option (Int32) :=
  bd1 (L_Tw_brokeAgents_4 3000 0 0 C0) fun o3 =>
  some o3
/-- MarketTown$Town.paidByAll -/
def L_Tw_paidByAll_4 : Nat → Int32 → Int32 → St → Option (Int32)
  | 0, _, _, _ => none
  | n + 1, y1, y2, C =>
    if 720 ≤ y2 then
      some y1
    else
    if inb y2 720 then
    L_Tw_paidByAll_4 n (y1 + (C 6 y2.toNatClampNeg)) (y2 + 1) C
    else none
def f_Tw_paidByAll  (C0 : St) : Option (Int32) :=
  bd1 (L_Tw_paidByAll_4 3000 0 0 C0) fun o3 =>
  some o3
/-- MarketTown.count -/
def f_Mk_count (x1 : Int32) (C0 : St) : Option (Int32) :=
  if x1 = 0 then
    some (C0 1 0)
  else
  if x1 = 1 then
    some (C0 1 1)
  else
  if x1 = 2 then
    bd1 (f_Tw_cashInAll C0) fun v9 =>
    some v9
  else
  if x1 = 3 then
    some (C0 15 0)
  else
  if x1 = 4 then
    bd1 (f_Tw_brokeAgents C0) fun v11 =>
    some v11
  else
  if x1 = 5 then
    some (C0 19 0)
  else
  if x1 = 6 then
    some (C0 1 2)
  else
  if x1 = 7 then
    bd1 (f_Tw_paidByAll C0) fun v13 =>
    some v13
  else
  some (-1000000001)
