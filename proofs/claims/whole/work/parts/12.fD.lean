/-- MarketTownModel.isIn -/
def f_Md_isIn (x0 : Int32) (x1 : Int32) (x2 : Int32) : Option (Int32) :=
  some (if x0 < x1 then 0 else (if x2 < x0 then 0 else 1 : Int32) : Int32)
/-- MarketTownModel.agent -/
def f_Md_agent (x1 : Int32) (x2 : Int32) (C0 : St) : Option (Int32 × St) :=
  bd1 (f_Md_isIn x1 0 5) fun v1 =>
  if v1 = 0 then
    some ((-1000000001), C0)
  else
  bd1 (f_Md_isIn x2 0 100000) fun v4 =>
  if v4 = 0 then
    some ((-1000000001), C0)
  else
  if (C0 89 2163) = 12 then
    some ((-1000000003), C0)
  else
  if inb (0 + (5 * (C0 89 2163))) 2200 then
  if inb ((0 + (5 * (C0 89 2163))) + 1) 2200 then
  if inb ((0 + (5 * (C0 89 2163))) + 2) 2200 then
  if inb ((0 + (5 * (C0 89 2163))) + 3) 2200 then
  if inb ((0 + (5 * (C0 89 2163))) + 4) 2200 then
  some (C0 89 2163, mj_wr (mj_wr (mj_wr (mj_wr (mj_wr (mj_wr C0 89 ((0 + (5 * (C0 89 2163))).toNatClampNeg) x1) 89 (((0 + (5 * (C0 89 2163))) + 1).toNatClampNeg) x2) 89 (((0 + (5 * (C0 89 2163))) + 2).toNatClampNeg) 0) 89 (((0 + (5 * (C0 89 2163))) + 3).toNatClampNeg) (-1000000005)) 89 (((0 + (5 * (C0 89 2163))) + 4).toNatClampNeg) 0) 89 2163 ((mj_wr (mj_wr (mj_wr (mj_wr (mj_wr C0 89 ((0 + (5 * (C0 89 2163))).toNatClampNeg) x1) 89 (((0 + (5 * (C0 89 2163))) + 1).toNatClampNeg) x2) 89 (((0 + (5 * (C0 89 2163))) + 2).toNatClampNeg) 0) 89 (((0 + (5 * (C0 89 2163))) + 3).toNatClampNeg) (-1000000005)) 89 (((0 + (5 * (C0 89 2163))) + 4).toNatClampNeg) 0 89 2163) + 1))
  else none
  else none
  else none
  else none
  else none
/-- MarketTownModel.isAgent -/
def f_Md_isAgent (x1 : Int32) (C0 : St) : Option (Int32) :=
  bd1 (f_Md_isIn x1 0 ((C0 89 2163) - 1)) fun v2 =>
  if v2 = 0 ∨ v2 = 1 then
  some v2
  else none
/-- MarketTownModel.isGood -/
def f_Md_isGood (x0 : Int32) : Option (Int32) :=
  bd1 (f_Md_isIn x0 0 4) fun v1 =>
  if v1 = 0 ∨ v1 = 1 then
  some v1
  else none
/-- MarketTownModel.ageAt -/
def f_Md_ageAt (x0 : Int32) (x1 : Int32) (x2 : Int32) : Option (Int32) :=
  some ((60 + (10 * ((5 * x0) + x1))) + x2)
/-- MarketTownModel.hasAll -/
def L_Md_hasAll_5 : Nat → Int32 → Int32 → Int32 → Int32 → St → Option (Int32)
  | 0, _, _, _, _, _ => none
  | n + 1, y1, y2, y3, y4, C =>
    if 10 ≤ y4 then
      some y3
    else
    bd1 (f_Md_ageAt y1 y2 y4) fun v2 =>
    if inb v2 2200 then
    L_Md_hasAll_5 n y1 y2 (y3 + (C 89 v2.toNatClampNeg)) (y4 + 1) C
    else none
def f_Md_hasAll (x1 : Int32) (x2 : Int32) (C0 : St) : Option (Int32) :=
  bd1 (L_Md_hasAll_5 3000 x1 x2 0 0 C0) fun o5 =>
  some o5
/-- MarketTownModel.give -/
def f_Md_give (x1 : Int32) (x2 : Int32) (x3 : Int32) (C0 : St) : Option (Int32 × St) :=
  bd1 (f_Md_isAgent x1 C0) fun v1 =>
  if v1 = 0 then
    some ((-1000000001), C0)
  else
  bd1 (f_Md_isGood x2) fun v4 =>
  if v4 = 0 then
    some ((-1000000001), C0)
  else
  bd1 (f_Md_isIn x3 1 999) fun v7 =>
  if v7 = 0 then
    some ((-1000000001), C0)
  else
  bd1 (f_Md_ageAt x1 x2 0) fun v10 =>
  if inb v10 2200 then
  bd1 (f_Md_hasAll x1 x2 (mj_wr C0 89 (v10.toNatClampNeg) ((C0 89 v10.toNatClampNeg) + x3))) fun v13 =>
  some (v13, mj_wr C0 89 (v10.toNatClampNeg) ((C0 89 v10.toNatClampNeg) + x3))
  else none
/-- MarketTownModel.good -/
def f_Md_good (x1 : Int32) (x2 : Int32) (x3 : Int32) (C0 : St) : Option (Int32 × St) :=
  bd1 (f_Md_isGood x1) fun v1 =>
  if v1 = 0 then
    some ((-1000000001), C0)
  else
  bd1 (f_Md_isIn x2 0 9) fun v4 =>
  if v4 = 0 then
    some ((-1000000001), C0)
  else
  bd1 (f_Md_isIn x3 0 2) fun v7 =>
  if v7 = 0 then
    some ((-1000000001), C0)
  else
  if inb (1308 + (11 * x1)) 2200 then
  if inb ((1308 + (11 * x1)) + 1) 2200 then
  some (0, mj_wr (mj_wr C0 89 ((1308 + (11 * x1)).toNatClampNeg) x2) 89 (((1308 + (11 * x1)) + 1).toNatClampNeg) x3)
  else none
  else none
/-- MarketTownModel.recipe -/
def f_Md_recipe (x1 : Int32) (x2 : Int32) (x3 : Int32) (x4 : Int32) (x5 : Int32) (C0 : St) : Option (Int32 × St) :=
  bd1 (f_Md_isGood x1) fun v1 =>
  if v1 = 0 then
    some ((-1000000001), C0)
  else
  bd1 (f_Md_isGood x2) fun v4 =>
  if v4 = 0 then
    some ((-1000000001), C0)
  else
  bd1 (f_Md_isGood x4) fun v7 =>
  if v7 = 0 then
    some ((-1000000001), C0)
  else
  bd1 (f_Md_isIn x3 (-1) 9) fun v10 =>
  if v10 = 0 then
    some ((-1000000001), C0)
  else
  bd1 (f_Md_isIn x5 0 9) fun v13 =>
  if v13 = 0 then
    some ((-1000000001), C0)
  else
  if inb ((1308 + (11 * x1)) + 7) 2200 then
  if inb ((1308 + (11 * x1)) + 8) 2200 then
  if inb ((1308 + (11 * x1)) + 9) 2200 then
  if inb ((1308 + (11 * x1)) + 10) 2200 then
  some (0, mj_wr (mj_wr (mj_wr (mj_wr C0 89 (((1308 + (11 * x1)) + 7).toNatClampNeg) x2) 89 (((1308 + (11 * x1)) + 8).toNatClampNeg) x3) 89 (((1308 + (11 * x1)) + 9).toNatClampNeg) x4) 89 (((1308 + (11 * x1)) + 10).toNatClampNeg) x5)
  else none
  else none
  else none
  else none
/-- MarketTownModel.policy -/
def f_Md_policy (x1 : Int32) (x2 : Int32) (C0 : St) : Option (Int32 × St) :=
  bd1 (f_Md_isIn x1 0 1000) fun v1 =>
  if v1 = 0 then
    some ((-1000000001), C0)
  else
  bd1 (f_Md_isIn x2 0 100) fun v4 =>
  if v4 = 0 then
    some ((-1000000001), C0)
  else
  some (0, mj_wr (mj_wr C0 89 2166 x1) 89 2167 x2)
/-- MarketTownModel.lots -/
def f_Md_lots (x1 : Int32) (C0 : St) : Option (Int32 × St) :=
  if 0 ≤ x1 then
    some (0, mj_wr C0 89 2165 x1)
  else
  some ((-1000000001), C0)
/-- MarketTownModel.lay -/
def L_Md_lay_2 : Nat → Int32 → Int32 → St → Option (St)
  | 0, _, _, _ => none
  | n + 1, y1, y2, C =>
    if y2 < 0 then
      some C
    else
    if inb (C 88 4) 60 then
    L_Md_lay_2 n y1 (y2 + (-1)) (mj_wr (mj_wr C 92 ((C 88 4).toNatClampNeg) ((y1 >>> ((8 * y2) &&& 31)) &&& 255)) 88 4 ((mj_wr C 92 ((C 88 4).toNatClampNeg) ((y1 >>> ((8 * y2) &&& 31)) &&& 255) 88 4) + 1))
    else none
def f_Md_lay (x1 : Int32) (C0 : St) : Option (St) :=
  bd1 (L_Md_lay_2 3000 x1 3 C0) fun C3 =>
  some C3
/-- MarketTownModel.feed -/
def f_Md_feed (x1 : Int32) (x2 : Int32) (x3 : Int32) (x4 : Int32) (x5 : Int32) (C0 : St) : Option (Int32 × St) :=
  if ((C0 88 4) + 20) ≤ 60 then
    bd1 (f_Md_lay x1 C0) fun C2 =>
    bd1 (f_Md_lay x2 C2) fun C4 =>
    bd1 (f_Md_lay x3 C4) fun C6 =>
    bd1 (f_Md_lay x4 C6) fun C8 =>
    bd1 (f_Md_lay x5 C8) fun C10 =>
    some (C10 88 4, C10)
  else
  some ((-1000000003), C0)
/-- MarketTownModel.trim -/
def f_Md_trim (x1 : Int32) (C0 : St) : Option (Int32 × St) :=
  bd1 (f_Md_isIn x1 0 (C0 88 4)) fun v1 =>
  if v1 = 0 then
    some ((-1000000001), C0)
  else
  some (x1, mj_wr C0 88 4 x1)
/-- MarketTownModel.next -/
def L_Md_next_8 : Nat → St → Option (St)
  | 0, _ => none
  | n + 1, C =>
    if (C 88 12) ≤ (C 88 13) then
      some C
    else
    if inb (C 88 13) 60 then
    if (C 92 (C 88 13).toNatClampNeg) = 32 then
      L_Md_next_8 n (mj_wr C 88 13 ((C 88 13) + 1))
    else
    some C
    else none
def L_Md_next_62 : Nat → St → Option (St)
  | 0, _ => none
  | n + 1, C =>
    if (C 88 12) ≤ (C 88 15) then
      some C
    else
    if inb (C 88 15) 60 then
    if (C 92 (C 88 15).toNatClampNeg) = 32 then
      some C
    else
    L_Md_next_62 n (mj_wr C 88 15 ((C 88 15) + 1))
    else none
def f_Md_next  (C0 : St) : Option (St) :=
  bd1 (L_Md_next_8 3000 (mj_wr C0 88 13 (C0 88 15))) fun C4 =>
  bd1 (L_Md_next_62 3000 (mj_wr (mj_wr C4 88 14 (C4 88 13)) 88 15 (mj_wr C4 88 14 (C4 88 13) 88 13))) fun C9 =>
  bd1 (
    if (C9 88 14) = (C9 88 15) then
      some (mj_wr C9 88 14 (C9 88 12))
    else
    some C9) fun (C12 : St) =>
  some C12
/-- MarketTownModel.reads -/
def f_Md_reads (x1 : Int32) (x2 : Int32) (x3 : Int32) (x4 : Int32) (x5 : Int32) (C0 : St) : Option (Int32) :=
  if (C0 88 12) ≤ (C0 88 14) then
    some 0
  else
  if ((C0 88 15) - (C0 88 14)) = (if x5 = 0 then (if x4 = 0 then (if x3 = 0 then (if x2 = 0 then 1 else 2 : Int32) else 3 : Int32) else 4 : Int32) else 5 : Int32) then
    if inb (C0 88 14) 60 then
    if (C0 92 (C0 88 14).toNatClampNeg) = x1 then
      bd1 (
        if (if x5 = 0 then (if x4 = 0 then (if x3 = 0 then (if x2 = 0 then 1 else 2 : Int32) else 3 : Int32) else 4 : Int32) else 5 : Int32) < 2 then
          if (if x5 = 0 then (if x4 = 0 then (if x3 = 0 then (if x2 = 0 then 1 else 2 : Int32) else 3 : Int32) else 4 : Int32) else 5 : Int32) < 3 then
            if (if x5 = 0 then (if x4 = 0 then (if x3 = 0 then (if x2 = 0 then 1 else 2 : Int32) else 3 : Int32) else 4 : Int32) else 5 : Int32) < 4 then
              if (if x5 = 0 then (if x4 = 0 then (if x3 = 0 then (if x2 = 0 then 1 else 2 : Int32) else 3 : Int32) else 4 : Int32) else 5 : Int32) < 5 then
                some 1
              else
              if inb ((C0 88 14) + 4) 60 then
              if (C0 92 ((C0 88 14) + 4).toNatClampNeg) = x5 then
                some 1
              else
              some 0
              else none
            else
            if inb ((C0 88 14) + 3) 60 then
            if (C0 92 ((C0 88 14) + 3).toNatClampNeg) = x4 then
              if (if x5 = 0 then (if x4 = 0 then (if x3 = 0 then (if x2 = 0 then 1 else 2 : Int32) else 3 : Int32) else 4 : Int32) else 5 : Int32) < 5 then
                some 1
              else
              if inb ((C0 88 14) + 4) 60 then
              if (C0 92 ((C0 88 14) + 4).toNatClampNeg) = x5 then
                some 1
              else
              some 0
              else none
            else
            some 0
            else none
          else
          if inb ((C0 88 14) + 2) 60 then
          if (C0 92 ((C0 88 14) + 2).toNatClampNeg) = x3 then
            if (if x5 = 0 then (if x4 = 0 then (if x3 = 0 then (if x2 = 0 then 1 else 2 : Int32) else 3 : Int32) else 4 : Int32) else 5 : Int32) < 4 then
              if (if x5 = 0 then (if x4 = 0 then (if x3 = 0 then (if x2 = 0 then 1 else 2 : Int32) else 3 : Int32) else 4 : Int32) else 5 : Int32) < 5 then
                some 1
              else
              if inb ((C0 88 14) + 4) 60 then
              if (C0 92 ((C0 88 14) + 4).toNatClampNeg) = x5 then
                some 1
              else
              some 0
              else none
            else
            if inb ((C0 88 14) + 3) 60 then
            if (C0 92 ((C0 88 14) + 3).toNatClampNeg) = x4 then
              if (if x5 = 0 then (if x4 = 0 then (if x3 = 0 then (if x2 = 0 then 1 else 2 : Int32) else 3 : Int32) else 4 : Int32) else 5 : Int32) < 5 then
                some 1
              else
              if inb ((C0 88 14) + 4) 60 then
              if (C0 92 ((C0 88 14) + 4).toNatClampNeg) = x5 then
                some 1
              else
              some 0
              else none
            else
            some 0
            else none
          else
          some 0
          else none
        else
        if inb ((C0 88 14) + 1) 60 then
        if (C0 92 ((C0 88 14) + 1).toNatClampNeg) = x2 then
          if (if x5 = 0 then (if x4 = 0 then (if x3 = 0 then (if x2 = 0 then 1 else 2 : Int32) else 3 : Int32) else 4 : Int32) else 5 : Int32) < 3 then
            if (if x5 = 0 then (if x4 = 0 then (if x3 = 0 then (if x2 = 0 then 1 else 2 : Int32) else 3 : Int32) else 4 : Int32) else 5 : Int32) < 4 then
              if (if x5 = 0 then (if x4 = 0 then (if x3 = 0 then (if x2 = 0 then 1 else 2 : Int32) else 3 : Int32) else 4 : Int32) else 5 : Int32) < 5 then
                some 1
              else
              if inb ((C0 88 14) + 4) 60 then
              if (C0 92 ((C0 88 14) + 4).toNatClampNeg) = x5 then
                some 1
              else
              some 0
              else none
            else
            if inb ((C0 88 14) + 3) 60 then
            if (C0 92 ((C0 88 14) + 3).toNatClampNeg) = x4 then
              if (if x5 = 0 then (if x4 = 0 then (if x3 = 0 then (if x2 = 0 then 1 else 2 : Int32) else 3 : Int32) else 4 : Int32) else 5 : Int32) < 5 then
                some 1
              else
              if inb ((C0 88 14) + 4) 60 then
              if (C0 92 ((C0 88 14) + 4).toNatClampNeg) = x5 then
                some 1
              else
              some 0
              else none
            else
            some 0
            else none
          else
          if inb ((C0 88 14) + 2) 60 then
          if (C0 92 ((C0 88 14) + 2).toNatClampNeg) = x3 then
            if (if x5 = 0 then (if x4 = 0 then (if x3 = 0 then (if x2 = 0 then 1 else 2 : Int32) else 3 : Int32) else 4 : Int32) else 5 : Int32) < 4 then
              if (if x5 = 0 then (if x4 = 0 then (if x3 = 0 then (if x2 = 0 then 1 else 2 : Int32) else 3 : Int32) else 4 : Int32) else 5 : Int32) < 5 then
                some 1
              else
              if inb ((C0 88 14) + 4) 60 then
              if (C0 92 ((C0 88 14) + 4).toNatClampNeg) = x5 then
                some 1
              else
              some 0
              else none
            else
            if inb ((C0 88 14) + 3) 60 then
            if (C0 92 ((C0 88 14) + 3).toNatClampNeg) = x4 then
              if (if x5 = 0 then (if x4 = 0 then (if x3 = 0 then (if x2 = 0 then 1 else 2 : Int32) else 3 : Int32) else 4 : Int32) else 5 : Int32) < 5 then
                some 1
              else
              if inb ((C0 88 14) + 4) 60 then
              if (C0 92 ((C0 88 14) + 4).toNatClampNeg) = x5 then
                some 1
              else
              some 0
              else none
            else
            some 0
            else none
          else
          some 0
          else none
        else
        some 0
        else none) fun (w55 : Int32) =>
      if w55 = 0 ∨ w55 = 1 then
      some w55
      else none
    else
    some 0
    else none
  else
  some 0
/-- MarketTownModel.fail -/
def f_Md_fail  (C0 : St) : Option (St) :=
  some (mj_wr C0 88 16 (if 0 ≤ (C0 88 16) then C0 88 16 else C0 88 14 : Int32))
/-- MarketTownModel.number -/
def L_Md_number_26 : Nat → Int32 → Int32 → Int32 → Int32 → Int32 → St → Option (Int32 × Int32)
  | 0, _, _, _, _, _, _ => none
  | n + 1, y1, y2, y3, y4, y5, C =>
    if (C 88 15) ≤ y5 then
      some (y3, y4)
    else
    bd1 (
      if y4 = 0 then
        some 0
      else
      if inb y5 60 then
      bd1 (f_Md_isIn (C 92 y5.toNatClampNeg) 48 57) fun v6 =>
      if v6 = 0 then
        some 0
      else
      some 1
      else none) fun (w9 : Int32) =>
    bd1 (
      if w9 = 0 then
        some y3
      else
      if 9999 < y3 then
        some y3
      else
      if inb y5 60 then
      some (((10 * y3) + (C 92 y5.toNatClampNeg)) - 48)
      else none) fun (w15 : Int32) =>
    L_Md_number_26 n y1 y2 w15 w9 (y5 + 1) C
def f_Md_number (x1 : Int32) (x2 : Int32) (C0 : St) : Option (Int32 × St) :=
  bd2 (L_Md_number_26 3000 x1 x2 0 (if (C0 88 15) ≤ (C0 88 14) then 0 else 1 : Int32) (C0 88 14) C0) fun o18 o19 =>
  if o19 = 0 then
    bd1 (f_Md_fail C0) fun C22 =>
    some (0, C22)
  else
  if o18 < x1 then
    bd1 (f_Md_fail C0) fun C25 =>
    some (0, C25)
  else
  if o18 ≤ x2 then
    bd1 (f_Md_next C0) fun C28 =>
    some (o18, C28)
  else
  bd1 (f_Md_fail C0) fun C30 =>
  some (0, C30)
/-- MarketTownModel.readCond -/
def f_Md_readCond  (C0 : St) : Option (St) :=
  bd1 (f_Md_reads 104 97 118 101 0 C0) fun v1 =>
  bd1 (f_Md_reads 112 114 105 99 101 C0) fun v3 =>
  bd1 (f_Md_reads 99 97 115 104 0 C0) fun v5 =>
  bd1 (
    if v5 = 0 then
      if v1 = 0 then
        bd1 (f_Md_reads 100 97 121 0 0 C0) fun v9 =>
        if v9 = 0 then
          if v3 = 0 then
            some (-1)
          else
          some 3
        else
        some 2
      else
      some 1
    else
    some 0) fun (w13 : Int32) =>
  if 0 ≤ (mj_wr C0 99 5 w13 99 5) then
    bd1 (f_Md_next (mj_wr C0 99 5 w13)) fun C18 =>
    if v1 = 0 then
      if v3 = 0 then
        bd1 (f_Md_reads 62 0 0 0 0 C18) fun v49 =>
        bd1 (
          if v49 = 0 then
            bd1 (f_Md_reads 60 0 0 0 0 C18) fun v52 =>
            if v52 = 0 then
              bd1 (f_Md_fail C18) fun C55 =>
              some C55
            else
            bd1 (f_Md_next C18) fun C57 =>
            some C57
          else
          bd1 (f_Md_next (mj_wr C18 99 5 ((C18 99 5) + 4))) fun C60 =>
          some C60) fun (C62 : St) =>
        bd1 (
          if 0 ≤ (C62 88 16) then
            some C62
          else
          bd2 (f_Md_number 0 9999 C62) fun v66 C67 =>
          some (mj_wr C67 99 7 v66)) fun (C69 : St) =>
        some C69
      else
      bd2 (f_Md_number 0 4 C18) fun v72 C73 =>
      if (mj_wr C73 99 6 v72 88 16) < 0 then
        bd1 (f_Md_reads 62 0 0 0 0 (mj_wr C73 99 6 v72)) fun v76 =>
        bd1 (
          if v76 = 0 then
            bd1 (f_Md_reads 60 0 0 0 0 (mj_wr C73 99 6 v72)) fun v79 =>
            if v79 = 0 then
              bd1 (f_Md_fail (mj_wr C73 99 6 v72)) fun C82 =>
              some C82
            else
            bd1 (f_Md_next (mj_wr C73 99 6 v72)) fun C84 =>
            some C84
          else
          bd1 (f_Md_next (mj_wr (mj_wr C73 99 6 v72) 99 5 ((mj_wr C73 99 6 v72 99 5) + 4))) fun C87 =>
          some C87) fun (C89 : St) =>
        bd1 (
          if 0 ≤ (C89 88 16) then
            some C89
          else
          bd2 (f_Md_number 0 9999 C89) fun v93 C94 =>
          some (mj_wr C94 99 7 v93)) fun (C96 : St) =>
        some C96
      else
      some (mj_wr C73 99 6 v72)
    else
    bd2 (f_Md_number 0 4 C18) fun v21 C22 =>
    if (mj_wr C22 99 6 v21 88 16) < 0 then
      bd1 (f_Md_reads 62 0 0 0 0 (mj_wr C22 99 6 v21)) fun v25 =>
      bd1 (
        if v25 = 0 then
          bd1 (f_Md_reads 60 0 0 0 0 (mj_wr C22 99 6 v21)) fun v28 =>
          if v28 = 0 then
            bd1 (f_Md_fail (mj_wr C22 99 6 v21)) fun C31 =>
            some C31
          else
          bd1 (f_Md_next (mj_wr C22 99 6 v21)) fun C33 =>
          some C33
        else
        bd1 (f_Md_next (mj_wr (mj_wr C22 99 6 v21) 99 5 ((mj_wr C22 99 6 v21 99 5) + 4))) fun C36 =>
        some C36) fun (C38 : St) =>
      bd1 (
        if 0 ≤ (C38 88 16) then
          some C38
        else
        bd2 (f_Md_number 0 9999 C38) fun v42 C43 =>
        some (mj_wr C43 99 7 v42)) fun (C45 : St) =>
      some C45
    else
    some (mj_wr C22 99 6 v21)
  else
  bd1 (f_Md_fail (mj_wr C0 99 5 w13)) fun C99 =>
  some C99
/-- MarketTownModel.actAtHand -/
def f_Md_actAtHand  (C0 : St) : Option (Int32) :=
  bd1 (f_Md_reads 109 97 107 101 0 C0) fun v1 =>
  bd1 (
    if v1 = 0 then
      bd1 (f_Md_reads 101 97 116 0 0 C0) fun v4 =>
      if v4 = 0 then
        bd1 (f_Md_reads 97 115 107 0 0 C0) fun v7 =>
        if v7 = 0 then
          bd1 (f_Md_reads 98 105 100 0 0 C0) fun v10 =>
          if v10 = 0 then
            bd1 (f_Md_reads 112 97 121 0 0 C0) fun v13 =>
            if v13 = 0 then
              bd1 (f_Md_reads 108 101 110 100 0 C0) fun v16 =>
              if v16 = 0 then
                some (-1)
              else
              some 5
            else
            some 4
          else
          some 3
        else
        some 2
      else
      some 1
    else
    some 0) fun (w19 : Int32) =>
  some w19
/-- MarketTownModel.readAct -/
def f_Md_readAct (x1 : Int32) (C0 : St) : Option (St) :=
  bd1 (f_Md_actAtHand C0) fun v1 =>
  if 0 ≤ (mj_wr C0 99 0 v1 99 0) then
    bd1 (f_Md_next (mj_wr C0 99 0 v1)) fun C5 =>
    bd2 (
      if (if (C5 99 0) < 4 then 0 else 1 : Int32) = 0 then
        bd2 (f_Md_number 0 4 C5) fun v11 C12 =>
        some (v11, C12)
      else
      bd2 (f_Md_number 0 ((C5 89 2163) - 1) C5) fun v15 C16 =>
      some (v15, C16)) fun (w18 : Int32) (C19 : St) =>
    bd1 (
      if 0 ≤ (mj_wr C19 99 1 w18 88 16) then
        some (mj_wr C19 99 1 w18)
      else
      if (if (C5 99 0) < 4 then 0 else 1 : Int32) = 0 then
        some (mj_wr C19 99 1 w18)
      else
      if (mj_wr C19 99 1 w18 99 1) = x1 then
        some (mj_wr (mj_wr C19 99 1 w18) 88 16 (C5 88 14))
      else
      some (mj_wr C19 99 1 w18)) fun (C26 : St) =>
    bd1 (
      if 0 ≤ (C26 88 16) then
        some C26
      else
      bd2 (f_Md_number 1 999 C26) fun v30 C31 =>
      some (mj_wr C31 99 2 v30)) fun (C33 : St) =>
    bd1 (
      if 0 ≤ (C33 88 16) then
        some C33
      else
      if (C33 99 0) = 2 then
        bd2 (f_Md_number 1 (if (C33 99 0) = 5 then 30 else 999 : Int32) C33) fun v42 C43 =>
        some (mj_wr C43 99 3 v42)
      else
      if (C33 99 0) = 3 then
        bd2 (f_Md_number 1 (if (C33 99 0) = 5 then 30 else 999 : Int32) C33) fun v50 C51 =>
        some (mj_wr C51 99 3 v50)
      else
      if (C33 99 0) = 5 then
        bd2 (f_Md_number 1 (if (C33 99 0) = 5 then 30 else 999 : Int32) C33) fun v58 C59 =>
        some (mj_wr C59 99 3 v58)
      else
      some C33) fun (C61 : St) =>
    some C61
  else
  bd1 (f_Md_fail (mj_wr C0 99 0 v1)) fun C64 =>
  some C64
/-- MarketTownModel.read -/
def L_Md_read_12 : Nat → Int32 → Int32 → St → Option (St)
  | 0, _, _, _ => none
  | n + 1, y1, y2, C =>
    if 9 ≤ y2 then
      some C
    else
    if inb y2 9 then
    L_Md_read_12 n y1 (y2 + 1) (mj_wr C 99 (y2.toNatClampNeg) (if y2 ≤ 0 then 0 else (if 8 ≤ y2 then 0 else (-1000000005) : Int32) : Int32))
    else none
def f_Md_read (x1 : Int32) (C0 : St) : Option (Int32 × St) :=
  bd1 (L_Md_read_12 3000 x1 0 (mj_wr (mj_wr C0 88 16 (-1)) 88 15 0)) fun C6 =>
  bd1 (f_Md_next (mj_wr C6 99 4 1)) fun C8 =>
  bd1 (f_Md_reads 101 118 101 114 121 C8) fun v10 =>
  bd1 (
    if v10 = 0 then
      some C8
    else
    bd1 (f_Md_next C8) fun C13 =>
    bd2 (f_Md_number 1 99 C13) fun v15 C16 =>
    some (mj_wr C16 99 4 v15)) fun (C18 : St) =>
  bd1 (
    if 0 ≤ (C18 88 16) then
      some C18
    else
    bd1 (f_Md_reads 105 102 0 0 0 C18) fun v22 =>
    if v22 = 0 then
      some C18
    else
    bd1 (f_Md_next C18) fun C25 =>
    bd1 (f_Md_readCond C25) fun C27 =>
    some C27) fun (C29 : St) =>
  bd1 (
    if 0 ≤ (C29 88 16) then
      some C29
    else
    bd1 (f_Md_readAct x1 C29) fun C33 =>
    some C33) fun (C35 : St) =>
  bd1 (
    if 0 ≤ (C35 88 16) then
      some C35
    else
    if (C35 88 12) ≤ (C35 88 14) then
      some C35
    else
    bd1 (f_Md_fail C35) fun C40 =>
    some C40) fun (C42 : St) =>
  some (C42 88 16, C42)
/-- MarketTownModel.ruleMany -/
def f_Md_ruleMany (x1 : Int32) (C0 : St) : Option (Int32) :=
  if inb ((0 + (5 * x1)) + 4) 2200 then
  some (C0 89 ((0 + (5 * x1)) + 4).toNatClampNeg)
  else none
/-- MarketTownModel.rule -/
def L_Md_rule_57 : Nat → Int32 → Int32 → Int32 → St → Option (St)
  | 0, _, _, _, _ => none
  | n + 1, y1, y3, y4, C =>
    if 9 ≤ y4 then
      some C
    else
    if inb y4 9 then
    if inb ((660 + (9 * ((6 * y1) + y3))) + y4) 2200 then
    L_Md_rule_57 n y1 y3 (y4 + 1) (mj_wr C 89 (((660 + (9 * ((6 * y1) + y3))) + y4).toNatClampNeg) (C 99 y4.toNatClampNeg))
    else none
    else none
def f_Md_rule (x1 : Int32) (C0 : St) : Option (Int32 × St) :=
  bd1 (f_Md_isAgent x1 (mj_wr (mj_wr C0 88 12 (C0 88 4)) 88 4 0)) fun v1 =>
  if v1 = 0 then
    some ((-1000000001), mj_wr (mj_wr C0 88 12 (C0 88 4)) 88 4 0)
  else
  bd2 (f_Md_read x1 (mj_wr (mj_wr C0 88 12 (C0 88 4)) 88 4 0)) fun v4 C5 =>
  if v4 < 0 then
    bd1 (f_Md_ruleMany x1 C5) fun v8 =>
    if v8 = 6 then
      some ((-1000000003), C5)
    else
    bd1 (L_Md_rule_57 3000 x1 v8 0 C5) fun C14 =>
    if inb ((0 + (5 * x1)) + 4) 2200 then
    some (v8, mj_wr C14 89 (((0 + (5 * x1)) + 4).toNatClampNeg) ((C14 89 ((0 + (5 * x1)) + 4).toNatClampNeg) + 1))
    else none
  else
  some ((-100) - v4, C5)
/-- MarketTownModel.unrule -/
def f_Md_unrule (x1 : Int32) (C0 : St) : Option (Int32 × St) :=
  bd1 (f_Md_isAgent x1 C0) fun v1 =>
  if v1 = 0 then
    some ((-1000000001), C0)
  else
  bd1 (f_Md_ruleMany x1 C0) fun v4 =>
  if v4 = 0 then
    some ((-1000000002), C0)
  else
  if inb ((0 + (5 * x1)) + 4) 2200 then
  bd1 (f_Md_ruleMany x1 (mj_wr C0 89 (((0 + (5 * x1)) + 4).toNatClampNeg) ((C0 89 ((0 + (5 * x1)) + 4).toNatClampNeg) - 1))) fun v8 =>
  some (v8, mj_wr C0 89 (((0 + (5 * x1)) + 4).toNatClampNeg) ((C0 89 ((0 + (5 * x1)) + 4).toNatClampNeg) - 1))
  else none
/-- MarketTownModel.drawOrder -/
def L_Md_drawOrder_11 : Nat → Int32 → Int32 → St → Option (St)
  | 0, _, _, _ => none
  | n + 1, y1, y2, C =>
    if y1 ≤ y2 then
      some C
    else
    if inb y2 12 then
    L_Md_drawOrder_11 n y1 (y2 + 1) (mj_wr C 100 (y2.toNatClampNeg) y2)
    else none
def L_Md_drawOrder_33 : Nat → Int32 → Int32 → St → Option (St)
  | 0, _, _, _ => none
  | n + 1, y1, y2, C =>
    if y2 < 1 then
      some C
    else
    if (y2 + 1) = 0 then none else
    if inb y2 12 then
    if inb (((mj_wr C 89 2165 ((((((C 89 2165).toInt64) * 1103515245) + 12345) - ((((C 89 2165).toInt64) * 1103515245) + 12345) / 2147483648 * 2147483648).toInt32) 89 2165) / 65536) - ((mj_wr C 89 2165 ((((((C 89 2165).toInt64) * 1103515245) + 12345) - ((((C 89 2165).toInt64) * 1103515245) + 12345) / 2147483648 * 2147483648).toInt32) 89 2165) / 65536) / (y2 + 1) * (y2 + 1)) 12 then
    L_Md_drawOrder_33 n y1 (y2 + (-1)) (mj_wr (mj_wr (mj_wr C 89 2165 ((((((C 89 2165).toInt64) * 1103515245) + 12345) - ((((C 89 2165).toInt64) * 1103515245) + 12345) / 2147483648 * 2147483648).toInt32)) 100 (y2.toNatClampNeg) (mj_wr C 89 2165 ((((((C 89 2165).toInt64) * 1103515245) + 12345) - ((((C 89 2165).toInt64) * 1103515245) + 12345) / 2147483648 * 2147483648).toInt32) 100 (((mj_wr C 89 2165 ((((((C 89 2165).toInt64) * 1103515245) + 12345) - ((((C 89 2165).toInt64) * 1103515245) + 12345) / 2147483648 * 2147483648).toInt32) 89 2165) / 65536) - ((mj_wr C 89 2165 ((((((C 89 2165).toInt64) * 1103515245) + 12345) - ((((C 89 2165).toInt64) * 1103515245) + 12345) / 2147483648 * 2147483648).toInt32) 89 2165) / 65536) / (y2 + 1) * (y2 + 1)).toNatClampNeg)) 100 ((((mj_wr C 89 2165 ((((((C 89 2165).toInt64) * 1103515245) + 12345) - ((((C 89 2165).toInt64) * 1103515245) + 12345) / 2147483648 * 2147483648).toInt32) 89 2165) / 65536) - ((mj_wr C 89 2165 ((((((C 89 2165).toInt64) * 1103515245) + 12345) - ((((C 89 2165).toInt64) * 1103515245) + 12345) / 2147483648 * 2147483648).toInt32) 89 2165) / 65536) / (y2 + 1) * (y2 + 1)).toNatClampNeg) (mj_wr C 89 2165 ((((((C 89 2165).toInt64) * 1103515245) + 12345) - ((((C 89 2165).toInt64) * 1103515245) + 12345) / 2147483648 * 2147483648).toInt32) 100 y2.toNatClampNeg))
    else none
    else none
def L_Md_drawOrder_120 : Nat → Int32 → Int32 → St → Option (St)
  | 0, _, _, _ => none
  | n + 1, y1, y2, C =>
    if y1 ≤ y2 then
      some C
    else
    if inb y2 12 then
    if inb ((0 + (5 * (C 100 y2.toNatClampNeg))) + 3) 2200 then
    L_Md_drawOrder_120 n y1 (y2 + 1) (mj_wr C 89 (((0 + (5 * (C 100 y2.toNatClampNeg))) + 3).toNatClampNeg) y2)
    else none
    else none
def f_Md_drawOrder  (C0 : St) : Option (St) :=
  bd1 (L_Md_drawOrder_11 3000 (C0 89 2163) 0 C0) fun C4 =>
  bd1 (L_Md_drawOrder_33 3000 (C0 89 2163) ((C0 89 2163) - 1) C4) fun C12 =>
  bd1 (L_Md_drawOrder_120 3000 (C0 89 2163) 0 C12) fun C17 =>
  some C17
/-- MarketTownModel.isBroke -/
def f_Md_isBroke (x1 : Int32) (C0 : St) : Option (Int32) :=
  if inb ((0 + (5 * x1)) + 2) 2200 then
  some (if (C0 89 ((0 + (5 * x1)) + 2).toNatClampNeg) = 1 then 1 else 0 : Int32)
  else none
/-- MarketTownModel.ruleIs -/
def f_Md_ruleIs (x1 : Int32) (x2 : Int32) (x3 : Int32) (C0 : St) : Option (Int32) :=
  if inb ((660 + (9 * ((6 * x1) + x2))) + x3) 2200 then
  some (C0 89 ((660 + (9 * ((6 * x1) + x2))) + x3).toNatClampNeg)
  else none
/-- MarketTownModel.kind -/
def f_Md_kind (x1 : Int32) (C0 : St) : Option (Int32) :=
  if inb (0 + (5 * x1)) 2200 then
  some (C0 89 (0 + (5 * x1)).toNatClampNeg)
  else none
/-- MarketTownModel.isKind -/
def f_Md_isKind (x1 : Int32) (x2 : Int32) (C0 : St) : Option (Int32) :=
  bd1 (
    if x2 = 0 then
      some 1
    else
    bd1 (f_Md_kind x1 C0) fun v2 =>
    if v2 = x2 then
      some 1
    else
    if x2 = 2 then
      bd1 (f_Md_kind x1 C0) fun v6 =>
      if v6 = 3 then
        some 1
      else
      some 0
    else
    some 0) fun (w9 : Int32) =>
  if w9 = 0 ∨ w9 = 1 then
  some w9
  else none
/-- MarketTownModel.mayDo -/
def f_Md_mayDo (x1 : Int32) (x2 : Int32) (C0 : St) : Option (Int32) :=
  bd1 (
    if x2 = 0 then
      bd1 (f_Md_isKind x1 2 C0) fun v13 =>
      some v13
    else
    if x2 = 1 then
      bd1 (f_Md_kind x1 C0) fun v10 =>
      if v10 = 1 then
        some 1
      else
      some 0
    else
    if x2 = 5 then
      bd1 (f_Md_kind x1 C0) fun v4 =>
      if v4 = 4 then
        some 1
      else
      bd1 (f_Md_kind x1 C0) fun v7 =>
      if v7 = 5 then
        some 1
      else
      some 0
    else
    some 1) fun (w15 : Int32) =>
  if w15 = 0 ∨ w15 = 1 then
  some w15
  else none
/-- MarketTownModel.goodIs -/
def f_Md_goodIs (x1 : Int32) (x2 : Int32) (C0 : St) : Option (Int32) :=
  if inb ((1308 + (11 * x1)) + x2) 2200 then
  some (C0 89 ((1308 + (11 * x1)) + x2).toNatClampNeg)
  else none
/-- MarketTownModel.cash -/
def f_Md_cash (x1 : Int32) (C0 : St) : Option (Int32) :=
  if inb ((0 + (5 * x1)) + 1) 2200 then
  some (C0 89 ((0 + (5 * x1)) + 1).toNatClampNeg)
  else none
/-- MarketTownModel.fires -/
def f_Md_fires (x1 : Int32) (x2 : Int32) (C0 : St) : Option (Int32) :=
  bd1 (f_Md_ruleIs x1 x2 0 C0) fun v1 =>
  bd1 (f_Md_mayDo x1 v1 C0) fun v3 =>
  if v3 = 0 then
    some 0
  else
  bd1 (f_Md_ruleIs x1 x2 4 C0) fun v7 =>
  if v7 = 0 then none else
  if ((C0 89 2164) - (C0 89 2164) / v7 * v7) = 0 then
    bd1 (f_Md_ruleIs x1 x2 5 C0) fun v11 =>
    if v11 = (-1000000005) then
      some 1
    else
    bd1 (f_Md_ruleIs x1 x2 6 C0) fun v14 =>
    bd1 (
      if (v11 - v11 / 4 * 4) = 0 then
        bd1 (f_Md_cash x1 C0) fun v24 =>
        some v24
      else
      if (v11 - v11 / 4 * 4) = 1 then
        bd1 (f_Md_hasAll x1 v14 C0) fun v22 =>
        some v22
      else
      if (v11 - v11 / 4 * 4) = 2 then
        some (C0 89 2164)
      else
      bd1 (f_Md_goodIs v14 2 C0) fun v19 =>
      some v19) fun (w26 : Int32) =>
    bd1 (
      if 4 ≤ v11 then
        bd1 (f_Md_ruleIs x1 x2 7 C0) fun v30 =>
        if w26 ≤ v30 then
          some 0
        else
        some 1
      else
      bd1 (f_Md_ruleIs x1 x2 7 C0) fun v33 =>
      if v33 ≤ w26 then
        some 0
      else
      some 1) fun (w36 : Int32) =>
    if w36 = 0 ∨ w36 = 1 then
    some w36
    else none
  else
  some 0
/-- MarketTownModel.freeOf -/
def L_Md_freeOf_10 : Nat → Int32 → Int32 → Int32 → Int32 → St → Option (Int32)
  | 0, _, _, _, _, _ => none
  | n + 1, y1, y2, y3, y4, C =>
    if (C 88 11) ≤ y4 then
      some y3
    else
    if inb y4 80 then
    L_Md_freeOf_10 n y1 y2 (y3 - (if (C 97 y4.toNatClampNeg) = 0 then (if (C 93 y4.toNatClampNeg) = y1 then (if (C 94 y4.toNatClampNeg) = y2 then C 95 y4.toNatClampNeg else 0 : Int32) else 0 : Int32) else 0 : Int32)) (y4 + 1) C
    else none
def f_Md_freeOf (x1 : Int32) (x2 : Int32) (C0 : St) : Option (Int32) :=
  bd1 (f_Md_hasAll x1 x2 C0) fun v1 =>
  bd1 (L_Md_freeOf_10 3000 x1 x2 v1 0 C0) fun o12 =>
  some o12
/-- MarketTownModel.less -/
def f_Md_less (x0 : Int32) (x1 : Int32) : Option (Int32) :=
  some (if x1 ≤ x0 then x1 else x0 : Int32)
/-- MarketTownModel.go -/
def L_Md_go_7 : Nat → Int32 → Int32 → Int32 → Int32 → Int32 → St → Option (St)
  | 0, _, _, _, _, _, _ => none
  | n + 1, y1, y2, y4, y5, y6, C =>
    if y6 < 0 then
      some C
    else
    bd1 (f_Md_ageAt y1 y2 y6) fun v2 =>
    if inb v2 2200 then
    bd1 (f_Md_less y5 (C 89 v2.toNatClampNeg)) fun v5 =>
    bd1 (f_Md_ageAt y1 y2 y6) fun v7 =>
    if inb v7 2200 then
    bd1 (
      if y4 < 0 then
        some (mj_wr C 89 (v7.toNatClampNeg) ((C 89 v7.toNatClampNeg) - v5))
      else
      if inb y6 10 then
      some (mj_wr (mj_wr C 89 (v7.toNatClampNeg) ((C 89 v7.toNatClampNeg) - v5)) 101 (y6.toNatClampNeg) v5)
      else none) fun (C12 : St) =>
    L_Md_go_7 n y1 y2 y4 (y5 - v5) (y6 + (-1)) C12
    else none
    else none
def L_Md_go_78 : Nat → Int32 → Int32 → Int32 → St → Option (St)
  | 0, _, _, _, _ => none
  | n + 1, y2, y4, y6, C =>
    if 10 ≤ y6 then
      some C
    else
    if y4 < 0 then
      some C
    else
    bd1 (f_Md_ageAt y4 y2 y6) fun v19 =>
    if inb v19 2200 then
    if inb y6 10 then
    L_Md_go_78 n y2 y4 (y6 + 1) (mj_wr C 89 (v19.toNatClampNeg) ((C 89 v19.toNatClampNeg) + (C 101 y6.toNatClampNeg)))
    else none
    else none
def f_Md_go (x1 : Int32) (x2 : Int32) (x3 : Int32) (x4 : Int32) (C0 : St) : Option (St) :=
  bd1 (L_Md_go_7 3000 x1 x2 x4 x3 9 C0) fun C15 =>
  bd1 (L_Md_go_78 3000 x2 x4 0 C15) fun C23 =>
  some C23
/-- MarketTownModel.addGood -/
def f_Md_addGood (x1 : Int32) (x2 : Int32) (x3 : Int32) (C0 : St) : Option (St) :=
  if inb ((1308 + (11 * x1)) + x2) 2200 then
  some (mj_wr C0 89 (((1308 + (11 * x1)) + x2).toNatClampNeg) ((C0 89 ((1308 + (11 * x1)) + x2).toNatClampNeg) + x3))
  else none
/-- MarketTownModel.make -/
def f_Md_make (x1 : Int32) (x2 : Int32) (x3 : Int32) (C0 : St) : Option (St) :=
  bd1 (f_Md_goodIs x2 8 C0) fun v1 =>
  if 0 ≤ v1 then
    bd1 (f_Md_goodIs x2 7 C0) fun v4 =>
    bd1 (f_Md_goodIs x2 9 C0) fun v6 =>
    bd1 (f_Md_goodIs x2 10 C0) fun v8 =>
    bd1 (
      if v4 = v6 then
        bd1 (
          if (v1 + v8) ≤ 0 then
            some x3
          else
          bd1 (f_Md_freeOf x1 v4 C0) fun v30 =>
          if (v1 + v8) = 0 then none else
          bd1 (f_Md_less x3 (v30 / (v1 + v8))) fun v33 =>
          some v33) fun (w35 : Int32) =>
        some w35
      else
      bd1 (
        if v1 ≤ 0 then
          some x3
        else
        bd1 (f_Md_freeOf x1 v4 C0) fun v12 =>
        if v1 = 0 then none else
        bd1 (f_Md_less x3 (v12 / v1)) fun v15 =>
        some v15) fun (w17 : Int32) =>
      bd1 (
        if v8 ≤ 0 then
          some w17
        else
        bd1 (f_Md_freeOf x1 v6 C0) fun v21 =>
        if v8 = 0 then none else
        bd1 (f_Md_less w17 (v21 / v8)) fun v24 =>
        some v24) fun (w26 : Int32) =>
      some w26) fun (w38 : Int32) =>
    bd1 (f_Md_go x1 v4 (w38 * v1) (-1) C0) fun C41 =>
    bd1 (f_Md_go x1 v6 (w38 * v8) (-1) C41) fun C43 =>
    bd1 (f_Md_ageAt x1 x2 0) fun v45 =>
    if inb v45 2200 then
    bd1 (f_Md_addGood x2 5 w38 (mj_wr C43 89 (v45.toNatClampNeg) ((C43 89 v45.toNatClampNeg) + w38))) fun C48 =>
    some C48
    else none
  else
  some C0
/-- MarketTownModel.offer -/
def f_Md_offer (x1 : Int32) (x2 : Int32) (x3 : Int32) (x4 : Int32) (x5 : Int32) (C0 : St) : Option (St) :=
  if x3 = 0 then
    some C0
  else
  if inb (C0 88 11) 80 then
  if inb (mj_wr C0 93 ((C0 88 11).toNatClampNeg) x1 88 11) 80 then
  if inb (mj_wr (mj_wr C0 93 ((C0 88 11).toNatClampNeg) x1) 94 ((mj_wr C0 93 ((C0 88 11).toNatClampNeg) x1 88 11).toNatClampNeg) x2 88 11) 80 then
  if inb (mj_wr (mj_wr (mj_wr C0 93 ((C0 88 11).toNatClampNeg) x1) 94 ((mj_wr C0 93 ((C0 88 11).toNatClampNeg) x1 88 11).toNatClampNeg) x2) 95 ((mj_wr (mj_wr C0 93 ((C0 88 11).toNatClampNeg) x1) 94 ((mj_wr C0 93 ((C0 88 11).toNatClampNeg) x1 88 11).toNatClampNeg) x2 88 11).toNatClampNeg) x3 88 11) 80 then
  if inb (mj_wr (mj_wr (mj_wr (mj_wr C0 93 ((C0 88 11).toNatClampNeg) x1) 94 ((mj_wr C0 93 ((C0 88 11).toNatClampNeg) x1 88 11).toNatClampNeg) x2) 95 ((mj_wr (mj_wr C0 93 ((C0 88 11).toNatClampNeg) x1) 94 ((mj_wr C0 93 ((C0 88 11).toNatClampNeg) x1 88 11).toNatClampNeg) x2 88 11).toNatClampNeg) x3) 98 ((mj_wr (mj_wr (mj_wr C0 93 ((C0 88 11).toNatClampNeg) x1) 94 ((mj_wr C0 93 ((C0 88 11).toNatClampNeg) x1 88 11).toNatClampNeg) x2) 95 ((mj_wr (mj_wr C0 93 ((C0 88 11).toNatClampNeg) x1) 94 ((mj_wr C0 93 ((C0 88 11).toNatClampNeg) x1 88 11).toNatClampNeg) x2 88 11).toNatClampNeg) x3 88 11).toNatClampNeg) x3 88 11) 80 then
  if inb (mj_wr (mj_wr (mj_wr (mj_wr (mj_wr C0 93 ((C0 88 11).toNatClampNeg) x1) 94 ((mj_wr C0 93 ((C0 88 11).toNatClampNeg) x1 88 11).toNatClampNeg) x2) 95 ((mj_wr (mj_wr C0 93 ((C0 88 11).toNatClampNeg) x1) 94 ((mj_wr C0 93 ((C0 88 11).toNatClampNeg) x1 88 11).toNatClampNeg) x2 88 11).toNatClampNeg) x3) 98 ((mj_wr (mj_wr (mj_wr C0 93 ((C0 88 11).toNatClampNeg) x1) 94 ((mj_wr C0 93 ((C0 88 11).toNatClampNeg) x1 88 11).toNatClampNeg) x2) 95 ((mj_wr (mj_wr C0 93 ((C0 88 11).toNatClampNeg) x1) 94 ((mj_wr C0 93 ((C0 88 11).toNatClampNeg) x1 88 11).toNatClampNeg) x2 88 11).toNatClampNeg) x3 88 11).toNatClampNeg) x3) 96 ((mj_wr (mj_wr (mj_wr (mj_wr C0 93 ((C0 88 11).toNatClampNeg) x1) 94 ((mj_wr C0 93 ((C0 88 11).toNatClampNeg) x1 88 11).toNatClampNeg) x2) 95 ((mj_wr (mj_wr C0 93 ((C0 88 11).toNatClampNeg) x1) 94 ((mj_wr C0 93 ((C0 88 11).toNatClampNeg) x1 88 11).toNatClampNeg) x2 88 11).toNatClampNeg) x3) 98 ((mj_wr (mj_wr (mj_wr C0 93 ((C0 88 11).toNatClampNeg) x1) 94 ((mj_wr C0 93 ((C0 88 11).toNatClampNeg) x1 88 11).toNatClampNeg) x2) 95 ((mj_wr (mj_wr C0 93 ((C0 88 11).toNatClampNeg) x1) 94 ((mj_wr C0 93 ((C0 88 11).toNatClampNeg) x1 88 11).toNatClampNeg) x2 88 11).toNatClampNeg) x3 88 11).toNatClampNeg) x3 88 11).toNatClampNeg) x4 88 11) 80 then
  some (mj_wr (mj_wr (mj_wr (mj_wr (mj_wr (mj_wr (mj_wr C0 93 ((C0 88 11).toNatClampNeg) x1) 94 ((mj_wr C0 93 ((C0 88 11).toNatClampNeg) x1 88 11).toNatClampNeg) x2) 95 ((mj_wr (mj_wr C0 93 ((C0 88 11).toNatClampNeg) x1) 94 ((mj_wr C0 93 ((C0 88 11).toNatClampNeg) x1 88 11).toNatClampNeg) x2 88 11).toNatClampNeg) x3) 98 ((mj_wr (mj_wr (mj_wr C0 93 ((C0 88 11).toNatClampNeg) x1) 94 ((mj_wr C0 93 ((C0 88 11).toNatClampNeg) x1 88 11).toNatClampNeg) x2) 95 ((mj_wr (mj_wr C0 93 ((C0 88 11).toNatClampNeg) x1) 94 ((mj_wr C0 93 ((C0 88 11).toNatClampNeg) x1 88 11).toNatClampNeg) x2 88 11).toNatClampNeg) x3 88 11).toNatClampNeg) x3) 96 ((mj_wr (mj_wr (mj_wr (mj_wr C0 93 ((C0 88 11).toNatClampNeg) x1) 94 ((mj_wr C0 93 ((C0 88 11).toNatClampNeg) x1 88 11).toNatClampNeg) x2) 95 ((mj_wr (mj_wr C0 93 ((C0 88 11).toNatClampNeg) x1) 94 ((mj_wr C0 93 ((C0 88 11).toNatClampNeg) x1 88 11).toNatClampNeg) x2 88 11).toNatClampNeg) x3) 98 ((mj_wr (mj_wr (mj_wr C0 93 ((C0 88 11).toNatClampNeg) x1) 94 ((mj_wr C0 93 ((C0 88 11).toNatClampNeg) x1 88 11).toNatClampNeg) x2) 95 ((mj_wr (mj_wr C0 93 ((C0 88 11).toNatClampNeg) x1) 94 ((mj_wr C0 93 ((C0 88 11).toNatClampNeg) x1 88 11).toNatClampNeg) x2 88 11).toNatClampNeg) x3 88 11).toNatClampNeg) x3 88 11).toNatClampNeg) x4) 97 ((mj_wr (mj_wr (mj_wr (mj_wr (mj_wr C0 93 ((C0 88 11).toNatClampNeg) x1) 94 ((mj_wr C0 93 ((C0 88 11).toNatClampNeg) x1 88 11).toNatClampNeg) x2) 95 ((mj_wr (mj_wr C0 93 ((C0 88 11).toNatClampNeg) x1) 94 ((mj_wr C0 93 ((C0 88 11).toNatClampNeg) x1 88 11).toNatClampNeg) x2 88 11).toNatClampNeg) x3) 98 ((mj_wr (mj_wr (mj_wr C0 93 ((C0 88 11).toNatClampNeg) x1) 94 ((mj_wr C0 93 ((C0 88 11).toNatClampNeg) x1 88 11).toNatClampNeg) x2) 95 ((mj_wr (mj_wr C0 93 ((C0 88 11).toNatClampNeg) x1) 94 ((mj_wr C0 93 ((C0 88 11).toNatClampNeg) x1 88 11).toNatClampNeg) x2 88 11).toNatClampNeg) x3 88 11).toNatClampNeg) x3) 96 ((mj_wr (mj_wr (mj_wr (mj_wr C0 93 ((C0 88 11).toNatClampNeg) x1) 94 ((mj_wr C0 93 ((C0 88 11).toNatClampNeg) x1 88 11).toNatClampNeg) x2) 95 ((mj_wr (mj_wr C0 93 ((C0 88 11).toNatClampNeg) x1) 94 ((mj_wr C0 93 ((C0 88 11).toNatClampNeg) x1 88 11).toNatClampNeg) x2 88 11).toNatClampNeg) x3) 98 ((mj_wr (mj_wr (mj_wr C0 93 ((C0 88 11).toNatClampNeg) x1) 94 ((mj_wr C0 93 ((C0 88 11).toNatClampNeg) x1 88 11).toNatClampNeg) x2) 95 ((mj_wr (mj_wr C0 93 ((C0 88 11).toNatClampNeg) x1) 94 ((mj_wr C0 93 ((C0 88 11).toNatClampNeg) x1 88 11).toNatClampNeg) x2 88 11).toNatClampNeg) x3 88 11).toNatClampNeg) x3 88 11).toNatClampNeg) x4 88 11).toNatClampNeg) (vp_nar .boolean x5)) 88 11 ((mj_wr (mj_wr (mj_wr (mj_wr (mj_wr (mj_wr C0 93 ((C0 88 11).toNatClampNeg) x1) 94 ((mj_wr C0 93 ((C0 88 11).toNatClampNeg) x1 88 11).toNatClampNeg) x2) 95 ((mj_wr (mj_wr C0 93 ((C0 88 11).toNatClampNeg) x1) 94 ((mj_wr C0 93 ((C0 88 11).toNatClampNeg) x1 88 11).toNatClampNeg) x2 88 11).toNatClampNeg) x3) 98 ((mj_wr (mj_wr (mj_wr C0 93 ((C0 88 11).toNatClampNeg) x1) 94 ((mj_wr C0 93 ((C0 88 11).toNatClampNeg) x1 88 11).toNatClampNeg) x2) 95 ((mj_wr (mj_wr C0 93 ((C0 88 11).toNatClampNeg) x1) 94 ((mj_wr C0 93 ((C0 88 11).toNatClampNeg) x1 88 11).toNatClampNeg) x2 88 11).toNatClampNeg) x3 88 11).toNatClampNeg) x3) 96 ((mj_wr (mj_wr (mj_wr (mj_wr C0 93 ((C0 88 11).toNatClampNeg) x1) 94 ((mj_wr C0 93 ((C0 88 11).toNatClampNeg) x1 88 11).toNatClampNeg) x2) 95 ((mj_wr (mj_wr C0 93 ((C0 88 11).toNatClampNeg) x1) 94 ((mj_wr C0 93 ((C0 88 11).toNatClampNeg) x1 88 11).toNatClampNeg) x2 88 11).toNatClampNeg) x3) 98 ((mj_wr (mj_wr (mj_wr C0 93 ((C0 88 11).toNatClampNeg) x1) 94 ((mj_wr C0 93 ((C0 88 11).toNatClampNeg) x1 88 11).toNatClampNeg) x2) 95 ((mj_wr (mj_wr C0 93 ((C0 88 11).toNatClampNeg) x1) 94 ((mj_wr C0 93 ((C0 88 11).toNatClampNeg) x1 88 11).toNatClampNeg) x2 88 11).toNatClampNeg) x3 88 11).toNatClampNeg) x3 88 11).toNatClampNeg) x4) 97 ((mj_wr (mj_wr (mj_wr (mj_wr (mj_wr C0 93 ((C0 88 11).toNatClampNeg) x1) 94 ((mj_wr C0 93 ((C0 88 11).toNatClampNeg) x1 88 11).toNatClampNeg) x2) 95 ((mj_wr (mj_wr C0 93 ((C0 88 11).toNatClampNeg) x1) 94 ((mj_wr C0 93 ((C0 88 11).toNatClampNeg) x1 88 11).toNatClampNeg) x2 88 11).toNatClampNeg) x3) 98 ((mj_wr (mj_wr (mj_wr C0 93 ((C0 88 11).toNatClampNeg) x1) 94 ((mj_wr C0 93 ((C0 88 11).toNatClampNeg) x1 88 11).toNatClampNeg) x2) 95 ((mj_wr (mj_wr C0 93 ((C0 88 11).toNatClampNeg) x1) 94 ((mj_wr C0 93 ((C0 88 11).toNatClampNeg) x1 88 11).toNatClampNeg) x2 88 11).toNatClampNeg) x3 88 11).toNatClampNeg) x3) 96 ((mj_wr (mj_wr (mj_wr (mj_wr C0 93 ((C0 88 11).toNatClampNeg) x1) 94 ((mj_wr C0 93 ((C0 88 11).toNatClampNeg) x1 88 11).toNatClampNeg) x2) 95 ((mj_wr (mj_wr C0 93 ((C0 88 11).toNatClampNeg) x1) 94 ((mj_wr C0 93 ((C0 88 11).toNatClampNeg) x1 88 11).toNatClampNeg) x2 88 11).toNatClampNeg) x3) 98 ((mj_wr (mj_wr (mj_wr C0 93 ((C0 88 11).toNatClampNeg) x1) 94 ((mj_wr C0 93 ((C0 88 11).toNatClampNeg) x1 88 11).toNatClampNeg) x2) 95 ((mj_wr (mj_wr C0 93 ((C0 88 11).toNatClampNeg) x1) 94 ((mj_wr C0 93 ((C0 88 11).toNatClampNeg) x1 88 11).toNatClampNeg) x2 88 11).toNatClampNeg) x3 88 11).toNatClampNeg) x3 88 11).toNatClampNeg) x4 88 11).toNatClampNeg) (vp_nar .boolean x5) 88 11) + 1))
  else none
  else none
  else none
  else none
  else none
  else none
/-- MarketTownModel.freeCash -/
def L_Md_freeCash_8 : Nat → Int32 → Int32 → Int32 → St → Option (Int32)
  | 0, _, _, _, _ => none
  | n + 1, y1, y2, y3, C =>
    if (C 88 11) ≤ y3 then
      some y2
    else
    if inb y3 80 then
    L_Md_freeCash_8 n y1 (y2 - (if (C 97 y3.toNatClampNeg) = 0 then 0 else (if (C 93 y3.toNatClampNeg) = y1 then (C 95 y3.toNatClampNeg) * (C 96 y3.toNatClampNeg) else 0 : Int32) : Int32)) (y3 + 1) C
    else none
def f_Md_freeCash (x1 : Int32) (C0 : St) : Option (Int32) :=
  bd1 (f_Md_cash x1 C0) fun v1 =>
  bd1 (L_Md_freeCash_8 3000 x1 v1 0 C0) fun o11 =>
  some o11
/-- MarketTownModel.pays -/
def f_Md_pays (x1 : Int32) (x2 : Int32) (x3 : Int32) (x4 : Int32) (C0 : St) : Option (St) :=
  if inb ((0 + (5 * x1)) + 1) 2200 then
  if inb ((0 + (5 * x2)) + 1) 2200 then
  if inb ((1443 + (5 * ((12 * x1) + x2))) + x4) 2200 then
  some (mj_wr (mj_wr (mj_wr C0 89 (((0 + (5 * x1)) + 1).toNatClampNeg) ((C0 89 ((0 + (5 * x1)) + 1).toNatClampNeg) - x3)) 89 (((0 + (5 * x2)) + 1).toNatClampNeg) ((mj_wr C0 89 (((0 + (5 * x1)) + 1).toNatClampNeg) ((C0 89 ((0 + (5 * x1)) + 1).toNatClampNeg) - x3) 89 ((0 + (5 * x2)) + 1).toNatClampNeg) + x3)) 89 (((1443 + (5 * ((12 * x1) + x2))) + x4).toNatClampNeg) ((mj_wr (mj_wr C0 89 (((0 + (5 * x1)) + 1).toNatClampNeg) ((C0 89 ((0 + (5 * x1)) + 1).toNatClampNeg) - x3)) 89 (((0 + (5 * x2)) + 1).toNatClampNeg) ((mj_wr C0 89 (((0 + (5 * x1)) + 1).toNatClampNeg) ((C0 89 ((0 + (5 * x1)) + 1).toNatClampNeg) - x3) 89 ((0 + (5 * x2)) + 1).toNatClampNeg) + x3) 89 ((1443 + (5 * ((12 * x1) + x2))) + x4).toNatClampNeg) + x3))
  else none
  else none
  else none
/-- MarketTownModel.lend -/
def f_Md_lend (x1 : Int32) (x2 : Int32) (x3 : Int32) (x4 : Int32) (C0 : St) : Option (St) :=
  bd1 (f_Md_freeCash x1 C0) fun v1 =>
  bd1 (f_Md_less x3 v1) fun v3 =>
  if v3 = 0 then
    some C0
  else
  if (C0 89 2168) = 20 then
    some C0
  else
  bd1 (f_Md_pays x1 x2 v3 3 C0) fun C8 =>
  if inb (1363 + (4 * (C8 89 2168))) 2200 then
  if inb ((1363 + (4 * (C8 89 2168))) + 1) 2200 then
  if inb ((1363 + (4 * (C8 89 2168))) + 2) 2200 then
  if inb ((1363 + (4 * (C8 89 2168))) + 3) 2200 then
  some (mj_wr (mj_wr (mj_wr (mj_wr (mj_wr C8 89 ((1363 + (4 * (C8 89 2168))).toNatClampNeg) x1) 89 (((1363 + (4 * (C8 89 2168))) + 1).toNatClampNeg) x2) 89 (((1363 + (4 * (C8 89 2168))) + 2).toNatClampNeg) (v3 + ((v3 * (mj_wr (mj_wr C8 89 ((1363 + (4 * (C8 89 2168))).toNatClampNeg) x1) 89 (((1363 + (4 * (C8 89 2168))) + 1).toNatClampNeg) x2 89 2167)) / 100))) 89 (((1363 + (4 * (C8 89 2168))) + 3).toNatClampNeg) ((mj_wr (mj_wr (mj_wr C8 89 ((1363 + (4 * (C8 89 2168))).toNatClampNeg) x1) 89 (((1363 + (4 * (C8 89 2168))) + 1).toNatClampNeg) x2) 89 (((1363 + (4 * (C8 89 2168))) + 2).toNatClampNeg) (v3 + ((v3 * (mj_wr (mj_wr C8 89 ((1363 + (4 * (C8 89 2168))).toNatClampNeg) x1) 89 (((1363 + (4 * (C8 89 2168))) + 1).toNatClampNeg) x2 89 2167)) / 100)) 89 2164) + x4)) 89 2168 ((mj_wr (mj_wr (mj_wr (mj_wr C8 89 ((1363 + (4 * (C8 89 2168))).toNatClampNeg) x1) 89 (((1363 + (4 * (C8 89 2168))) + 1).toNatClampNeg) x2) 89 (((1363 + (4 * (C8 89 2168))) + 2).toNatClampNeg) (v3 + ((v3 * (mj_wr (mj_wr C8 89 ((1363 + (4 * (C8 89 2168))).toNatClampNeg) x1) 89 (((1363 + (4 * (C8 89 2168))) + 1).toNatClampNeg) x2 89 2167)) / 100))) 89 (((1363 + (4 * (C8 89 2168))) + 3).toNatClampNeg) ((mj_wr (mj_wr (mj_wr C8 89 ((1363 + (4 * (C8 89 2168))).toNatClampNeg) x1) 89 (((1363 + (4 * (C8 89 2168))) + 1).toNatClampNeg) x2) 89 (((1363 + (4 * (C8 89 2168))) + 2).toNatClampNeg) (v3 + ((v3 * (mj_wr (mj_wr C8 89 ((1363 + (4 * (C8 89 2168))).toNatClampNeg) x1) 89 (((1363 + (4 * (C8 89 2168))) + 1).toNatClampNeg) x2 89 2167)) / 100)) 89 2164) + x4) 89 2168) + 1))
  else none
  else none
  else none
  else none
/-- MarketTownModel.act -/
def f_Md_act (x1 : Int32) (x2 : Int32) (C0 : St) : Option (St) :=
  bd1 (f_Md_ruleIs x1 x2 1 C0) fun v1 =>
  bd1 (f_Md_ruleIs x1 x2 2 C0) fun v3 =>
  bd1 (f_Md_ruleIs x1 x2 3 C0) fun v5 =>
  bd1 (f_Md_ruleIs x1 x2 0 C0) fun v7 =>
  if v7 = 0 then
    bd1 (f_Md_make x1 v1 v3 C0) fun C14 =>
    some C14
  else
  if v7 = 1 then
    bd1 (f_Md_freeOf x1 v1 C0) fun v16 =>
    bd1 (f_Md_less v3 v16) fun v18 =>
    bd1 (f_Md_go x1 v1 v18 (-1) C0) fun C20 =>
    bd1 (f_Md_addGood v1 4 v18 C20) fun C22 =>
    some C22
  else
  if v7 = 2 then
    bd1 (f_Md_freeOf x1 v1 C0) fun v24 =>
    bd1 (f_Md_less v3 v24) fun v26 =>
    bd1 (f_Md_offer x1 v1 v26 v5 0 C0) fun C28 =>
    some C28
  else
  if v7 = 3 then
    bd1 (f_Md_freeCash x1 C0) fun v30 =>
    if v5 = 0 then none else
    bd1 (f_Md_less v3 (v30 / v5)) fun v33 =>
    bd1 (f_Md_offer x1 v1 v33 v5 1 C0) fun C35 =>
    some C35
  else
  if v7 = 4 then
    bd1 (f_Md_freeCash x1 C0) fun v37 =>
    bd1 (f_Md_less v3 v37) fun v39 =>
    bd1 (f_Md_pays x1 v1 v39 2 C0) fun C41 =>
    some C41
  else
  bd1 (f_Md_lend x1 v1 v3 v5 C0) fun C43 =>
  some C43
/-- MarketTownModel.actAll -/
def L_Md_actAll_28 : Nat → Int32 → Int32 → Int32 → St → Option (St)
  | 0, _, _, _, _ => none
  | n + 1, y1, y2, y3, C =>
    bd1 (f_Md_ruleMany y2 C) fun v4 =>
    if v4 ≤ y3 then
      some C
    else
    bd1 (f_Md_isBroke y2 C) fun v7 =>
    if v7 = 0 then
      bd1 (f_Md_fires y2 y3 C) fun v10 =>
      bd1 (
        if v10 = 0 then
          some C
        else
        if inb ((660 + (9 * ((6 * y2) + y3))) + 8) 2200 then
        bd1 (f_Md_act y2 y3 (mj_wr C 89 (((660 + (9 * ((6 * y2) + y3))) + 8).toNatClampNeg) ((C 89 ((660 + (9 * ((6 * y2) + y3))) + 8).toNatClampNeg) + 1))) fun C14 =>
        some C14
        else none) fun (C16 : St) =>
      L_Md_actAll_28 n y1 y2 (y3 + 1) C16
    else
    some C
def L_Md_actAll_7 : Nat → Int32 → St → Option (St)
  | 0, _, _ => none
  | n + 1, y1, C =>
    if (C 89 2163) ≤ y1 then
      some C
    else
    if inb y1 12 then
    bd1 (L_Md_actAll_28 3000 y1 (C 100 y1.toNatClampNeg) 0 C) fun C19 =>
    L_Md_actAll_7 n (y1 + 1) C19
    else none
def f_Md_actAll  (C0 : St) : Option (St) :=
  bd1 (L_Md_actAll_7 3000 0 (mj_wr C0 88 11 0)) fun C23 =>
  some C23
/-- MarketTownModel.isOpen -/
def f_Md_isOpen (x1 : Int32) (x2 : Int32) (x3 : Int32) (C0 : St) : Option (Int32) :=
  if inb x1 80 then
  some (if (C0 97 x1.toNatClampNeg) = x3 then (if (C0 94 x1.toNatClampNeg) = x2 then (if (C0 98 x1.toNatClampNeg) ≤ 0 then 0 else 1 : Int32) else 0 : Int32) else 0 : Int32)
  else none
/-- MarketTownModel.highestBid -/
def L_Md_highestBid_4 : Nat → Int32 → Int32 → Int32 → St → Option (Int32)
  | 0, _, _, _, _ => none
  | n + 1, y1, y2, y3, C =>
    if (C 88 11) ≤ y3 then
      some y2
    else
    bd1 (f_Md_isOpen y3 y1 1 C) fun v2 =>
    bd1 (
      if v2 = 0 then
        some y2
      else
      if y2 < 0 then
        some y3
      else
      if inb y3 80 then
      if inb y2 80 then
      if (C 96 y3.toNatClampNeg) ≤ (C 96 y2.toNatClampNeg) then
        some y2
      else
      some y3
      else none
      else none) fun (w9 : Int32) =>
    L_Md_highestBid_4 n y1 w9 (y3 + 1) C
def f_Md_highestBid (x1 : Int32) (C0 : St) : Option (Int32) :=
  bd1 (L_Md_highestBid_4 3000 x1 (-1) 0 C0) fun o12 =>
  some o12
/-- MarketTownModel.lowestAsk -/
def L_Md_lowestAsk_4 : Nat → Int32 → Int32 → Int32 → St → Option (Int32)
  | 0, _, _, _, _ => none
  | n + 1, y1, y2, y3, C =>
    if (C 88 11) ≤ y3 then
      some y2
    else
    bd1 (f_Md_isOpen y3 y1 0 C) fun v2 =>
    bd1 (
      if v2 = 0 then
        some y2
      else
      if y2 < 0 then
        some y3
      else
      if inb y3 80 then
      if inb y2 80 then
      if (C 96 y2.toNatClampNeg) ≤ (C 96 y3.toNatClampNeg) then
        some y2
      else
      some y3
      else none
      else none) fun (w9 : Int32) =>
    L_Md_lowestAsk_4 n y1 w9 (y3 + 1) C
def f_Md_lowestAsk (x1 : Int32) (C0 : St) : Option (Int32) :=
  bd1 (L_Md_lowestAsk_4 3000 x1 (-1) 0 C0) fun o12 =>
  some o12
/-- MarketTownModel.council -/
def L_Md_council_2 : Nat → Int32 → St → Option ((Int32) ⊕ (Unit))
  | 0, _, _ => none
  | n + 1, y1, C =>
    if (C 89 2163) ≤ y1 then
      some (.inr ())
    else
    bd1 (f_Md_kind y1 C) fun v3 =>
    if v3 = 5 then
      some (.inl y1)
    else
    L_Md_council_2 n (y1 + 1) C
def f_Md_council  (C0 : St) : Option (Int32) :=
  bdS (L_Md_council_2 3000 0 C0) (fun e7 => some e7) fun _u =>
  some (-1)
/-- MarketTownModel.sell -/
def f_Md_sell (x1 : Int32) (x2 : Int32) (x3 : Int32) (x4 : Int32) (C0 : St) : Option (St) :=
  if inb x2 80 then
  if inb x1 80 then
  bd1 (f_Md_go (C0 93 x2.toNatClampNeg) (C0 94 x2.toNatClampNeg) x3 (C0 93 x1.toNatClampNeg) (mj_wr (mj_wr C0 98 (x1.toNatClampNeg) ((C0 98 x1.toNatClampNeg) - x3)) 98 (x2.toNatClampNeg) ((mj_wr C0 98 (x1.toNatClampNeg) ((C0 98 x1.toNatClampNeg) - x3) 98 x2.toNatClampNeg) - x3))) fun C6 =>
  bd1 (f_Md_pays (C0 93 x1.toNatClampNeg) (C0 93 x2.toNatClampNeg) (x4 * x3) 0 C6) fun C8 =>
  bd1 (f_Md_council C8) fun v10 =>
  bd1 (
    if v10 < 0 then
      some C8
    else
    bd1 (f_Md_pays (C0 93 x2.toNatClampNeg) v10 (((((x4.toInt64) * (x3.toInt64)) * ((C8 89 2166).toInt64)) / 1000).toInt32) 1 C8) fun C14 =>
    some C14) fun (C16 : St) =>
  if inb ((1308 + (11 * (C0 94 x2.toNatClampNeg))) + 2) 2200 then
  bd1 (f_Md_addGood (C0 94 x2.toNatClampNeg) 3 x3 (mj_wr C16 89 (((1308 + (11 * (C0 94 x2.toNatClampNeg))) + 2).toNatClampNeg) x4)) fun C20 =>
  some C20
  else none
  else none
  else none
/-- MarketTownModel.haggled -/
def L_Md_haggled_2 : Nat → Int32 → Int32 → St → Option (St)
  | 0, _, _, _ => none
  | n + 1, y1, y2, C =>
    if y2 = 0 then
      some C
    else
    bd1 (f_Md_highestBid y1 C) fun v2 =>
    bd1 (f_Md_lowestAsk y1 C) fun v4 =>
    bd1 (
      if v2 < 0 then
        some 0
      else
      if v4 < 0 then
        some 0
      else
      if inb v2 80 then
      if inb v4 80 then
      if (C 96 v2.toNatClampNeg) < (C 96 v4.toNatClampNeg) then
        some 0
      else
      some 1
      else none
      else none) fun (w11 : Int32) =>
    bd1 (
      if w11 = 0 then
        some C
      else
      if inb v2 80 then
      if inb v4 80 then
      bd1 (f_Md_less (C 98 v2.toNatClampNeg) (C 98 v4.toNatClampNeg)) fun v17 =>
      bd1 (f_Md_sell v2 v4 v17 (((C 96 v2.toNatClampNeg) + (C 96 v4.toNatClampNeg)) / 2) C) fun C21 =>
      some C21
      else none
      else none) fun (C23 : St) =>
    L_Md_haggled_2 n y1 w11 C23
def f_Md_haggled (x1 : Int32) (C0 : St) : Option (St) :=
  bd1 (L_Md_haggled_2 3000 x1 1 C0) fun C26 =>
  some C26
/-- MarketTownModel.movesAt -/
def L_Md_movesAt_8 : Nat → Int32 → Int32 → Int32 → Int32 → Int32 → St → Option (Int32 × Int32)
  | 0, _, _, _, _, _, _ => none
  | n + 1, y1, y2, y3, y4, y5, C =>
    if (C 88 11) ≤ y5 then
      some (y3, y4)
    else
    bd1 (f_Md_isOpen y5 y1 1 C) fun v2 =>
    bd1 (
      if v2 = 0 then
        some 0
      else
      if inb y5 80 then
      if (C 96 y5.toNatClampNeg) < y2 then
        some 0
      else
      some (C 98 y5.toNatClampNeg)
      else none) fun (w8 : Int32) =>
    bd1 (f_Md_isOpen y5 y1 0 C) fun v11 =>
    bd1 (
      if v11 = 0 then
        some 0
      else
      if inb y5 80 then
      if y2 < (C 96 y5.toNatClampNeg) then
        some 0
      else
      some (C 98 y5.toNatClampNeg)
      else none) fun (w17 : Int32) =>
    L_Md_movesAt_8 n y1 y2 (y3 + w8) (y4 + w17) (y5 + 1) C
def f_Md_movesAt (x1 : Int32) (x2 : Int32) (C0 : St) : Option (Int32) :=
  bd2 (L_Md_movesAt_8 3000 x1 x2 0 0 0 C0) fun o20 o21 =>
  bd1 (f_Md_less o20 o21) fun v23 =>
  some v23
/-- MarketTownModel.called -/
def L_Md_called_7 : Nat → Int32 → Int32 → Int32 → Int32 → St → Option (Int32 × Int32)
  | 0, _, _, _, _, _ => none
  | n + 1, y1, y2, y3, y4, C =>
    if (C 88 11) ≤ y4 then
      some (y2, y3)
    else
    if inb y4 80 then
    bd2 (
      if (C 94 y4.toNatClampNeg) = y1 then
        bd1 (f_Md_movesAt y1 (C 96 y4.toNatClampNeg) C) fun v5 =>
        if y3 < v5 then
          some (C 96 y4.toNatClampNeg, v5)
        else
        if v5 = y3 then
          if v5 ≤ 0 then
            some (y2, y3)
          else
          if y2 ≤ (C 96 y4.toNatClampNeg) then
            some (y2, y3)
          else
          some (C 96 y4.toNatClampNeg, v5)
        else
        some (y2, y3)
      else
      some (y2, y3)) fun (w14 : Int32) (w15 : Int32) =>
    L_Md_called_7 n y1 w14 w15 (y4 + 1) C
    else none
def L_Md_called_86 : Nat → Int32 → Int32 → Int32 → St → Option (St)
  | 0, _, _, _, _ => none
  | n + 1, y1, y2, y3, C =>
    if y3 ≤ 0 then
      some C
    else
    bd1 (f_Md_highestBid y1 C) fun v22 =>
    bd1 (f_Md_lowestAsk y1 C) fun v24 =>
    if inb v22 80 then
    if inb v24 80 then
    bd1 (f_Md_less (C 98 v22.toNatClampNeg) (C 98 v24.toNatClampNeg)) fun v28 =>
    bd1 (f_Md_less y3 v28) fun v30 =>
    bd1 (f_Md_sell v22 v24 v30 y2 C) fun C32 =>
    L_Md_called_86 n y1 y2 (y3 - v30) C32
    else none
    else none
def f_Md_called (x1 : Int32) (C0 : St) : Option (St) :=
  bd2 (L_Md_called_7 3000 x1 0 0 0 C0) fun o18 o19 =>
  bd1 (L_Md_called_86 3000 x1 o18 o19 C0) fun C34 =>
  some C34
/-- MarketTownModel.posted -/
def L_Md_posted_18 : Nat → Int32 → Int32 → Int32 → St → Option (St)
  | 0, _, _, _, _ => none
  | n + 1, y1, y2, y3, C =>
    if y3 = 0 then
      some C
    else
    bd1 (f_Md_lowestAsk y1 C) fun v5 =>
    bd1 (
      if v5 < 0 then
        some 0
      else
      if inb v5 80 then
      if inb y2 80 then
      if (C 96 y2.toNatClampNeg) < (C 96 v5.toNatClampNeg) then
        some 0
      else
      some 1
      else none
      else none) fun (w11 : Int32) =>
    bd2 (
      if w11 = 0 then
        some (w11, C)
      else
      if inb y2 80 then
      if inb v5 80 then
      bd1 (f_Md_less (C 98 y2.toNatClampNeg) (C 98 v5.toNatClampNeg)) fun v17 =>
      bd1 (f_Md_sell y2 v5 v17 (C 96 v5.toNatClampNeg) C) fun C20 =>
      some ((if (C20 98 y2.toNatClampNeg) ≤ 0 then 0 else 1 : Int32), C20)
      else none
      else none) fun (w25 : Int32) (C26 : St) =>
    L_Md_posted_18 n y1 y2 w25 C26
def L_Md_posted_2 : Nat → Int32 → Int32 → St → Option (St)
  | 0, _, _, _ => none
  | n + 1, y1, y2, C =>
    if (C 88 11) ≤ y2 then
      some C
    else
    bd1 (f_Md_isOpen y2 y1 1 C) fun v2 =>
    bd1 (L_Md_posted_18 3000 y1 y2 v2 C) fun C29 =>
    L_Md_posted_2 n y1 (y2 + 1) C29
def f_Md_posted (x1 : Int32) (C0 : St) : Option (St) :=
  bd1 (L_Md_posted_2 3000 x1 0 C0) fun C33 =>
  some C33
/-- MarketTownModel.firstDue -/
def L_Md_firstDue_2 : Nat → Int32 → St → Option ((Int32) ⊕ (Unit))
  | 0, _, _ => none
  | n + 1, y1, C =>
    if (C 89 2168) ≤ y1 then
      some (.inr ())
    else
    if inb ((1363 + (4 * y1)) + 3) 2200 then
    if (C 89 ((1363 + (4 * y1)) + 3).toNatClampNeg) = (C 89 2164) then
      some (.inl y1)
    else
    L_Md_firstDue_2 n (y1 + 1) C
    else none
def f_Md_firstDue  (C0 : St) : Option (Int32) :=
  bdS (L_Md_firstDue_2 3000 0 C0) (fun e7 => some e7) fun _u =>
  some (-1)
/-- MarketTownModel.owes -/
def L_Md_owes_4 : Nat → Int32 → Int32 → Int32 → St → Option (Int32)
  | 0, _, _, _, _ => none
  | n + 1, y1, y2, y3, C =>
    if (C 89 2168) ≤ y3 then
      some y2
    else
    if inb ((1363 + (4 * y3)) + 1) 2200 then
    bd1 (
      if (C 89 ((1363 + (4 * y3)) + 1).toNatClampNeg) = y1 then
        if inb ((1363 + (4 * y3)) + 2) 2200 then
        some (C 89 ((1363 + (4 * y3)) + 2).toNatClampNeg)
        else none
      else
      some 0) fun (w6 : Int32) =>
    L_Md_owes_4 n y1 (y2 + w6) (y3 + 1) C
    else none
def f_Md_owes (x1 : Int32) (C0 : St) : Option (Int32) :=
  bd1 (L_Md_owes_4 3000 x1 0 0 C0) fun o9 =>
  some o9
/-- MarketTownModel.closeLoan -/
def L_Md_closeLoan_8 : Nat → Int32 → St → Option (St)
  | 0, _, _ => none
  | n + 1, y2, C =>
    if (1363 + (4 * ((C 89 2168) - 1))) ≤ y2 then
      some C
    else
    if inb (y2 + 4) 2200 then
    if inb y2 2200 then
    L_Md_closeLoan_8 n (y2 + 1) (mj_wr C 89 (y2.toNatClampNeg) (C 89 (y2 + 4).toNatClampNeg))
    else none
    else none
def f_Md_closeLoan (x1 : Int32) (C0 : St) : Option (St) :=
  bd1 (L_Md_closeLoan_8 3000 (1363 + (4 * x1)) C0) fun C5 =>
  some (mj_wr C5 89 2168 ((C5 89 2168) - 1))
/-- MarketTownModel.breaks -/
def L_Md_breaks_31 : Nat → Int32 → Int32 → Int32 → Int32 → Int32 → St → Option (Int32 × St)
  | 0, _, _, _, _, _, _ => none
  | n + 1, y1, y2, y3, y4, y5, C =>
    if (C 89 2168) ≤ y5 then
      some (y4, C)
    else
    if inb ((1363 + (4 * y5)) + 1) 2200 then
    bd1 (
      if (if (C 89 ((1363 + (4 * y5)) + 1).toNatClampNeg) = y1 then 1 else 0 : Int32) = 0 then
        some 0
      else
      if inb ((1363 + (4 * y5)) + 2) 2200 then
      if (y2.toInt64) = 0 then none else
      some ((((y3.toInt64) * ((C 89 ((1363 + (4 * y5)) + 2).toNatClampNeg).toInt64)) / (y2.toInt64)).toInt32)
      else none) fun (w14 : Int32) =>
    if inb y5 20 then
    L_Md_breaks_31 n y1 y2 y3 (y4 - (mj_wr C 102 (y5.toNatClampNeg) w14 102 y5.toNatClampNeg)) (y5 + 1) (mj_wr C 102 (y5.toNatClampNeg) w14)
    else none
    else none
def L_Md_breaks_135 : Nat → Int32 → Int32 → Int32 → St → Option (Int32 × St)
  | 0, _, _, _, _ => none
  | n + 1, y1, y4, y5, C =>
    if (C 89 2168) ≤ y5 then
      some (y4, C)
    else
    if y4 ≤ 0 then
      some (y4, C)
    else
    if inb ((1363 + (4 * y5)) + 1) 2200 then
    bd2 (
      if (C 89 ((1363 + (4 * y5)) + 1).toNatClampNeg) = y1 then
        if inb y5 20 then
        some (y4 + (-1), mj_wr C 102 (y5.toNatClampNeg) ((C 102 y5.toNatClampNeg) + 1))
        else none
      else
      some (y4, C)) fun (w29 : Int32) (C30 : St) =>
    L_Md_breaks_135 n y1 w29 (y5 + 1) C30
    else none
def L_Md_breaks_127 : Nat → Int32 → Int32 → St → Option (St)
  | 0, _, _, _ => none
  | n + 1, y1, y4, C =>
    if y4 ≤ 0 then
      some C
    else
    bd2 (L_Md_breaks_135 3000 y1 y4 0 C) fun o33 C34 =>
    L_Md_breaks_127 n y1 o33 C34
def L_Md_breaks_198 : Nat → Int32 → Int32 → St → Option (St)
  | 0, _, _, _ => none
  | n + 1, y1, y5, C =>
    if (C 89 2168) ≤ y5 then
      some C
    else
    if inb ((1363 + (4 * y5)) + 1) 2200 then
    bd1 (
      if (C 89 ((1363 + (4 * y5)) + 1).toNatClampNeg) = y1 then
        if inb (1363 + (4 * y5)) 2200 then
        if inb y5 20 then
        bd1 (f_Md_pays y1 (C 89 (1363 + (4 * y5)).toNatClampNeg) (C 102 y5.toNatClampNeg) 4 C) fun C46 =>
        some C46
        else none
        else none
      else
      some C) fun (C48 : St) =>
    L_Md_breaks_198 n y1 (y5 + 1) C48
    else none
def L_Md_breaks_274 : Nat → Int32 → Int32 → St → Option (St)
  | 0, _, _, _ => none
  | n + 1, y1, y5, C =>
    if y5 < 0 then
      some C
    else
    if inb ((1363 + (4 * y5)) + 1) 2200 then
    bd1 (
      if (C 89 ((1363 + (4 * y5)) + 1).toNatClampNeg) = y1 then
        bd1 (f_Md_closeLoan y5 C) fun C57 =>
        some C57
      else
      some C) fun (C59 : St) =>
    L_Md_breaks_274 n y1 (y5 + (-1)) C59
    else none
def f_Md_breaks (x1 : Int32) (C0 : St) : Option (St) :=
  if inb ((0 + (5 * x1)) + 2) 2200 then
  bd1 (f_Md_owes x1 (mj_wr C0 89 (((0 + (5 * x1)) + 2).toNatClampNeg) 1)) fun v2 =>
  bd1 (f_Md_cash x1 (mj_wr C0 89 (((0 + (5 * x1)) + 2).toNatClampNeg) 1)) fun v4 =>
  bd2 (L_Md_breaks_31 3000 x1 v2 v4 v4 0 (mj_wr C0 89 (((0 + (5 * x1)) + 2).toNatClampNeg) 1)) fun o19 C20 =>
  bd1 (L_Md_breaks_127 3000 x1 o19 C20) fun C38 =>
  bd1 (L_Md_breaks_198 3000 x1 0 C38) fun C51 =>
  bd1 (L_Md_breaks_274 3000 x1 ((C51 89 2168) - 1) C51) fun C62 =>
  some C62
  else none
/-- MarketTownModel.settle -/
def L_Md_settle_5 : Nat → Int32 → St → Option (St)
  | 0, _, _ => none
  | n + 1, y1, C =>
    if y1 < 0 then
      some C
    else
    if inb ((1363 + (4 * y1)) + 1) 2200 then
    if inb ((1363 + (4 * y1)) + 2) 2200 then
    bd1 (f_Md_cash (C 89 ((1363 + (4 * y1)) + 1).toNatClampNeg) C) fun v6 =>
    bd1 (
      if v6 < (C 89 ((1363 + (4 * y1)) + 2).toNatClampNeg) then
        bd1 (f_Md_breaks (C 89 ((1363 + (4 * y1)) + 1).toNatClampNeg) C) fun C9 =>
        some C9
      else
      if inb (1363 + (4 * y1)) 2200 then
      bd1 (f_Md_pays (C 89 ((1363 + (4 * y1)) + 1).toNatClampNeg) (C 89 (1363 + (4 * y1)).toNatClampNeg) (C 89 ((1363 + (4 * y1)) + 2).toNatClampNeg) 4 C) fun C12 =>
      bd1 (f_Md_closeLoan y1 C12) fun C14 =>
      some C14
      else none) fun (C16 : St) =>
    bd1 (f_Md_firstDue C16) fun v19 =>
    L_Md_settle_5 n v19 C16
    else none
    else none
def f_Md_settle  (C0 : St) : Option (St) :=
  bd1 (f_Md_firstDue C0) fun v1 =>
  bd1 (L_Md_settle_5 3000 v1 C0) fun C21 =>
  some C21
/-- MarketTownModel.age -/
def L_Md_age_30 : Nat → Int32 → Int32 → Int32 → St → Option (St)
  | 0, _, _, _, _ => none
  | n + 1, y1, y2, y3, C =>
    if y3 ≤ 0 then
      some C
    else
    bd1 (f_Md_ageAt y1 y2 y3) fun v8 =>
    bd1 (f_Md_ageAt y1 y2 (y3 - 1)) fun v10 =>
    if inb v10 2200 then
    if inb v8 2200 then
    L_Md_age_30 n y1 y2 (y3 + (-1)) (mj_wr C 89 (v8.toNatClampNeg) (C 89 v10.toNatClampNeg))
    else none
    else none
def L_Md_age_86 : Nat → Int32 → Int32 → Int32 → Int32 → St → Option (St)
  | 0, _, _, _, _, _ => none
  | n + 1, y1, y2, y3, y4, C =>
    if 10 ≤ y4 then
      some C
    else
    if y3 ≤ 0 then
      some C
    else
    bd1 (f_Md_ageAt y1 y2 y4) fun v23 =>
    if inb v23 2200 then
    bd1 (f_Md_addGood y2 6 (C 89 v23.toNatClampNeg) C) fun C26 =>
    bd1 (f_Md_ageAt y1 y2 y4) fun v28 =>
    if inb v28 2200 then
    L_Md_age_86 n y1 y2 y3 (y4 + 1) (mj_wr C26 89 (v28.toNatClampNeg) 0)
    else none
    else none
def f_Md_age (x1 : Int32) (x2 : Int32) (C0 : St) : Option (St) :=
  bd1 (f_Md_ageAt x1 x2 9) fun v1 =>
  if inb v1 2200 then
  bd1 (f_Md_ageAt x1 x2 8) fun v4 =>
  if inb v4 2200 then
  bd1 (L_Md_age_30 3000 x1 x2 8 (mj_wr C0 89 (v1.toNatClampNeg) ((C0 89 v1.toNatClampNeg) + (C0 89 v4.toNatClampNeg)))) fun C14 =>
  bd1 (f_Md_ageAt x1 x2 0) fun v16 =>
  if inb v16 2200 then
  bd1 (f_Md_goodIs x2 0 (mj_wr C14 89 (v16.toNatClampNeg) 0)) fun v19 =>
  bd1 (L_Md_age_86 3000 x1 x2 v19 v19 (mj_wr C14 89 (v16.toNatClampNeg) 0)) fun C31 =>
  some C31
  else none
  else none
  else none
/-- MarketTownModel.liveDay -/
def L_Md_liveDay_10 : Nat → Int32 → St → Option (St)
  | 0, _, _ => none
  | n + 1, y1, C =>
    if 5 ≤ y1 then
      some C
    else
    bd1 (f_Md_goodIs y1 1 C) fun v6 =>
    bd1 (
      if v6 = 0 then
        bd1 (f_Md_posted y1 C) fun C14 =>
        some C14
      else
      if v6 = 1 then
        bd1 (f_Md_called y1 C) fun C12 =>
        some C12
      else
      bd1 (f_Md_haggled y1 C) fun C10 =>
      some C10) fun (C16 : St) =>
    L_Md_liveDay_10 n (y1 + 1) C16
def L_Md_liveDay_78 : Nat → Int32 → Int32 → St → Option (St)
  | 0, _, _, _ => none
  | n + 1, y1, y2, C =>
    if 5 ≤ y2 then
      some C
    else
    bd1 (f_Md_age y1 y2 C) fun C26 =>
    L_Md_liveDay_78 n y1 (y2 + 1) C26
def L_Md_liveDay_64 : Nat → Int32 → St → Option (St)
  | 0, _, _ => none
  | n + 1, y1, C =>
    if (C 89 2163) ≤ y1 then
      some C
    else
    bd1 (L_Md_liveDay_78 3000 y1 0 C) fun C28 =>
    L_Md_liveDay_64 n (y1 + 1) C28
def f_Md_liveDay  (C0 : St) : Option (St) :=
  bd1 (f_Md_drawOrder C0) fun C1 =>
  bd1 (f_Md_actAll C1) fun C3 =>
  bd1 (L_Md_liveDay_10 3000 0 C3) fun C19 =>
  bd1 (f_Md_settle C19) fun C21 =>
  bd1 (L_Md_liveDay_64 3000 0 C21) fun C32 =>
  some (mj_wr (mj_wr C32 89 2164 ((C32 89 2164) + 1)) 88 11 0)
/-- MarketTownModel.live -/
def L_Md_live_31 : Nat → Int32 → Int32 → St → Option (St)
  | 0, _, _, _ => none
  | n + 1, y1, y2, C =>
    if y1 ≤ y2 then
      some C
    else
    bd1 (f_Md_liveDay C) fun C7 =>
    L_Md_live_31 n y1 (y2 + 1) C7
def f_Md_live (x1 : Int32) (C0 : St) : Option (Int32 × St) :=
  bd1 (f_Md_isIn x1 1 30) fun v1 =>
  if v1 = 0 then
    some ((-1000000001), C0)
  else
  if ((C0 89 2164) + x1) ≤ 700 then
    bd1 (L_Md_live_31 3000 x1 0 C0) fun C9 =>
    some (C9 89 2164, C9)
  else
  some ((-1000000001), C0)
/-- MarketTownModel.owed -/
def L_Md_owed_4 : Nat → Int32 → Int32 → Int32 → St → Option (Int32)
  | 0, _, _, _, _ => none
  | n + 1, y1, y2, y3, C =>
    if (C 89 2168) ≤ y3 then
      some y2
    else
    if inb (1363 + (4 * y3)) 2200 then
    bd1 (
      if (C 89 (1363 + (4 * y3)).toNatClampNeg) = y1 then
        if inb ((1363 + (4 * y3)) + 2) 2200 then
        some (C 89 ((1363 + (4 * y3)) + 2).toNatClampNeg)
        else none
      else
      some 0) fun (w6 : Int32) =>
    L_Md_owed_4 n y1 (y2 + w6) (y3 + 1) C
    else none
def f_Md_owed (x1 : Int32) (C0 : St) : Option (Int32) :=
  bd1 (L_Md_owed_4 3000 x1 0 0 C0) fun o9 =>
  some o9
/-- MarketTownModel.about -/
def f_Md_about (x1 : Int32) (x2 : Int32) (C0 : St) : Option (Int32) :=
  bd1 (f_Md_isAgent x1 C0) fun v1 =>
  if v1 = 0 then
    some (-1000000001)
  else
  bd1 (f_Md_isIn x2 0 6) fun v4 =>
  if v4 = 0 then
    some (-1000000001)
  else
  if x2 = 3 then
    bd1 (f_Md_ruleMany x1 C0) fun v11 =>
    some v11
  else
  if x2 = 4 then
    bd1 (f_Md_owes x1 C0) fun v13 =>
    some v13
  else
  if x2 = 5 then
    bd1 (f_Md_owed x1 C0) fun v15 =>
    some v15
  else
  if x2 = 6 then
    if inb ((0 + (5 * x1)) + 3) 2200 then
    some (C0 89 ((0 + (5 * x1)) + 3).toNatClampNeg)
    else none
  else
  if inb ((0 + (5 * x1)) + x2) 2200 then
  some (C0 89 ((0 + (5 * x1)) + x2).toNatClampNeg)
  else none
/-- MarketTownModel.isOf -/
def f_Md_isOf (x1 : Int32) (x2 : Int32) (C0 : St) : Option (Int32) :=
  bd1 (f_Md_isAgent x1 C0) fun v1 =>
  if v1 = 0 then
    some (-1000000001)
  else
  bd1 (f_Md_isIn x2 0 5) fun v4 =>
  if v4 = 0 then
    some (-1000000001)
  else
  bd1 (f_Md_isKind x1 x2 C0) fun v7 =>
  some (if v7 = 0 then 0 else 1 : Int32)
/-- MarketTownModel.has -/
def f_Md_has (x1 : Int32) (x2 : Int32) (x3 : Int32) (C0 : St) : Option (Int32) :=
  bd1 (f_Md_isAgent x1 C0) fun v1 =>
  if v1 = 0 then
    some (-1000000001)
  else
  bd1 (f_Md_isGood x2) fun v4 =>
  if v4 = 0 then
    some (-1000000001)
  else
  bd1 (f_Md_isIn x3 (-1) 9) fun v7 =>
  if v7 = 0 then
    some (-1000000001)
  else
  bd1 (
    if 0 ≤ x3 then
      bd1 (f_Md_ageAt x1 x2 x3) fun v11 =>
      if inb v11 2200 then
      some (C0 89 v11.toNatClampNeg)
      else none
    else
    bd1 (f_Md_hasAll x1 x2 C0) fun v14 =>
    some v14) fun (w16 : Int32) =>
  some w16
/-- MarketTownModel.told -/
def f_Md_told (x1 : Int32) (x2 : Int32) (x3 : Int32) (C0 : St) : Option (Int32) :=
  bd1 (f_Md_isAgent x1 C0) fun v1 =>
  if v1 = 0 then
    some (-1000000001)
  else
  bd1 (f_Md_ruleMany x1 C0) fun v4 =>
  bd1 (f_Md_isIn x2 0 (v4 - 1)) fun v6 =>
  if v6 = 0 then
    some (-1000000001)
  else
  bd1 (f_Md_isIn x3 0 8) fun v9 =>
  if v9 = 0 then
    some (-1000000001)
  else
  bd1 (f_Md_ruleIs x1 x2 x3 C0) fun v12 =>
  some v12
/-- MarketTownModel.goods -/
def L_Md_goods_38 : Nat → Int32 → Int32 → Int32 → St → Option (Int32)
  | 0, _, _, _, _ => none
  | n + 1, y1, y3, y4, C =>
    if (C 89 2163) ≤ y4 then
      some y3
    else
    bd1 (f_Md_hasAll y4 y1 C) fun v10 =>
    L_Md_goods_38 n y1 (y3 + v10) (y4 + 1) C
def f_Md_goods (x1 : Int32) (x2 : Int32) (C0 : St) : Option (Int32) :=
  bd1 (f_Md_isGood x1) fun v1 =>
  if v1 = 0 then
    some (-1000000001)
  else
  bd1 (f_Md_isIn x2 0 7) fun v4 =>
  if v4 = 0 then
    some (-1000000001)
  else
  if 7 ≤ x2 then
    bd1 (L_Md_goods_38 3000 x1 0 0 C0) fun o12 =>
    some o12
  else
  bd1 (f_Md_goodIs x1 x2 C0) fun v16 =>
  some v16
/-- MarketTownModel.paid -/
def L_Md_paid_62 : Nat → Int32 → Int32 → Int32 → St → Option (Int32)
  | 0, _, _, _, _ => none
  | n + 1, y4, y5, y6, C =>
    if 5 ≤ y6 then
      some y5
    else
    if inb (y4 + y6) 2200 then
    L_Md_paid_62 n y4 (y5 + (C 89 (y4 + y6).toNatClampNeg)) (y6 + 1) C
    else none
def f_Md_paid (x1 : Int32) (x2 : Int32) (x3 : Int32) (C0 : St) : Option (Int32) :=
  bd1 (f_Md_isAgent x1 C0) fun v1 =>
  if v1 = 0 then
    some (-1000000001)
  else
  bd1 (f_Md_isAgent x2 C0) fun v4 =>
  if v4 = 0 then
    some (-1000000001)
  else
  bd1 (f_Md_isIn x3 (-1) 4) fun v7 =>
  if v7 = 0 then
    some (-1000000001)
  else
  if x3 < 0 then
    bd1 (L_Md_paid_62 3000 (1443 + (5 * ((12 * x1) + x2))) 0 0 C0) fun o13 =>
    some o13
  else
  if inb ((1443 + (5 * ((12 * x1) + x2))) + x3) 2200 then
  some (C0 89 ((1443 + (5 * ((12 * x1) + x2))) + x3).toNatClampNeg)
  else none
/-- MarketTownModel.loan -/
def f_Md_loan (x1 : Int32) (x2 : Int32) (C0 : St) : Option (Int32) :=
  if x1 < 0 then
    some (-1000000001)
  else
  bd1 (f_Md_isIn x2 0 3) fun v2 =>
  if v2 = 0 then
    some (-1000000001)
  else
  bd1 (
    if (C0 89 2168) ≤ x1 then
      some (-1000000005)
    else
    if inb ((1363 + (4 * x1)) + x2) 2200 then
    some (C0 89 ((1363 + (4 * x1)) + x2).toNatClampNeg)
    else none) fun (w8 : Int32) =>
  some w8
/-- MarketTownModel.median -/
def L_Md_median_16 : Nat → Int32 → Int32 → Int32 → St → Option (Int32)
  | 0, _, _, _, _ => none
  | n + 1, y1, y2, y3, C =>
    if (C 89 2163) ≤ y3 then
      some y2
    else
    bd1 (f_Md_isKind y3 y1 C) fun v6 =>
    L_Md_median_16 n y1 (y2 + (if v6 = 0 then 0 else 1 : Int32)) (y3 + 1) C
def L_Md_median_71 : Nat → Int32 → Int32 → Int32 → Int32 → Int32 → St → Option (Int32)
  | 0, _, _, _, _, _, _ => none
  | n + 1, y1, y2, y3, y4, y5, C =>
    if (C 89 2163) ≤ y5 then
      some y4
    else
    bd1 (f_Md_cash y5 C) fun v16 =>
    bd1 (f_Md_cash y3 C) fun v18 =>
    bd1 (
      if v16 < v18 then
        some 1
      else
      bd1 (f_Md_cash y5 C) fun v21 =>
      bd1 (f_Md_cash y3 C) fun v23 =>
      if v21 = v23 then
        if y3 ≤ y5 then
          some 0
        else
        some 1
      else
      some 0) fun (w27 : Int32) =>
    bd1 (f_Md_isKind y5 y1 C) fun v30 =>
    L_Md_median_71 n y1 y2 y3 (y4 + (if v30 = 0 then 0 else (if w27 = 0 then 0 else 1 : Int32) : Int32)) (y5 + 1) C
def L_Md_median_53 : Nat → Int32 → Int32 → Int32 → St → Option ((Int32) ⊕ (Unit))
  | 0, _, _, _, _ => none
  | n + 1, y1, y2, y3, C =>
    if (C 89 2163) ≤ y3 then
      some (.inr ())
    else
    bd1 (L_Md_median_71 3000 y1 y2 y3 0 0 C) fun o35 =>
    bd1 (f_Md_isKind y3 y1 C) fun v37 =>
    if v37 = 0 then
      L_Md_median_53 n y1 y2 (y3 + 1) C
    else
    if o35 = ((y2 - 1) / 2) then
      bd1 (f_Md_cash y3 C) fun v41 =>
      some (.inl v41)
    else
    L_Md_median_53 n y1 y2 (y3 + 1) C
def f_Md_median (x1 : Int32) (C0 : St) : Option (Int32) :=
  bd1 (f_Md_isIn x1 0 5) fun v1 =>
  if v1 = 0 then
    some (-1000000001)
  else
  bd1 (L_Md_median_16 3000 x1 0 0 C0) fun o10 =>
  bdS (L_Md_median_53 3000 x1 o10 0 C0) (fun e46 => some e46) fun _u =>
  some (-1000000005)
/-- MarketTownModel.save -/
def L_Md_save_14 : Nat → Int32 → Int32 → St → Option (St)
  | 0, _, _, _ => none
  | n + 1, y1, y2, C =>
    if 2200 ≤ y2 then
      some C
    else
    if inb y2 2200 then
    if inb ((2200 * y1) + y2) 6600 then
    L_Md_save_14 n y1 (y2 + 1) (mj_wr C 90 (((2200 * y1) + y2).toNatClampNeg) (C 89 y2.toNatClampNeg))
    else none
    else none
def f_Md_save (x1 : Int32) (C0 : St) : Option (Int32 × St) :=
  bd1 (f_Md_isIn x1 0 2) fun v1 =>
  if v1 = 0 then
    some ((-1000000001), C0)
  else
  bd1 (L_Md_save_14 3000 x1 0 C0) fun C7 =>
  if inb x1 3 then
  some (mj_wr C7 91 (x1.toNatClampNeg) (vp_nar .boolean 1) 89 2164, mj_wr C7 91 (x1.toNatClampNeg) (vp_nar .boolean 1))
  else none
/-- MarketTownModel.load -/
def L_Md_load_26 : Nat → Int32 → Int32 → St → Option (St)
  | 0, _, _, _ => none
  | n + 1, y1, y2, C =>
    if 2200 ≤ y2 then
      some C
    else
    if inb ((2200 * y1) + y2) 6600 then
    if inb y2 2200 then
    L_Md_load_26 n y1 (y2 + 1) (mj_wr C 89 (y2.toNatClampNeg) (C 90 ((2200 * y1) + y2).toNatClampNeg))
    else none
    else none
def f_Md_load (x1 : Int32) (C0 : St) : Option (Int32 × St) :=
  bd1 (f_Md_isIn x1 0 2) fun v1 =>
  if v1 = 0 then
    some ((-1000000001), C0)
  else
  if inb x1 3 then
  if (C0 91 x1.toNatClampNeg) = 0 then
    some ((-1000000002), C0)
  else
  bd1 (L_Md_load_26 3000 x1 0 C0) fun C9 =>
  some (C9 89 2164, C9)
  else none
/-- MarketTownModel.differs -/
def L_Md_differs_138 : Nat → Int32 → Int32 → Int32 → Int32 → St → Option (Int32)
  | 0, _, _, _, _, _ => none
  | n + 1, y1, y2, y5, y6, C =>
    bd1 (f_Md_ageAt (y2 + 1) 0 0) fun v24 =>
    if v24 ≤ y6 then
      some y5
    else
    bd1 (
      if y5 = 0 then
        some 0
      else
      if inb y6 2200 then
      if inb ((2200 * y1) + y6) 6600 then
      if (C 89 y6.toNatClampNeg) = (C 90 ((2200 * y1) + y6).toNatClampNeg) then
        some 1
      else
      some 0
      else none
      else none) fun (w31 : Int32) =>
    L_Md_differs_138 n y1 y2 w31 (y6 + 1) C
def L_Md_differs_26 : Nat → Int32 → Int32 → St → Option ((Int32) ⊕ (Unit))
  | 0, _, _, _ => none
  | n + 1, y1, y2, C =>
    if 12 ≤ y2 then
      some (.inr ())
    else
    if inb ((2200 * y1) + 2163) 6600 then
    bd1 (
      if (if (C 89 2163) ≤ y2 then 0 else 1 : Int32) = 0 then
        some (if (if (C 89 2163) ≤ y2 then 0 else 1 : Int32) = (if (C 90 ((2200 * y1) + 2163).toNatClampNeg) ≤ y2 then 0 else 1 : Int32) then 1 else 0 : Int32)
      else
      if (if (C 90 ((2200 * y1) + 2163).toNatClampNeg) ≤ y2 then 0 else 1 : Int32) = 0 then
        some (if (if (C 89 2163) ≤ y2 then 0 else 1 : Int32) = (if (C 90 ((2200 * y1) + 2163).toNatClampNeg) ≤ y2 then 0 else 1 : Int32) then 1 else 0 : Int32)
      else
      bd1 (f_Md_cash y2 C) fun v17 =>
      if inb ((((2200 * y1) + 0) + (5 * y2)) + 1) 6600 then
      bd1 (f_Md_ageAt y2 0 0) fun v22 =>
      bd1 (L_Md_differs_138 3000 y1 y2 (if v17 = (C 90 ((((2200 * y1) + 0) + (5 * y2)) + 1).toNatClampNeg) then 1 else 0 : Int32) v22 C) fun o34 =>
      some o34
      else none) fun (w38 : Int32) =>
    if w38 = 0 then
      some (.inl y2)
    else
    L_Md_differs_26 n y1 (y2 + 1) C
    else none
def f_Md_differs (x1 : Int32) (C0 : St) : Option (Int32) :=
  bd1 (f_Md_isIn x1 0 2) fun v1 =>
  if v1 = 0 then
    some (-1000000001)
  else
  if inb x1 3 then
  if (C0 91 x1.toNatClampNeg) = 0 then
    some (-1000000002)
  else
  bdS (L_Md_differs_26 3000 x1 0 C0) (fun e43 => some e43) fun _u =>
  some (-1000000005)
  else none
/-- MarketTownModel.count -/
def L_Md_count_68 : Nat → Int32 → Int32 → St → Option (Int32)
  | 0, _, _, _ => none
  | n + 1, y2, y3, C =>
    if (C 89 2163) ≤ y3 then
      some y2
    else
    bd1 (f_Md_cash y3 C) fun v13 =>
    L_Md_count_68 n (y2 + v13) (y3 + 1) C
def L_Md_count_107 : Nat → Int32 → Int32 → St → Option (Int32)
  | 0, _, _, _ => none
  | n + 1, y2, y3, C =>
    if (C 89 2163) ≤ y3 then
      some y2
    else
    bd1 (f_Md_isBroke y3 C) fun v22 =>
    L_Md_count_107 n (y2 + (if v22 = 0 then 0 else 1 : Int32)) (y3 + 1) C
def L_Md_count_161 : Nat → Int32 → Int32 → St → Option (Int32)
  | 0, _, _, _ => none
  | n + 1, y2, y3, C =>
    if 2163 ≤ y3 then
      some y2
    else
    if inb y3 2200 then
    L_Md_count_161 n (y2 + (C 89 y3.toNatClampNeg)) (y3 + 1) C
    else none
def f_Md_count (x1 : Int32) (C0 : St) : Option (Int32) :=
  if x1 = 0 then
    some (C0 89 2163)
  else
  if x1 = 1 then
    some (C0 89 2164)
  else
  if x1 = 2 then
    bd1 (L_Md_count_68 3000 0 0 C0) fun o15 =>
    some o15
  else
  if x1 = 3 then
    some (C0 89 2168)
  else
  if x1 = 4 then
    bd1 (L_Md_count_107 3000 0 0 C0) fun o26 =>
    some o26
  else
  if x1 = 5 then
    some (C0 88 4)
  else
  if x1 = 6 then
    some (C0 89 2165)
  else
  if x1 = 7 then
    bd1 (L_Md_count_161 3000 0 1443 C0) fun o33 =>
    some o33
  else
  some (-1000000001)
