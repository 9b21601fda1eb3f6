theorem rq_0 : (va_up (va_up (va_up (va_up (va_up (va_up (fun _ => none) 0 (some 1)) 1 (some 17)) 2 (some 18)) 3 (some 19)) 4 (some 21)) 5 (some 23)) = mj_rs [some 1, some 17, some 18, some 19, some 21, some 23] := by
  funext k
  match k with
  | 0 => rfl
  | 1 => rfl
  | 2 => rfl
  | 3 => rfl
  | 4 => rfl
  | 5 => rfl
  | k + 6 => simp [va_up, mj_rs]
theorem rq_1 : (va_up (va_up (va_up (va_up (va_up (va_up (va_up (va_up (va_up (fun _ => none) 5 (some 2)) 6 (some 3)) 7 (some 4)) 8 (some 5)) 9 (some 6)) 10 (some 7)) 11 (some 10)) 12 (some 12)) 13 (some 15)) = mj_rs [none, none, none, none, none, some 2, some 3, some 4, some 5, some 6, some 7, some 10, some 12, some 15] := by
  funext k
  match k with
  | 0 => rfl
  | 1 => rfl
  | 2 => rfl
  | 3 => rfl
  | 4 => rfl
  | 5 => rfl
  | 6 => rfl
  | 7 => rfl
  | 8 => rfl
  | 9 => rfl
  | 10 => rfl
  | 11 => rfl
  | 12 => rfl
  | 13 => rfl
  | k + 14 => simp [va_up, mj_rs]
theorem rq_7 : (va_up (va_up (fun _ => none) 0 (some 8)) 1 (some 9)) = mj_rs [some 8, some 9] := by
  funext k
  match k with
  | 0 => rfl
  | 1 => rfl
  | k + 2 => simp [va_up, mj_rs]
theorem rq_10 : (va_up (fun _ => none) 0 (some 11)) = mj_rs [some 11] := by
  funext k
  match k with
  | 0 => rfl
  | k + 1 => simp [va_up, mj_rs]
theorem rq_12 : (va_up (va_up (fun _ => none) 0 (some 13)) 1 (some 14)) = mj_rs [some 13, some 14] := by
  funext k
  match k with
  | 0 => rfl
  | 1 => rfl
  | k + 2 => simp [va_up, mj_rs]
theorem rq_15 : (va_up (fun _ => none) 1 (some 16)) = mj_rs [none, some 16] := by
  funext k
  match k with
  | 0 => rfl
  | 1 => rfl
  | k + 2 => simp [va_up, mj_rs]
theorem rq_17 : (va_up (va_up (va_up (fun _ => none) 0 (some 40)) 1 (some 56)) 2 (some 72)) = mj_rs [some 40, some 56, some 72] := by
  funext k
  match k with
  | 0 => rfl
  | 1 => rfl
  | 2 => rfl
  | k + 3 => simp [va_up, mj_rs]
theorem rq_19 : (va_up (fun _ => none) 1 (some 20)) = mj_rs [none, some 20] := by
  funext k
  match k with
  | 0 => rfl
  | 1 => rfl
  | k + 2 => simp [va_up, mj_rs]
theorem rq_21 : (va_up (fun _ => none) 0 (some 22)) = mj_rs [some 22] := by
  funext k
  match k with
  | 0 => rfl
  | k + 1 => simp [va_up, mj_rs]
theorem rq_23 : (va_up (va_up (fun _ => none) 0 (some 24)) 1 (some 25)) = mj_rs [some 24, some 25] := by
  funext k
  match k with
  | 0 => rfl
  | 1 => rfl
  | k + 2 => simp [va_up, mj_rs]
theorem rq_25 : (va_up (va_up (va_up (va_up (fun _ => none) 0 (some 26)) 1 (some 32)) 2 (some 38)) 3 (some 39)) = mj_rs [some 26, some 32, some 38, some 39] := by
  funext k
  match k with
  | 0 => rfl
  | 1 => rfl
  | 2 => rfl
  | 3 => rfl
  | k + 4 => simp [va_up, mj_rs]
theorem rq_26 : (va_up (va_up (va_up (va_up (va_up (fun _ => none) 0 (some 27)) 1 (some 28)) 2 (some 29)) 3 (some 30)) 5 (some 31)) = mj_rs [some 27, some 28, some 29, some 30, none, some 31] := by
  funext k
  match k with
  | 0 => rfl
  | 1 => rfl
  | 2 => rfl
  | 3 => rfl
  | 4 => rfl
  | 5 => rfl
  | k + 6 => simp [va_up, mj_rs]
theorem rq_32 : (va_up (va_up (va_up (va_up (va_up (fun _ => none) 0 (some 33)) 1 (some 34)) 2 (some 35)) 3 (some 36)) 5 (some 37)) = mj_rs [some 33, some 34, some 35, some 36, none, some 37] := by
  funext k
  match k with
  | 0 => rfl
  | 1 => rfl
  | 2 => rfl
  | 3 => rfl
  | 4 => rfl
  | 5 => rfl
  | k + 6 => simp [va_up, mj_rs]
theorem rq_40 : (va_up (va_up (va_up (va_up (va_up (va_up (va_up (va_up (va_up (fun _ => none) 5 (some 41)) 6 (some 42)) 7 (some 43)) 8 (some 44)) 9 (some 45)) 10 (some 46)) 11 (some 49)) 12 (some 51)) 13 (some 54)) = mj_rs [none, none, none, none, none, some 41, some 42, some 43, some 44, some 45, some 46, some 49, some 51, some 54] := by
  funext k
  match k with
  | 0 => rfl
  | 1 => rfl
  | 2 => rfl
  | 3 => rfl
  | 4 => rfl
  | 5 => rfl
  | 6 => rfl
  | 7 => rfl
  | 8 => rfl
  | 9 => rfl
  | 10 => rfl
  | 11 => rfl
  | 12 => rfl
  | 13 => rfl
  | k + 14 => simp [va_up, mj_rs]
theorem rq_46 : (va_up (va_up (fun _ => none) 0 (some 47)) 1 (some 48)) = mj_rs [some 47, some 48] := by
  funext k
  match k with
  | 0 => rfl
  | 1 => rfl
  | k + 2 => simp [va_up, mj_rs]
theorem rq_49 : (va_up (fun _ => none) 0 (some 50)) = mj_rs [some 50] := by
  funext k
  match k with
  | 0 => rfl
  | k + 1 => simp [va_up, mj_rs]
theorem rq_51 : (va_up (va_up (fun _ => none) 0 (some 52)) 1 (some 53)) = mj_rs [some 52, some 53] := by
  funext k
  match k with
  | 0 => rfl
  | 1 => rfl
  | k + 2 => simp [va_up, mj_rs]
theorem rq_54 : (va_up (fun _ => none) 1 (some 55)) = mj_rs [none, some 55] := by
  funext k
  match k with
  | 0 => rfl
  | 1 => rfl
  | k + 2 => simp [va_up, mj_rs]
theorem rq_56 : (va_up (va_up (va_up (va_up (va_up (va_up (va_up (va_up (va_up (fun _ => none) 5 (some 57)) 6 (some 58)) 7 (some 59)) 8 (some 60)) 9 (some 61)) 10 (some 62)) 11 (some 65)) 12 (some 67)) 13 (some 70)) = mj_rs [none, none, none, none, none, some 57, some 58, some 59, some 60, some 61, some 62, some 65, some 67, some 70] := by
  funext k
  match k with
  | 0 => rfl
  | 1 => rfl
  | 2 => rfl
  | 3 => rfl
  | 4 => rfl
  | 5 => rfl
  | 6 => rfl
  | 7 => rfl
  | 8 => rfl
  | 9 => rfl
  | 10 => rfl
  | 11 => rfl
  | 12 => rfl
  | 13 => rfl
  | k + 14 => simp [va_up, mj_rs]
theorem rq_62 : (va_up (va_up (fun _ => none) 0 (some 63)) 1 (some 64)) = mj_rs [some 63, some 64] := by
  funext k
  match k with
  | 0 => rfl
  | 1 => rfl
  | k + 2 => simp [va_up, mj_rs]
theorem rq_65 : (va_up (fun _ => none) 0 (some 66)) = mj_rs [some 66] := by
  funext k
  match k with
  | 0 => rfl
  | k + 1 => simp [va_up, mj_rs]
theorem rq_67 : (va_up (va_up (fun _ => none) 0 (some 68)) 1 (some 69)) = mj_rs [some 68, some 69] := by
  funext k
  match k with
  | 0 => rfl
  | 1 => rfl
  | k + 2 => simp [va_up, mj_rs]
theorem rq_70 : (va_up (fun _ => none) 1 (some 71)) = mj_rs [none, some 71] := by
  funext k
  match k with
  | 0 => rfl
  | 1 => rfl
  | k + 2 => simp [va_up, mj_rs]
theorem rq_72 : (va_up (va_up (va_up (va_up (va_up (va_up (va_up (va_up (va_up (fun _ => none) 5 (some 73)) 6 (some 74)) 7 (some 75)) 8 (some 76)) 9 (some 77)) 10 (some 78)) 11 (some 81)) 12 (some 83)) 13 (some 86)) = mj_rs [none, none, none, none, none, some 73, some 74, some 75, some 76, some 77, some 78, some 81, some 83, some 86] := by
  funext k
  match k with
  | 0 => rfl
  | 1 => rfl
  | 2 => rfl
  | 3 => rfl
  | 4 => rfl
  | 5 => rfl
  | 6 => rfl
  | 7 => rfl
  | 8 => rfl
  | 9 => rfl
  | 10 => rfl
  | 11 => rfl
  | 12 => rfl
  | 13 => rfl
  | k + 14 => simp [va_up, mj_rs]
theorem rq_78 : (va_up (va_up (fun _ => none) 0 (some 79)) 1 (some 80)) = mj_rs [some 79, some 80] := by
  funext k
  match k with
  | 0 => rfl
  | 1 => rfl
  | k + 2 => simp [va_up, mj_rs]
theorem rq_81 : (va_up (fun _ => none) 0 (some 82)) = mj_rs [some 82] := by
  funext k
  match k with
  | 0 => rfl
  | k + 1 => simp [va_up, mj_rs]
theorem rq_83 : (va_up (va_up (fun _ => none) 0 (some 84)) 1 (some 85)) = mj_rs [some 84, some 85] := by
  funext k
  match k with
  | 0 => rfl
  | 1 => rfl
  | k + 2 => simp [va_up, mj_rs]
theorem rq_86 : (va_up (fun _ => none) 1 (some 87)) = mj_rs [none, some 87] := by
  funext k
  match k with
  | 0 => rfl
  | 1 => rfl
  | k + 2 => simp [va_up, mj_rs]
theorem rq_88 : (va_up (va_up (va_up (va_up (va_up (va_up (va_up (va_up (va_up (va_up (va_up (va_up (va_up (va_up (fun _ => none) 0 (some 89)) 1 (some 90)) 2 (some 91)) 3 (some 92)) 5 (some 93)) 6 (some 94)) 7 (some 95)) 8 (some 96)) 9 (some 97)) 10 (some 98)) 17 (some 99)) 18 (some 100)) 19 (some 101)) 20 (some 102)) = mj_rs [some 89, some 90, some 91, some 92, none, some 93, some 94, some 95, some 96, some 97, some 98, none, none, none, none, none, none, some 99, some 100, some 101, some 102] := by
  funext k
  match k with
  | 0 => rfl
  | 1 => rfl
  | 2 => rfl
  | 3 => rfl
  | 4 => rfl
  | 5 => rfl
  | 6 => rfl
  | 7 => rfl
  | 8 => rfl
  | 9 => rfl
  | 10 => rfl
  | 11 => rfl
  | 12 => rfl
  | 13 => rfl
  | 14 => rfl
  | 15 => rfl
  | 16 => rfl
  | 17 => rfl
  | 18 => rfl
  | 19 => rfl
  | 20 => rfl
  | k + 21 => simp [va_up, mj_rs]
theorem sh_all : ([(3, 6, (va_up (va_up (va_up (va_up (va_up (va_up (fun _ => none) 0 (some 1)) 1 (some 17)) 2 (some 18)) 3 (some 19)) 4 (some 21)) 5 (some 23))), (12, 14, (va_up (va_up (va_up (va_up (va_up (va_up (va_up (va_up (va_up (fun _ => none) 5 (some 2)) 6 (some 3)) 7 (some 4)) 8 (some 5)) 9 (some 6)) 10 (some 7)) 11 (some 10)) 12 (some 12)) 13 (some 15))), (0, 12, (fun _ => none)), (0, 12, (fun _ => none)), (0, 12, (fun _ => none)), (0, 12, (fun _ => none)), (0, 720, (fun _ => none)), (10, 2, (va_up (va_up (fun _ => none) 0 (some 8)) 1 (some 9))), (0, 600, (fun _ => none)), (0, 60, (fun _ => none)), (13, 1, (va_up (fun _ => none) 0 (some 11))), (0, 55, (fun _ => none)), (9, 2, (va_up (va_up (fun _ => none) 0 (some 13)) 1 (some 14))), (0, 12, (fun _ => none)), (0, 648, (fun _ => none)), (5, 2, (va_up (fun _ => none) 1 (some 16))), (0, 80, (fun _ => none)), (2, 3, (va_up (va_up (va_up (fun _ => none) 0 (some 40)) 1 (some 56)) 2 (some 72))), (1, 3, (fun _ => none)), (11, 2, (va_up (fun _ => none) 1 (some 20))), (0, 60, (fun _ => none)), (8, 3, (va_up (fun _ => none) 0 (some 22))), (0, 9, (fun _ => none)), (4, 2, (va_up (va_up (fun _ => none) 0 (some 24)) 1 (some 25))), (0, 12, (fun _ => none)), (6, 5, (va_up (va_up (va_up (va_up (fun _ => none) 0 (some 26)) 1 (some 32)) 2 (some 38)) 3 (some 39))), (7, 7, (va_up (va_up (va_up (va_up (va_up (fun _ => none) 0 (some 27)) 1 (some 28)) 2 (some 29)) 3 (some 30)) 5 (some 31))), (0, 72, (fun _ => none)), (0, 72, (fun _ => none)), (0, 72, (fun _ => none)), (0, 72, (fun _ => none)), (0, 72, (fun _ => none)), (7, 7, (va_up (va_up (va_up (va_up (va_up (fun _ => none) 0 (some 33)) 1 (some 34)) 2 (some 35)) 3 (some 36)) 5 (some 37))), (0, 72, (fun _ => none)), (0, 72, (fun _ => none)), (0, 72, (fun _ => none)), (0, 72, (fun _ => none)), (0, 72, (fun _ => none)), (0, 60, (fun _ => none)), (0, 12, (fun _ => none)), (12, 14, (va_up (va_up (va_up (va_up (va_up (va_up (va_up (va_up (va_up (fun _ => none) 5 (some 41)) 6 (some 42)) 7 (some 43)) 8 (some 44)) 9 (some 45)) 10 (some 46)) 11 (some 49)) 12 (some 51)) 13 (some 54))), (0, 12, (fun _ => none)), (0, 12, (fun _ => none)), (0, 12, (fun _ => none)), (0, 12, (fun _ => none)), (0, 720, (fun _ => none)), (10, 2, (va_up (va_up (fun _ => none) 0 (some 47)) 1 (some 48))), (0, 600, (fun _ => none)), (0, 60, (fun _ => none)), (13, 1, (va_up (fun _ => none) 0 (some 50))), (0, 55, (fun _ => none)), (9, 2, (va_up (va_up (fun _ => none) 0 (some 52)) 1 (some 53))), (0, 12, (fun _ => none)), (0, 648, (fun _ => none)), (5, 2, (va_up (fun _ => none) 1 (some 55))), (0, 80, (fun _ => none)), (12, 14, (va_up (va_up (va_up (va_up (va_up (va_up (va_up (va_up (va_up (fun _ => none) 5 (some 57)) 6 (some 58)) 7 (some 59)) 8 (some 60)) 9 (some 61)) 10 (some 62)) 11 (some 65)) 12 (some 67)) 13 (some 70))), (0, 12, (fun _ => none)), (0, 12, (fun _ => none)), (0, 12, (fun _ => none)), (0, 12, (fun _ => none)), (0, 720, (fun _ => none)), (10, 2, (va_up (va_up (fun _ => none) 0 (some 63)) 1 (some 64))), (0, 600, (fun _ => none)), (0, 60, (fun _ => none)), (13, 1, (va_up (fun _ => none) 0 (some 66))), (0, 55, (fun _ => none)), (9, 2, (va_up (va_up (fun _ => none) 0 (some 68)) 1 (some 69))), (0, 12, (fun _ => none)), (0, 648, (fun _ => none)), (5, 2, (va_up (fun _ => none) 1 (some 71))), (0, 80, (fun _ => none)), (12, 14, (va_up (va_up (va_up (va_up (va_up (va_up (va_up (va_up (va_up (fun _ => none) 5 (some 73)) 6 (some 74)) 7 (some 75)) 8 (some 76)) 9 (some 77)) 10 (some 78)) 11 (some 81)) 12 (some 83)) 13 (some 86))), (0, 12, (fun _ => none)), (0, 12, (fun _ => none)), (0, 12, (fun _ => none)), (0, 12, (fun _ => none)), (0, 720, (fun _ => none)), (10, 2, (va_up (va_up (fun _ => none) 0 (some 79)) 1 (some 80))), (0, 600, (fun _ => none)), (0, 60, (fun _ => none)), (13, 1, (va_up (fun _ => none) 0 (some 82))), (0, 55, (fun _ => none)), (9, 2, (va_up (va_up (fun _ => none) 0 (some 84)) 1 (some 85))), (0, 12, (fun _ => none)), (0, 648, (fun _ => none)), (5, 2, (va_up (fun _ => none) 1 (some 87))), (0, 80, (fun _ => none)), (14, 21, (va_up (va_up (va_up (va_up (va_up (va_up (va_up (va_up (va_up (va_up (va_up (va_up (va_up (va_up (fun _ => none) 0 (some 89)) 1 (some 90)) 2 (some 91)) 3 (some 92)) 5 (some 93)) 6 (some 94)) 7 (some 95)) 8 (some 96)) 9 (some 97)) 10 (some 98)) 17 (some 99)) 18 (some 100)) 19 (some 101)) 20 (some 102))), (0, 2200, (fun _ => none)), (0, 6600, (fun _ => none)), (1, 3, (fun _ => none)), (0, 60, (fun _ => none)), (0, 80, (fun _ => none)), (0, 80, (fun _ => none)), (0, 80, (fun _ => none)), (0, 80, (fun _ => none)), (1, 80, (fun _ => none)), (0, 80, (fun _ => none)), (0, 9, (fun _ => none)), (0, 12, (fun _ => none)), (0, 10, (fun _ => none)), (0, 20, (fun _ => none))] : List (Nat × Nat × (Nat → Option Nat))) = SH := by
  rw [rq_0, rq_1, rq_7, rq_10, rq_12, rq_15, rq_17, rq_19, rq_21, rq_23, rq_25, rq_26, rq_32, rq_40, rq_46, rq_49, rq_51, rq_54, rq_56, rq_62, rq_65, rq_67, rq_70, rq_72, rq_78, rq_81, rq_83, rq_86, rq_88]
  rfl
/-- the numbers behind the constructors -/
def S0 : St := (mj_wr (mj_wr (mj_wr (mj_wr (mj_wr (mj_wr (mj_wr (mj_wr (mj_wr (mj_wr (mj_wr (mj_wr (mj_wr (mj_wr (mj_wr (mj_wr (mj_wr (mj_wr (mj_wr (mj_wr (mj_wr (mj_wr (mj_wr (mj_wr (mj_wr (mj_wr (mj_wr (mj_wr (mj_wr (mj_wr (fun _ _ => 0) 1 2 1) 11 8 (-1)) 11 19 (-1)) 11 30 (-1)) 11 41 (-1)) 11 52 (-1)) 40 2 1) 50 8 (-1)) 50 19 (-1)) 50 30 (-1)) 50 41 (-1)) 50 52 (-1)) 56 2 1) 66 8 (-1)) 66 19 (-1)) 66 30 (-1)) 66 41 (-1)) 66 52 (-1)) 72 2 1) 82 8 (-1)) 82 19 (-1)) 82 30 (-1)) 82 41 (-1)) 82 52 (-1)) 89 2165 1) 89 1316 (-1)) 89 1327 (-1)) 89 1338 (-1)) 89 1349 (-1)) 89 1360 (-1))
