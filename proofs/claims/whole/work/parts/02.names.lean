def TB : List Cond := lw_tbl.filter goodWord
theorem tb_at (i : Nat) {w : Cond} (h : lw_tbl[i]? = some w) (g : goodWord w = true) : w ∈ TB := List.mem_filter.mpr ⟨List.mem_of_getElem? h, g⟩
/-- MarketTown -/
def kT0 : u_T := fun k => match k with
  | 0 => ("MarketTown", "town", "LMarketTown$Town;", true)
  | 1 => ("MarketTown", "worlds", "[LMarketTown$Town;", true)
  | 2 => ("MarketTown", "laidAside", "[Z", true)
  | 3 => ("MarketTown", "tape", "LMarketTown$Tape;", true)
  | 4 => ("MarketTown", "reader", "LMarketTown$RuleReader;", true)
  | _ => ("MarketTown", "days", "LMarketTown$Day;", true)
def kY0 : Nat → FieldType := fun k => match k with
  | 0 => (.object "MarketTown$Town")
  | 1 => (.array (.object "MarketTown$Town"))
  | 2 => (.array .boolean)
  | 3 => (.object "MarketTown$Tape")
  | 4 => (.object "MarketTown$RuleReader")
  | _ => (.object "MarketTown$Day")
theorem kW0 : ∀ w ∈ u_ws "MarketTown" kT0 6, w ∈ TB := by
  intro w hw
  obtain ⟨k, hk, rfl⟩ := List.mem_map.mp hw
  have hk := List.mem_range.mp hk
  rcases (show k = 0 ∨ k = 1 ∨ k = 2 ∨ k = 3 ∨ k = 4 ∨ k = 5 by omega) with rfl | rfl | rfl | rfl | rfl | rfl
  · exact tb_at 347 (by decide +kernel) (by decide +kernel)
  · exact tb_at 349 (by decide +kernel) (by decide +kernel)
  · exact tb_at 351 (by decide +kernel) (by decide +kernel)
  · exact tb_at 353 (by decide +kernel) (by decide +kernel)
  · exact tb_at 355 (by decide +kernel) (by decide +kernel)
  · exact tb_at 357 (by decide +kernel) (by decide +kernel)
theorem kN0 : ∀ a, a < 6 → ∀ b, b < 6 → a ≠ b → (kT0 a).2.1 ≠ (kT0 b).2.1 := by decide +kernel
theorem kP0 : ∀ k, k < 6 → parseFieldDescriptor (kT0 k).2.2.1 = some (kY0 k) := by decide +kernel
theorem kD0 : ∀ k, k < 6 → (kT0 k).1 = "MarketTown" := by decide +kernel
/-- MarketTown$Day -/
def kT1 : u_T := fun k => match k with
  | 0 => ("MarketTown$Day", "order", "[I", true)
  | _ => ("MarketTown$Day", "market", "LMarketTown$Market;", true)
def kY1 : Nat → FieldType := fun k => match k with
  | 0 => (.array .int)
  | _ => (.object "MarketTown$Market")
theorem kW1 : ∀ w ∈ u_ws "MarketTown$Day" kT1 2, w ∈ TB := by
  intro w hw
  obtain ⟨k, hk, rfl⟩ := List.mem_map.mp hw
  have hk := List.mem_range.mp hk
  rcases (show k = 0 ∨ k = 1 by omega) with rfl | rfl
  · exact tb_at 336 (by decide +kernel) (by decide +kernel)
  · exact tb_at 338 (by decide +kernel) (by decide +kernel)
theorem kN1 : ∀ a, a < 2 → ∀ b, b < 2 → a ≠ b → (kT1 a).2.1 ≠ (kT1 b).2.1 := by decide +kernel
theorem kP1 : ∀ k, k < 2 → parseFieldDescriptor (kT1 k).2.2.1 = some (kY1 k) := by decide +kernel
theorem kD1 : ∀ k, k < 2 → (kT1 k).1 = "MarketTown$Day" := by decide +kernel
/-- MarketTown$Loans -/
def kT2 : u_T := fun k => match k with
  | 0 => ("MarketTown$Loans", "size", "I", false)
  | _ => ("MarketTown$Loans", "cells", "[I", true)
def kY2 : Nat → FieldType := fun k => match k with
  | 0 => .int
  | _ => (.array .int)
theorem kW2 : ∀ w ∈ u_ws "MarketTown$Loans" kT2 2, w ∈ TB := by
  intro w hw
  obtain ⟨k, hk, rfl⟩ := List.mem_map.mp hw
  have hk := List.mem_range.mp hk
  rcases (show k = 0 ∨ k = 1 by omega) with rfl | rfl
  · exact tb_at 159 (by decide +kernel) (by decide +kernel)
  · exact tb_at 161 (by decide +kernel) (by decide +kernel)
theorem kN2 : ∀ a, a < 2 → ∀ b, b < 2 → a ≠ b → (kT2 a).2.1 ≠ (kT2 b).2.1 := by decide +kernel
theorem kP2 : ∀ k, k < 2 → parseFieldDescriptor (kT2 k).2.2.1 = some (kY2 k) := by decide +kernel
theorem kD2 : ∀ k, k < 2 → (kT2 k).1 = "MarketTown$Loans" := by decide +kernel
/-- MarketTown$Market -/
def kT3 : u_T := fun k => match k with
  | 0 => ("MarketTown$Market", "asks", "LMarketTown$Offers;", true)
  | 1 => ("MarketTown$Market", "bids", "LMarketTown$Offers;", true)
  | 2 => ("MarketTown$Market", "offered", "[I", true)
  | 3 => ("MarketTown$Market", "held", "[I", true)
  | _ => ("MarketTown$Market", "council", "I", false)
def kY3 : Nat → FieldType := fun k => match k with
  | 0 => (.object "MarketTown$Offers")
  | 1 => (.object "MarketTown$Offers")
  | 2 => (.array .int)
  | 3 => (.array .int)
  | _ => .int
theorem kW3 : ∀ w ∈ u_ws "MarketTown$Market" kT3 5, w ∈ TB := by
  intro w hw
  obtain ⟨k, hk, rfl⟩ := List.mem_map.mp hw
  have hk := List.mem_range.mp hk
  rcases (show k = 0 ∨ k = 1 ∨ k = 2 ∨ k = 3 ∨ k = 4 by omega) with rfl | rfl | rfl | rfl | rfl
  · exact tb_at 323 (by decide +kernel) (by decide +kernel)
  · exact tb_at 325 (by decide +kernel) (by decide +kernel)
  · exact tb_at 327 (by decide +kernel) (by decide +kernel)
  · exact tb_at 329 (by decide +kernel) (by decide +kernel)
  · exact tb_at 331 (by decide +kernel) (by decide +kernel)
theorem kN3 : ∀ a, a < 5 → ∀ b, b < 5 → a ≠ b → (kT3 a).2.1 ≠ (kT3 b).2.1 := by decide +kernel
theorem kP3 : ∀ k, k < 5 → parseFieldDescriptor (kT3 k).2.2.1 = some (kY3 k) := by decide +kernel
theorem kD3 : ∀ k, k < 5 → (kT3 k).1 = "MarketTown$Market" := by decide +kernel
/-- MarketTown$Offers -/
def kT4 : u_T := fun k => match k with
  | 0 => ("MarketTown$Offers", "agent", "[I", true)
  | 1 => ("MarketTown$Offers", "price", "[I", true)
  | 2 => ("MarketTown$Offers", "left", "[I", true)
  | 3 => ("MarketTown$Offers", "picked", "[I", true)
  | 4 => ("MarketTown$Offers", "picks", "I", false)
  | 5 => ("MarketTown$Offers", "ware", "[I", true)
  | _ => ("MarketTown$Offers", "size", "I", false)
def kY4 : Nat → FieldType := fun k => match k with
  | 0 => (.array .int)
  | 1 => (.array .int)
  | 2 => (.array .int)
  | 3 => (.array .int)
  | 4 => .int
  | 5 => (.array .int)
  | _ => .int
theorem kW4 : ∀ w ∈ u_ws "MarketTown$Offers" kT4 7, w ∈ TB := by
  intro w hw
  obtain ⟨k, hk, rfl⟩ := List.mem_map.mp hw
  have hk := List.mem_range.mp hk
  rcases (show k = 0 ∨ k = 1 ∨ k = 2 ∨ k = 3 ∨ k = 4 ∨ k = 5 ∨ k = 6 by omega) with rfl | rfl | rfl | rfl | rfl | rfl | rfl
  · exact tb_at 303 (by decide +kernel) (by decide +kernel)
  · exact tb_at 305 (by decide +kernel) (by decide +kernel)
  · exact tb_at 307 (by decide +kernel) (by decide +kernel)
  · exact tb_at 309 (by decide +kernel) (by decide +kernel)
  · exact tb_at 311 (by decide +kernel) (by decide +kernel)
  · exact tb_at 313 (by decide +kernel) (by decide +kernel)
  · exact tb_at 315 (by decide +kernel) (by decide +kernel)
theorem kN4 : ∀ a, a < 7 → ∀ b, b < 7 → a ≠ b → (kT4 a).2.1 ≠ (kT4 b).2.1 := by decide +kernel
theorem kP4 : ∀ k, k < 7 → parseFieldDescriptor (kT4 k).2.2.1 = some (kY4 k) := by decide +kernel
theorem kD4 : ∀ k, k < 7 → (kT4 k).1 = "MarketTown$Offers" := by decide +kernel
/-- MarketTown$RuleReader -/
def kT5 : u_T := fun k => match k with
  | 0 => ("MarketTown$RuleReader", "row", "[I", true)
  | 1 => ("MarketTown$RuleReader", "start", "I", false)
  | _ => ("MarketTown$RuleReader", "end", "I", false)
def kY5 : Nat → FieldType := fun k => match k with
  | 0 => (.array .int)
  | 1 => .int
  | _ => .int
theorem kW5 : ∀ w ∈ u_ws "MarketTown$RuleReader" kT5 3, w ∈ TB := by
  intro w hw
  obtain ⟨k, hk, rfl⟩ := List.mem_map.mp hw
  have hk := List.mem_range.mp hk
  rcases (show k = 0 ∨ k = 1 ∨ k = 2 by omega) with rfl | rfl | rfl
  · exact tb_at 266 (by decide +kernel) (by decide +kernel)
  · exact tb_at 268 (by decide +kernel) (by decide +kernel)
  · exact tb_at 270 (by decide +kernel) (by decide +kernel)
theorem kN5 : ∀ a, a < 3 → ∀ b, b < 3 → a ≠ b → (kT5 a).2.1 ≠ (kT5 b).2.1 := by decide +kernel
theorem kP5 : ∀ k, k < 3 → parseFieldDescriptor (kT5 k).2.2.1 = some (kY5 k) := by decide +kernel
theorem kD5 : ∀ k, k < 3 → (kT5 k).1 = "MarketTown$RuleReader" := by decide +kernel
/-- MarketTown$Rules -/
def kT6 : u_T := fun k => match k with
  | 0 => ("MarketTown$Rules", "size", "[I", true)
  | _ => ("MarketTown$Rules", "cells", "[I", true)
def kY6 : Nat → FieldType := fun k => match k with
  | 0 => (.array .int)
  | _ => (.array .int)
theorem kW6 : ∀ w ∈ u_ws "MarketTown$Rules" kT6 2, w ∈ TB := by
  intro w hw
  obtain ⟨k, hk, rfl⟩ := List.mem_map.mp hw
  have hk := List.mem_range.mp hk
  rcases (show k = 0 ∨ k = 1 by omega) with rfl | rfl
  · exact tb_at 145 (by decide +kernel) (by decide +kernel)
  · exact tb_at 147 (by decide +kernel) (by decide +kernel)
theorem kN6 : ∀ a, a < 2 → ∀ b, b < 2 → a ≠ b → (kT6 a).2.1 ≠ (kT6 b).2.1 := by decide +kernel
theorem kP6 : ∀ k, k < 2 → parseFieldDescriptor (kT6 k).2.2.1 = some (kY6 k) := by decide +kernel
theorem kD6 : ∀ k, k < 2 → (kT6 k).1 = "MarketTown$Rules" := by decide +kernel
/-- MarketTown$Stock -/
def kT7 : u_T := fun k => match k with
  | 0 => ("MarketTown$Stock", "pieces", "[I", true)
  | _ => ("MarketTown$Stock", "sums", "[I", true)
def kY7 : Nat → FieldType := fun k => match k with
  | 0 => (.array .int)
  | _ => (.array .int)
theorem kW7 : ∀ w ∈ u_ws "MarketTown$Stock" kT7 2, w ∈ TB := by
  intro w hw
  obtain ⟨k, hk, rfl⟩ := List.mem_map.mp hw
  have hk := List.mem_range.mp hk
  rcases (show k = 0 ∨ k = 1 by omega) with rfl | rfl
  · exact tb_at 119 (by decide +kernel) (by decide +kernel)
  · exact tb_at 121 (by decide +kernel) (by decide +kernel)
theorem kN7 : ∀ a, a < 2 → ∀ b, b < 2 → a ≠ b → (kT7 a).2.1 ≠ (kT7 b).2.1 := by decide +kernel
theorem kP7 : ∀ k, k < 2 → parseFieldDescriptor (kT7 k).2.2.1 = some (kY7 k) := by decide +kernel
theorem kD7 : ∀ k, k < 2 → (kT7 k).1 = "MarketTown$Stock" := by decide +kernel
/-- MarketTown$Tape -/
def kT8 : u_T := fun k => match k with
  | 0 => ("MarketTown$Tape", "length", "I", false)
  | _ => ("MarketTown$Tape", "bytes", "[I", true)
def kY8 : Nat → FieldType := fun k => match k with
  | 0 => .int
  | _ => (.array .int)
theorem kW8 : ∀ w ∈ u_ws "MarketTown$Tape" kT8 2, w ∈ TB := by
  intro w hw
  obtain ⟨k, hk, rfl⟩ := List.mem_map.mp hw
  have hk := List.mem_range.mp hk
  rcases (show k = 0 ∨ k = 1 by omega) with rfl | rfl
  · exact tb_at 249 (by decide +kernel) (by decide +kernel)
  · exact tb_at 251 (by decide +kernel) (by decide +kernel)
theorem kN8 : ∀ a, a < 2 → ∀ b, b < 2 → a ≠ b → (kT8 a).2.1 ≠ (kT8 b).2.1 := by decide +kernel
theorem kP8 : ∀ k, k < 2 → parseFieldDescriptor (kT8 k).2.2.1 = some (kY8 k) := by decide +kernel
theorem kD8 : ∀ k, k < 2 → (kT8 k).1 = "MarketTown$Tape" := by decide +kernel
/-- MarketTown$Town -/
def kT9 : u_T := fun k => match k with
  | 0 => ("MarketTown$Town", "agents", "I", false)
  | 1 => ("MarketTown$Town", "day", "I", false)
  | 2 => ("MarketTown$Town", "lots", "I", false)
  | 3 => ("MarketTown$Town", "tax", "I", false)
  | 4 => ("MarketTown$Town", "interest", "I", false)
  | 5 => ("MarketTown$Town", "kind", "[I", true)
  | 6 => ("MarketTown$Town", "cash", "[I", true)
  | 7 => ("MarketTown$Town", "broke", "[I", true)
  | 8 => ("MarketTown$Town", "place", "[I", true)
  | 9 => ("MarketTown$Town", "payments", "[I", true)
  | 10 => ("MarketTown$Town", "stock", "LMarketTown$Stock;", true)
  | 11 => ("MarketTown$Town", "wares", "LMarketTown$Wares;", true)
  | 12 => ("MarketTown$Town", "rules", "LMarketTown$Rules;", true)
  | _ => ("MarketTown$Town", "loans", "LMarketTown$Loans;", true)
def kY9 : Nat → FieldType := fun k => match k with
  | 0 => .int
  | 1 => .int
  | 2 => .int
  | 3 => .int
  | 4 => .int
  | 5 => (.array .int)
  | 6 => (.array .int)
  | 7 => (.array .int)
  | 8 => (.array .int)
  | 9 => (.array .int)
  | 10 => (.object "MarketTown$Stock")
  | 11 => (.object "MarketTown$Wares")
  | 12 => (.object "MarketTown$Rules")
  | _ => (.object "MarketTown$Loans")
theorem kW9 : ∀ w ∈ u_ws "MarketTown$Town" kT9 14, w ∈ TB := by
  intro w hw
  obtain ⟨k, hk, rfl⟩ := List.mem_map.mp hw
  have hk := List.mem_range.mp hk
  rcases (show k = 0 ∨ k = 1 ∨ k = 2 ∨ k = 3 ∨ k = 4 ∨ k = 5 ∨ k = 6 ∨ k = 7 ∨ k = 8 ∨ k = 9 ∨ k = 10 ∨ k = 11 ∨ k = 12 ∨ k = 13 by omega) with rfl | rfl | rfl | rfl | rfl | rfl | rfl | rfl | rfl | rfl | rfl | rfl | rfl | rfl
  · exact tb_at 210 (by decide +kernel) (by decide +kernel)
  · exact tb_at 212 (by decide +kernel) (by decide +kernel)
  · exact tb_at 214 (by decide +kernel) (by decide +kernel)
  · exact tb_at 216 (by decide +kernel) (by decide +kernel)
  · exact tb_at 218 (by decide +kernel) (by decide +kernel)
  · exact tb_at 220 (by decide +kernel) (by decide +kernel)
  · exact tb_at 222 (by decide +kernel) (by decide +kernel)
  · exact tb_at 224 (by decide +kernel) (by decide +kernel)
  · exact tb_at 226 (by decide +kernel) (by decide +kernel)
  · exact tb_at 228 (by decide +kernel) (by decide +kernel)
  · exact tb_at 230 (by decide +kernel) (by decide +kernel)
  · exact tb_at 232 (by decide +kernel) (by decide +kernel)
  · exact tb_at 234 (by decide +kernel) (by decide +kernel)
  · exact tb_at 236 (by decide +kernel) (by decide +kernel)
theorem kN9 : ∀ a, a < 14 → ∀ b, b < 14 → a ≠ b → (kT9 a).2.1 ≠ (kT9 b).2.1 := by decide +kernel
theorem kP9 : ∀ k, k < 14 → parseFieldDescriptor (kT9 k).2.2.1 = some (kY9 k) := by decide +kernel
theorem kD9 : ∀ k, k < 14 → (kT9 k).1 = "MarketTown$Town" := by decide +kernel
/-- MarketTown$Wares -/
def kT10 : u_T := fun k => match k with
  | _ => ("MarketTown$Wares", "cells", "[I", true)
def kY10 : Nat → FieldType := fun k => match k with
  | _ => (.array .int)
theorem kW10 : ∀ w ∈ u_ws "MarketTown$Wares" kT10 1, w ∈ TB := by
  intro w hw
  obtain ⟨k, hk, rfl⟩ := List.mem_map.mp hw
  have hk := List.mem_range.mp hk
  rcases (show k = 0 by omega) with rfl
  · exact tb_at 132 (by decide +kernel) (by decide +kernel)
theorem kN10 : ∀ a, a < 1 → ∀ b, b < 1 → a ≠ b → (kT10 a).2.1 ≠ (kT10 b).2.1 := by decide +kernel
theorem kP10 : ∀ k, k < 1 → parseFieldDescriptor (kT10 k).2.2.1 = some (kY10 k) := by decide +kernel
theorem kD10 : ∀ k, k < 1 → (kT10 k).1 = "MarketTown$Wares" := by decide +kernel
/-- MarketTownModel -/
def kT11 : u_T := fun k => match k with
  | 0 => ("MarketTownModel", "s", "[I", true)
  | 1 => ("MarketTownModel", "worlds", "[I", true)
  | 2 => ("MarketTownModel", "isWorld", "[Z", true)
  | 3 => ("MarketTownModel", "tape", "[I", true)
  | 4 => ("MarketTownModel", "taped", "I", false)
  | 5 => ("MarketTownModel", "who", "[I", true)
  | 6 => ("MarketTownModel", "what", "[I", true)
  | 7 => ("MarketTownModel", "told", "[I", true)
  | 8 => ("MarketTownModel", "price", "[I", true)
  | 9 => ("MarketTownModel", "isBid", "[Z", true)
  | 10 => ("MarketTownModel", "left", "[I", true)
  | 11 => ("MarketTownModel", "offers", "I", false)
  | 12 => ("MarketTownModel", "length", "I", false)
  | 13 => ("MarketTownModel", "at", "I", false)
  | 14 => ("MarketTownModel", "from", "I", false)
  | 15 => ("MarketTownModel", "to", "I", false)
  | 16 => ("MarketTownModel", "fault", "I", false)
  | 17 => ("MarketTownModel", "row", "[I", true)
  | 18 => ("MarketTownModel", "order", "[I", true)
  | 19 => ("MarketTownModel", "moving", "[I", true)
  | _ => ("MarketTownModel", "shares", "[I", true)
def kY11 : Nat → FieldType := fun k => match k with
  | 0 => (.array .int)
  | 1 => (.array .int)
  | 2 => (.array .boolean)
  | 3 => (.array .int)
  | 4 => .int
  | 5 => (.array .int)
  | 6 => (.array .int)
  | 7 => (.array .int)
  | 8 => (.array .int)
  | 9 => (.array .boolean)
  | 10 => (.array .int)
  | 11 => .int
  | 12 => .int
  | 13 => .int
  | 14 => .int
  | 15 => .int
  | 16 => .int
  | 17 => (.array .int)
  | 18 => (.array .int)
  | 19 => (.array .int)
  | _ => (.array .int)
theorem kW11 : ∀ w ∈ u_ws "MarketTownModel" kT11 21, w ∈ TB := by
  intro w hw
  obtain ⟨k, hk, rfl⟩ := List.mem_map.mp hw
  have hk := List.mem_range.mp hk
  rcases (show k = 0 ∨ k = 1 ∨ k = 2 ∨ k = 3 ∨ k = 4 ∨ k = 5 ∨ k = 6 ∨ k = 7 ∨ k = 8 ∨ k = 9 ∨ k = 10 ∨ k = 11 ∨ k = 12 ∨ k = 13 ∨ k = 14 ∨ k = 15 ∨ k = 16 ∨ k = 17 ∨ k = 18 ∨ k = 19 ∨ k = 20 by omega) with rfl | rfl | rfl | rfl | rfl | rfl | rfl | rfl | rfl | rfl | rfl | rfl | rfl | rfl | rfl | rfl | rfl | rfl | rfl | rfl | rfl
  · exact tb_at 948 (by decide +kernel) (by decide +kernel)
  · exact tb_at 950 (by decide +kernel) (by decide +kernel)
  · exact tb_at 952 (by decide +kernel) (by decide +kernel)
  · exact tb_at 954 (by decide +kernel) (by decide +kernel)
  · exact tb_at 956 (by decide +kernel) (by decide +kernel)
  · exact tb_at 958 (by decide +kernel) (by decide +kernel)
  · exact tb_at 960 (by decide +kernel) (by decide +kernel)
  · exact tb_at 962 (by decide +kernel) (by decide +kernel)
  · exact tb_at 964 (by decide +kernel) (by decide +kernel)
  · exact tb_at 966 (by decide +kernel) (by decide +kernel)
  · exact tb_at 968 (by decide +kernel) (by decide +kernel)
  · exact tb_at 970 (by decide +kernel) (by decide +kernel)
  · exact tb_at 972 (by decide +kernel) (by decide +kernel)
  · exact tb_at 974 (by decide +kernel) (by decide +kernel)
  · exact tb_at 976 (by decide +kernel) (by decide +kernel)
  · exact tb_at 978 (by decide +kernel) (by decide +kernel)
  · exact tb_at 980 (by decide +kernel) (by decide +kernel)
  · exact tb_at 982 (by decide +kernel) (by decide +kernel)
  · exact tb_at 984 (by decide +kernel) (by decide +kernel)
  · exact tb_at 986 (by decide +kernel) (by decide +kernel)
  · exact tb_at 988 (by decide +kernel) (by decide +kernel)
theorem kN11 : ∀ a, a < 21 → ∀ b, b < 21 → a ≠ b → (kT11 a).2.1 ≠ (kT11 b).2.1 := by decide +kernel
theorem kP11 : ∀ k, k < 21 → parseFieldDescriptor (kT11 k).2.2.1 = some (kY11 k) := by decide +kernel
theorem kD11 : ∀ k, k < 21 → (kT11 k).1 = "MarketTownModel" := by decide +kernel
abbrev kCls : List vw_C := [("MarketTown", kT0, 6), ("MarketTown$Day", kT1, 2), ("MarketTown$Loans", kT2, 2), ("MarketTown$Market", kT3, 5), ("MarketTown$Offers", kT4, 7), ("MarketTown$RuleReader", kT5, 3), ("MarketTown$Rules", kT6, 2), ("MarketTown$Stock", kT7, 2), ("MarketTown$Tape", kT8, 2), ("MarketTown$Town", kT9, 14), ("MarketTown$Wares", kT10, 1), ("MarketTownModel", kT11, 21)]
def kTy : Nat → Nat → FieldType := fun c => match c with
  | 0 => kY0
  | 1 => kY1
  | 2 => kY2
  | 3 => kY3
  | 4 => kY4
  | 5 => kY5
  | 6 => kY6
  | 7 => kY7
  | 8 => kY8
  | 9 => kY9
  | 10 => kY10
  | _ => kY11
def kFty (t : FieldType) : Bool := match t with
  | .object _ => true
  | .array _ => true
  | _ => false
def kRf (c k : Nat) : Bool := kFty (kTy c k)
theorem kOk {ci N : Nat} {C : String} {T : u_T} (h : kCls[ci]? = some (C, T, N)) : (∀ w ∈ u_ws C T N, w ∈ TB) ∧ (∀ a, a < N → ∀ b, b < N → a ≠ b → (T a).2.1 ≠ (T b).2.1) ∧ (∀ k, k < N → parseFieldDescriptor (T k).2.2.1 = some (kTy ci k)) ∧ (∀ k, k < N → (T k).1 = C) := by
  match ci, h with
  | 0, h => cases h; exact ⟨kW0, kN0, kP0, kD0⟩
  | 1, h => cases h; exact ⟨kW1, kN1, kP1, kD1⟩
  | 2, h => cases h; exact ⟨kW2, kN2, kP2, kD2⟩
  | 3, h => cases h; exact ⟨kW3, kN3, kP3, kD3⟩
  | 4, h => cases h; exact ⟨kW4, kN4, kP4, kD4⟩
  | 5, h => cases h; exact ⟨kW5, kN5, kP5, kD5⟩
  | 6, h => cases h; exact ⟨kW6, kN6, kP6, kD6⟩
  | 7, h => cases h; exact ⟨kW7, kN7, kP7, kD7⟩
  | 8, h => cases h; exact ⟨kW8, kN8, kP8, kD8⟩
  | 9, h => cases h; exact ⟨kW9, kN9, kP9, kD9⟩
  | 10, h => cases h; exact ⟨kW10, kN10, kP10, kD10⟩
  | 11, h => cases h; exact ⟨kW11, kN11, kP11, kD11⟩
  | n + 12, h => simp [kCls] at h
def kNest : List (String × Nat × MethodName × String) := [("MarketTown", 11, ⟨"MarketTown$Town", "<init>", "()V"⟩, "MarketTown"), ("MarketTown$Town", 33, ⟨"MarketTown$Stock", "<init>", "()V"⟩, "MarketTown"), ("MarketTown$Town", 47, ⟨"MarketTown$Rules", "<init>", "()V"⟩, "MarketTown"), ("MarketTown$Town", 54, ⟨"MarketTown$Loans", "<init>", "()V"⟩, "MarketTown"), ("MarketTown", 26, ⟨"MarketTown$Tape", "<init>", "()V"⟩, "MarketTown"), ("MarketTown", 33, ⟨"MarketTown$RuleReader", "<init>", "()V"⟩, "MarketTown"), ("MarketTown", 40, ⟨"MarketTown$Day", "<init>", "()V"⟩, "MarketTown"), ("MarketTown$Day", 17, ⟨"MarketTown$Market", "<init>", "()V"⟩, "MarketTown"), ("MarketTown$Market", 11, ⟨"MarketTown$Offers", "<init>", "()V"⟩, "MarketTown"), ("MarketTown$Town", 62, ⟨"MarketTown", "isWithin", "(III)Z"⟩, "MarketTown"), ("MarketTown$RuleReader", 105, ⟨"MarketTown", "isWithin", "(III)Z"⟩, "MarketTown")]
def kSix : List Nat := [28, 38, 79, 81, 83, 85, 75, 77, 90, 92, 94, 96, 98, 100]
def kStx : List String := ["every", "if", "cash", "have", "day", "price", ">", "<", "make", "eat", "ask", "bid", "pay", "lend"]
def kSln : List Nat := [5, 2, 4, 4, 3, 5, 1, 1, 4, 3, 3, 3, 3, 4]
def kSby : List (List Int32) := [[101, 118, 101, 114, 121], [105, 102], [99, 97, 115, 104], [104, 97, 118, 101], [100, 97, 121], [112, 114, 105, 99, 101], [62], [60], [109, 97, 107, 101], [101, 97, 116], [97, 115, 107], [98, 105, 100], [112, 97, 121], [108, 101, 110, 100]]
