abbrev St : Type := Nat → Nat → Int32
def mj_rs (l : List (Option Nat)) : Nat → Option Nat := fun k => (l[k]?).join
def SH : List (Nat × Nat × (Nat → Option Nat)) := [(3, 6, (mj_rs [some 1, some 17, some 18, some 19, some 21, some 23])), (12, 14, (mj_rs [none, none, none, none, none, some 2, some 3, some 4, some 5, some 6, some 7, some 10, some 12, some 15])), (0, 12, (fun _ => none)), (0, 12, (fun _ => none)), (0, 12, (fun _ => none)), (0, 12, (fun _ => none)), (0, 720, (fun _ => none)), (10, 2, (mj_rs [some 8, some 9])), (0, 600, (fun _ => none)), (0, 60, (fun _ => none)), (13, 1, (mj_rs [some 11])), (0, 55, (fun _ => none)), (9, 2, (mj_rs [some 13, some 14])), (0, 12, (fun _ => none)), (0, 648, (fun _ => none)), (5, 2, (mj_rs [none, some 16])), (0, 80, (fun _ => none)), (2, 3, (mj_rs [some 40, some 56, some 72])), (1, 3, (fun _ => none)), (11, 2, (mj_rs [none, some 20])), (0, 60, (fun _ => none)), (8, 3, (mj_rs [some 22])), (0, 9, (fun _ => none)), (4, 2, (mj_rs [some 24, some 25])), (0, 12, (fun _ => none)), (6, 5, (mj_rs [some 26, some 32, some 38, some 39])), (7, 7, (mj_rs [some 27, some 28, some 29, some 30, none, some 31])), (0, 72, (fun _ => none)), (0, 72, (fun _ => none)), (0, 72, (fun _ => none)), (0, 72, (fun _ => none)), (0, 72, (fun _ => none)), (7, 7, (mj_rs [some 33, some 34, some 35, some 36, none, some 37])), (0, 72, (fun _ => none)), (0, 72, (fun _ => none)), (0, 72, (fun _ => none)), (0, 72, (fun _ => none)), (0, 72, (fun _ => none)), (0, 60, (fun _ => none)), (0, 12, (fun _ => none)), (12, 14, (mj_rs [none, none, none, none, none, some 41, some 42, some 43, some 44, some 45, some 46, some 49, some 51, some 54])), (0, 12, (fun _ => none)), (0, 12, (fun _ => none)), (0, 12, (fun _ => none)), (0, 12, (fun _ => none)), (0, 720, (fun _ => none)), (10, 2, (mj_rs [some 47, some 48])), (0, 600, (fun _ => none)), (0, 60, (fun _ => none)), (13, 1, (mj_rs [some 50])), (0, 55, (fun _ => none)), (9, 2, (mj_rs [some 52, some 53])), (0, 12, (fun _ => none)), (0, 648, (fun _ => none)), (5, 2, (mj_rs [none, some 55])), (0, 80, (fun _ => none)), (12, 14, (mj_rs [none, none, none, none, none, some 57, some 58, some 59, some 60, some 61, some 62, some 65, some 67, some 70])), (0, 12, (fun _ => none)), (0, 12, (fun _ => none)), (0, 12, (fun _ => none)), (0, 12, (fun _ => none)), (0, 720, (fun _ => none)), (10, 2, (mj_rs [some 63, some 64])), (0, 600, (fun _ => none)), (0, 60, (fun _ => none)), (13, 1, (mj_rs [some 66])), (0, 55, (fun _ => none)), (9, 2, (mj_rs [some 68, some 69])), (0, 12, (fun _ => none)), (0, 648, (fun _ => none)), (5, 2, (mj_rs [none, some 71])), (0, 80, (fun _ => none)), (12, 14, (mj_rs [none, none, none, none, none, some 73, some 74, some 75, some 76, some 77, some 78, some 81, some 83, some 86])), (0, 12, (fun _ => none)), (0, 12, (fun _ => none)), (0, 12, (fun _ => none)), (0, 12, (fun _ => none)), (0, 720, (fun _ => none)), (10, 2, (mj_rs [some 79, some 80])), (0, 600, (fun _ => none)), (0, 60, (fun _ => none)), (13, 1, (mj_rs [some 82])), (0, 55, (fun _ => none)), (9, 2, (mj_rs [some 84, some 85])), (0, 12, (fun _ => none)), (0, 648, (fun _ => none)), (5, 2, (mj_rs [none, some 87])), (0, 80, (fun _ => none)), (14, 21, (mj_rs [some 89, some 90, some 91, some 92, none, some 93, some 94, some 95, some 96, some 97, some 98, none, none, none, none, none, none, some 99, some 100, some 101, some 102])), (0, 2200, (fun _ => none)), (0, 6600, (fun _ => none)), (1, 3, (fun _ => none)), (0, 60, (fun _ => none)), (0, 80, (fun _ => none)), (0, 80, (fun _ => none)), (0, 80, (fun _ => none)), (0, 80, (fun _ => none)), (1, 80, (fun _ => none)), (0, 80, (fun _ => none)), (0, 9, (fun _ => none)), (0, 12, (fun _ => none)), (0, 10, (fun _ => none)), (0, 20, (fun _ => none))]
theorem sh_0 : SH[0]? = some (0 + 3, 6, (mj_rs [some 1, some 17, some 18, some 19, some 21, some 23])) := rfl
theorem sh_1 : SH[1]? = some (9 + 3, 14, (mj_rs [none, none, none, none, none, some 2, some 3, some 4, some 5, some 6, some 7, some 10, some 12, some 15])) := rfl
theorem sh_2 : SH[2]? = some (0, 12, (fun _ => none)) := rfl
theorem sh_3 : SH[3]? = some (0, 12, (fun _ => none)) := rfl
theorem sh_4 : SH[4]? = some (0, 12, (fun _ => none)) := rfl
theorem sh_5 : SH[5]? = some (0, 12, (fun _ => none)) := rfl
theorem sh_6 : SH[6]? = some (0, 720, (fun _ => none)) := rfl
theorem sh_7 : SH[7]? = some (7 + 3, 2, (mj_rs [some 8, some 9])) := rfl
theorem sh_8 : SH[8]? = some (0, 600, (fun _ => none)) := rfl
theorem sh_9 : SH[9]? = some (0, 60, (fun _ => none)) := rfl
theorem sh_10 : SH[10]? = some (10 + 3, 1, (mj_rs [some 11])) := rfl
theorem sh_11 : SH[11]? = some (0, 55, (fun _ => none)) := rfl
theorem sh_12 : SH[12]? = some (6 + 3, 2, (mj_rs [some 13, some 14])) := rfl
theorem sh_13 : SH[13]? = some (0, 12, (fun _ => none)) := rfl
theorem sh_14 : SH[14]? = some (0, 648, (fun _ => none)) := rfl
theorem sh_15 : SH[15]? = some (2 + 3, 2, (mj_rs [none, some 16])) := rfl
theorem sh_16 : SH[16]? = some (0, 80, (fun _ => none)) := rfl
theorem sh_17 : SH[17]? = some (2, 3, (mj_rs [some 40, some 56, some 72])) := rfl
theorem sh_18 : SH[18]? = some (1, 3, (fun _ => none)) := rfl
theorem sh_19 : SH[19]? = some (8 + 3, 2, (mj_rs [none, some 20])) := rfl
theorem sh_20 : SH[20]? = some (0, 60, (fun _ => none)) := rfl
theorem sh_21 : SH[21]? = some (5 + 3, 3, (mj_rs [some 22])) := rfl
theorem sh_22 : SH[22]? = some (0, 9, (fun _ => none)) := rfl
theorem sh_23 : SH[23]? = some (1 + 3, 2, (mj_rs [some 24, some 25])) := rfl
theorem sh_24 : SH[24]? = some (0, 12, (fun _ => none)) := rfl
theorem sh_25 : SH[25]? = some (3 + 3, 5, (mj_rs [some 26, some 32, some 38, some 39])) := rfl
theorem sh_26 : SH[26]? = some (4 + 3, 7, (mj_rs [some 27, some 28, some 29, some 30, none, some 31])) := rfl
theorem sh_27 : SH[27]? = some (0, 72, (fun _ => none)) := rfl
theorem sh_28 : SH[28]? = some (0, 72, (fun _ => none)) := rfl
theorem sh_29 : SH[29]? = some (0, 72, (fun _ => none)) := rfl
theorem sh_30 : SH[30]? = some (0, 72, (fun _ => none)) := rfl
theorem sh_31 : SH[31]? = some (0, 72, (fun _ => none)) := rfl
theorem sh_32 : SH[32]? = some (4 + 3, 7, (mj_rs [some 33, some 34, some 35, some 36, none, some 37])) := rfl
theorem sh_33 : SH[33]? = some (0, 72, (fun _ => none)) := rfl
theorem sh_34 : SH[34]? = some (0, 72, (fun _ => none)) := rfl
theorem sh_35 : SH[35]? = some (0, 72, (fun _ => none)) := rfl
theorem sh_36 : SH[36]? = some (0, 72, (fun _ => none)) := rfl
theorem sh_37 : SH[37]? = some (0, 72, (fun _ => none)) := rfl
theorem sh_38 : SH[38]? = some (0, 60, (fun _ => none)) := rfl
theorem sh_39 : SH[39]? = some (0, 12, (fun _ => none)) := rfl
theorem sh_40 : SH[40]? = some (9 + 3, 14, (mj_rs [none, none, none, none, none, some 41, some 42, some 43, some 44, some 45, some 46, some 49, some 51, some 54])) := rfl
theorem sh_41 : SH[41]? = some (0, 12, (fun _ => none)) := rfl
theorem sh_42 : SH[42]? = some (0, 12, (fun _ => none)) := rfl
theorem sh_43 : SH[43]? = some (0, 12, (fun _ => none)) := rfl
theorem sh_44 : SH[44]? = some (0, 12, (fun _ => none)) := rfl
theorem sh_45 : SH[45]? = some (0, 720, (fun _ => none)) := rfl
theorem sh_46 : SH[46]? = some (7 + 3, 2, (mj_rs [some 47, some 48])) := rfl
theorem sh_47 : SH[47]? = some (0, 600, (fun _ => none)) := rfl
theorem sh_48 : SH[48]? = some (0, 60, (fun _ => none)) := rfl
theorem sh_49 : SH[49]? = some (10 + 3, 1, (mj_rs [some 50])) := rfl
theorem sh_50 : SH[50]? = some (0, 55, (fun _ => none)) := rfl
theorem sh_51 : SH[51]? = some (6 + 3, 2, (mj_rs [some 52, some 53])) := rfl
theorem sh_52 : SH[52]? = some (0, 12, (fun _ => none)) := rfl
theorem sh_53 : SH[53]? = some (0, 648, (fun _ => none)) := rfl
theorem sh_54 : SH[54]? = some (2 + 3, 2, (mj_rs [none, some 55])) := rfl
theorem sh_55 : SH[55]? = some (0, 80, (fun _ => none)) := rfl
theorem sh_56 : SH[56]? = some (9 + 3, 14, (mj_rs [none, none, none, none, none, some 57, some 58, some 59, some 60, some 61, some 62, some 65, some 67, some 70])) := rfl
theorem sh_57 : SH[57]? = some (0, 12, (fun _ => none)) := rfl
theorem sh_58 : SH[58]? = some (0, 12, (fun _ => none)) := rfl
theorem sh_59 : SH[59]? = some (0, 12, (fun _ => none)) := rfl
theorem sh_60 : SH[60]? = some (0, 12, (fun _ => none)) := rfl
theorem sh_61 : SH[61]? = some (0, 720, (fun _ => none)) := rfl
theorem sh_62 : SH[62]? = some (7 + 3, 2, (mj_rs [some 63, some 64])) := rfl
theorem sh_63 : SH[63]? = some (0, 600, (fun _ => none)) := rfl
theorem sh_64 : SH[64]? = some (0, 60, (fun _ => none)) := rfl
theorem sh_65 : SH[65]? = some (10 + 3, 1, (mj_rs [some 66])) := rfl
theorem sh_66 : SH[66]? = some (0, 55, (fun _ => none)) := rfl
theorem sh_67 : SH[67]? = some (6 + 3, 2, (mj_rs [some 68, some 69])) := rfl
theorem sh_68 : SH[68]? = some (0, 12, (fun _ => none)) := rfl
theorem sh_69 : SH[69]? = some (0, 648, (fun _ => none)) := rfl
theorem sh_70 : SH[70]? = some (2 + 3, 2, (mj_rs [none, some 71])) := rfl
theorem sh_71 : SH[71]? = some (0, 80, (fun _ => none)) := rfl
theorem sh_72 : SH[72]? = some (9 + 3, 14, (mj_rs [none, none, none, none, none, some 73, some 74, some 75, some 76, some 77, some 78, some 81, some 83, some 86])) := rfl
theorem sh_73 : SH[73]? = some (0, 12, (fun _ => none)) := rfl
theorem sh_74 : SH[74]? = some (0, 12, (fun _ => none)) := rfl
theorem sh_75 : SH[75]? = some (0, 12, (fun _ => none)) := rfl
theorem sh_76 : SH[76]? = some (0, 12, (fun _ => none)) := rfl
theorem sh_77 : SH[77]? = some (0, 720, (fun _ => none)) := rfl
theorem sh_78 : SH[78]? = some (7 + 3, 2, (mj_rs [some 79, some 80])) := rfl
theorem sh_79 : SH[79]? = some (0, 600, (fun _ => none)) := rfl
theorem sh_80 : SH[80]? = some (0, 60, (fun _ => none)) := rfl
theorem sh_81 : SH[81]? = some (10 + 3, 1, (mj_rs [some 82])) := rfl
theorem sh_82 : SH[82]? = some (0, 55, (fun _ => none)) := rfl
theorem sh_83 : SH[83]? = some (6 + 3, 2, (mj_rs [some 84, some 85])) := rfl
theorem sh_84 : SH[84]? = some (0, 12, (fun _ => none)) := rfl
theorem sh_85 : SH[85]? = some (0, 648, (fun _ => none)) := rfl
theorem sh_86 : SH[86]? = some (2 + 3, 2, (mj_rs [none, some 87])) := rfl
theorem sh_87 : SH[87]? = some (0, 80, (fun _ => none)) := rfl
theorem sh_88 : SH[88]? = some (11 + 3, 21, (mj_rs [some 89, some 90, some 91, some 92, none, some 93, some 94, some 95, some 96, some 97, some 98, none, none, none, none, none, none, some 99, some 100, some 101, some 102])) := rfl
theorem sh_89 : SH[89]? = some (0, 2200, (fun _ => none)) := rfl
theorem sh_90 : SH[90]? = some (0, 6600, (fun _ => none)) := rfl
theorem sh_91 : SH[91]? = some (1, 3, (fun _ => none)) := rfl
theorem sh_92 : SH[92]? = some (0, 60, (fun _ => none)) := rfl
theorem sh_93 : SH[93]? = some (0, 80, (fun _ => none)) := rfl
theorem sh_94 : SH[94]? = some (0, 80, (fun _ => none)) := rfl
theorem sh_95 : SH[95]? = some (0, 80, (fun _ => none)) := rfl
theorem sh_96 : SH[96]? = some (0, 80, (fun _ => none)) := rfl
theorem sh_97 : SH[97]? = some (1, 80, (fun _ => none)) := rfl
theorem sh_98 : SH[98]? = some (0, 80, (fun _ => none)) := rfl
theorem sh_99 : SH[99]? = some (0, 9, (fun _ => none)) := rfl
theorem sh_100 : SH[100]? = some (0, 12, (fun _ => none)) := rfl
theorem sh_101 : SH[101]? = some (0, 10, (fun _ => none)) := rfl
theorem sh_102 : SH[102]? = some (0, 20, (fun _ => none)) := rfl
/-- the class's cells, and the reference's -/
def jn (C D : St) : St := fun i => if i < 88 then C i else D i
theorem jn_C {C D : St} {b : Nat} (h : b < 88) : jn C D b = C b := if_pos h
theorem jn_D {C D : St} {b : Nat} (h : ¬ b < 88) : jn C D b = D b := if_neg h
theorem jn_wC {C D : St} {b k : Nat} {x : Int32} (h : b < 88) : mj_wr (jn C D) b k x = jn (mj_wr C b k x) D := by
  funext i j
  by_cases hi : i < 88
  · show (if i = b ∧ j = k then x else jn C D i j) = jn _ D i j
    rw [jn_C hi, jn_C hi]
    rfl
  · show (if i = b ∧ j = k then x else jn C D i j) = jn _ D i j
    rw [jn_D hi, jn_D hi, if_neg (by omega)]
theorem jn_wD {C D : St} {b k : Nat} {x : Int32} (h : ¬ b < 88) : mj_wr (jn C D) b k x = jn C (mj_wr D b k x) := by
  funext i j
  by_cases hi : i < 88
  · show (if i = b ∧ j = k then x else jn C D i j) = jn C _ i j
    rw [jn_C hi, jn_C hi, if_neg (by omega)]
  · show (if i = b ∧ j = k then x else jn C D i j) = jn C _ i j
    rw [jn_D hi, jn_D hi]
    rfl
theorem jn_cp {C D : St} {a b sp dp n : Nat} (ha : a < 88) (h : b < 88) : mj_cp (jn C D) a b sp dp n = jn (mj_cp C a b sp dp n) D := by
  funext i j
  by_cases hi : i < 88
  · rw [jn_C (C := mj_cp C a b sp dp n) hi]
    show (if i = b then va_cpy (jn C D a) (jn C D b) sp dp n else jn C D i) j = (if i = b then va_cpy (C a) (C b) sp dp n else C i) j
    rw [jn_C ha, jn_C h, jn_C hi]
  · rw [jn_D (C := mj_cp C a b sp dp n) hi]
    show (if i = b then va_cpy (jn C D a) (jn C D b) sp dp n else jn C D i) j = D i j
    rw [if_neg (by omega), jn_D hi]
abbrev inb (i : Int32) (n : Nat) : Prop := 0 ≤ i.toInt ∧ i.toInt < n
theorem inb_in {i : Int32} {n : Nat} (h : inb i n) : vp_in i n := vp_in_iff.mpr h
theorem mj_gd {α : Type} {p : Prop} [Decidable p] {x : Option α} {z : α} (h : (if p then x else none) = some z) : p ∧ x = some z := by
  by_cases hp : p
  · rw [if_pos hp] at h; exact ⟨hp, h⟩
  · rw [if_neg hp] at h; cases h
theorem mj_gz {α : Type} {p : Prop} [Decidable p] {x : Option α} {z : α} (h : (if p then none else x) = some z) : ¬ p ∧ x = some z := by
  by_cases hp : p
  · rw [if_pos hp] at h; cases h
  · rw [if_neg hp] at h; exact ⟨hp, h⟩
theorem mj_hs {sh : List (Nat × Nat × (Nat → Option Nat))} {x y : St} : (sh, x).1.length ≤ (sh, y).1.length ∧ mj_sz (sh, x) ≤ mj_sz (sh, y) := ⟨Nat.le_refl _, Nat.le_refl _⟩
theorem mj_hn {mem : mj_Mem} : mem.1.length ≤ mem.1.length ∧ mj_sz mem ≤ mj_sz mem := ⟨Nat.le_refl _, Nat.le_refl _⟩
/-- fewer known locals -/
def mj_le : List (Option Value) → List (Option Value) → Prop
  | [], _ => True
  | none :: a, _ :: b => mj_le a b
  | none :: a, [] => mj_le a []
  | some v :: a, w :: b => w = some v ∧ mj_le a b
  | some _ :: _, [] => False
theorem mj_le_at : ∀ {a b : List (Option Value)}, mj_le a b → ∀ (i : Nat) (v : Value), a[i]? = some (some v) → b[i]? = some (some v)
  | [], _, _, i, v, h => by simp at h
  | none :: a, _ :: b, hl, i, v, h => by
    match i, h with
    | 0, h => simp at h
    | i + 1, h => simpa using mj_le_at (a := a) (b := b) hl i v (by simpa using h)
  | none :: a, [], hl, i, v, h => by
    match i, h with
    | 0, h => simp at h
    | i + 1, h => have := mj_le_at (a := a) (b := []) hl i v (by simpa using h); simp at this
  | some w :: a, x :: b, hl, i, v, h => by
    match i, h with
    | 0, h =>
      have h' : w = v := by simpa using h
      subst h'
      have := hl.1
      simp [this]
    | i + 1, h => simpa using mj_le_at (a := a) (b := b) hl.2 i v (by simpa using h)
  | some _ :: _, [], hl, _, _, _ => hl.elim
theorem mj_weak {M : mj_M} {pc : Nat} {lv : List (Option Value)} (lv' : List (Option Value)) {st : List Value} {mem mem' : mj_Mem} {r : Option Value} (h : mj_le lv' lv) (k : mj_R M pc lv' st mem r mem') : mj_R M pc lv st mem r mem' :=
  ⟨k.1, fun E l p e s m args below meth c L0 S0 C h1 h2 H locs ls hH hS hL => k.2 E l p e s m args below meth c L0 S0 C h1 h2 H locs ls hH hS ⟨hL.1, hL.2.1, fun i v hv => hL.2.2 i v (mj_le_at h i v hv)⟩⟩
theorem i32_ne {x v : Int32} {n : Int} (hv : v.toInt = n) (h : ¬ x = v) : x.toInt ≠ n := fun e => h (Int32.toInt_inj.mp (e.trans hv.symm))
theorem mj_b01 {x : Int32} (h : x = 0 ∨ x = 1) : narrow .boolean (.int x) = .int x := by
  rcases h with rfl | rfl <;> decide
def bd1 {α β : Type} (o : Option α) (f : α → Option β) : Option β := match o with
  | some a => f a
  | none => none
theorem bd1_some {α β : Type} {o : Option α} {f : α → Option β} {z : β} (h : bd1 o f = some z) : ∃ a, o = some a ∧ f a = some z := by
  cases o with
  | none => cases h
  | some a => exact ⟨a, rfl, h⟩
def bdS {α β γ : Type} (o : Option (α ⊕ β)) (f : α → Option γ) (g : β → Option γ) : Option γ := match o with
  | some (.inl a) => f a
  | some (.inr b) => g b
  | none => none
theorem bdS_some {α β γ : Type} {o : Option (α ⊕ β)} {f : α → Option γ} {g : β → Option γ} {z : γ} (h : bdS o f g = some z) : (∃ a, o = some (.inl a) ∧ f a = some z) ∨ ∃ b, o = some (.inr b) ∧ g b = some z := by
  match o, h with
  | some (.inl a), h => exact Or.inl ⟨a, rfl, h⟩
  | some (.inr b), h => exact Or.inr ⟨b, rfl, h⟩
def bd2 {α1 α2 β : Type} (o : Option (α1 × α2)) (f : α1 → α2 → Option β) : Option β := match o with
  | some (a1, a2) => f a1 a2
  | none => none
theorem bd2_some {α1 α2 β : Type} {o : Option (α1 × α2)} {f : α1 → α2 → Option β} {z : β} (h : bd2 o f = some z) : ∃ a1 a2, o = some (a1, a2) ∧ f a1 a2 = some z := by
  cases o with
  | none => cases h
  | some a => exact ⟨a.1, a.2, rfl, h⟩
def bd3 {α1 α2 α3 β : Type} (o : Option (α1 × α2 × α3)) (f : α1 → α2 → α3 → Option β) : Option β := match o with
  | some (a1, a2, a3) => f a1 a2 a3
  | none => none
theorem bd3_some {α1 α2 α3 β : Type} {o : Option (α1 × α2 × α3)} {f : α1 → α2 → α3 → Option β} {z : β} (h : bd3 o f = some z) : ∃ a1 a2 a3, o = some (a1, a2, a3) ∧ f a1 a2 a3 = some z := by
  cases o with
  | none => cases h
  | some a => exact ⟨a.1, a.2.1, a.2.2, rfl, h⟩
def bd4 {α1 α2 α3 α4 β : Type} (o : Option (α1 × α2 × α3 × α4)) (f : α1 → α2 → α3 → α4 → Option β) : Option β := match o with
  | some (a1, a2, a3, a4) => f a1 a2 a3 a4
  | none => none
theorem bd4_some {α1 α2 α3 α4 β : Type} {o : Option (α1 × α2 × α3 × α4)} {f : α1 → α2 → α3 → α4 → Option β} {z : β} (h : bd4 o f = some z) : ∃ a1 a2 a3 a4, o = some (a1, a2, a3, a4) ∧ f a1 a2 a3 a4 = some z := by
  cases o with
  | none => cases h
  | some a => exact ⟨a.1, a.2.1, a.2.2.1, a.2.2.2, rfl, h⟩
def bd5 {α1 α2 α3 α4 α5 β : Type} (o : Option (α1 × α2 × α3 × α4 × α5)) (f : α1 → α2 → α3 → α4 → α5 → Option β) : Option β := match o with
  | some (a1, a2, a3, a4, a5) => f a1 a2 a3 a4 a5
  | none => none
theorem bd5_some {α1 α2 α3 α4 α5 β : Type} {o : Option (α1 × α2 × α3 × α4 × α5)} {f : α1 → α2 → α3 → α4 → α5 → Option β} {z : β} (h : bd5 o f = some z) : ∃ a1 a2 a3 a4 a5, o = some (a1, a2, a3, a4, a5) ∧ f a1 a2 a3 a4 a5 = some z := by
  cases o with
  | none => cases h
  | some a => exact ⟨a.1, a.2.1, a.2.2.1, a.2.2.2.1, a.2.2.2.2, rfl, h⟩
def bd6 {α1 α2 α3 α4 α5 α6 β : Type} (o : Option (α1 × α2 × α3 × α4 × α5 × α6)) (f : α1 → α2 → α3 → α4 → α5 → α6 → Option β) : Option β := match o with
  | some (a1, a2, a3, a4, a5, a6) => f a1 a2 a3 a4 a5 a6
  | none => none
theorem bd6_some {α1 α2 α3 α4 α5 α6 β : Type} {o : Option (α1 × α2 × α3 × α4 × α5 × α6)} {f : α1 → α2 → α3 → α4 → α5 → α6 → Option β} {z : β} (h : bd6 o f = some z) : ∃ a1 a2 a3 a4 a5 a6, o = some (a1, a2, a3, a4, a5, a6) ∧ f a1 a2 a3 a4 a5 a6 = some z := by
  cases o with
  | none => cases h
  | some a => exact ⟨a.1, a.2.1, a.2.2.1, a.2.2.2.1, a.2.2.2.2.1, a.2.2.2.2.2, rfl, h⟩
def bd7 {α1 α2 α3 α4 α5 α6 α7 β : Type} (o : Option (α1 × α2 × α3 × α4 × α5 × α6 × α7)) (f : α1 → α2 → α3 → α4 → α5 → α6 → α7 → Option β) : Option β := match o with
  | some (a1, a2, a3, a4, a5, a6, a7) => f a1 a2 a3 a4 a5 a6 a7
  | none => none
theorem bd7_some {α1 α2 α3 α4 α5 α6 α7 β : Type} {o : Option (α1 × α2 × α3 × α4 × α5 × α6 × α7)} {f : α1 → α2 → α3 → α4 → α5 → α6 → α7 → Option β} {z : β} (h : bd7 o f = some z) : ∃ a1 a2 a3 a4 a5 a6 a7, o = some (a1, a2, a3, a4, a5, a6, a7) ∧ f a1 a2 a3 a4 a5 a6 a7 = some z := by
  cases o with
  | none => cases h
  | some a => exact ⟨a.1, a.2.1, a.2.2.1, a.2.2.2.1, a.2.2.2.2.1, a.2.2.2.2.2.1, a.2.2.2.2.2.2, rfl, h⟩
section MJ8
variable {M : mj_M} {pc : Nat} {lv : List (Option Value)} {st : List Value} {sh : List (Nat × Nat × (Nat → Option Nat))} {C D y : St} {r : Option Value}
theorem cj_getI {ci k b n idx : Nat} {rs : Nat → Option Nat} (hd : decode M.2.1 pc = .ok (.getfield idx, 3)) (hf : mj_F M.1.cls idx ci k) (hc : sh[b]? = some (ci + 3, n, rs)) (hr : kRf ci k = false) (hb : b < 1000000) (hk : k < n) (hK : b < 88)
    (kk : mj_R M (pc + 3) lv (.int (C b k) :: st) (sh, jn C D) r (sh, y)) : mj_R M pc lv (.ref b :: st) (sh, jn C D) r (sh, y) :=
  mj_getI (mem := (sh, jn C D)) hd hf hc hr hb hk (by show mj_R M (pc + 3) lv (.int (jn C D b k) :: st) _ _ _; rw [jn_C hK]; exact kk)
theorem cj_putI {ci k b n idx : Nat} {rs : Nat → Option Nat} {x : Int32} (hd : decode M.2.1 pc = .ok (.putfield idx, 3)) (hf : mj_F M.1.cls idx ci k) (hc : sh[b]? = some (ci + 3, n, rs)) (hr : kTy ci k = .int) (hfin : ∀ (C : String) (T : u_T) (N : Nat), kCls[ci]? = some (C, T, N) → (T k).2.2.2 = false) (hb : b < 1000000) (hk : k < n) (hK : b < 88)
    (kk : mj_R M (pc + 3) lv st (sh, jn (mj_wr C b k x) D) r (sh, y)) : mj_R M pc lv (.int x :: .ref b :: st) (sh, jn C D) r (sh, y) :=
  mj_putI (mem := (sh, jn C D)) hd hf hc hr hfin hb hk (by show mj_R M (pc + 3) lv st (sh, mj_wr (jn C D) b k x) _ _; rw [jn_wC hK]; exact kk)
theorem cj_iald {b n : Nat} {rs : Nat → Option Nat} {i : Int32} (hd : decode M.2.1 pc = .ok (.iaload, 1)) (hc : sh[b]? = some (0, n, rs)) (hb : b < 1000000) (hi : inb i n) (hK : b < 88)
    (kk : mj_R M (pc + 1) lv (.int (C b i.toNatClampNeg) :: st) (sh, jn C D) r (sh, y)) : mj_R M pc lv (.int i :: .ref b :: st) (sh, jn C D) r (sh, y) :=
  mj_iald (mem := (sh, jn C D)) hd hc hb (inb_in hi) (by show mj_R M (pc + 1) lv (.int (jn C D b i.toNatClampNeg) :: st) _ _ _; rw [jn_C hK]; exact kk)
theorem cj_zald {b n : Nat} {rs : Nat → Option Nat} {i : Int32} (hd : decode M.2.1 pc = .ok (.baload, 1)) (hc : sh[b]? = some (1, n, rs)) (hb : b < 1000000) (hi : inb i n) (hK : b < 88)
    (kk : mj_R M (pc + 1) lv (.int (C b i.toNatClampNeg) :: st) (sh, jn C D) r (sh, y)) : mj_R M pc lv (.int i :: .ref b :: st) (sh, jn C D) r (sh, y) :=
  mj_zald (mem := (sh, jn C D)) hd hc hb (inb_in hi) (by show mj_R M (pc + 1) lv (.int (jn C D b i.toNatClampNeg) :: st) _ _ _; rw [jn_C hK]; exact kk)
theorem cj_iast {b n : Nat} {rs : Nat → Option Nat} {i x : Int32} (hd : decode M.2.1 pc = .ok (.iastore, 1)) (hc : sh[b]? = some (0, n, rs)) (hb : b < 1000000) (hi : inb i n) (hK : b < 88)
    (kk : mj_R M (pc + 1) lv st (sh, jn (mj_wr C b i.toNatClampNeg x) D) r (sh, y)) : mj_R M pc lv (.int x :: .int i :: .ref b :: st) (sh, jn C D) r (sh, y) :=
  mj_iast (mem := (sh, jn C D)) hd hc hb (inb_in hi) (by show mj_R M (pc + 1) lv st (sh, mj_wr (jn C D) b i.toNatClampNeg x) _ _; rw [jn_wC hK]; exact kk)
theorem cj_zast {b n : Nat} {rs : Nat → Option Nat} {i x : Int32} (hd : decode M.2.1 pc = .ok (.bastore, 1)) (hc : sh[b]? = some (1, n, rs)) (hb : b < 1000000) (hi : inb i n) (hK : b < 88)
    (kk : mj_R M (pc + 1) lv st (sh, jn (mj_wr C b i.toNatClampNeg (vp_nar .boolean x)) D) r (sh, y)) : mj_R M pc lv (.int x :: .int i :: .ref b :: st) (sh, jn C D) r (sh, y) :=
  mj_zast (mem := (sh, jn C D)) hd hc hb (inb_in hi) (by show mj_R M (pc + 1) lv st (sh, mj_wr (jn C D) b i.toNatClampNeg (vp_nar .boolean x)) _ _; rw [jn_wC hK]; exact kk)
theorem dj_getI {ci k b n idx : Nat} {rs : Nat → Option Nat} (hd : decode M.2.1 pc = .ok (.getfield idx, 3)) (hf : mj_F M.1.cls idx ci k) (hc : sh[b]? = some (ci + 3, n, rs)) (hr : kRf ci k = false) (hb : b < 1000000) (hk : k < n) (hK : ¬ b < 88)
    (kk : mj_R M (pc + 3) lv (.int (D b k) :: st) (sh, jn C D) r (sh, y)) : mj_R M pc lv (.ref b :: st) (sh, jn C D) r (sh, y) :=
  mj_getI (mem := (sh, jn C D)) hd hf hc hr hb hk (by show mj_R M (pc + 3) lv (.int (jn C D b k) :: st) _ _ _; rw [jn_D hK]; exact kk)
theorem dj_putI {ci k b n idx : Nat} {rs : Nat → Option Nat} {x : Int32} (hd : decode M.2.1 pc = .ok (.putfield idx, 3)) (hf : mj_F M.1.cls idx ci k) (hc : sh[b]? = some (ci + 3, n, rs)) (hr : kTy ci k = .int) (hfin : ∀ (C : String) (T : u_T) (N : Nat), kCls[ci]? = some (C, T, N) → (T k).2.2.2 = false) (hb : b < 1000000) (hk : k < n) (hK : ¬ b < 88)
    (kk : mj_R M (pc + 3) lv st (sh, jn C (mj_wr D b k x)) r (sh, y)) : mj_R M pc lv (.int x :: .ref b :: st) (sh, jn C D) r (sh, y) :=
  mj_putI (mem := (sh, jn C D)) hd hf hc hr hfin hb hk (by show mj_R M (pc + 3) lv st (sh, mj_wr (jn C D) b k x) _ _; rw [jn_wD hK]; exact kk)
theorem dj_iald {b n : Nat} {rs : Nat → Option Nat} {i : Int32} (hd : decode M.2.1 pc = .ok (.iaload, 1)) (hc : sh[b]? = some (0, n, rs)) (hb : b < 1000000) (hi : inb i n) (hK : ¬ b < 88)
    (kk : mj_R M (pc + 1) lv (.int (D b i.toNatClampNeg) :: st) (sh, jn C D) r (sh, y)) : mj_R M pc lv (.int i :: .ref b :: st) (sh, jn C D) r (sh, y) :=
  mj_iald (mem := (sh, jn C D)) hd hc hb (inb_in hi) (by show mj_R M (pc + 1) lv (.int (jn C D b i.toNatClampNeg) :: st) _ _ _; rw [jn_D hK]; exact kk)
theorem dj_zald {b n : Nat} {rs : Nat → Option Nat} {i : Int32} (hd : decode M.2.1 pc = .ok (.baload, 1)) (hc : sh[b]? = some (1, n, rs)) (hb : b < 1000000) (hi : inb i n) (hK : ¬ b < 88)
    (kk : mj_R M (pc + 1) lv (.int (D b i.toNatClampNeg) :: st) (sh, jn C D) r (sh, y)) : mj_R M pc lv (.int i :: .ref b :: st) (sh, jn C D) r (sh, y) :=
  mj_zald (mem := (sh, jn C D)) hd hc hb (inb_in hi) (by show mj_R M (pc + 1) lv (.int (jn C D b i.toNatClampNeg) :: st) _ _ _; rw [jn_D hK]; exact kk)
theorem dj_iast {b n : Nat} {rs : Nat → Option Nat} {i x : Int32} (hd : decode M.2.1 pc = .ok (.iastore, 1)) (hc : sh[b]? = some (0, n, rs)) (hb : b < 1000000) (hi : inb i n) (hK : ¬ b < 88)
    (kk : mj_R M (pc + 1) lv st (sh, jn C (mj_wr D b i.toNatClampNeg x)) r (sh, y)) : mj_R M pc lv (.int x :: .int i :: .ref b :: st) (sh, jn C D) r (sh, y) :=
  mj_iast (mem := (sh, jn C D)) hd hc hb (inb_in hi) (by show mj_R M (pc + 1) lv st (sh, mj_wr (jn C D) b i.toNatClampNeg x) _ _; rw [jn_wD hK]; exact kk)
theorem dj_zast {b n : Nat} {rs : Nat → Option Nat} {i x : Int32} (hd : decode M.2.1 pc = .ok (.bastore, 1)) (hc : sh[b]? = some (1, n, rs)) (hb : b < 1000000) (hi : inb i n) (hK : ¬ b < 88)
    (kk : mj_R M (pc + 1) lv st (sh, jn C (mj_wr D b i.toNatClampNeg (vp_nar .boolean x))) r (sh, y)) : mj_R M pc lv (.int x :: .int i :: .ref b :: st) (sh, jn C D) r (sh, y) :=
  mj_zast (mem := (sh, jn C D)) hd hc hb (inb_in hi) (by show mj_R M (pc + 1) lv st (sh, mj_wr (jn C D) b i.toNatClampNeg (vp_nar .boolean x)) _ _; rw [jn_wD hK]; exact kk)
theorem cj_copy {idx a b n0 n1 : Nat} {rs0 rs1 : Nat → Option Nat} {sp dp n : Int32} (hd : decode M.2.1 pc = .ok (.invokestatic idx, 3)) (hw : Cond.methodLink M.1.cls idx arraycopyName ∈ TB ∧ Cond.native arraycopyName ∈ TB ∧ Cond.static arraycopyName ∈ TB ∧ Cond.initialized "java/lang/System" ∈ TB) (hc0 : sh[a]? = some (0, n0, rs0)) (hc1 : sh[b]? = some (0, n1, rs1)) (ha : a < 88) (hb : b < 88)
    (h3 : 0 ≤ sp.toInt ∧ 0 ≤ dp.toInt ∧ 0 ≤ n.toInt ∧ sp.toInt + n.toInt ≤ n0 ∧ dp.toInt + n.toInt ≤ n1) (hf : 1 ≤ M.2.2.2.2.1) (hr : (st.map fun v => v.category).sum + (nativeFrameWords "java/lang/System" "arraycopy" 5 + 11) ≤ M.2.2.2.2.2)
    (kk : mj_R M (pc + 3) lv st (sh, jn (mj_cp C a b sp.toNatClampNeg dp.toNatClampNeg n.toNatClampNeg) D) r (sh, y)) : mj_R M pc lv (.int n :: .int dp :: .ref b :: .int sp :: .ref a :: st) (sh, jn C D) r (sh, y) := by
  obtain ⟨e1, e2, e3, e4, e5⟩ := h3
  have q : ∀ z : Int32, 0 ≤ z.toInt → ¬ z < 0 ∧ ((z.toNatClampNeg : Nat) : Int) = z.toInt := fun z hz => ⟨by rw [Int32.lt_iff_toInt_lt, Int32.toInt_zero]; omega, by show ((z.toInt.toNat : Nat) : Int) = z.toInt; omega⟩
  obtain ⟨a1, a2⟩ := q sp e1
  obtain ⟨b1, b2⟩ := q dp e2
  obtain ⟨c1, c2⟩ := q n e3
  exact mj_copy (mem := (sh, jn C D)) hd hw hc0 hc1 (by omega) (by omega) a1 b1 c1 (by omega) (by omega) hf hr (by show mj_R M (pc + 3) lv st (sh, mj_cp (jn C D) a b _ _ _) _ _; rw [jn_cp ha hb]; exact kk)
theorem mj_tsEq {mem mem' : mj_Mem} {dflt lo hi : Int} {offs : Array Int} {len : Nat} {x : Int32} {off : Int} {tgt : Nat} (v : Int32) (hd : decode M.2.1 pc = .ok (.tableswitch dflt lo hi offs, len)) (hx : x = v) (hl : ¬ v.toInt < lo) (hh : ¬ hi < v.toInt) (ho : offs[(v.toInt - lo).toNat]? = some off) (ht : (pc : Int) + off = (tgt : Int))
    (k : mj_R M tgt lv st mem r mem') : mj_R M pc lv (.int x :: st) mem r mem' := by
  subst hx
  exact mj_tableIn hd hl hh ho ht k
theorem mj_lkEq {mem mem' : mj_Mem} {dflt : Int} {ps : Array (Int × Int)} {len : Nat} {x : Int32} {off : Int} {tgt : Nat} (v : Int32) (hd : decode M.2.1 pc = .ok (.lookupswitch dflt ps, len)) (hx : x = v) (hp : (ps.toList.zip (ps.toList.drop 1)).all (fun (a, next) => a.1 < next.1) = true) (ho : Op.lookupswitch.offset ps.toList dflt v.toInt = off) (ht : (pc : Int) + off = (tgt : Int))
    (k : mj_R M tgt lv st mem r mem') : mj_R M pc lv (.int x :: st) mem r mem' := by
  subst hx
  exact mj_lookup hd hp ho ht k
end MJ8
