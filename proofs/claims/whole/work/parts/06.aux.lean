def FU : Nat := 600
theorem FU_gt {m : Nat} (h : m < 600) : m < FU := h
theorem mm_bigI {w : Cond} (i : Nat) (h : lw_tbl[i]? = some w) (hg : goodWord w = true) : w ∈ BIG := mm_big (List.mem_of_getElem? h) hg
def mm_let {α β : Type} (x : α) (k : α → β) : β := k x
theorem mm_lt {α β : Type} {x : α} {k : α → Option β} {z : β} (h : mm_let x k = some z) : ∃ y, y = x ∧ k y = some z := ⟨x, rfl, h⟩
def mm_b2 {β : Type} (o : Option (Int32 × F3)) (k : Int32 → F3 → Option β) : Option β := match o with
  | none => none
  | some q => k q.1 q.2
theorem mm_b2e {β : Type} {o : Option (Int32 × F3)} {k : Int32 → F3 → Option β} {z : β} (h : mm_b2 o k = some z) : ∃ r f, o = some (r, f) ∧ k r f = some z := by
  cases o with
  | none => cases h
  | some q => exact ⟨q.1, q.2, rfl, h⟩
def okB (v : Int32) : Bool := v == 0 || v == 1
theorem okB_or {v : Int32} (h : okB v = true) : v = 0 ∨ v = 1 := by
  simpa [okB] using h
theorem okB_n {v : Int32} (h : okB v = true) : narrow .boolean (.int v) = .int v := by
  rcases okB_or h with rfl | rfl <;> rfl
theorem okB_f {v : Int32} (h : okB v = true) : fits .boolean (.int v) = true := by
  rcases okB_or h with rfl | rfl <;> rfl
def slenI (k : Nat) : Int32 := nI (mm_sl.getD k 0)
def scharI (k : Nat) (j : Int32) : Int32 := (mm_sb.getD k []).getD j.toNatClampNeg 0
def okC (sp dp n : Int32) : Bool := decide (0 ≤ sp.toInt) && decide (0 ≤ dp.toInt) && decide (0 ≤ n.toInt) && decide (sp.toInt + n.toInt ≤ 48) && decide (dp.toInt + n.toInt ≤ 48)
def cpy11 (f : F3) (sp dp n : Int32) : F3 := fun r i k => if r = 11 ∧ i = 0 then va_cpy (f 11 0) (f 11 0) sp.toNatClampNeg dp.toNatClampNeg n.toNatClampNeg k else f r i k
theorem mm_pr {a c : Int32} {b d : F3} (h : some (a, b) = some (c, d)) : c = a ∧ d = b := by
  have h1 := Option.some.inj h
  exact ⟨(congrArg Prod.fst h1).symm, (congrArg Prod.snd h1).symm⟩
theorem mm_p1 {b d : F3} (h : some b = some d) : d = b := (Option.some.inj h).symm
theorem vl_0 : AD 0 0 < mm_NT ∧ mm_loc (AD 0 0) = (0, 0) := mm_vld 0 (by decide) 0 (by decide)
theorem vl_4 : AD 4 0 < mm_NT ∧ mm_loc (AD 4 0) = (4, 0) := mm_vld 4 (by decide) 0 (by decide)
theorem vl_5 : AD 5 0 < mm_NT ∧ mm_loc (AD 5 0) = (5, 0) := mm_vld 5 (by decide) 0 (by decide)
theorem vl_6 : AD 6 0 < mm_NT ∧ mm_loc (AD 6 0) = (6, 0) := mm_vld 6 (by decide) 0 (by decide)
theorem vl_7 : AD 7 0 < mm_NT ∧ mm_loc (AD 7 0) = (7, 0) := mm_vld 7 (by decide) 0 (by decide)
theorem vl_8 : AD 8 0 < mm_NT ∧ mm_loc (AD 8 0) = (8, 0) := mm_vld 8 (by decide) 0 (by decide)
theorem vl_9 : AD 9 0 < mm_NT ∧ mm_loc (AD 9 0) = (9, 0) := mm_vld 9 (by decide) 0 (by decide)
theorem vl_10 : AD 10 0 < mm_NT ∧ mm_loc (AD 10 0) = (10, 0) := mm_vld 10 (by decide) 0 (by decide)
theorem vl_11 : AD 11 0 < mm_NT ∧ mm_loc (AD 11 0) = (11, 0) := mm_vld 11 (by decide) 0 (by decide)
theorem vl_12 : AD 12 0 < mm_NT ∧ mm_loc (AD 12 0) = (12, 0) := mm_vld 12 (by decide) 0 (by decide)
theorem vl_13 : AD 13 0 < mm_NT ∧ mm_loc (AD 13 0) = (13, 0) := mm_vld 13 (by decide) 0 (by decide)
theorem vl_14 : AD 14 0 < mm_NT ∧ mm_loc (AD 14 0) = (14, 0) := mm_vld 14 (by decide) 0 (by decide)
theorem vl_15 : AD 15 0 < mm_NT ∧ mm_loc (AD 15 0) = (15, 0) := mm_vld 15 (by decide) 0 (by decide)
theorem vl_20 : AD 20 0 < mm_NT ∧ mm_loc (AD 20 0) = (20, 0) := mm_vld 20 (by decide) 0 (by decide)
theorem vl_21 : AD 21 0 < mm_NT ∧ mm_loc (AD 21 0) = (21, 0) := mm_vld 21 (by decide) 0 (by decide)
theorem vl_22 : AD 22 0 < mm_NT ∧ mm_loc (AD 22 0) = (22, 0) := mm_vld 22 (by decide) 0 (by decide)
theorem vl_23 : AD 23 0 < mm_NT ∧ mm_loc (AD 23 0) = (23, 0) := mm_vld 23 (by decide) 0 (by decide)
theorem vl_24 : AD 24 0 < mm_NT ∧ mm_loc (AD 24 0) = (24, 0) := mm_vld 24 (by decide) 0 (by decide)
theorem vl_25 : AD 25 0 < mm_NT ∧ mm_loc (AD 25 0) = (25, 0) := mm_vld 25 (by decide) 0 (by decide)
theorem vl_26 : AD 26 0 < mm_NT ∧ mm_loc (AD 26 0) = (26, 0) := mm_vld 26 (by decide) 0 (by decide)
theorem vl_27 : AD 27 0 < mm_NT ∧ mm_loc (AD 27 0) = (27, 0) := mm_vld 27 (by decide) 0 (by decide)
theorem vl_28 : AD 28 0 < mm_NT ∧ mm_loc (AD 28 0) = (28, 0) := mm_vld 28 (by decide) 0 (by decide)
theorem vl_30 : AD 30 0 < mm_NT ∧ mm_loc (AD 30 0) = (30, 0) := mm_vld 30 (by decide) 0 (by decide)
theorem vl_31 : AD 31 0 < mm_NT ∧ mm_loc (AD 31 0) = (31, 0) := mm_vld 31 (by decide) 0 (by decide)
theorem vl_32 : AD 32 0 < mm_NT ∧ mm_loc (AD 32 0) = (32, 0) := mm_vld 32 (by decide) 0 (by decide)
theorem vl_33 : AD 33 0 < mm_NT ∧ mm_loc (AD 33 0) = (33, 0) := mm_vld 33 (by decide) 0 (by decide)
theorem vl_34 : AD 34 0 < mm_NT ∧ mm_loc (AD 34 0) = (34, 0) := mm_vld 34 (by decide) 0 (by decide)
theorem vl_35 : AD 35 0 < mm_NT ∧ mm_loc (AD 35 0) = (35, 0) := mm_vld 35 (by decide) 0 (by decide)
theorem vl_36 : AD 36 0 < mm_NT ∧ mm_loc (AD 36 0) = (36, 0) := mm_vld 36 (by decide) 0 (by decide)
theorem vl_37 : AD 37 0 < mm_NT ∧ mm_loc (AD 37 0) = (37, 0) := mm_vld 37 (by decide) 0 (by decide)
theorem vl_38 : AD 38 0 < mm_NT ∧ mm_loc (AD 38 0) = (38, 0) := mm_vld 38 (by decide) 0 (by decide)
theorem vl_40 : AD 40 0 < mm_NT ∧ mm_loc (AD 40 0) = (40, 0) := mm_vld 40 (by decide) 0 (by decide)
theorem vl_41 : AD 41 0 < mm_NT ∧ mm_loc (AD 41 0) = (41, 0) := mm_vld 41 (by decide) 0 (by decide)
theorem vl_42 : AD 42 0 < mm_NT ∧ mm_loc (AD 42 0) = (42, 0) := mm_vld 42 (by decide) 0 (by decide)
theorem vl_43 : AD 43 0 < mm_NT ∧ mm_loc (AD 43 0) = (43, 0) := mm_vld 43 (by decide) 0 (by decide)
theorem vl_44 : AD 44 0 < mm_NT ∧ mm_loc (AD 44 0) = (44, 0) := mm_vld 44 (by decide) 0 (by decide)
theorem vl_45 : AD 45 0 < mm_NT ∧ mm_loc (AD 45 0) = (45, 0) := mm_vld 45 (by decide) 0 (by decide)
theorem vl_46 : AD 46 0 < mm_NT ∧ mm_loc (AD 46 0) = (46, 0) := mm_vld 46 (by decide) 0 (by decide)
theorem iX0 : ∀ w ∈ wsX00, w ∈ BIG := by decide +kernel
theorem iX1 : ∀ w ∈ wsX10, w ∈ BIG := by decide +kernel
theorem iX2 : ∀ w ∈ wsX20, w ∈ BIG := by decide +kernel
theorem iX3 : ∀ w ∈ wsX30, w ∈ BIG := by decide +kernel
theorem iX4 : ∀ w ∈ wsX40, w ∈ BIG := by decide +kernel
theorem iX5 : ∀ w ∈ wsX50, w ∈ BIG := by decide +kernel
theorem iX6 : ∀ w ∈ wsX60, w ∈ BIG := by decide +kernel
theorem iX7 : ∀ w ∈ wsX70, w ∈ BIG := by decide +kernel
theorem lk_0 : Cond.fieldLink RX0 9 "IceRoad$Cell" "kind" "I" ∈ BIG := mm_bigI 141 (by decide +kernel) rfl
theorem lk_1 : Cond.fieldLink RX0 33 "IceRoad$Cell" "known" "I" ∈ BIG := mm_bigI 155 (by decide +kernel) rfl
theorem lk_2 : Cond.methodLink RX0 58 yX0_become ∈ BIG := mm_bigI 417 (by decide +kernel) rfl
theorem lk_3 : Cond.fieldLink RX0 27 "IceRoad$Cell" "wear" "I" ∈ BIG := mm_bigI 151 (by decide +kernel) rfl
theorem lk_4 : Cond.fieldLink RX0 30 "IceRoad$Cell" "healing" "I" ∈ BIG := mm_bigI 153 (by decide +kernel) rfl
theorem lk_5 : Cond.fieldLink RX0 15 "IceRoad$Cell" "thickness" "I" ∈ BIG := mm_bigI 143 (by decide +kernel) rfl
theorem lk_6 : Cond.fieldLink RX0 18 "IceRoad$Cell" "snow" "I" ∈ BIG := mm_bigI 145 (by decide +kernel) rfl
theorem lk_7 : Cond.fieldLink RX0 39 "IceRoad$Cell" "cameDown" "I" ∈ BIG := mm_bigI 158 (by decide +kernel) rfl
theorem lk_8 : Cond.fieldLink RX0 36 "IceRoad$Cell" "cameUp" "I" ∈ BIG := mm_bigI 157 (by decide +kernel) rfl
theorem lk_9 : Cond.fieldLink RX0 21 "IceRoad$Cell" "depth" "I" ∈ BIG := mm_bigI 147 (by decide +kernel) rfl
theorem lk_10 : Cond.fieldLink RX0 24 "IceRoad$Cell" "length" "I" ∈ BIG := mm_bigI 149 (by decide +kernel) rfl
theorem lk_11 : Cond.methodLink RX0 52 Lib.Math.max.name ∈ BIG := mm_bigI 486 (by decide +kernel) rfl
theorem lk_12 : Cond.static Lib.Math.max.name ∈ BIG := mm_bigI 339 (by decide +kernel) rfl
theorem lk_13 : Cond.initialized "java/lang/Math" ∈ BIG := mm_bigI 74 (by decide +kernel) rfl
theorem lk_14 : Cond.code Lib.Math.max.name Lib.Math.max.code 2 (some .int) ∈ BIG := mm_bigI 340 (by decide +kernel) rfl
theorem lk_15 : Cond.methodLink RX0 42 yX0_growth ∈ BIG := mm_bigI 482 (by decide +kernel) rfl
theorem lk_16 : Cond.methodLink RX0 46 Lib.Math.min.name ∈ BIG := mm_bigI 416 (by decide +kernel) rfl
theorem lk_17 : Cond.static Lib.Math.min.name ∈ BIG := mm_bigI 342 (by decide +kernel) rfl
theorem lk_18 : Cond.code Lib.Math.min.name Lib.Math.min.code 2 (some .int) ∈ BIG := mm_bigI 343 (by decide +kernel) rfl
theorem lk_19 : Cond.methodLink RX0 55 yX0_healOneHour ∈ BIG := mm_bigI 487 (by decide +kernel) rfl
theorem lk_20 : Cond.methodLink RX0 62 yX0_crack ∈ BIG := mm_bigI 527 (by decide +kernel) rfl
theorem lk_21 : Cond.fieldLink RX1 21 "IceRoad$Load" "state" "I" ∈ BIG := mm_bigI 191 (by decide +kernel) rfl
theorem lk_22 : Cond.fieldLink RX1 24 "IceRoad$Load" "place" "I" ∈ BIG := mm_bigI 193 (by decide +kernel) rfl
theorem lk_23 : Cond.fieldLink RX1 27 "IceRoad$Load" "hoursThere" "I" ∈ BIG := mm_bigI 195 (by decide +kernel) rfl
theorem lk_24 : Cond.fieldLink RX1 30 "IceRoad$Load" "endHour" "I" ∈ BIG := mm_bigI 197 (by decide +kernel) rfl
theorem lk_25 : Cond.fieldLink RX2 18 "IceRoad$Rule" "from" "I" ∈ BIG := mm_bigI 225 (by decide +kernel) rfl
theorem lk_26 : Cond.fieldLink RX2 21 "IceRoad$Rule" "to" "I" ∈ BIG := mm_bigI 227 (by decide +kernel) rfl
theorem lk_27 : Cond.fieldLink RX2 28 "IceRoad$Rule" "testCount" "I" ∈ BIG := mm_bigI 231 (by decide +kernel) rfl
theorem lk_28 : Cond.fieldLink RX2 24 "IceRoad$Rule" "oneIsEnough" "Z" ∈ BIG := mm_bigI 229 (by decide +kernel) rfl
theorem lk_29 : Cond.fieldLink RX2 31 "IceRoad$Rule" "fields" "[I" ∈ BIG := mm_bigI 233 (by decide +kernel) rfl
theorem lk_30 : Cond.fieldLink RX2 35 "IceRoad$Rule" "signs" "[I" ∈ BIG := mm_bigI 235 (by decide +kernel) rfl
theorem lk_31 : Cond.fieldLink RX2 38 "IceRoad$Rule" "limits" "[I" ∈ BIG := mm_bigI 237 (by decide +kernel) rfl
theorem lk_32 : Cond.fieldLink RX3 18 "IceRoad$RuleReader" "place" "I" ∈ BIG := mm_bigI 129 (by decide +kernel) rfl
theorem lk_33 : Cond.fieldLink RX3 12 "IceRoad$RuleReader" "tape" "LIceRoad$Tape;" ∈ BIG := mm_bigI 127 (by decide +kernel) rfl
theorem lk_34 : Cond.fieldLink RX3 114 "IceRoad$Tape" "length" "I" ∈ BIG := mm_bigI 120 (by decide +kernel) rfl
theorem lk_35 : Cond.fieldLink RX4 15 "IceRoad$Tape" "length" "I" ∈ BIG := mm_bigI 119 (by decide +kernel) rfl
theorem lk_36 : Cond.fieldLink RX4 9 "IceRoad$Tape" "bytes" "[I" ∈ BIG := mm_bigI 118 (by decide +kernel) rfl
theorem lk_37 : Cond.methodLink RX3 105 yJ0_length_8abf5 ∈ BIG := mm_bigI 582 (by decide +kernel) rfl
theorem lk_38 : Cond.methodLink RX3 68 yX4_at ∈ BIG := mm_bigI 573 (by decide +kernel) rfl
theorem lk_39 : Cond.methodLink RX3 110 yJ0_charAt_5068e ∈ BIG := mm_bigI 592 (by decide +kernel) rfl
theorem lk_40 : Cond.methodLink RX3 58 yX3_takeWord ∈ BIG := mm_bigI 578 (by decide +kernel) rfl
theorem lk_41 : Cond.fieldLink RX3 28 "IceRoad$Rule" "testCount" "I" ∈ BIG := mm_bigI 232 (by decide +kernel) rfl
theorem lk_42 : Cond.fieldLink RX3 22 "IceRoad$Rule" "oneIsEnough" "Z" ∈ BIG := mm_bigI 230 (by decide +kernel) rfl
theorem lk_43 : Cond.methodLink RX3 76 yX3_takeField ∈ BIG := mm_bigI 653 (by decide +kernel) rfl
theorem lk_44 : Cond.methodLink RX3 38 yX3_takeSign ∈ BIG := mm_bigI 632 (by decide +kernel) rfl
theorem lk_45 : Cond.methodLink RX3 42 yX3_takeNumber ∈ BIG := mm_bigI 636 (by decide +kernel) rfl
theorem lk_46 : Cond.fieldLink RX3 79 "IceRoad$Rule" "fields" "[I" ∈ BIG := mm_bigI 234 (by decide +kernel) rfl
theorem lk_47 : Cond.fieldLink RX3 83 "IceRoad$Rule" "signs" "[I" ∈ BIG := mm_bigI 236 (by decide +kernel) rfl
theorem lk_48 : Cond.fieldLink RX3 86 "IceRoad$Rule" "limits" "[I" ∈ BIG := mm_bigI 238 (by decide +kernel) rfl
theorem lk_49 : Cond.methodLink RX3 62 yX3_takeTest ∈ BIG := mm_bigI 649 (by decide +kernel) rfl
theorem lk_50 : Cond.methodLink RX3 48 yX3_isAtEnd ∈ BIG := mm_bigI 640 (by decide +kernel) rfl
theorem lk_51 : Cond.methodLink RX3 65 yX3_takeJoint ∈ BIG := mm_bigI 662 (by decide +kernel) rfl
theorem lk_52 : Cond.methodLink RX3 31 yX3_takeKey ∈ BIG := mm_bigI 569 (by decide +kernel) rfl
theorem lk_53 : Cond.fieldLink RX3 35 "IceRoad$Rule" "key" "I" ∈ BIG := mm_bigI 220 (by decide +kernel) rfl
theorem lk_54 : Cond.fieldLink RX3 45 "IceRoad$Rule" "number" "I" ∈ BIG := mm_bigI 223 (by decide +kernel) rfl
theorem lk_55 : Cond.methodLink RX3 52 yX3_takeTests ∈ BIG := mm_bigI 644 (by decide +kernel) rfl
theorem lk_56 : Cond.fieldLink RX5 9 "IceRoad$Weather" "heats" "[I" ∈ BIG := mm_bigI 100 (by decide +kernel) rfl
theorem lk_57 : Cond.methodLink RX5 15 yJ9_floorMod_7cf53 ∈ BIG := mm_bigI 384 (by decide +kernel) rfl
theorem lk_58 : Cond.methodLink RX5 21 yX5_nearest ∈ BIG := mm_bigI 387 (by decide +kernel) rfl
theorem lk_59 : Cond.methodLink RX5 24 Lib.Math.max.name ∈ BIG := mm_bigI 391 (by decide +kernel) rfl
theorem lk_60 : Cond.fieldLink RX6 72 "IceRoad" "loadCount" "I" ∈ BIG := mm_bigI 275 (by decide +kernel) rfl
theorem lk_61 : Cond.fieldLink RX6 17 "IceRoad" "loads" "[LIceRoad$Load;" ∈ BIG := mm_bigI 263 (by decide +kernel) rfl
theorem lk_62 : Cond.fieldLink RX6 164 "IceRoad$Load" "state" "I" ∈ BIG := mm_bigI 192 (by decide +kernel) rfl
theorem lk_63 : Cond.fieldLink RX6 170 "IceRoad$Load" "hoursThere" "I" ∈ BIG := mm_bigI 196 (by decide +kernel) rfl
theorem lk_64 : Cond.fieldLink RX6 68 "IceRoad" "cellCount" "I" ∈ BIG := mm_bigI 274 (by decide +kernel) rfl
theorem lk_65 : Cond.methodLink RX6 87 yX6_isWithin ∈ BIG := mm_bigI 315 (by decide +kernel) rfl
theorem lk_66 : Cond.fieldLink RX6 53 "IceRoad" "refusals" "[I" ∈ BIG := mm_bigI 270 (by decide +kernel) rfl
theorem lk_67 : Cond.methodLink RX6 95 yX6_isCell ∈ BIG := mm_bigI 326 (by decide +kernel) rfl
theorem lk_68 : Cond.fieldLink RX6 11 "IceRoad" "cells" "[LIceRoad$Cell;" ∈ BIG := mm_bigI 262 (by decide +kernel) rfl
theorem lk_69 : Cond.methodLink RX6 132 yX0_holdsUp ∈ BIG := mm_bigI 364 (by decide +kernel) rfl
theorem lk_70 : Cond.methodLink RX6 91 yX6_refuse ∈ BIG := mm_bigI 318 (by decide +kernel) rfl
theorem lk_71 : Cond.fieldLink RX6 167 "IceRoad$Load" "place" "I" ∈ BIG := mm_bigI 194 (by decide +kernel) rfl
theorem lk_72 : Cond.fieldLink RX6 99 "IceRoad$Cell" "kind" "I" ∈ BIG := mm_bigI 142 (by decide +kernel) rfl
theorem lk_73 : Cond.methodLink RX6 126 yX6_loadsOn ∈ BIG := mm_bigI 348 (by decide +kernel) rfl
theorem lk_74 : Cond.methodLink RX6 141 yX0_become ∈ BIG := mm_bigI 396 (by decide +kernel) rfl
theorem lk_75 : Cond.fieldLink RX6 105 "IceRoad$Cell" "snow" "I" ∈ BIG := mm_bigI 146 (by decide +kernel) rfl
theorem lk_76 : Cond.fieldLink RX6 114 "IceRoad$Cell" "wear" "I" ∈ BIG := mm_bigI 152 (by decide +kernel) rfl
theorem lk_77 : Cond.fieldLink RX6 102 "IceRoad$Cell" "thickness" "I" ∈ BIG := mm_bigI 144 (by decide +kernel) rfl
theorem lk_78 : Cond.methodLink RX6 83 yX0_lay ∈ BIG := mm_bigI 258 (by decide +kernel) rfl
theorem lk_79 : Cond.fieldLink RX6 64 "IceRoad" "rowThere" "Z" ∈ BIG := mm_bigI 273 (by decide +kernel) rfl
theorem lk_80 : Cond.fieldLink RX6 49 "IceRoad" "numbers" "[I" ∈ BIG := mm_bigI 269 (by decide +kernel) rfl
theorem lk_81 : Cond.fieldLink RX6 33 "IceRoad" "hours" "LIceRoad$Weather;" ∈ BIG := mm_bigI 266 (by decide +kernel) rfl
theorem lk_82 : Cond.fieldLink RX6 135 "IceRoad$Weather" "heats" "[I" ∈ BIG := mm_bigI 101 (by decide +kernel) rfl
theorem lk_83 : Cond.fieldLink RX6 108 "IceRoad$Cell" "depth" "I" ∈ BIG := mm_bigI 148 (by decide +kernel) rfl
theorem lk_84 : Cond.fieldLink RX6 154 "IceRoad$Load" "way" "I" ∈ BIG := mm_bigI 190 (by decide +kernel) rfl
theorem lk_85 : Cond.fieldLink RX6 56 "IceRoad" "facts" "[I" ∈ BIG := mm_bigI 271 (by decide +kernel) rfl
theorem lk_86 : Cond.fieldLink RX6 148 "IceRoad$Load" "weight" "I" ∈ BIG := mm_bigI 186 (by decide +kernel) rfl
theorem lk_87 : Cond.fieldLink RX6 151 "IceRoad$Load" "rank" "I" ∈ BIG := mm_bigI 188 (by decide +kernel) rfl
theorem lk_88 : Cond.fieldLink RX6 78 "IceRoad" "openHour" "I" ∈ BIG := mm_bigI 277 (by decide +kernel) rfl
theorem lk_89 : Cond.methodLink RX6 138 yX5_heatOf ∈ BIG := mm_bigI 380 (by decide +kernel) rfl
theorem lk_90 : Cond.fieldLink RX6 75 "IceRoad" "ruleCount" "I" ∈ BIG := mm_bigI 276 (by decide +kernel) rfl
theorem lk_91 : Cond.fieldLink RX6 26 "IceRoad" "rules" "[LIceRoad$Rule;" ∈ BIG := mm_bigI 265 (by decide +kernel) rfl
theorem lk_92 : Cond.fieldLink RX6 246 "IceRoad$Rule" "key" "I" ∈ BIG := mm_bigI 221 (by decide +kernel) rfl
theorem lk_93 : Cond.methodLink RX6 249 yX2_applies ∈ BIG := mm_bigI 450 (by decide +kernel) rfl
theorem lk_94 : Cond.fieldLink RX6 253 "IceRoad$Rule" "number" "I" ∈ BIG := mm_bigI 224 (by decide +kernel) rfl
theorem lk_95 : Cond.fieldLink RX6 129 "IceRoad$Cell" "known" "I" ∈ BIG := mm_bigI 156 (by decide +kernel) rfl
theorem lk_96 : Cond.methodLink RX6 234 yX6_nearestKnown ∈ BIG := mm_bigI 334 (by decide +kernel) rfl
theorem lk_97 : Cond.methodLink RX6 243 Lib.Math.min.name ∈ BIG := mm_bigI 341 (by decide +kernel) rfl
theorem lk_98 : Cond.methodLink RX6 238 Lib.Math.max.name ∈ BIG := mm_bigI 338 (by decide +kernel) rfl
theorem lk_99 : Cond.methodLink RX6 217 yX6_gatherFacts ∈ BIG := mm_bigI 442 (by decide +kernel) rfl
theorem lk_100 : Cond.methodLink RX6 221 yX6_numberFor ∈ BIG := mm_bigI 446 (by decide +kernel) rfl
theorem lk_101 : Cond.methodLink RX6 120 yX6_leastOf ∈ BIG := mm_bigI 330 (by decide +kernel) rfl
theorem lk_102 : Cond.methodLink RX6 256 yX0_lastCome ∈ BIG := mm_bigI 454 (by decide +kernel) rfl
theorem lk_103 : Cond.methodLink RX6 272 yX6_isBarred ∈ BIG := mm_bigI 511 (by decide +kernel) rfl
theorem lk_104 : Cond.methodLink RX6 176 yX6_reasonAgainst ∈ BIG := mm_bigI 438 (by decide +kernel) rfl
theorem lk_105 : Cond.methodLink RX6 276 yX0_noteCome ∈ BIG := mm_bigI 515 (by decide +kernel) rfl
theorem lk_106 : Cond.methodLink RX6 265 yX1_end ∈ BIG := mm_bigI 503 (by decide +kernel) rfl
theorem lk_107 : Cond.methodLink RX6 285 yX0_crack ∈ BIG := mm_bigI 531 (by decide +kernel) rfl
theorem lk_108 : Cond.methodLink RX6 279 yX1_enter ∈ BIG := mm_bigI 519 (by decide +kernel) rfl
theorem lk_109 : Cond.methodLink RX6 282 yX0_wearDown ∈ BIG := mm_bigI 523 (by decide +kernel) rfl
theorem lk_110 : Cond.methodLink RX6 228 arraycopyName ∈ BIG := mm_bigI 697 (by decide +kernel) rfl
theorem lk_111 : Cond.fieldLink RX6 48 "IceRoad" "tape" "LIceRoad$Tape;" ∈ BIG := mm_bigI 268 (by decide +kernel) rfl
theorem lk_112 : Cond.fieldLink RX6 199 "IceRoad$Tape" "length" "I" ∈ BIG := mm_bigI 121 (by decide +kernel) rfl
theorem lk_113 : Cond.methodLink RX6 180 yX6_loadsIn ∈ BIG := mm_bigI 466 (by decide +kernel) rfl
theorem lk_114 : Cond.methodLink RX6 224 yX6_tonsDelivered ∈ BIG := mm_bigI 677 (by decide +kernel) rfl
theorem lk_115 : Cond.methodLink RX6 202 yX4_put ∈ BIG := mm_bigI 552 (by decide +kernel) rfl
theorem lk_116 : Cond.fieldLink RX6 60 "IceRoad" "trial" "LIceRoad$Cell;" ∈ BIG := mm_bigI 272 (by decide +kernel) rfl
theorem lk_117 : Cond.methodLink RX6 288 yX0_takeAfter ∈ BIG := mm_bigI 544 (by decide +kernel) rfl
theorem lk_118 : Cond.methodLink RX6 259 yX0_passHour ∈ BIG := mm_bigI 478 (by decide +kernel) rfl
theorem lk_119 : Cond.fieldLink RX6 21 "IceRoad" "moving" "[LIceRoad$Load;" ∈ BIG := mm_bigI 264 (by decide +kernel) rfl
theorem lk_120 : Cond.methodLink RX6 157 yX6_lineUp ∈ BIG := mm_bigI 422 (by decide +kernel) rfl
theorem lk_121 : Cond.fieldLink RX6 111 "IceRoad$Cell" "length" "I" ∈ BIG := mm_bigI 150 (by decide +kernel) rfl
theorem lk_122 : Cond.fieldLink RX6 117 "IceRoad$Cell" "healing" "I" ∈ BIG := mm_bigI 154 (by decide +kernel) rfl
theorem lk_123 : Cond.methodLink RX6 123 yX6_mostOf ∈ BIG := mm_bigI 344 (by decide +kernel) rfl
theorem lk_124 : Cond.methodLink RX6 161 yX6_isLoad ∈ BIG := mm_bigI 430 (by decide +kernel) rfl
theorem lk_125 : Cond.methodLink RX6 262 yX6_lastPlace ∈ BIG := mm_bigI 499 (by decide +kernel) rfl
theorem lk_126 : Cond.methodLink RX6 269 yX6_comeIfItCan ∈ BIG := mm_bigI 507 (by decide +kernel) rfl
theorem lk_127 : Cond.fieldLink RX6 173 "IceRoad$Load" "endHour" "I" ∈ BIG := mm_bigI 198 (by decide +kernel) rfl
theorem lk_128 : Cond.constant RX6 205 100000 ∈ BIG := mm_bigI 564 (by decide +kernel) rfl
theorem lk_129 : Cond.fieldLink RX6 40 "IceRoad" "reader" "LIceRoad$RuleReader;" ∈ BIG := mm_bigI 267 (by decide +kernel) rfl
theorem lk_130 : Cond.methodLink RX6 206 yX3_takeRule ∈ BIG := mm_bigI 565 (by decide +kernel) rfl
theorem lk_131 : Cond.fieldLink RX6 211 "IceRoad$Rule" "from" "I" ∈ BIG := mm_bigI 226 (by decide +kernel) rfl
theorem lk_132 : Cond.fieldLink RX6 214 "IceRoad$Rule" "to" "I" ∈ BIG := mm_bigI 228 (by decide +kernel) rfl
theorem lk_133 : Cond.fieldLink RX6 210 "IceRoad$RuleReader" "place" "I" ∈ BIG := mm_bigI 130 (by decide +kernel) rfl
theorem lk_134 : Cond.methodLink RX6 183 yX6_weatherCells ∈ BIG := mm_bigI 474 (by decide +kernel) rfl
theorem lk_135 : Cond.methodLink RX6 186 yX6_agePlaces ∈ BIG := mm_bigI 491 (by decide +kernel) rfl
theorem lk_136 : Cond.methodLink RX6 189 yX6_moveLoadsOnCells ∈ BIG := mm_bigI 495 (by decide +kernel) rfl
theorem lk_137 : Cond.methodLink RX6 192 yX6_moveWaitingLoads ∈ BIG := mm_bigI 532 (by decide +kernel) rfl
theorem lk_138 : Cond.methodLink RX6 145 yX0_takeSnow ∈ BIG := mm_bigI 412 (by decide +kernel) rfl
theorem lk_139 : Cond.methodLink RX6 195 yX6_hoursHeldUp ∈ BIG := mm_bigI 540 (by decide +kernel) rfl
theorem lk_140 : Cond.fieldLink RX7 17 "IceRoadModel" "kind" "[I" ∈ BIG := mm_bigI 713 (by decide +kernel) rfl
theorem lk_141 : Cond.fieldLink RX7 20 "IceRoadModel" "thickness" "[I" ∈ BIG := mm_bigI 714 (by decide +kernel) rfl
theorem lk_142 : Cond.fieldLink RX7 13 "IceRoadModel" "cells" "I" ∈ BIG := mm_bigI 712 (by decide +kernel) rfl
theorem lk_143 : Cond.methodLink RX7 115 yX7_isBorne ∈ BIG := mm_bigI 861 (by decide +kernel) rfl
theorem lk_144 : Cond.methodLink RX7 87 yX7_in ∈ BIG := mm_bigI 818 (by decide +kernel) rfl
theorem lk_145 : Cond.fieldLink RX7 7 "IceRoadModel" "refusals" "[I" ∈ BIG := mm_bigI 710 (by decide +kernel) rfl
theorem lk_146 : Cond.methodLink RX7 98 yX7_isCell ∈ BIG := mm_bigI 829 (by decide +kernel) rfl
theorem lk_147 : Cond.methodLink RX7 94 yX7_refuse ∈ BIG := mm_bigI 821 (by decide +kernel) rfl
theorem lk_148 : Cond.fieldLink RX7 38 "IceRoadModel" "known" "[I" ∈ BIG := mm_bigI 720 (by decide +kernel) rfl
theorem lk_149 : Cond.fieldLink RX7 91 "IceRoadModel" "loads" "I" ∈ BIG := mm_bigI 723 (by decide +kernel) rfl
theorem lk_150 : Cond.fieldLink RX7 56 "IceRoadModel" "state" "[I" ∈ BIG := mm_bigI 727 (by decide +kernel) rfl
theorem lk_151 : Cond.fieldLink RX7 59 "IceRoadModel" "on" "[I" ∈ BIG := mm_bigI 728 (by decide +kernel) rfl
theorem lk_152 : Cond.methodLink RX7 112 yX7_loadsOn ∈ BIG := mm_bigI 845 (by decide +kernel) rfl
theorem lk_153 : Cond.methodLink RX7 125 yX7_becomes ∈ BIG := mm_bigI 885 (by decide +kernel) rfl
theorem lk_154 : Cond.fieldLink RX7 23 "IceRoadModel" "snow" "[I" ∈ BIG := mm_bigI 715 (by decide +kernel) rfl
theorem lk_155 : Cond.fieldLink RX7 32 "IceRoadModel" "wear" "[I" ∈ BIG := mm_bigI 718 (by decide +kernel) rfl
theorem lk_156 : Cond.fieldLink RX7 44 "IceRoadModel" "weather" "[I" ∈ BIG := mm_bigI 722 (by decide +kernel) rfl
theorem lk_157 : Cond.fieldLink RX7 132 "IceRoadModel" "hour" "I" ∈ BIG := mm_bigI 711 (by decide +kernel) rfl
theorem lk_158 : Cond.methodLink RX7 122 yX7_heatOf ∈ BIG := mm_bigI 877 (by decide +kernel) rfl
theorem lk_159 : Cond.fieldLink RX7 50 "IceRoadModel" "rank" "[I" ∈ BIG := mm_bigI 725 (by decide +kernel) rfl
theorem lk_160 : Cond.fieldLink RX7 47 "IceRoadModel" "weight" "[I" ∈ BIG := mm_bigI 724 (by decide +kernel) rfl
theorem lk_161 : Cond.fieldLink RX7 68 "IceRoadModel" "rule" "[I" ∈ BIG := mm_bigI 732 (by decide +kernel) rfl
theorem lk_162 : Cond.methodLink RX7 135 yX7_field ∈ BIG := mm_bigI 929 (by decide +kernel) rfl
theorem lk_163 : Cond.fieldLink RX7 139 "IceRoadModel" "rules" "I" ∈ BIG := mm_bigI 731 (by decide +kernel) rfl
theorem lk_164 : Cond.methodLink RX7 142 yX7_holds ∈ BIG := mm_bigI 925 (by decide +kernel) rfl
theorem lk_165 : Cond.methodLink RX7 102 yX7_nearest ∈ BIG := mm_bigI 837 (by decide +kernel) rfl
theorem lk_166 : Cond.methodLink RX7 145 yX7_saidOf ∈ BIG := mm_bigI 921 (by decide +kernel) rfl
theorem lk_167 : Cond.methodLink RX7 106 yX7_least ∈ BIG := mm_bigI 833 (by decide +kernel) rfl
theorem lk_168 : Cond.fieldLink RX7 41 "IceRoadModel" "came" "[I" ∈ BIG := mm_bigI 721 (by decide +kernel) rfl
theorem lk_169 : Cond.fieldLink RX7 53 "IceRoadModel" "way" "[I" ∈ BIG := mm_bigI 726 (by decide +kernel) rfl
theorem lk_170 : Cond.methodLink RX7 148 yX7_whyNot ∈ BIG := mm_bigI 917 (by decide +kernel) rfl
theorem lk_171 : Cond.fieldLink RX7 26 "IceRoadModel" "depth" "[I" ∈ BIG := mm_bigI 716 (by decide +kernel) rfl
theorem lk_172 : Cond.fieldLink RX7 29 "IceRoadModel" "length" "[I" ∈ BIG := mm_bigI 717 (by decide +kernel) rfl
theorem lk_173 : Cond.fieldLink RX7 222 "IceRoadModel" "isThere" "Z" ∈ BIG := mm_bigI 741 (by decide +kernel) rfl
theorem lk_174 : Cond.fieldLink RX7 81 "IceRoadModel" "row" "[I" ∈ BIG := mm_bigI 742 (by decide +kernel) rfl
theorem lk_175 : Cond.fieldLink RX7 35 "IceRoadModel" "healing" "[I" ∈ BIG := mm_bigI 719 (by decide +kernel) rfl
theorem lk_176 : Cond.fieldLink RX7 62 "IceRoadModel" "there" "[I" ∈ BIG := mm_bigI 729 (by decide +kernel) rfl
theorem lk_177 : Cond.methodLink RX7 154 yX7_cracks ∈ BIG := mm_bigI 973 (by decide +kernel) rfl
theorem lk_178 : Cond.fieldLink RX7 65 "IceRoadModel" "ended" "[I" ∈ BIG := mm_bigI 730 (by decide +kernel) rfl
theorem lk_179 : Cond.fieldLink RX7 84 "IceRoadModel" "moved" "[I" ∈ BIG := mm_bigI 743 (by decide +kernel) rfl
theorem lk_180 : Cond.fieldLink RX7 182 "IceRoadModel" "taped" "I" ∈ BIG := mm_bigI 737 (by decide +kernel) rfl
theorem lk_181 : Cond.fieldLink RX7 158 "IceRoadModel" "tons" "I" ∈ BIG := mm_bigI 734 (by decide +kernel) rfl
theorem lk_182 : Cond.methodLink RX7 151 yX7_many ∈ BIG := mm_bigI 941 (by decide +kernel) rfl
theorem lk_183 : Cond.fieldLink RX7 185 "IceRoadModel" "at" "I" ∈ BIG := mm_bigI 738 (by decide +kernel) rfl
theorem lk_184 : Cond.fieldLink RX7 78 "IceRoadModel" "tape" "[I" ∈ BIG := mm_bigI 736 (by decide +kernel) rfl
theorem lk_185 : Cond.fieldLink RX7 199 "IceRoadModel" "number" "I" ∈ BIG := mm_bigI 740 (by decide +kernel) rfl
theorem lk_186 : Cond.fieldLink RX7 188 "IceRoadModel" "isFaulty" "Z" ∈ BIG := mm_bigI 739 (by decide +kernel) rfl
theorem lk_187 : Cond.methodLink RX7 192 yX7_here ∈ BIG := mm_bigI 1006 (by decide +kernel) rfl
theorem lk_188 : Cond.methodLink RX7 196 yX7_eats ∈ BIG := mm_bigI 1014 (by decide +kernel) rfl
theorem lk_189 : Cond.methodLink RX7 202 yX7_eats3 ∈ BIG := mm_bigI 1010 (by decide +kernel) rfl
theorem lk_190 : Cond.fieldLink RX7 71 "IceRoadModel" "isDone" "[Z" ∈ BIG := mm_bigI 733 (by decide +kernel) rfl
theorem lk_191 : Cond.methodLink RX7 161 yX7_can ∈ BIG := mm_bigI 965 (by decide +kernel) rfl
theorem lk_192 : Cond.methodLink RX7 164 yX7_comes ∈ BIG := mm_bigI 969 (by decide +kernel) rfl
theorem lk_193 : Cond.methodLink RX7 167 yX7_grows ∈ BIG := mm_bigI 953 (by decide +kernel) rfl
theorem lk_194 : Cond.methodLink RX7 170 yX7_next ∈ BIG := mm_bigI 957 (by decide +kernel) rfl
theorem lk_195 : Cond.methodLink RX7 173 yX7_goesOn ∈ BIG := mm_bigI 961 (by decide +kernel) rfl
theorem lk_196 : Cond.methodLink RX7 119 yX7_nought ∈ BIG := mm_bigI 869 (by decide +kernel) rfl
theorem lk_197 : Cond.methodLink RX7 109 yX7_most ∈ BIG := mm_bigI 841 (by decide +kernel) rfl
theorem lk_198 : Cond.methodLink RX7 129 yX7_isLoad ∈ BIG := mm_bigI 909 (by decide +kernel) rfl
theorem lk_199 : Cond.methodLink RX7 206 yX7_fieldRead ∈ BIG := mm_bigI 1026 (by decide +kernel) rfl
theorem lk_200 : Cond.methodLink RX7 209 yX7_digits ∈ BIG := mm_bigI 1018 (by decide +kernel) rfl
theorem lk_201 : Cond.methodLink RX7 212 yX7_key ∈ BIG := mm_bigI 1002 (by decide +kernel) rfl
theorem lk_202 : Cond.methodLink RX7 215 yX7_test ∈ BIG := mm_bigI 1022 (by decide +kernel) rfl
theorem lk_203 : Cond.constant RX7 218 100000 ∈ BIG := mm_bigI 997 (by decide +kernel) rfl
theorem lk_204 : Cond.methodLink RX7 219 yX7_reads ∈ BIG := mm_bigI 998 (by decide +kernel) rfl
theorem lk_205 : Cond.methodLink RX7 176 yX7_goesBy ∈ BIG := mm_bigI 949 (by decide +kernel) rfl
theorem lk_206 : Cond.methodLink RX7 179 yX7_allBear ∈ BIG := mm_bigI 981 (by decide +kernel) rfl
theorem lk_207 : Cond.fieldLink RX7 75 "IceRoadModel" "kept" "[I" ∈ BIG := mm_bigI 735 (by decide +kernel) rfl
theorem ws_J9_floorMod_7cf53 : mmWs yJ9_floorMod_7cf53 cJ9_floorMod_7cf53 3 (some .int) := ⟨mm_bigI 385 (by decide +kernel) rfl, mm_bigI 74 (by decide +kernel) rfl, mm_bigI 386 (by decide +kernel) rfl⟩
theorem hd_J9_floorMod_7cf53 : yJ9_floorMod_7cf53.cls ≠ "java/lang/invoke/MethodHandle" ∧ yJ9_floorMod_7cf53.cls ≠ "java/lang/invoke/VarHandle" ∧ (parseMethodDescriptor yJ9_floorMod_7cf53.desc).map (fun d => d.parameters.length) = some 2 := by decide +kernel
theorem ws_X0_become : mmW yX0_become cX0_become 2 none := ⟨mm_bigI 397 (by decide +kernel) rfl, mm_bigI 398 (by decide +kernel) rfl, mm_bigI 70 (by decide +kernel) rfl, mm_bigI 399 (by decide +kernel) rfl⟩
theorem hd_X0_become : yX0_become.cls ≠ "java/lang/invoke/MethodHandle" ∧ yX0_become.cls ≠ "java/lang/invoke/VarHandle" ∧ (parseMethodDescriptor yX0_become.desc).map (fun d => d.parameters.length) = some 1 := by decide +kernel
theorem ws_X0_crack : mmW yX0_crack cX0_crack 1 none := ⟨mm_bigI 528 (by decide +kernel) rfl, mm_bigI 529 (by decide +kernel) rfl, mm_bigI 70 (by decide +kernel) rfl, mm_bigI 530 (by decide +kernel) rfl⟩
theorem hd_X0_crack : yX0_crack.cls ≠ "java/lang/invoke/MethodHandle" ∧ yX0_crack.cls ≠ "java/lang/invoke/VarHandle" ∧ (parseMethodDescriptor yX0_crack.desc).map (fun d => d.parameters.length) = some 0 := by decide +kernel
theorem ws_X0_growth : mmW yX0_growth cX0_growth 5 (some .int) := ⟨mm_bigI 484 (by decide +kernel) rfl, mm_bigI 14 (by decide +kernel) rfl, mm_bigI 70 (by decide +kernel) rfl, mm_bigI 485 (by decide +kernel) rfl⟩
theorem hd_X0_growth : yX0_growth.cls ≠ "java/lang/invoke/MethodHandle" ∧ yX0_growth.cls ≠ "java/lang/invoke/VarHandle" ∧ (parseMethodDescriptor yX0_growth.desc).map (fun d => d.parameters.length) = some 1 := by decide +kernel
theorem ws_X0_healOneHour : mmW yX0_healOneHour cX0_healOneHour 1 none := ⟨mm_bigI 489 (by decide +kernel) rfl, mm_bigI 15 (by decide +kernel) rfl, mm_bigI 70 (by decide +kernel) rfl, mm_bigI 490 (by decide +kernel) rfl⟩
theorem hd_X0_healOneHour : yX0_healOneHour.cls ≠ "java/lang/invoke/MethodHandle" ∧ yX0_healOneHour.cls ≠ "java/lang/invoke/VarHandle" ∧ (parseMethodDescriptor yX0_healOneHour.desc).map (fun d => d.parameters.length) = some 0 := by decide +kernel
theorem ws_X0_holdsUp : mmW yX0_holdsUp cX0_holdsUp 3 (some .boolean) := ⟨mm_bigI 365 (by decide +kernel) rfl, mm_bigI 366 (by decide +kernel) rfl, mm_bigI 70 (by decide +kernel) rfl, mm_bigI 367 (by decide +kernel) rfl⟩
theorem hd_X0_holdsUp : yX0_holdsUp.cls ≠ "java/lang/invoke/MethodHandle" ∧ yX0_holdsUp.cls ≠ "java/lang/invoke/VarHandle" ∧ (parseMethodDescriptor yX0_holdsUp.desc).map (fun d => d.parameters.length) = some 1 := by decide +kernel
theorem ws_X0_lastCome : mmW yX0_lastCome cX0_lastCome 2 (some .int) := ⟨mm_bigI 455 (by decide +kernel) rfl, mm_bigI 456 (by decide +kernel) rfl, mm_bigI 70 (by decide +kernel) rfl, mm_bigI 457 (by decide +kernel) rfl⟩
theorem hd_X0_lastCome : yX0_lastCome.cls ≠ "java/lang/invoke/MethodHandle" ∧ yX0_lastCome.cls ≠ "java/lang/invoke/VarHandle" ∧ (parseMethodDescriptor yX0_lastCome.desc).map (fun d => d.parameters.length) = some 1 := by decide +kernel
theorem ws_X0_lay : mmW yX0_lay cX0_lay 4 none := ⟨mm_bigI 259 (by decide +kernel) rfl, mm_bigI 260 (by decide +kernel) rfl, mm_bigI 70 (by decide +kernel) rfl, mm_bigI 261 (by decide +kernel) rfl⟩
theorem hd_X0_lay : yX0_lay.cls ≠ "java/lang/invoke/MethodHandle" ∧ yX0_lay.cls ≠ "java/lang/invoke/VarHandle" ∧ (parseMethodDescriptor yX0_lay.desc).map (fun d => d.parameters.length) = some 3 := by decide +kernel
theorem ws_X0_noteCome : mmW yX0_noteCome cX0_noteCome 3 none := ⟨mm_bigI 516 (by decide +kernel) rfl, mm_bigI 517 (by decide +kernel) rfl, mm_bigI 70 (by decide +kernel) rfl, mm_bigI 518 (by decide +kernel) rfl⟩
theorem hd_X0_noteCome : yX0_noteCome.cls ≠ "java/lang/invoke/MethodHandle" ∧ yX0_noteCome.cls ≠ "java/lang/invoke/VarHandle" ∧ (parseMethodDescriptor yX0_noteCome.desc).map (fun d => d.parameters.length) = some 2 := by decide +kernel
theorem ws_X0_passHour : mmW yX0_passHour cX0_passHour 2 none := ⟨mm_bigI 479 (by decide +kernel) rfl, mm_bigI 480 (by decide +kernel) rfl, mm_bigI 70 (by decide +kernel) rfl, mm_bigI 481 (by decide +kernel) rfl⟩
theorem hd_X0_passHour : yX0_passHour.cls ≠ "java/lang/invoke/MethodHandle" ∧ yX0_passHour.cls ≠ "java/lang/invoke/VarHandle" ∧ (parseMethodDescriptor yX0_passHour.desc).map (fun d => d.parameters.length) = some 1 := by decide +kernel
theorem ws_X0_takeAfter : mmW yX0_takeAfter cX0_takeAfter 2 none := ⟨mm_bigI 545 (by decide +kernel) rfl, mm_bigI 546 (by decide +kernel) rfl, mm_bigI 70 (by decide +kernel) rfl, mm_bigI 547 (by decide +kernel) rfl⟩
theorem hd_X0_takeAfter : yX0_takeAfter.cls ≠ "java/lang/invoke/MethodHandle" ∧ yX0_takeAfter.cls ≠ "java/lang/invoke/VarHandle" ∧ (parseMethodDescriptor yX0_takeAfter.desc).map (fun d => d.parameters.length) = some 1 := by decide +kernel
theorem ws_X0_takeSnow : mmW yX0_takeSnow cX0_takeSnow 2 (some .boolean) := ⟨mm_bigI 413 (by decide +kernel) rfl, mm_bigI 414 (by decide +kernel) rfl, mm_bigI 70 (by decide +kernel) rfl, mm_bigI 415 (by decide +kernel) rfl⟩
theorem hd_X0_takeSnow : yX0_takeSnow.cls ≠ "java/lang/invoke/MethodHandle" ∧ yX0_takeSnow.cls ≠ "java/lang/invoke/VarHandle" ∧ (parseMethodDescriptor yX0_takeSnow.desc).map (fun d => d.parameters.length) = some 1 := by decide +kernel
theorem ws_X0_wearDown : mmW yX0_wearDown cX0_wearDown 2 none := ⟨mm_bigI 524 (by decide +kernel) rfl, mm_bigI 525 (by decide +kernel) rfl, mm_bigI 70 (by decide +kernel) rfl, mm_bigI 526 (by decide +kernel) rfl⟩
theorem hd_X0_wearDown : yX0_wearDown.cls ≠ "java/lang/invoke/MethodHandle" ∧ yX0_wearDown.cls ≠ "java/lang/invoke/VarHandle" ∧ (parseMethodDescriptor yX0_wearDown.desc).map (fun d => d.parameters.length) = some 1 := by decide +kernel
theorem ws_X1_end : mmW yX1_end cX1_end 3 none := ⟨mm_bigI 504 (by decide +kernel) rfl, mm_bigI 505 (by decide +kernel) rfl, mm_bigI 71 (by decide +kernel) rfl, mm_bigI 506 (by decide +kernel) rfl⟩
theorem hd_X1_end : yX1_end.cls ≠ "java/lang/invoke/MethodHandle" ∧ yX1_end.cls ≠ "java/lang/invoke/VarHandle" ∧ (parseMethodDescriptor yX1_end.desc).map (fun d => d.parameters.length) = some 2 := by decide +kernel
theorem ws_X1_enter : mmW yX1_enter cX1_enter 2 none := ⟨mm_bigI 520 (by decide +kernel) rfl, mm_bigI 521 (by decide +kernel) rfl, mm_bigI 71 (by decide +kernel) rfl, mm_bigI 522 (by decide +kernel) rfl⟩
theorem hd_X1_enter : yX1_enter.cls ≠ "java/lang/invoke/MethodHandle" ∧ yX1_enter.cls ≠ "java/lang/invoke/VarHandle" ∧ (parseMethodDescriptor yX1_enter.desc).map (fun d => d.parameters.length) = some 1 := by decide +kernel
theorem ws_X2_applies : mmW yX2_applies cX2_applies 8 (some .boolean) := ⟨mm_bigI 451 (by decide +kernel) rfl, mm_bigI 452 (by decide +kernel) rfl, mm_bigI 72 (by decide +kernel) rfl, mm_bigI 453 (by decide +kernel) rfl⟩
theorem hd_X2_applies : yX2_applies.cls ≠ "java/lang/invoke/MethodHandle" ∧ yX2_applies.cls ≠ "java/lang/invoke/VarHandle" ∧ (parseMethodDescriptor yX2_applies.desc).map (fun d => d.parameters.length) = some 2 := by decide +kernel
theorem ws_X3_isAtEnd : mmW yX3_isAtEnd cX3_isAtEnd 1 (some .boolean) := ⟨mm_bigI 642 (by decide +kernel) rfl, mm_bigI 27 (by decide +kernel) rfl, mm_bigI 68 (by decide +kernel) rfl, mm_bigI 643 (by decide +kernel) rfl⟩
theorem hd_X3_isAtEnd : yX3_isAtEnd.cls ≠ "java/lang/invoke/MethodHandle" ∧ yX3_isAtEnd.cls ≠ "java/lang/invoke/VarHandle" ∧ (parseMethodDescriptor yX3_isAtEnd.desc).map (fun d => d.parameters.length) = some 0 := by decide +kernel
theorem ws_X4_at : mmW yX4_at cX4_at 2 (some .int) := ⟨mm_bigI 574 (by decide +kernel) rfl, mm_bigI 575 (by decide +kernel) rfl, mm_bigI 69 (by decide +kernel) rfl, mm_bigI 576 (by decide +kernel) rfl⟩
theorem hd_X4_at : yX4_at.cls ≠ "java/lang/invoke/MethodHandle" ∧ yX4_at.cls ≠ "java/lang/invoke/VarHandle" ∧ (parseMethodDescriptor yX4_at.desc).map (fun d => d.parameters.length) = some 1 := by decide +kernel
theorem ws_X3_takeWord : mmW yX3_takeWord cX3_takeWord 3 (some .boolean) := ⟨mm_bigI 580 (by decide +kernel) rfl, mm_bigI 24 (by decide +kernel) rfl, mm_bigI 68 (by decide +kernel) rfl, mm_bigI 581 (by decide +kernel) rfl⟩
theorem hd_X3_takeWord : yX3_takeWord.cls ≠ "java/lang/invoke/MethodHandle" ∧ yX3_takeWord.cls ≠ "java/lang/invoke/VarHandle" ∧ (parseMethodDescriptor yX3_takeWord.desc).map (fun d => d.parameters.length) = some 1 := by decide +kernel
theorem ws_X3_takeField : mmW yX3_takeField cX3_takeField 1 (some .int) := ⟨mm_bigI 655 (by decide +kernel) rfl, mm_bigI 30 (by decide +kernel) rfl, mm_bigI 68 (by decide +kernel) rfl, mm_bigI 656 (by decide +kernel) rfl⟩
theorem hd_X3_takeField : yX3_takeField.cls ≠ "java/lang/invoke/MethodHandle" ∧ yX3_takeField.cls ≠ "java/lang/invoke/VarHandle" ∧ (parseMethodDescriptor yX3_takeField.desc).map (fun d => d.parameters.length) = some 0 := by decide +kernel
theorem ws_X3_takeJoint : mmW yX3_takeJoint cX3_takeJoint 2 (some .boolean) := ⟨mm_bigI 664 (by decide +kernel) rfl, mm_bigI 31 (by decide +kernel) rfl, mm_bigI 68 (by decide +kernel) rfl, mm_bigI 665 (by decide +kernel) rfl⟩
theorem hd_X3_takeJoint : yX3_takeJoint.cls ≠ "java/lang/invoke/MethodHandle" ∧ yX3_takeJoint.cls ≠ "java/lang/invoke/VarHandle" ∧ (parseMethodDescriptor yX3_takeJoint.desc).map (fun d => d.parameters.length) = some 1 := by decide +kernel
theorem ws_X3_takeKey : mmW yX3_takeKey cX3_takeKey 1 (some .int) := ⟨mm_bigI 571 (by decide +kernel) rfl, mm_bigI 23 (by decide +kernel) rfl, mm_bigI 68 (by decide +kernel) rfl, mm_bigI 572 (by decide +kernel) rfl⟩
theorem hd_X3_takeKey : yX3_takeKey.cls ≠ "java/lang/invoke/MethodHandle" ∧ yX3_takeKey.cls ≠ "java/lang/invoke/VarHandle" ∧ (parseMethodDescriptor yX3_takeKey.desc).map (fun d => d.parameters.length) = some 0 := by decide +kernel
theorem ws_X3_takeNumber : mmW yX3_takeNumber cX3_takeNumber 4 (some .int) := ⟨mm_bigI 638 (by decide +kernel) rfl, mm_bigI 26 (by decide +kernel) rfl, mm_bigI 68 (by decide +kernel) rfl, mm_bigI 639 (by decide +kernel) rfl⟩
theorem hd_X3_takeNumber : yX3_takeNumber.cls ≠ "java/lang/invoke/MethodHandle" ∧ yX3_takeNumber.cls ≠ "java/lang/invoke/VarHandle" ∧ (parseMethodDescriptor yX3_takeNumber.desc).map (fun d => d.parameters.length) = some 0 := by decide +kernel
theorem ws_X3_takeSign : mmW yX3_takeSign cX3_takeSign 2 (some .boolean) := ⟨mm_bigI 634 (by decide +kernel) rfl, mm_bigI 25 (by decide +kernel) rfl, mm_bigI 68 (by decide +kernel) rfl, mm_bigI 635 (by decide +kernel) rfl⟩
theorem hd_X3_takeSign : yX3_takeSign.cls ≠ "java/lang/invoke/MethodHandle" ∧ yX3_takeSign.cls ≠ "java/lang/invoke/VarHandle" ∧ (parseMethodDescriptor yX3_takeSign.desc).map (fun d => d.parameters.length) = some 1 := by decide +kernel
theorem ws_X3_takeTest : mmW yX3_takeTest cX3_takeTest 6 (some .boolean) := ⟨mm_bigI 651 (by decide +kernel) rfl, mm_bigI 29 (by decide +kernel) rfl, mm_bigI 68 (by decide +kernel) rfl, mm_bigI 652 (by decide +kernel) rfl⟩
theorem hd_X3_takeTest : yX3_takeTest.cls ≠ "java/lang/invoke/MethodHandle" ∧ yX3_takeTest.cls ≠ "java/lang/invoke/VarHandle" ∧ (parseMethodDescriptor yX3_takeTest.desc).map (fun d => d.parameters.length) = some 1 := by decide +kernel
theorem ws_X3_takeTests : mmW yX3_takeTests cX3_takeTests 3 (some .boolean) := ⟨mm_bigI 646 (by decide +kernel) rfl, mm_bigI 28 (by decide +kernel) rfl, mm_bigI 68 (by decide +kernel) rfl, mm_bigI 647 (by decide +kernel) rfl⟩
theorem hd_X3_takeTests : yX3_takeTests.cls ≠ "java/lang/invoke/MethodHandle" ∧ yX3_takeTests.cls ≠ "java/lang/invoke/VarHandle" ∧ (parseMethodDescriptor yX3_takeTests.desc).map (fun d => d.parameters.length) = some 1 := by decide +kernel
theorem ws_X3_takeRule : mmW yX3_takeRule cX3_takeRule 2 (some .boolean) := ⟨mm_bigI 566 (by decide +kernel) rfl, mm_bigI 567 (by decide +kernel) rfl, mm_bigI 68 (by decide +kernel) rfl, mm_bigI 568 (by decide +kernel) rfl⟩
theorem hd_X3_takeRule : yX3_takeRule.cls ≠ "java/lang/invoke/MethodHandle" ∧ yX3_takeRule.cls ≠ "java/lang/invoke/VarHandle" ∧ (parseMethodDescriptor yX3_takeRule.desc).map (fun d => d.parameters.length) = some 1 := by decide +kernel
theorem ws_X4_put : mmW yX4_put cX4_put 2 none := ⟨mm_bigI 553 (by decide +kernel) rfl, mm_bigI 554 (by decide +kernel) rfl, mm_bigI 69 (by decide +kernel) rfl, mm_bigI 555 (by decide +kernel) rfl⟩
theorem hd_X4_put : yX4_put.cls ≠ "java/lang/invoke/MethodHandle" ∧ yX4_put.cls ≠ "java/lang/invoke/VarHandle" ∧ (parseMethodDescriptor yX4_put.desc).map (fun d => d.parameters.length) = some 1 := by decide +kernel
theorem ws_X5_nearest : mmW yX5_nearest cX5_nearest 5 (some .int) := ⟨mm_bigI 389 (by decide +kernel) rfl, mm_bigI 6 (by decide +kernel) rfl, mm_bigI 67 (by decide +kernel) rfl, mm_bigI 390 (by decide +kernel) rfl⟩
theorem hd_X5_nearest : yX5_nearest.cls ≠ "java/lang/invoke/MethodHandle" ∧ yX5_nearest.cls ≠ "java/lang/invoke/VarHandle" ∧ (parseMethodDescriptor yX5_nearest.desc).map (fun d => d.parameters.length) = some 2 := by decide +kernel
theorem ws_X5_heatOf : mmW yX5_heatOf cX5_heatOf 6 (some .int) := ⟨mm_bigI 381 (by decide +kernel) rfl, mm_bigI 382 (by decide +kernel) rfl, mm_bigI 67 (by decide +kernel) rfl, mm_bigI 383 (by decide +kernel) rfl⟩
theorem hd_X5_heatOf : yX5_heatOf.cls ≠ "java/lang/invoke/MethodHandle" ∧ yX5_heatOf.cls ≠ "java/lang/invoke/VarHandle" ∧ (parseMethodDescriptor yX5_heatOf.desc).map (fun d => d.parameters.length) = some 1 := by decide +kernel
theorem ws_X6_agePlaces : mmW yX6_agePlaces cX6_agePlaces 2 none := ⟨mm_bigI 493 (by decide +kernel) rfl, mm_bigI 16 (by decide +kernel) rfl, mm_bigI 66 (by decide +kernel) rfl, mm_bigI 494 (by decide +kernel) rfl⟩
theorem hd_X6_agePlaces : yX6_agePlaces.cls ≠ "java/lang/invoke/MethodHandle" ∧ yX6_agePlaces.cls ≠ "java/lang/invoke/VarHandle" ∧ (parseMethodDescriptor yX6_agePlaces.desc).map (fun d => d.parameters.length) = some 0 := by decide +kernel
theorem ws_X6_isCell : mmW yX6_isCell cX6_isCell 2 (some .boolean) := ⟨mm_bigI 328 (by decide +kernel) rfl, mm_bigI 1 (by decide +kernel) rfl, mm_bigI 66 (by decide +kernel) rfl, mm_bigI 329 (by decide +kernel) rfl⟩
theorem hd_X6_isCell : yX6_isCell.cls ≠ "java/lang/invoke/MethodHandle" ∧ yX6_isCell.cls ≠ "java/lang/invoke/VarHandle" ∧ (parseMethodDescriptor yX6_isCell.desc).map (fun d => d.parameters.length) = some 1 := by decide +kernel
theorem ws_X6_isWithin : mmWs yX6_isWithin cX6_isWithin 3 (some .boolean) := ⟨mm_bigI 316 (by decide +kernel) rfl, mm_bigI 66 (by decide +kernel) rfl, mm_bigI 317 (by decide +kernel) rfl⟩
theorem hd_X6_isWithin : yX6_isWithin.cls ≠ "java/lang/invoke/MethodHandle" ∧ yX6_isWithin.cls ≠ "java/lang/invoke/VarHandle" ∧ (parseMethodDescriptor yX6_isWithin.desc).map (fun d => d.parameters.length) = some 3 := by decide +kernel
theorem ws_X6_refuse : mmW yX6_refuse cX6_refuse 2 (some .int) := ⟨mm_bigI 320 (by decide +kernel) rfl, mm_bigI 0 (by decide +kernel) rfl, mm_bigI 66 (by decide +kernel) rfl, mm_bigI 321 (by decide +kernel) rfl⟩
theorem hd_X6_refuse : yX6_refuse.cls ≠ "java/lang/invoke/MethodHandle" ∧ yX6_refuse.cls ≠ "java/lang/invoke/VarHandle" ∧ (parseMethodDescriptor yX6_refuse.desc).map (fun d => d.parameters.length) = some 1 := by decide +kernel
theorem ws_X6_bears : mmW yX6_bears cX6_bears 3 (some .int) := ⟨mm_bigI 361 (by decide +kernel) rfl, mm_bigI 362 (by decide +kernel) rfl, mm_bigI 66 (by decide +kernel) rfl, mm_bigI 363 (by decide +kernel) rfl⟩
theorem hd_X6_bears : yX6_bears.cls ≠ "java/lang/invoke/MethodHandle" ∧ yX6_bears.cls ≠ "java/lang/invoke/VarHandle" ∧ (parseMethodDescriptor yX6_bears.desc).map (fun d => d.parameters.length) = some 2 := by decide +kernel
theorem ws_X6_loadsOn : mmW yX6_loadsOn cX6_loadsOn 4 (some .int) := ⟨mm_bigI 350 (by decide +kernel) rfl, mm_bigI 5 (by decide +kernel) rfl, mm_bigI 66 (by decide +kernel) rfl, mm_bigI 351 (by decide +kernel) rfl⟩
theorem hd_X6_loadsOn : yX6_loadsOn.cls ≠ "java/lang/invoke/MethodHandle" ∧ yX6_loadsOn.cls ≠ "java/lang/invoke/VarHandle" ∧ (parseMethodDescriptor yX6_loadsOn.desc).map (fun d => d.parameters.length) = some 1 := by decide +kernel
theorem ws_X6_bypass : mmW yX6_bypass cX6_bypass 3 (some .int) := ⟨mm_bigI 405 (by decide +kernel) rfl, mm_bigI 406 (by decide +kernel) rfl, mm_bigI 66 (by decide +kernel) rfl, mm_bigI 407 (by decide +kernel) rfl⟩
theorem hd_X6_bypass : yX6_bypass.cls ≠ "java/lang/invoke/MethodHandle" ∧ yX6_bypass.cls ≠ "java/lang/invoke/VarHandle" ∧ (parseMethodDescriptor yX6_bypass.desc).map (fun d => d.parameters.length) = some 1 := by decide +kernel
theorem ws_X6_cell : mmW yX6_cell cX6_cell 4 (some .int) := ⟨mm_bigI 312 (by decide +kernel) rfl, mm_bigI 313 (by decide +kernel) rfl, mm_bigI 66 (by decide +kernel) rfl, mm_bigI 314 (by decide +kernel) rfl⟩
theorem hd_X6_cell : yX6_cell.cls ≠ "java/lang/invoke/MethodHandle" ∧ yX6_cell.cls ≠ "java/lang/invoke/VarHandle" ∧ (parseMethodDescriptor yX6_cell.desc).map (fun d => d.parameters.length) = some 3 := by decide +kernel
theorem ws_X6_cold : mmW yX6_cold cX6_cold 4 (some .int) := ⟨mm_bigI 373 (by decide +kernel) rfl, mm_bigI 374 (by decide +kernel) rfl, mm_bigI 66 (by decide +kernel) rfl, mm_bigI 375 (by decide +kernel) rfl⟩
theorem hd_X6_cold : yX6_cold.cls ≠ "java/lang/invoke/MethodHandle" ∧ yX6_cold.cls ≠ "java/lang/invoke/VarHandle" ∧ (parseMethodDescriptor yX6_cold.desc).map (fun d => d.parameters.length) = some 0 := by decide +kernel
theorem ws_X6_isBarred : mmW yX6_isBarred cX6_isBarred 6 (some .boolean) := ⟨mm_bigI 513 (by decide +kernel) rfl, mm_bigI 20 (by decide +kernel) rfl, mm_bigI 66 (by decide +kernel) rfl, mm_bigI 514 (by decide +kernel) rfl⟩
theorem hd_X6_isBarred : yX6_isBarred.cls ≠ "java/lang/invoke/MethodHandle" ∧ yX6_isBarred.cls ≠ "java/lang/invoke/VarHandle" ∧ (parseMethodDescriptor yX6_isBarred.desc).map (fun d => d.parameters.length) = some 2 := by decide +kernel
theorem ws_X6_gatherFacts : mmW yX6_gatherFacts cX6_gatherFacts 3 none := ⟨mm_bigI 444 (by decide +kernel) rfl, mm_bigI 10 (by decide +kernel) rfl, mm_bigI 66 (by decide +kernel) rfl, mm_bigI 445 (by decide +kernel) rfl⟩
theorem hd_X6_gatherFacts : yX6_gatherFacts.cls ≠ "java/lang/invoke/MethodHandle" ∧ yX6_gatherFacts.cls ≠ "java/lang/invoke/VarHandle" ∧ (parseMethodDescriptor yX6_gatherFacts.desc).map (fun d => d.parameters.length) = some 2 := by decide +kernel
theorem ws_X6_numberFor : mmW yX6_numberFor cX6_numberFor 3 (some .int) := ⟨mm_bigI 448 (by decide +kernel) rfl, mm_bigI 11 (by decide +kernel) rfl, mm_bigI 66 (by decide +kernel) rfl, mm_bigI 449 (by decide +kernel) rfl⟩
theorem hd_X6_numberFor : yX6_numberFor.cls ≠ "java/lang/invoke/MethodHandle" ∧ yX6_numberFor.cls ≠ "java/lang/invoke/VarHandle" ∧ (parseMethodDescriptor yX6_numberFor.desc).map (fun d => d.parameters.length) = some 1 := by decide +kernel
theorem ws_X6_nearestKnown : mmW yX6_nearestKnown cX6_nearestKnown 5 (some .int) := ⟨mm_bigI 336 (by decide +kernel) rfl, mm_bigI 3 (by decide +kernel) rfl, mm_bigI 66 (by decide +kernel) rfl, mm_bigI 337 (by decide +kernel) rfl⟩
theorem hd_X6_nearestKnown : yX6_nearestKnown.cls ≠ "java/lang/invoke/MethodHandle" ∧ yX6_nearestKnown.cls ≠ "java/lang/invoke/VarHandle" ∧ (parseMethodDescriptor yX6_nearestKnown.desc).map (fun d => d.parameters.length) = some 2 := by decide +kernel
theorem ws_X6_leastOf : mmW yX6_leastOf cX6_leastOf 5 (some .int) := ⟨mm_bigI 332 (by decide +kernel) rfl, mm_bigI 2 (by decide +kernel) rfl, mm_bigI 66 (by decide +kernel) rfl, mm_bigI 333 (by decide +kernel) rfl⟩
theorem hd_X6_leastOf : yX6_leastOf.cls ≠ "java/lang/invoke/MethodHandle" ∧ yX6_leastOf.cls ≠ "java/lang/invoke/VarHandle" ∧ (parseMethodDescriptor yX6_leastOf.desc).map (fun d => d.parameters.length) = some 1 := by decide +kernel
theorem ws_X6_reasonAgainst : mmW yX6_reasonAgainst cX6_reasonAgainst 4 (some .int) := ⟨mm_bigI 440 (by decide +kernel) rfl, mm_bigI 9 (by decide +kernel) rfl, mm_bigI 66 (by decide +kernel) rfl, mm_bigI 441 (by decide +kernel) rfl⟩
theorem hd_X6_reasonAgainst : yX6_reasonAgainst.cls ≠ "java/lang/invoke/MethodHandle" ∧ yX6_reasonAgainst.cls ≠ "java/lang/invoke/VarHandle" ∧ (parseMethodDescriptor yX6_reasonAgainst.desc).map (fun d => d.parameters.length) = some 2 := by decide +kernel
theorem ws_X6_comeIfItCan : mmW yX6_comeIfItCan cX6_comeIfItCan 4 none := ⟨mm_bigI 509 (by decide +kernel) rfl, mm_bigI 19 (by decide +kernel) rfl, mm_bigI 66 (by decide +kernel) rfl, mm_bigI 510 (by decide +kernel) rfl⟩
theorem hd_X6_comeIfItCan : yX6_comeIfItCan.cls ≠ "java/lang/invoke/MethodHandle" ∧ yX6_comeIfItCan.cls ≠ "java/lang/invoke/VarHandle" ∧ (parseMethodDescriptor yX6_comeIfItCan.desc).map (fun d => d.parameters.length) = some 2 := by decide +kernel
theorem ws_X6_copy : mmW yX6_copy cX6_copy 4 (some .int) := ⟨mm_bigI 694 (by decide +kernel) rfl, mm_bigI 695 (by decide +kernel) rfl, mm_bigI 66 (by decide +kernel) rfl, mm_bigI 696 (by decide +kernel) rfl⟩
theorem hd_X6_copy : yX6_copy.cls ≠ "java/lang/invoke/MethodHandle" ∧ yX6_copy.cls ≠ "java/lang/invoke/VarHandle" ∧ (parseMethodDescriptor yX6_copy.desc).map (fun d => d.parameters.length) = some 3 := by decide +kernel
theorem ws_X6_loadsIn : mmW yX6_loadsIn cX6_loadsIn 4 (some .int) := ⟨mm_bigI 468 (by decide +kernel) rfl, mm_bigI 12 (by decide +kernel) rfl, mm_bigI 66 (by decide +kernel) rfl, mm_bigI 469 (by decide +kernel) rfl⟩
theorem hd_X6_loadsIn : yX6_loadsIn.cls ≠ "java/lang/invoke/MethodHandle" ∧ yX6_loadsIn.cls ≠ "java/lang/invoke/VarHandle" ∧ (parseMethodDescriptor yX6_loadsIn.desc).map (fun d => d.parameters.length) = some 1 := by decide +kernel
theorem ws_X6_tonsDelivered : mmW yX6_tonsDelivered cX6_tonsDelivered 3 (some .int) := ⟨mm_bigI 679 (by decide +kernel) rfl, mm_bigI 32 (by decide +kernel) rfl, mm_bigI 66 (by decide +kernel) rfl, mm_bigI 680 (by decide +kernel) rfl⟩
theorem hd_X6_tonsDelivered : yX6_tonsDelivered.cls ≠ "java/lang/invoke/MethodHandle" ∧ yX6_tonsDelivered.cls ≠ "java/lang/invoke/VarHandle" ∧ (parseMethodDescriptor yX6_tonsDelivered.desc).map (fun d => d.parameters.length) = some 0 := by decide +kernel
theorem ws_X6_count : mmW yX6_count cX6_count 2 (some .int) := ⟨mm_bigI 674 (by decide +kernel) rfl, mm_bigI 675 (by decide +kernel) rfl, mm_bigI 66 (by decide +kernel) rfl, mm_bigI 676 (by decide +kernel) rfl⟩
theorem hd_X6_count : yX6_count.cls ≠ "java/lang/invoke/MethodHandle" ∧ yX6_count.cls ≠ "java/lang/invoke/VarHandle" ∧ (parseMethodDescriptor yX6_count.desc).map (fun d => d.parameters.length) = some 1 := by decide +kernel
theorem ws_X6_feed : mmW yX6_feed cX6_feed 4 (some .int) := ⟨mm_bigI 549 (by decide +kernel) rfl, mm_bigI 550 (by decide +kernel) rfl, mm_bigI 66 (by decide +kernel) rfl, mm_bigI 551 (by decide +kernel) rfl⟩
theorem hd_X6_feed : yX6_feed.cls ≠ "java/lang/invoke/MethodHandle" ∧ yX6_feed.cls ≠ "java/lang/invoke/VarHandle" ∧ (parseMethodDescriptor yX6_feed.desc).map (fun d => d.parameters.length) = some 2 := by decide +kernel
theorem ws_X6_flood : mmW yX6_flood cX6_flood 3 (some .int) := ⟨mm_bigI 401 (by decide +kernel) rfl, mm_bigI 402 (by decide +kernel) rfl, mm_bigI 66 (by decide +kernel) rfl, mm_bigI 403 (by decide +kernel) rfl⟩
theorem hd_X6_flood : yX6_flood.cls ≠ "java/lang/invoke/MethodHandle" ∧ yX6_flood.cls ≠ "java/lang/invoke/VarHandle" ∧ (parseMethodDescriptor yX6_flood.desc).map (fun d => d.parameters.length) = some 1 := by decide +kernel
theorem ws_X6_heat : mmW yX6_heat cX6_heat 2 (some .int) := ⟨mm_bigI 377 (by decide +kernel) rfl, mm_bigI 378 (by decide +kernel) rfl, mm_bigI 66 (by decide +kernel) rfl, mm_bigI 379 (by decide +kernel) rfl⟩
theorem hd_X6_heat : yX6_heat.cls ≠ "java/lang/invoke/MethodHandle" ∧ yX6_heat.cls ≠ "java/lang/invoke/VarHandle" ∧ (parseMethodDescriptor yX6_heat.desc).map (fun d => d.parameters.length) = some 1 := by decide +kernel
theorem ws_X6_hoursHeldUp : mmW yX6_hoursHeldUp cX6_hoursHeldUp 6 (some .int) := ⟨mm_bigI 542 (by decide +kernel) rfl, mm_bigI 22 (by decide +kernel) rfl, mm_bigI 66 (by decide +kernel) rfl, mm_bigI 543 (by decide +kernel) rfl⟩
theorem hd_X6_hoursHeldUp : yX6_hoursHeldUp.cls ≠ "java/lang/invoke/MethodHandle" ∧ yX6_hoursHeldUp.cls ≠ "java/lang/invoke/VarHandle" ∧ (parseMethodDescriptor yX6_hoursHeldUp.desc).map (fun d => d.parameters.length) = some 4 := by decide +kernel
theorem ws_X6_isLoad : mmW yX6_isLoad cX6_isLoad 2 (some .boolean) := ⟨mm_bigI 432 (by decide +kernel) rfl, mm_bigI 8 (by decide +kernel) rfl, mm_bigI 66 (by decide +kernel) rfl, mm_bigI 433 (by decide +kernel) rfl⟩
theorem hd_X6_isLoad : yX6_isLoad.cls ≠ "java/lang/invoke/MethodHandle" ∧ yX6_isLoad.cls ≠ "java/lang/invoke/VarHandle" ∧ (parseMethodDescriptor yX6_isLoad.desc).map (fun d => d.parameters.length) = some 1 := by decide +kernel
theorem ws_X6_lastPlace : mmW yX6_lastPlace cX6_lastPlace 2 (some .int) := ⟨mm_bigI 501 (by decide +kernel) rfl, mm_bigI 18 (by decide +kernel) rfl, mm_bigI 66 (by decide +kernel) rfl, mm_bigI 502 (by decide +kernel) rfl⟩
theorem hd_X6_lastPlace : yX6_lastPlace.cls ≠ "java/lang/invoke/MethodHandle" ∧ yX6_lastPlace.cls ≠ "java/lang/invoke/VarHandle" ∧ (parseMethodDescriptor yX6_lastPlace.desc).map (fun d => d.parameters.length) = some 1 := by decide +kernel
theorem ws_X6_lineUp : mmW yX6_lineUp cX6_lineUp 3 none := ⟨mm_bigI 424 (by decide +kernel) rfl, mm_bigI 7 (by decide +kernel) rfl, mm_bigI 66 (by decide +kernel) rfl, mm_bigI 425 (by decide +kernel) rfl⟩
theorem hd_X6_lineUp : yX6_lineUp.cls ≠ "java/lang/invoke/MethodHandle" ∧ yX6_lineUp.cls ≠ "java/lang/invoke/VarHandle" ∧ (parseMethodDescriptor yX6_lineUp.desc).map (fun d => d.parameters.length) = some 1 := by decide +kernel
theorem ws_X6_load : mmW yX6_load cX6_load 6 (some .int) := ⟨mm_bigI 419 (by decide +kernel) rfl, mm_bigI 420 (by decide +kernel) rfl, mm_bigI 66 (by decide +kernel) rfl, mm_bigI 421 (by decide +kernel) rfl⟩
theorem hd_X6_load : yX6_load.cls ≠ "java/lang/invoke/MethodHandle" ∧ yX6_load.cls ≠ "java/lang/invoke/VarHandle" ∧ (parseMethodDescriptor yX6_load.desc).map (fun d => d.parameters.length) = some 3 := by decide +kernel
theorem ws_X6_mostOf : mmW yX6_mostOf cX6_mostOf 5 (some .int) := ⟨mm_bigI 346 (by decide +kernel) rfl, mm_bigI 4 (by decide +kernel) rfl, mm_bigI 66 (by decide +kernel) rfl, mm_bigI 347 (by decide +kernel) rfl⟩
theorem hd_X6_mostOf : yX6_mostOf.cls ≠ "java/lang/invoke/MethodHandle" ∧ yX6_mostOf.cls ≠ "java/lang/invoke/VarHandle" ∧ (parseMethodDescriptor yX6_mostOf.desc).map (fun d => d.parameters.length) = some 1 := by decide +kernel
theorem ws_X6_look : mmW yX6_look cX6_look 4 (some .int) := ⟨mm_bigI 323 (by decide +kernel) rfl, mm_bigI 324 (by decide +kernel) rfl, mm_bigI 66 (by decide +kernel) rfl, mm_bigI 325 (by decide +kernel) rfl⟩
theorem hd_X6_look : yX6_look.cls ≠ "java/lang/invoke/MethodHandle" ∧ yX6_look.cls ≠ "java/lang/invoke/VarHandle" ∧ (parseMethodDescriptor yX6_look.desc).map (fun d => d.parameters.length) = some 2 := by decide +kernel
theorem ws_X6_may : mmW yX6_may cX6_may 3 (some .int) := ⟨mm_bigI 435 (by decide +kernel) rfl, mm_bigI 436 (by decide +kernel) rfl, mm_bigI 66 (by decide +kernel) rfl, mm_bigI 437 (by decide +kernel) rfl⟩
theorem hd_X6_may : yX6_may.cls ≠ "java/lang/invoke/MethodHandle" ∧ yX6_may.cls ≠ "java/lang/invoke/VarHandle" ∧ (parseMethodDescriptor yX6_may.desc).map (fun d => d.parameters.length) = some 2 := by decide +kernel
theorem ws_X6_moveLoadsOnCells : mmW yX6_moveLoadsOnCells cX6_moveLoadsOnCells 3 none := ⟨mm_bigI 497 (by decide +kernel) rfl, mm_bigI 17 (by decide +kernel) rfl, mm_bigI 66 (by decide +kernel) rfl, mm_bigI 498 (by decide +kernel) rfl⟩
theorem hd_X6_moveLoadsOnCells : yX6_moveLoadsOnCells.cls ≠ "java/lang/invoke/MethodHandle" ∧ yX6_moveLoadsOnCells.cls ≠ "java/lang/invoke/VarHandle" ∧ (parseMethodDescriptor yX6_moveLoadsOnCells.desc).map (fun d => d.parameters.length) = some 0 := by decide +kernel
theorem ws_X6_moveWaitingLoads : mmW yX6_moveWaitingLoads cX6_moveWaitingLoads 3 none := ⟨mm_bigI 534 (by decide +kernel) rfl, mm_bigI 21 (by decide +kernel) rfl, mm_bigI 66 (by decide +kernel) rfl, mm_bigI 535 (by decide +kernel) rfl⟩
theorem hd_X6_moveWaitingLoads : yX6_moveWaitingLoads.cls ≠ "java/lang/invoke/MethodHandle" ∧ yX6_moveWaitingLoads.cls ≠ "java/lang/invoke/VarHandle" ∧ (parseMethodDescriptor yX6_moveWaitingLoads.desc).map (fun d => d.parameters.length) = some 0 := by decide +kernel
theorem ws_X6_of : mmW yX6_of cX6_of 4 (some .int) := ⟨mm_bigI 427 (by decide +kernel) rfl, mm_bigI 428 (by decide +kernel) rfl, mm_bigI 66 (by decide +kernel) rfl, mm_bigI 429 (by decide +kernel) rfl⟩
theorem hd_X6_of : yX6_of.cls ≠ "java/lang/invoke/MethodHandle" ∧ yX6_of.cls ≠ "java/lang/invoke/VarHandle" ∧ (parseMethodDescriptor yX6_of.desc).map (fun d => d.parameters.length) = some 2 := by decide +kernel
theorem ws_X6_read : mmW yX6_read cX6_read 3 (some .int) := ⟨mm_bigI 357 (by decide +kernel) rfl, mm_bigI 358 (by decide +kernel) rfl, mm_bigI 66 (by decide +kernel) rfl, mm_bigI 359 (by decide +kernel) rfl⟩
theorem hd_X6_read : yX6_read.cls ≠ "java/lang/invoke/MethodHandle" ∧ yX6_read.cls ≠ "java/lang/invoke/VarHandle" ∧ (parseMethodDescriptor yX6_read.desc).map (fun d => d.parameters.length) = some 1 := by decide +kernel
theorem ws_X6_row : mmW yX6_row cX6_row 2 (some .int) := ⟨mm_bigI 690 (by decide +kernel) rfl, mm_bigI 691 (by decide +kernel) rfl, mm_bigI 66 (by decide +kernel) rfl, mm_bigI 692 (by decide +kernel) rfl⟩
theorem hd_X6_row : yX6_row.cls ≠ "java/lang/invoke/MethodHandle" ∧ yX6_row.cls ≠ "java/lang/invoke/VarHandle" ∧ (parseMethodDescriptor yX6_row.desc).map (fun d => d.parameters.length) = some 1 := by decide +kernel
theorem ws_X6_rule : mmW yX6_rule cX6_rule 4 (some .int) := ⟨mm_bigI 561 (by decide +kernel) rfl, mm_bigI 562 (by decide +kernel) rfl, mm_bigI 66 (by decide +kernel) rfl, mm_bigI 563 (by decide +kernel) rfl⟩
theorem hd_X6_rule : yX6_rule.cls ≠ "java/lang/invoke/MethodHandle" ∧ yX6_rule.cls ≠ "java/lang/invoke/VarHandle" ∧ (parseMethodDescriptor yX6_rule.desc).map (fun d => d.parameters.length) = some 2 := by decide +kernel
theorem ws_X6_weatherCells : mmW yX6_weatherCells cX6_weatherCells 3 none := ⟨mm_bigI 476 (by decide +kernel) rfl, mm_bigI 13 (by decide +kernel) rfl, mm_bigI 66 (by decide +kernel) rfl, mm_bigI 477 (by decide +kernel) rfl⟩
theorem hd_X6_weatherCells : yX6_weatherCells.cls ≠ "java/lang/invoke/MethodHandle" ∧ yX6_weatherCells.cls ≠ "java/lang/invoke/VarHandle" ∧ (parseMethodDescriptor yX6_weatherCells.desc).map (fun d => d.parameters.length) = some 0 := by decide +kernel
theorem ws_X6_run : mmW yX6_run cX6_run 4 (some .int) := ⟨mm_bigI 471 (by decide +kernel) rfl, mm_bigI 472 (by decide +kernel) rfl, mm_bigI 66 (by decide +kernel) rfl, mm_bigI 473 (by decide +kernel) rfl⟩
theorem hd_X6_run : yX6_run.cls ≠ "java/lang/invoke/MethodHandle" ∧ yX6_run.cls ≠ "java/lang/invoke/VarHandle" ∧ (parseMethodDescriptor yX6_run.desc).map (fun d => d.parameters.length) = some 1 := by decide +kernel
theorem ws_X6_said : mmW yX6_said cX6_said 4 (some .int) := ⟨mm_bigI 670 (by decide +kernel) rfl, mm_bigI 671 (by decide +kernel) rfl, mm_bigI 66 (by decide +kernel) rfl, mm_bigI 672 (by decide +kernel) rfl⟩
theorem hd_X6_said : yX6_said.cls ≠ "java/lang/invoke/MethodHandle" ∧ yX6_said.cls ≠ "java/lang/invoke/VarHandle" ∧ (parseMethodDescriptor yX6_said.desc).map (fun d => d.parameters.length) = some 3 := by decide +kernel
theorem ws_X6_snow : mmW yX6_snow cX6_snow 4 (some .int) := ⟨mm_bigI 409 (by decide +kernel) rfl, mm_bigI 410 (by decide +kernel) rfl, mm_bigI 66 (by decide +kernel) rfl, mm_bigI 411 (by decide +kernel) rfl⟩
theorem hd_X6_snow : yX6_snow.cls ≠ "java/lang/invoke/MethodHandle" ∧ yX6_snow.cls ≠ "java/lang/invoke/VarHandle" ∧ (parseMethodDescriptor yX6_snow.desc).map (fun d => d.parameters.length) = some 1 := by decide +kernel
theorem ws_X6_status : mmW yX6_status cX6_status 2 (some .int) := ⟨mm_bigI 701 (by decide +kernel) rfl, mm_bigI 702 (by decide +kernel) rfl, mm_bigI 66 (by decide +kernel) rfl, mm_bigI 703 (by decide +kernel) rfl⟩
theorem hd_X6_status : yX6_status.cls ≠ "java/lang/invoke/MethodHandle" ∧ yX6_status.cls ≠ "java/lang/invoke/VarHandle" ∧ (parseMethodDescriptor yX6_status.desc).map (fun d => d.parameters.length) = some 1 := by decide +kernel
theorem ws_X6_sweep : mmW yX6_sweep cX6_sweep 3 (some .int) := ⟨mm_bigI 393 (by decide +kernel) rfl, mm_bigI 394 (by decide +kernel) rfl, mm_bigI 66 (by decide +kernel) rfl, mm_bigI 395 (by decide +kernel) rfl⟩
theorem hd_X6_sweep : yX6_sweep.cls ≠ "java/lang/invoke/MethodHandle" ∧ yX6_sweep.cls ≠ "java/lang/invoke/VarHandle" ∧ (parseMethodDescriptor yX6_sweep.desc).map (fun d => d.parameters.length) = some 1 := by decide +kernel
theorem ws_X6_tear : mmW yX6_tear cX6_tear 2 (some .int) := ⟨mm_bigI 686 (by decide +kernel) rfl, mm_bigI 687 (by decide +kernel) rfl, mm_bigI 66 (by decide +kernel) rfl, mm_bigI 688 (by decide +kernel) rfl⟩
theorem hd_X6_tear : yX6_tear.cls ≠ "java/lang/invoke/MethodHandle" ∧ yX6_tear.cls ≠ "java/lang/invoke/VarHandle" ∧ (parseMethodDescriptor yX6_tear.desc).map (fun d => d.parameters.length) = some 0 := by decide +kernel
theorem ws_X6_tell : mmW yX6_tell cX6_tell 3 (some .int) := ⟨mm_bigI 682 (by decide +kernel) rfl, mm_bigI 683 (by decide +kernel) rfl, mm_bigI 66 (by decide +kernel) rfl, mm_bigI 684 (by decide +kernel) rfl⟩
theorem hd_X6_tell : yX6_tell.cls ≠ "java/lang/invoke/MethodHandle" ∧ yX6_tell.cls ≠ "java/lang/invoke/VarHandle" ∧ (parseMethodDescriptor yX6_tell.desc).map (fun d => d.parameters.length) = some 2 := by decide +kernel
theorem ws_X6_thaw : mmW yX6_thaw cX6_thaw 5 (some .int) := ⟨mm_bigI 537 (by decide +kernel) rfl, mm_bigI 538 (by decide +kernel) rfl, mm_bigI 66 (by decide +kernel) rfl, mm_bigI 539 (by decide +kernel) rfl⟩
theorem hd_X6_thaw : yX6_thaw.cls ≠ "java/lang/invoke/MethodHandle" ∧ yX6_thaw.cls ≠ "java/lang/invoke/VarHandle" ∧ (parseMethodDescriptor yX6_thaw.desc).map (fun d => d.parameters.length) = some 2 := by decide +kernel
theorem ws_X6_thick : mmW yX6_thick cX6_thick 5 (some .int) := ⟨mm_bigI 353 (by decide +kernel) rfl, mm_bigI 354 (by decide +kernel) rfl, mm_bigI 66 (by decide +kernel) rfl, mm_bigI 355 (by decide +kernel) rfl⟩
theorem hd_X6_thick : yX6_thick.cls ≠ "java/lang/invoke/MethodHandle" ∧ yX6_thick.cls ≠ "java/lang/invoke/VarHandle" ∧ (parseMethodDescriptor yX6_thick.desc).map (fun d => d.parameters.length) = some 2 := by decide +kernel
theorem ws_X6_turn : mmW yX6_turn cX6_turn 2 (some .int) := ⟨mm_bigI 463 (by decide +kernel) rfl, mm_bigI 464 (by decide +kernel) rfl, mm_bigI 66 (by decide +kernel) rfl, mm_bigI 465 (by decide +kernel) rfl⟩
theorem hd_X6_turn : yX6_turn.cls ≠ "java/lang/invoke/MethodHandle" ∧ yX6_turn.cls ≠ "java/lang/invoke/VarHandle" ∧ (parseMethodDescriptor yX6_turn.desc).map (fun d => d.parameters.length) = some 1 := by decide +kernel
theorem ws_X6_weather : mmW yX6_weather cX6_weather 4 (some .int) := ⟨mm_bigI 369 (by decide +kernel) rfl, mm_bigI 370 (by decide +kernel) rfl, mm_bigI 66 (by decide +kernel) rfl, mm_bigI 371 (by decide +kernel) rfl⟩
theorem hd_X6_weather : yX6_weather.cls ≠ "java/lang/invoke/MethodHandle" ∧ yX6_weather.cls ≠ "java/lang/invoke/VarHandle" ∧ (parseMethodDescriptor yX6_weather.desc).map (fun d => d.parameters.length) = some 2 := by decide +kernel
theorem ws_X6_why : mmW yX6_why cX6_why 3 (some .int) := ⟨mm_bigI 459 (by decide +kernel) rfl, mm_bigI 460 (by decide +kernel) rfl, mm_bigI 66 (by decide +kernel) rfl, mm_bigI 461 (by decide +kernel) rfl⟩
theorem hd_X6_why : yX6_why.cls ≠ "java/lang/invoke/MethodHandle" ∧ yX6_why.cls ≠ "java/lang/invoke/VarHandle" ∧ (parseMethodDescriptor yX6_why.desc).map (fun d => d.parameters.length) = some 2 := by decide +kernel
theorem ws_X6_wipe : mmW yX6_wipe cX6_wipe 2 (some .int) := ⟨mm_bigI 557 (by decide +kernel) rfl, mm_bigI 558 (by decide +kernel) rfl, mm_bigI 66 (by decide +kernel) rfl, mm_bigI 559 (by decide +kernel) rfl⟩
theorem hd_X6_wipe : yX6_wipe.cls ≠ "java/lang/invoke/MethodHandle" ∧ yX6_wipe.cls ≠ "java/lang/invoke/VarHandle" ∧ (parseMethodDescriptor yX6_wipe.desc).map (fun d => d.parameters.length) = some 0 := by decide +kernel
theorem ws_X7_isBorne : mmW yX7_isBorne cX7_isBorne 3 (some .boolean) := ⟨mm_bigI 863 (by decide +kernel) rfl, mm_bigI 39 (by decide +kernel) rfl, mm_bigI 73 (by decide +kernel) rfl, mm_bigI 864 (by decide +kernel) rfl⟩
theorem hd_X7_isBorne : yX7_isBorne.cls ≠ "java/lang/invoke/MethodHandle" ∧ yX7_isBorne.cls ≠ "java/lang/invoke/VarHandle" ∧ (parseMethodDescriptor yX7_isBorne.desc).map (fun d => d.parameters.length) = some 2 := by decide +kernel
theorem ws_X7_allBear : mmW yX7_allBear cX7_allBear 3 (some .boolean) := ⟨mm_bigI 983 (by decide +kernel) rfl, mm_bigI 56 (by decide +kernel) rfl, mm_bigI 73 (by decide +kernel) rfl, mm_bigI 984 (by decide +kernel) rfl⟩
theorem hd_X7_allBear : yX7_allBear.cls ≠ "java/lang/invoke/MethodHandle" ∧ yX7_allBear.cls ≠ "java/lang/invoke/VarHandle" ∧ (parseMethodDescriptor yX7_allBear.desc).map (fun d => d.parameters.length) = some 1 := by decide +kernel
theorem ws_X7_in : mmWs yX7_in cX7_in 3 (some .boolean) := ⟨mm_bigI 819 (by decide +kernel) rfl, mm_bigI 73 (by decide +kernel) rfl, mm_bigI 820 (by decide +kernel) rfl⟩
theorem hd_X7_in : yX7_in.cls ≠ "java/lang/invoke/MethodHandle" ∧ yX7_in.cls ≠ "java/lang/invoke/VarHandle" ∧ (parseMethodDescriptor yX7_in.desc).map (fun d => d.parameters.length) = some 3 := by decide +kernel
theorem ws_X7_isCell : mmW yX7_isCell cX7_isCell 2 (some .boolean) := ⟨mm_bigI 831 (by decide +kernel) rfl, mm_bigI 34 (by decide +kernel) rfl, mm_bigI 73 (by decide +kernel) rfl, mm_bigI 832 (by decide +kernel) rfl⟩
theorem hd_X7_isCell : yX7_isCell.cls ≠ "java/lang/invoke/MethodHandle" ∧ yX7_isCell.cls ≠ "java/lang/invoke/VarHandle" ∧ (parseMethodDescriptor yX7_isCell.desc).map (fun d => d.parameters.length) = some 1 := by decide +kernel
theorem ws_X7_refuse : mmW yX7_refuse cX7_refuse 2 (some .int) := ⟨mm_bigI 823 (by decide +kernel) rfl, mm_bigI 33 (by decide +kernel) rfl, mm_bigI 73 (by decide +kernel) rfl, mm_bigI 824 (by decide +kernel) rfl⟩
theorem hd_X7_refuse : yX7_refuse.cls ≠ "java/lang/invoke/MethodHandle" ∧ yX7_refuse.cls ≠ "java/lang/invoke/VarHandle" ∧ (parseMethodDescriptor yX7_refuse.desc).map (fun d => d.parameters.length) = some 1 := by decide +kernel
theorem ws_X7_bears : mmW yX7_bears cX7_bears 3 (some .int) := ⟨mm_bigI 858 (by decide +kernel) rfl, mm_bigI 859 (by decide +kernel) rfl, mm_bigI 73 (by decide +kernel) rfl, mm_bigI 860 (by decide +kernel) rfl⟩
theorem hd_X7_bears : yX7_bears.cls ≠ "java/lang/invoke/MethodHandle" ∧ yX7_bears.cls ≠ "java/lang/invoke/VarHandle" ∧ (parseMethodDescriptor yX7_bears.desc).map (fun d => d.parameters.length) = some 2 := by decide +kernel
theorem ws_X7_becomes : mmW yX7_becomes cX7_becomes 3 none := ⟨mm_bigI 887 (by decide +kernel) rfl, mm_bigI 42 (by decide +kernel) rfl, mm_bigI 73 (by decide +kernel) rfl, mm_bigI 888 (by decide +kernel) rfl⟩
theorem hd_X7_becomes : yX7_becomes.cls ≠ "java/lang/invoke/MethodHandle" ∧ yX7_becomes.cls ≠ "java/lang/invoke/VarHandle" ∧ (parseMethodDescriptor yX7_becomes.desc).map (fun d => d.parameters.length) = some 2 := by decide +kernel
theorem ws_X7_loadsOn : mmW yX7_loadsOn cX7_loadsOn 4 (some .int) := ⟨mm_bigI 847 (by decide +kernel) rfl, mm_bigI 38 (by decide +kernel) rfl, mm_bigI 73 (by decide +kernel) rfl, mm_bigI 848 (by decide +kernel) rfl⟩
theorem hd_X7_loadsOn : yX7_loadsOn.cls ≠ "java/lang/invoke/MethodHandle" ∧ yX7_loadsOn.cls ≠ "java/lang/invoke/VarHandle" ∧ (parseMethodDescriptor yX7_loadsOn.desc).map (fun d => d.parameters.length) = some 1 := by decide +kernel
theorem ws_X7_bypass : mmW yX7_bypass cX7_bypass 2 (some .int) := ⟨mm_bigI 894 (by decide +kernel) rfl, mm_bigI 895 (by decide +kernel) rfl, mm_bigI 73 (by decide +kernel) rfl, mm_bigI 896 (by decide +kernel) rfl⟩
theorem hd_X7_bypass : yX7_bypass.cls ≠ "java/lang/invoke/MethodHandle" ∧ yX7_bypass.cls ≠ "java/lang/invoke/VarHandle" ∧ (parseMethodDescriptor yX7_bypass.desc).map (fun d => d.parameters.length) = some 1 := by decide +kernel
theorem ws_X7_heatOf : mmW yX7_heatOf cX7_heatOf 8 (some .int) := ⟨mm_bigI 879 (by decide +kernel) rfl, mm_bigI 41 (by decide +kernel) rfl, mm_bigI 73 (by decide +kernel) rfl, mm_bigI 880 (by decide +kernel) rfl⟩
theorem hd_X7_heatOf : yX7_heatOf.cls ≠ "java/lang/invoke/MethodHandle" ∧ yX7_heatOf.cls ≠ "java/lang/invoke/VarHandle" ∧ (parseMethodDescriptor yX7_heatOf.desc).map (fun d => d.parameters.length) = some 1 := by decide +kernel
theorem ws_X7_field : mmW yX7_field cX7_field 4 (some .int) := ⟨mm_bigI 931 (by decide +kernel) rfl, mm_bigI 47 (by decide +kernel) rfl, mm_bigI 73 (by decide +kernel) rfl, mm_bigI 932 (by decide +kernel) rfl⟩
theorem hd_X7_field : yX7_field.cls ≠ "java/lang/invoke/MethodHandle" ∧ yX7_field.cls ≠ "java/lang/invoke/VarHandle" ∧ (parseMethodDescriptor yX7_field.desc).map (fun d => d.parameters.length) = some 3 := by decide +kernel
theorem ws_X7_holds : mmW yX7_holds cX7_holds 11 (some .boolean) := ⟨mm_bigI 927 (by decide +kernel) rfl, mm_bigI 46 (by decide +kernel) rfl, mm_bigI 73 (by decide +kernel) rfl, mm_bigI 928 (by decide +kernel) rfl⟩
theorem hd_X7_holds : yX7_holds.cls ≠ "java/lang/invoke/MethodHandle" ∧ yX7_holds.cls ≠ "java/lang/invoke/VarHandle" ∧ (parseMethodDescriptor yX7_holds.desc).map (fun d => d.parameters.length) = some 3 := by decide +kernel
theorem ws_X7_saidOf : mmW yX7_saidOf cX7_saidOf 5 (some .int) := ⟨mm_bigI 923 (by decide +kernel) rfl, mm_bigI 45 (by decide +kernel) rfl, mm_bigI 73 (by decide +kernel) rfl, mm_bigI 924 (by decide +kernel) rfl⟩
theorem hd_X7_saidOf : yX7_saidOf.cls ≠ "java/lang/invoke/MethodHandle" ∧ yX7_saidOf.cls ≠ "java/lang/invoke/VarHandle" ∧ (parseMethodDescriptor yX7_saidOf.desc).map (fun d => d.parameters.length) = some 3 := by decide +kernel
theorem ws_X7_nearest : mmW yX7_nearest cX7_nearest 4 (some .int) := ⟨mm_bigI 839 (by decide +kernel) rfl, mm_bigI 36 (by decide +kernel) rfl, mm_bigI 73 (by decide +kernel) rfl, mm_bigI 840 (by decide +kernel) rfl⟩
theorem hd_X7_nearest : yX7_nearest.cls ≠ "java/lang/invoke/MethodHandle" ∧ yX7_nearest.cls ≠ "java/lang/invoke/VarHandle" ∧ (parseMethodDescriptor yX7_nearest.desc).map (fun d => d.parameters.length) = some 2 := by decide +kernel
theorem ws_X7_least : mmW yX7_least cX7_least 4 (some .int) := ⟨mm_bigI 835 (by decide +kernel) rfl, mm_bigI 35 (by decide +kernel) rfl, mm_bigI 73 (by decide +kernel) rfl, mm_bigI 836 (by decide +kernel) rfl⟩
theorem hd_X7_least : yX7_least.cls ≠ "java/lang/invoke/MethodHandle" ∧ yX7_least.cls ≠ "java/lang/invoke/VarHandle" ∧ (parseMethodDescriptor yX7_least.desc).map (fun d => d.parameters.length) = some 1 := by decide +kernel
theorem ws_X7_whyNot : mmW yX7_whyNot cX7_whyNot 4 (some .int) := ⟨mm_bigI 919 (by decide +kernel) rfl, mm_bigI 44 (by decide +kernel) rfl, mm_bigI 73 (by decide +kernel) rfl, mm_bigI 920 (by decide +kernel) rfl⟩
theorem hd_X7_whyNot : yX7_whyNot.cls ≠ "java/lang/invoke/MethodHandle" ∧ yX7_whyNot.cls ≠ "java/lang/invoke/VarHandle" ∧ (parseMethodDescriptor yX7_whyNot.desc).map (fun d => d.parameters.length) = some 2 := by decide +kernel
theorem ws_X7_can : mmW yX7_can cX7_can 4 (some .boolean) := ⟨mm_bigI 967 (by decide +kernel) rfl, mm_bigI 53 (by decide +kernel) rfl, mm_bigI 73 (by decide +kernel) rfl, mm_bigI 968 (by decide +kernel) rfl⟩
theorem hd_X7_can : yX7_can.cls ≠ "java/lang/invoke/MethodHandle" ∧ yX7_can.cls ≠ "java/lang/invoke/VarHandle" ∧ (parseMethodDescriptor yX7_can.desc).map (fun d => d.parameters.length) = some 2 := by decide +kernel
theorem ws_X7_cell : mmW yX7_cell cX7_cell 4 (some .int) := ⟨mm_bigI 815 (by decide +kernel) rfl, mm_bigI 816 (by decide +kernel) rfl, mm_bigI 73 (by decide +kernel) rfl, mm_bigI 817 (by decide +kernel) rfl⟩
theorem hd_X7_cell : yX7_cell.cls ≠ "java/lang/invoke/MethodHandle" ∧ yX7_cell.cls ≠ "java/lang/invoke/VarHandle" ∧ (parseMethodDescriptor yX7_cell.desc).map (fun d => d.parameters.length) = some 3 := by decide +kernel
theorem ws_X7_cold : mmW yX7_cold cX7_cold 4 (some .int) := ⟨mm_bigI 1039 (by decide +kernel) rfl, mm_bigI 1040 (by decide +kernel) rfl, mm_bigI 73 (by decide +kernel) rfl, mm_bigI 1041 (by decide +kernel) rfl⟩
theorem hd_X7_cold : yX7_cold.cls ≠ "java/lang/invoke/MethodHandle" ∧ yX7_cold.cls ≠ "java/lang/invoke/VarHandle" ∧ (parseMethodDescriptor yX7_cold.desc).map (fun d => d.parameters.length) = some 0 := by decide +kernel
theorem ws_X7_cracks : mmW yX7_cracks cX7_cracks 2 none := ⟨mm_bigI 975 (by decide +kernel) rfl, mm_bigI 55 (by decide +kernel) rfl, mm_bigI 73 (by decide +kernel) rfl, mm_bigI 976 (by decide +kernel) rfl⟩
theorem hd_X7_cracks : yX7_cracks.cls ≠ "java/lang/invoke/MethodHandle" ∧ yX7_cracks.cls ≠ "java/lang/invoke/VarHandle" ∧ (parseMethodDescriptor yX7_cracks.desc).map (fun d => d.parameters.length) = some 1 := by decide +kernel
theorem ws_X7_comes : mmW yX7_comes cX7_comes 3 none := ⟨mm_bigI 971 (by decide +kernel) rfl, mm_bigI 54 (by decide +kernel) rfl, mm_bigI 73 (by decide +kernel) rfl, mm_bigI 972 (by decide +kernel) rfl⟩
theorem hd_X7_comes : yX7_comes.cls ≠ "java/lang/invoke/MethodHandle" ∧ yX7_comes.cls ≠ "java/lang/invoke/VarHandle" ∧ (parseMethodDescriptor yX7_comes.desc).map (fun d => d.parameters.length) = some 2 := by decide +kernel
theorem ws_X7_copy : mmW yX7_copy cX7_copy 5 (some .int) := ⟨mm_bigI 1055 (by decide +kernel) rfl, mm_bigI 1056 (by decide +kernel) rfl, mm_bigI 73 (by decide +kernel) rfl, mm_bigI 1057 (by decide +kernel) rfl⟩
theorem hd_X7_copy : yX7_copy.cls ≠ "java/lang/invoke/MethodHandle" ∧ yX7_copy.cls ≠ "java/lang/invoke/VarHandle" ∧ (parseMethodDescriptor yX7_copy.desc).map (fun d => d.parameters.length) = some 3 := by decide +kernel
theorem ws_X7_many : mmW yX7_many cX7_many 4 (some .int) := ⟨mm_bigI 943 (by decide +kernel) rfl, mm_bigI 48 (by decide +kernel) rfl, mm_bigI 73 (by decide +kernel) rfl, mm_bigI 944 (by decide +kernel) rfl⟩
theorem hd_X7_many : yX7_many.cls ≠ "java/lang/invoke/MethodHandle" ∧ yX7_many.cls ≠ "java/lang/invoke/VarHandle" ∧ (parseMethodDescriptor yX7_many.desc).map (fun d => d.parameters.length) = some 1 := by decide +kernel
theorem ws_X7_count : mmW yX7_count cX7_count 2 (some .int) := ⟨mm_bigI 1035 (by decide +kernel) rfl, mm_bigI 1036 (by decide +kernel) rfl, mm_bigI 73 (by decide +kernel) rfl, mm_bigI 1037 (by decide +kernel) rfl⟩
theorem hd_X7_count : yX7_count.cls ≠ "java/lang/invoke/MethodHandle" ∧ yX7_count.cls ≠ "java/lang/invoke/VarHandle" ∧ (parseMethodDescriptor yX7_count.desc).map (fun d => d.parameters.length) = some 1 := by decide +kernel
theorem ws_X7_here : mmW yX7_here cX7_here 1 (some .int) := ⟨mm_bigI 1008 (by decide +kernel) rfl, mm_bigI 59 (by decide +kernel) rfl, mm_bigI 73 (by decide +kernel) rfl, mm_bigI 1009 (by decide +kernel) rfl⟩
theorem hd_X7_here : yX7_here.cls ≠ "java/lang/invoke/MethodHandle" ∧ yX7_here.cls ≠ "java/lang/invoke/VarHandle" ∧ (parseMethodDescriptor yX7_here.desc).map (fun d => d.parameters.length) = some 0 := by decide +kernel
theorem ws_X7_digits : mmW yX7_digits cX7_digits 2 none := ⟨mm_bigI 1020 (by decide +kernel) rfl, mm_bigI 62 (by decide +kernel) rfl, mm_bigI 73 (by decide +kernel) rfl, mm_bigI 1021 (by decide +kernel) rfl⟩
theorem hd_X7_digits : yX7_digits.cls ≠ "java/lang/invoke/MethodHandle" ∧ yX7_digits.cls ≠ "java/lang/invoke/VarHandle" ∧ (parseMethodDescriptor yX7_digits.desc).map (fun d => d.parameters.length) = some 0 := by decide +kernel
theorem ws_X7_eats : mmW yX7_eats cX7_eats 2 none := ⟨mm_bigI 1016 (by decide +kernel) rfl, mm_bigI 61 (by decide +kernel) rfl, mm_bigI 73 (by decide +kernel) rfl, mm_bigI 1017 (by decide +kernel) rfl⟩
theorem hd_X7_eats : yX7_eats.cls ≠ "java/lang/invoke/MethodHandle" ∧ yX7_eats.cls ≠ "java/lang/invoke/VarHandle" ∧ (parseMethodDescriptor yX7_eats.desc).map (fun d => d.parameters.length) = some 1 := by decide +kernel
theorem ws_X7_eats3 : mmW yX7_eats3 cX7_eats3 4 none := ⟨mm_bigI 1012 (by decide +kernel) rfl, mm_bigI 60 (by decide +kernel) rfl, mm_bigI 73 (by decide +kernel) rfl, mm_bigI 1013 (by decide +kernel) rfl⟩
theorem hd_X7_eats3 : yX7_eats3.cls ≠ "java/lang/invoke/MethodHandle" ∧ yX7_eats3.cls ≠ "java/lang/invoke/VarHandle" ∧ (parseMethodDescriptor yX7_eats3.desc).map (fun d => d.parameters.length) = some 3 := by decide +kernel
theorem ws_X7_feed : mmW yX7_feed cX7_feed 4 (some .int) := ⟨mm_bigI 986 (by decide +kernel) rfl, mm_bigI 987 (by decide +kernel) rfl, mm_bigI 73 (by decide +kernel) rfl, mm_bigI 988 (by decide +kernel) rfl⟩
theorem hd_X7_feed : yX7_feed.cls ≠ "java/lang/invoke/MethodHandle" ∧ yX7_feed.cls ≠ "java/lang/invoke/VarHandle" ∧ (parseMethodDescriptor yX7_feed.desc).map (fun d => d.parameters.length) = some 2 := by decide +kernel
theorem ws_X7_fieldRead : mmW yX7_fieldRead cX7_fieldRead 2 (some .int) := ⟨mm_bigI 1028 (by decide +kernel) rfl, mm_bigI 64 (by decide +kernel) rfl, mm_bigI 73 (by decide +kernel) rfl, mm_bigI 1029 (by decide +kernel) rfl⟩
theorem hd_X7_fieldRead : yX7_fieldRead.cls ≠ "java/lang/invoke/MethodHandle" ∧ yX7_fieldRead.cls ≠ "java/lang/invoke/VarHandle" ∧ (parseMethodDescriptor yX7_fieldRead.desc).map (fun d => d.parameters.length) = some 0 := by decide +kernel
theorem ws_X7_flood : mmW yX7_flood cX7_flood 2 (some .int) := ⟨mm_bigI 890 (by decide +kernel) rfl, mm_bigI 891 (by decide +kernel) rfl, mm_bigI 73 (by decide +kernel) rfl, mm_bigI 892 (by decide +kernel) rfl⟩
theorem hd_X7_flood : yX7_flood.cls ≠ "java/lang/invoke/MethodHandle" ∧ yX7_flood.cls ≠ "java/lang/invoke/VarHandle" ∧ (parseMethodDescriptor yX7_flood.desc).map (fun d => d.parameters.length) = some 1 := by decide +kernel
theorem ws_X7_grows : mmW yX7_grows cX7_grows 5 none := ⟨mm_bigI 955 (by decide +kernel) rfl, mm_bigI 50 (by decide +kernel) rfl, mm_bigI 73 (by decide +kernel) rfl, mm_bigI 956 (by decide +kernel) rfl⟩
theorem hd_X7_grows : yX7_grows.cls ≠ "java/lang/invoke/MethodHandle" ∧ yX7_grows.cls ≠ "java/lang/invoke/VarHandle" ∧ (parseMethodDescriptor yX7_grows.desc).map (fun d => d.parameters.length) = some 2 := by decide +kernel
theorem ws_X7_next : mmW yX7_next cX7_next 4 (some .int) := ⟨mm_bigI 959 (by decide +kernel) rfl, mm_bigI 51 (by decide +kernel) rfl, mm_bigI 73 (by decide +kernel) rfl, mm_bigI 960 (by decide +kernel) rfl⟩
theorem hd_X7_next : yX7_next.cls ≠ "java/lang/invoke/MethodHandle" ∧ yX7_next.cls ≠ "java/lang/invoke/VarHandle" ∧ (parseMethodDescriptor yX7_next.desc).map (fun d => d.parameters.length) = some 1 := by decide +kernel
theorem ws_X7_goesOn : mmW yX7_goesOn cX7_goesOn 4 none := ⟨mm_bigI 963 (by decide +kernel) rfl, mm_bigI 52 (by decide +kernel) rfl, mm_bigI 73 (by decide +kernel) rfl, mm_bigI 964 (by decide +kernel) rfl⟩
theorem hd_X7_goesOn : yX7_goesOn.cls ≠ "java/lang/invoke/MethodHandle" ∧ yX7_goesOn.cls ≠ "java/lang/invoke/VarHandle" ∧ (parseMethodDescriptor yX7_goesOn.desc).map (fun d => d.parameters.length) = some 1 := by decide +kernel
theorem ws_X7_goesBy : mmW yX7_goesBy cX7_goesBy 4 none := ⟨mm_bigI 951 (by decide +kernel) rfl, mm_bigI 49 (by decide +kernel) rfl, mm_bigI 73 (by decide +kernel) rfl, mm_bigI 952 (by decide +kernel) rfl⟩
theorem hd_X7_goesBy : yX7_goesBy.cls ≠ "java/lang/invoke/MethodHandle" ∧ yX7_goesBy.cls ≠ "java/lang/invoke/VarHandle" ∧ (parseMethodDescriptor yX7_goesBy.desc).map (fun d => d.parameters.length) = some 0 := by decide +kernel
theorem ws_X7_nought : mmW yX7_nought cX7_nought 2 (some .int) := ⟨mm_bigI 871 (by decide +kernel) rfl, mm_bigI 40 (by decide +kernel) rfl, mm_bigI 73 (by decide +kernel) rfl, mm_bigI 872 (by decide +kernel) rfl⟩
theorem hd_X7_nought : yX7_nought.cls ≠ "java/lang/invoke/MethodHandle" ∧ yX7_nought.cls ≠ "java/lang/invoke/VarHandle" ∧ (parseMethodDescriptor yX7_nought.desc).map (fun d => d.parameters.length) = some 1 := by decide +kernel
theorem ws_X7_heat : mmW yX7_heat cX7_heat 2 (some .int) := ⟨mm_bigI 874 (by decide +kernel) rfl, mm_bigI 875 (by decide +kernel) rfl, mm_bigI 73 (by decide +kernel) rfl, mm_bigI 876 (by decide +kernel) rfl⟩
theorem hd_X7_heat : yX7_heat.cls ≠ "java/lang/invoke/MethodHandle" ∧ yX7_heat.cls ≠ "java/lang/invoke/VarHandle" ∧ (parseMethodDescriptor yX7_heat.desc).map (fun d => d.parameters.length) = some 1 := by decide +kernel
theorem ws_X7_isLoad : mmW yX7_isLoad cX7_isLoad 2 (some .boolean) := ⟨mm_bigI 911 (by decide +kernel) rfl, mm_bigI 43 (by decide +kernel) rfl, mm_bigI 73 (by decide +kernel) rfl, mm_bigI 912 (by decide +kernel) rfl⟩
theorem hd_X7_isLoad : yX7_isLoad.cls ≠ "java/lang/invoke/MethodHandle" ∧ yX7_isLoad.cls ≠ "java/lang/invoke/VarHandle" ∧ (parseMethodDescriptor yX7_isLoad.desc).map (fun d => d.parameters.length) = some 1 := by decide +kernel
theorem ws_X7_key : mmW yX7_key cX7_key 2 (some .int) := ⟨mm_bigI 1004 (by decide +kernel) rfl, mm_bigI 58 (by decide +kernel) rfl, mm_bigI 73 (by decide +kernel) rfl, mm_bigI 1005 (by decide +kernel) rfl⟩
theorem hd_X7_key : yX7_key.cls ≠ "java/lang/invoke/MethodHandle" ∧ yX7_key.cls ≠ "java/lang/invoke/VarHandle" ∧ (parseMethodDescriptor yX7_key.desc).map (fun d => d.parameters.length) = some 0 := by decide +kernel
theorem ws_X7_load : mmW yX7_load cX7_load 4 (some .int) := ⟨mm_bigI 902 (by decide +kernel) rfl, mm_bigI 903 (by decide +kernel) rfl, mm_bigI 73 (by decide +kernel) rfl, mm_bigI 904 (by decide +kernel) rfl⟩
theorem hd_X7_load : yX7_load.cls ≠ "java/lang/invoke/MethodHandle" ∧ yX7_load.cls ≠ "java/lang/invoke/VarHandle" ∧ (parseMethodDescriptor yX7_load.desc).map (fun d => d.parameters.length) = some 3 := by decide +kernel
theorem ws_X7_most : mmW yX7_most cX7_most 4 (some .int) := ⟨mm_bigI 843 (by decide +kernel) rfl, mm_bigI 37 (by decide +kernel) rfl, mm_bigI 73 (by decide +kernel) rfl, mm_bigI 844 (by decide +kernel) rfl⟩
theorem hd_X7_most : yX7_most.cls ≠ "java/lang/invoke/MethodHandle" ∧ yX7_most.cls ≠ "java/lang/invoke/VarHandle" ∧ (parseMethodDescriptor yX7_most.desc).map (fun d => d.parameters.length) = some 1 := by decide +kernel
theorem ws_X7_look : mmW yX7_look cX7_look 3 (some .int) := ⟨mm_bigI 826 (by decide +kernel) rfl, mm_bigI 827 (by decide +kernel) rfl, mm_bigI 73 (by decide +kernel) rfl, mm_bigI 828 (by decide +kernel) rfl⟩
theorem hd_X7_look : yX7_look.cls ≠ "java/lang/invoke/MethodHandle" ∧ yX7_look.cls ≠ "java/lang/invoke/VarHandle" ∧ (parseMethodDescriptor yX7_look.desc).map (fun d => d.parameters.length) = some 2 := by decide +kernel
theorem ws_X7_may : mmW yX7_may cX7_may 3 (some .int) := ⟨mm_bigI 914 (by decide +kernel) rfl, mm_bigI 915 (by decide +kernel) rfl, mm_bigI 73 (by decide +kernel) rfl, mm_bigI 916 (by decide +kernel) rfl⟩
theorem hd_X7_may : yX7_may.cls ≠ "java/lang/invoke/MethodHandle" ∧ yX7_may.cls ≠ "java/lang/invoke/VarHandle" ∧ (parseMethodDescriptor yX7_may.desc).map (fun d => d.parameters.length) = some 2 := by decide +kernel
theorem ws_X7_of : mmW yX7_of cX7_of 3 (some .int) := ⟨mm_bigI 906 (by decide +kernel) rfl, mm_bigI 907 (by decide +kernel) rfl, mm_bigI 73 (by decide +kernel) rfl, mm_bigI 908 (by decide +kernel) rfl⟩
theorem hd_X7_of : yX7_of.cls ≠ "java/lang/invoke/MethodHandle" ∧ yX7_of.cls ≠ "java/lang/invoke/VarHandle" ∧ (parseMethodDescriptor yX7_of.desc).map (fun d => d.parameters.length) = some 2 := by decide +kernel
theorem ws_X7_read : mmW yX7_read cX7_read 2 (some .int) := ⟨mm_bigI 854 (by decide +kernel) rfl, mm_bigI 855 (by decide +kernel) rfl, mm_bigI 73 (by decide +kernel) rfl, mm_bigI 856 (by decide +kernel) rfl⟩
theorem hd_X7_read : yX7_read.cls ≠ "java/lang/invoke/MethodHandle" ∧ yX7_read.cls ≠ "java/lang/invoke/VarHandle" ∧ (parseMethodDescriptor yX7_read.desc).map (fun d => d.parameters.length) = some 1 := by decide +kernel
theorem ws_X7_test : mmW yX7_test cX7_test 4 none := ⟨mm_bigI 1024 (by decide +kernel) rfl, mm_bigI 63 (by decide +kernel) rfl, mm_bigI 73 (by decide +kernel) rfl, mm_bigI 1025 (by decide +kernel) rfl⟩
theorem hd_X7_test : yX7_test.cls ≠ "java/lang/invoke/MethodHandle" ∧ yX7_test.cls ≠ "java/lang/invoke/VarHandle" ∧ (parseMethodDescriptor yX7_test.desc).map (fun d => d.parameters.length) = some 1 := by decide +kernel
theorem ws_X7_reads : mmW yX7_reads cX7_reads 3 none := ⟨mm_bigI 1000 (by decide +kernel) rfl, mm_bigI 57 (by decide +kernel) rfl, mm_bigI 73 (by decide +kernel) rfl, mm_bigI 1001 (by decide +kernel) rfl⟩
theorem hd_X7_reads : yX7_reads.cls ≠ "java/lang/invoke/MethodHandle" ∧ yX7_reads.cls ≠ "java/lang/invoke/VarHandle" ∧ (parseMethodDescriptor yX7_reads.desc).map (fun d => d.parameters.length) = some 0 := by decide +kernel
theorem ws_X7_row : mmW yX7_row cX7_row 2 (some .int) := ⟨mm_bigI 1051 (by decide +kernel) rfl, mm_bigI 1052 (by decide +kernel) rfl, mm_bigI 73 (by decide +kernel) rfl, mm_bigI 1053 (by decide +kernel) rfl⟩
theorem hd_X7_row : yX7_row.cls ≠ "java/lang/invoke/MethodHandle" ∧ yX7_row.cls ≠ "java/lang/invoke/VarHandle" ∧ (parseMethodDescriptor yX7_row.desc).map (fun d => d.parameters.length) = some 1 := by decide +kernel
theorem ws_X7_rule : mmW yX7_rule cX7_rule 3 (some .int) := ⟨mm_bigI 994 (by decide +kernel) rfl, mm_bigI 995 (by decide +kernel) rfl, mm_bigI 73 (by decide +kernel) rfl, mm_bigI 996 (by decide +kernel) rfl⟩
theorem hd_X7_rule : yX7_rule.cls ≠ "java/lang/invoke/MethodHandle" ∧ yX7_rule.cls ≠ "java/lang/invoke/VarHandle" ∧ (parseMethodDescriptor yX7_rule.desc).map (fun d => d.parameters.length) = some 2 := by decide +kernel
theorem ws_X7_run : mmW yX7_run cX7_run 4 (some .int) := ⟨mm_bigI 946 (by decide +kernel) rfl, mm_bigI 947 (by decide +kernel) rfl, mm_bigI 73 (by decide +kernel) rfl, mm_bigI 948 (by decide +kernel) rfl⟩
theorem hd_X7_run : yX7_run.cls ≠ "java/lang/invoke/MethodHandle" ∧ yX7_run.cls ≠ "java/lang/invoke/VarHandle" ∧ (parseMethodDescriptor yX7_run.desc).map (fun d => d.parameters.length) = some 1 := by decide +kernel
theorem ws_X7_said : mmW yX7_said cX7_said 4 (some .int) := ⟨mm_bigI 1031 (by decide +kernel) rfl, mm_bigI 1032 (by decide +kernel) rfl, mm_bigI 73 (by decide +kernel) rfl, mm_bigI 1033 (by decide +kernel) rfl⟩
theorem hd_X7_said : yX7_said.cls ≠ "java/lang/invoke/MethodHandle" ∧ yX7_said.cls ≠ "java/lang/invoke/VarHandle" ∧ (parseMethodDescriptor yX7_said.desc).map (fun d => d.parameters.length) = some 3 := by decide +kernel
theorem ws_X7_snow : mmW yX7_snow cX7_snow 4 (some .int) := ⟨mm_bigI 898 (by decide +kernel) rfl, mm_bigI 899 (by decide +kernel) rfl, mm_bigI 73 (by decide +kernel) rfl, mm_bigI 900 (by decide +kernel) rfl⟩
theorem hd_X7_snow : yX7_snow.cls ≠ "java/lang/invoke/MethodHandle" ∧ yX7_snow.cls ≠ "java/lang/invoke/VarHandle" ∧ (parseMethodDescriptor yX7_snow.desc).map (fun d => d.parameters.length) = some 1 := by decide +kernel
theorem ws_X7_status : mmW yX7_status cX7_status 2 (some .int) := ⟨mm_bigI 1059 (by decide +kernel) rfl, mm_bigI 1060 (by decide +kernel) rfl, mm_bigI 73 (by decide +kernel) rfl, mm_bigI 1061 (by decide +kernel) rfl⟩
theorem hd_X7_status : yX7_status.cls ≠ "java/lang/invoke/MethodHandle" ∧ yX7_status.cls ≠ "java/lang/invoke/VarHandle" ∧ (parseMethodDescriptor yX7_status.desc).map (fun d => d.parameters.length) = some 1 := by decide +kernel
theorem ws_X7_sweep : mmW yX7_sweep cX7_sweep 2 (some .int) := ⟨mm_bigI 882 (by decide +kernel) rfl, mm_bigI 883 (by decide +kernel) rfl, mm_bigI 73 (by decide +kernel) rfl, mm_bigI 884 (by decide +kernel) rfl⟩
theorem hd_X7_sweep : yX7_sweep.cls ≠ "java/lang/invoke/MethodHandle" ∧ yX7_sweep.cls ≠ "java/lang/invoke/VarHandle" ∧ (parseMethodDescriptor yX7_sweep.desc).map (fun d => d.parameters.length) = some 1 := by decide +kernel
theorem ws_X7_tear : mmW yX7_tear cX7_tear 2 (some .int) := ⟨mm_bigI 1047 (by decide +kernel) rfl, mm_bigI 1048 (by decide +kernel) rfl, mm_bigI 73 (by decide +kernel) rfl, mm_bigI 1049 (by decide +kernel) rfl⟩
theorem hd_X7_tear : yX7_tear.cls ≠ "java/lang/invoke/MethodHandle" ∧ yX7_tear.cls ≠ "java/lang/invoke/VarHandle" ∧ (parseMethodDescriptor yX7_tear.desc).map (fun d => d.parameters.length) = some 0 := by decide +kernel
theorem ws_X7_tell : mmW yX7_tell cX7_tell 4 (some .int) := ⟨mm_bigI 1043 (by decide +kernel) rfl, mm_bigI 1044 (by decide +kernel) rfl, mm_bigI 73 (by decide +kernel) rfl, mm_bigI 1045 (by decide +kernel) rfl⟩
theorem hd_X7_tell : yX7_tell.cls ≠ "java/lang/invoke/MethodHandle" ∧ yX7_tell.cls ≠ "java/lang/invoke/VarHandle" ∧ (parseMethodDescriptor yX7_tell.desc).map (fun d => d.parameters.length) = some 2 := by decide +kernel
theorem ws_X7_thaw : mmW yX7_thaw cX7_thaw 6 (some .int) := ⟨mm_bigI 978 (by decide +kernel) rfl, mm_bigI 979 (by decide +kernel) rfl, mm_bigI 73 (by decide +kernel) rfl, mm_bigI 980 (by decide +kernel) rfl⟩
theorem hd_X7_thaw : yX7_thaw.cls ≠ "java/lang/invoke/MethodHandle" ∧ yX7_thaw.cls ≠ "java/lang/invoke/VarHandle" ∧ (parseMethodDescriptor yX7_thaw.desc).map (fun d => d.parameters.length) = some 2 := by decide +kernel
theorem ws_X7_thick : mmW yX7_thick cX7_thick 4 (some .int) := ⟨mm_bigI 850 (by decide +kernel) rfl, mm_bigI 851 (by decide +kernel) rfl, mm_bigI 73 (by decide +kernel) rfl, mm_bigI 852 (by decide +kernel) rfl⟩
theorem hd_X7_thick : yX7_thick.cls ≠ "java/lang/invoke/MethodHandle" ∧ yX7_thick.cls ≠ "java/lang/invoke/VarHandle" ∧ (parseMethodDescriptor yX7_thick.desc).map (fun d => d.parameters.length) = some 2 := by decide +kernel
theorem ws_X7_turn : mmW yX7_turn cX7_turn 2 (some .int) := ⟨mm_bigI 938 (by decide +kernel) rfl, mm_bigI 939 (by decide +kernel) rfl, mm_bigI 73 (by decide +kernel) rfl, mm_bigI 940 (by decide +kernel) rfl⟩
theorem hd_X7_turn : yX7_turn.cls ≠ "java/lang/invoke/MethodHandle" ∧ yX7_turn.cls ≠ "java/lang/invoke/VarHandle" ∧ (parseMethodDescriptor yX7_turn.desc).map (fun d => d.parameters.length) = some 1 := by decide +kernel
theorem ws_X7_weather : mmW yX7_weather cX7_weather 4 (some .int) := ⟨mm_bigI 866 (by decide +kernel) rfl, mm_bigI 867 (by decide +kernel) rfl, mm_bigI 73 (by decide +kernel) rfl, mm_bigI 868 (by decide +kernel) rfl⟩
theorem hd_X7_weather : yX7_weather.cls ≠ "java/lang/invoke/MethodHandle" ∧ yX7_weather.cls ≠ "java/lang/invoke/VarHandle" ∧ (parseMethodDescriptor yX7_weather.desc).map (fun d => d.parameters.length) = some 2 := by decide +kernel
theorem ws_X7_why : mmW yX7_why cX7_why 3 (some .int) := ⟨mm_bigI 934 (by decide +kernel) rfl, mm_bigI 935 (by decide +kernel) rfl, mm_bigI 73 (by decide +kernel) rfl, mm_bigI 936 (by decide +kernel) rfl⟩
theorem hd_X7_why : yX7_why.cls ≠ "java/lang/invoke/MethodHandle" ∧ yX7_why.cls ≠ "java/lang/invoke/VarHandle" ∧ (parseMethodDescriptor yX7_why.desc).map (fun d => d.parameters.length) = some 2 := by decide +kernel
theorem ws_X7_wipe : mmW yX7_wipe cX7_wipe 2 (some .int) := ⟨mm_bigI 990 (by decide +kernel) rfl, mm_bigI 991 (by decide +kernel) rfl, mm_bigI 73 (by decide +kernel) rfl, mm_bigI 992 (by decide +kernel) rfl⟩
theorem hd_X7_wipe : yX7_wipe.cls ≠ "java/lang/invoke/MethodHandle" ∧ yX7_wipe.cls ≠ "java/lang/invoke/VarHandle" ∧ (parseMethodDescriptor yX7_wipe.desc).map (fun d => d.parameters.length) = some 0 := by decide +kernel
theorem dJ9_floorMod_7cf53_0 : decode cJ9_floorMod_7cf53 0 = .ok (.iload_n 0, 1) := by decide +kernel
theorem dJ9_floorMod_7cf53_1 : decode cJ9_floorMod_7cf53 1 = .ok (.iload_n 1, 1) := by decide +kernel
theorem dJ9_floorMod_7cf53_2 : decode cJ9_floorMod_7cf53 2 = .ok (.irem, 1) := by decide +kernel
theorem dJ9_floorMod_7cf53_3 : decode cJ9_floorMod_7cf53 3 = .ok (.istore_n 2, 1) := by decide +kernel
theorem dJ9_floorMod_7cf53_4 : decode cJ9_floorMod_7cf53 4 = .ok (.iload_n 0, 1) := by decide +kernel
theorem dJ9_floorMod_7cf53_5 : decode cJ9_floorMod_7cf53 5 = .ok (.iload_n 1, 1) := by decide +kernel
theorem dJ9_floorMod_7cf53_6 : decode cJ9_floorMod_7cf53 6 = .ok (.ixor, 1) := by decide +kernel
theorem dJ9_floorMod_7cf53_7 : decode cJ9_floorMod_7cf53 7 = .ok (.ifCond .ge 11, 3) := by decide +kernel
theorem dJ9_floorMod_7cf53_10 : decode cJ9_floorMod_7cf53 10 = .ok (.iload_n 2, 1) := by decide +kernel
theorem dJ9_floorMod_7cf53_11 : decode cJ9_floorMod_7cf53 11 = .ok (.ifCond .eq 7, 3) := by decide +kernel
theorem dJ9_floorMod_7cf53_14 : decode cJ9_floorMod_7cf53 14 = .ok (.iload_n 2, 1) := by decide +kernel
theorem dJ9_floorMod_7cf53_15 : decode cJ9_floorMod_7cf53 15 = .ok (.iload_n 1, 1) := by decide +kernel
theorem dJ9_floorMod_7cf53_16 : decode cJ9_floorMod_7cf53 16 = .ok (.iadd, 1) := by decide +kernel
theorem dJ9_floorMod_7cf53_17 : decode cJ9_floorMod_7cf53 17 = .ok (.ireturn, 1) := by decide +kernel
theorem dJ9_floorMod_7cf53_18 : decode cJ9_floorMod_7cf53 18 = .ok (.iload_n 2, 1) := by decide +kernel
theorem dJ9_floorMod_7cf53_19 : decode cJ9_floorMod_7cf53 19 = .ok (.ireturn, 1) := by decide +kernel
