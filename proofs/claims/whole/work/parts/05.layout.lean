/-! ===== the cells by their numbers (printed by wip/whole/gen/layout.py): the kind (a class, or 20 int, 21 long, 22 byte, 23 boolean, 24 swimmers) and how many slots ===== -/
def lyT : List (Nat × Nat) := [(11, 10), (6, 9), (20, 30), (20, 5), (20, 5), (20, 5), (20, 100), (2, 12), (20, 400), (20, 400), (23, 10), (20, 11), (20, 10), (20, 8), (20, 24), (10, 6), (20, 400), (7, 4), (3, 2), (1, 16), (6, 9), (20, 30), (20, 5), (20, 5), (20, 5), (20, 100), (2, 12), (20, 400), (20, 400), (23, 10), (20, 11), (20, 10), (20, 8), (20, 24), (24, 5), (5, 3), (20, 5), (20, 80), (20, 6), (9, 15), (20, 140), (9, 15), (20, 140), (9, 15), (20, 140), (9, 15), (20, 140), (9, 15), (20, 140), (8, 1), (0, 10), (20, 20), (20, 20), (4, 5), (20, 8), (20, 6), (21, 448), (12, 54), (22, 400), (20, 5), (20, 144), (20, 144), (20, 900), (20, 900), (20, 40), (20, 40), (20, 8), (21, 400), (20, 5), (20, 5), (20, 5), (20, 5), (20, 5), (20, 5), (20, 5), (20, 5), (20, 5), (20, 6), (23, 5), (20, 700), (20, 5), (20, 3), (20, 20), (20, 20), (21, 1)]
def ly (k : Nat) : Nat × Nat := lyT.getD k (99, 0)
theorem ly_0 : ly 0 = (11, 10) := rfl
theorem ly_1 : ly 1 = (6, 9) := rfl
theorem ly_2 : ly 2 = (20, 30) := rfl
theorem ly_3 : ly 3 = (20, 5) := rfl
theorem ly_4 : ly 4 = (20, 5) := rfl
theorem ly_5 : ly 5 = (20, 5) := rfl
theorem ly_6 : ly 6 = (20, 100) := rfl
theorem ly_7 : ly 7 = (2, 12) := rfl
theorem ly_8 : ly 8 = (20, 400) := rfl
theorem ly_9 : ly 9 = (20, 400) := rfl
theorem ly_10 : ly 10 = (23, 10) := rfl
theorem ly_11 : ly 11 = (20, 11) := rfl
theorem ly_12 : ly 12 = (20, 10) := rfl
theorem ly_13 : ly 13 = (20, 8) := rfl
theorem ly_14 : ly 14 = (20, 24) := rfl
theorem ly_15 : ly 15 = (10, 6) := rfl
theorem ly_16 : ly 16 = (20, 400) := rfl
theorem ly_17 : ly 17 = (7, 4) := rfl
theorem ly_18 : ly 18 = (3, 2) := rfl
theorem ly_19 : ly 19 = (1, 16) := rfl
theorem ly_20 : ly 20 = (6, 9) := rfl
theorem ly_21 : ly 21 = (20, 30) := rfl
theorem ly_22 : ly 22 = (20, 5) := rfl
theorem ly_23 : ly 23 = (20, 5) := rfl
theorem ly_24 : ly 24 = (20, 5) := rfl
theorem ly_25 : ly 25 = (20, 100) := rfl
theorem ly_26 : ly 26 = (2, 12) := rfl
theorem ly_27 : ly 27 = (20, 400) := rfl
theorem ly_28 : ly 28 = (20, 400) := rfl
theorem ly_29 : ly 29 = (23, 10) := rfl
theorem ly_30 : ly 30 = (20, 11) := rfl
theorem ly_31 : ly 31 = (20, 10) := rfl
theorem ly_32 : ly 32 = (20, 8) := rfl
theorem ly_33 : ly 33 = (20, 24) := rfl
theorem ly_34 : ly 34 = (24, 5) := rfl
theorem ly_35 : ly 35 = (5, 3) := rfl
theorem ly_36 : ly 36 = (20, 5) := rfl
theorem ly_37 : ly 37 = (20, 80) := rfl
theorem ly_38 : ly 38 = (20, 6) := rfl
theorem ly_39 : ly 39 = (9, 15) := rfl
theorem ly_40 : ly 40 = (20, 140) := rfl
theorem ly_41 : ly 41 = (9, 15) := rfl
theorem ly_42 : ly 42 = (20, 140) := rfl
theorem ly_43 : ly 43 = (9, 15) := rfl
theorem ly_44 : ly 44 = (20, 140) := rfl
theorem ly_45 : ly 45 = (9, 15) := rfl
theorem ly_46 : ly 46 = (20, 140) := rfl
theorem ly_47 : ly 47 = (9, 15) := rfl
theorem ly_48 : ly 48 = (20, 140) := rfl
theorem ly_49 : ly 49 = (8, 1) := rfl
theorem ly_50 : ly 50 = (0, 10) := rfl
theorem ly_51 : ly 51 = (20, 20) := rfl
theorem ly_52 : ly 52 = (20, 20) := rfl
theorem ly_53 : ly 53 = (4, 5) := rfl
theorem ly_54 : ly 54 = (20, 8) := rfl
theorem ly_55 : ly 55 = (20, 6) := rfl
theorem ly_56 : ly 56 = (21, 448) := rfl
theorem ly_57 : ly 57 = (12, 54) := rfl
theorem ly_58 : ly 58 = (22, 400) := rfl
theorem ly_59 : ly 59 = (20, 5) := rfl
theorem ly_60 : ly 60 = (20, 144) := rfl
theorem ly_61 : ly 61 = (20, 144) := rfl
theorem ly_62 : ly 62 = (20, 900) := rfl
theorem ly_63 : ly 63 = (20, 900) := rfl
theorem ly_64 : ly 64 = (20, 40) := rfl
theorem ly_65 : ly 65 = (20, 40) := rfl
theorem ly_66 : ly 66 = (20, 8) := rfl
theorem ly_67 : ly 67 = (21, 400) := rfl
theorem ly_68 : ly 68 = (20, 5) := rfl
theorem ly_69 : ly 69 = (20, 5) := rfl
theorem ly_70 : ly 70 = (20, 5) := rfl
theorem ly_71 : ly 71 = (20, 5) := rfl
theorem ly_72 : ly 72 = (20, 5) := rfl
theorem ly_73 : ly 73 = (20, 5) := rfl
theorem ly_74 : ly 74 = (20, 5) := rfl
theorem ly_75 : ly 75 = (20, 5) := rfl
theorem ly_76 : ly 76 = (20, 5) := rfl
theorem ly_77 : ly 77 = (20, 6) := rfl
theorem ly_78 : ly 78 = (23, 5) := rfl
theorem ly_79 : ly 79 = (20, 700) := rfl
theorem ly_80 : ly 80 = (20, 5) := rfl
theorem ly_81 : ly 81 = (20, 3) := rfl
theorem ly_82 : ly 82 = (20, 20) := rfl
theorem ly_83 : ly 83 = (20, 20) := rfl
theorem ly_84 : ly 84 = (21, 1) := rfl
/-- a field's kind -/
def fkL : List (List Nat) := [
  [2, 2, 0, 0, 0, 0, 0, 0, 2, 2],
  [2, 2, 2, 2, 2, 2, 0, 0, 0, 0, 0, 0, 0, 0, 0, 0],
  [2, 2, 0, 2, 2, 2, 0, 2, 2, 0, 0, 0],
  [2, 2],
  [2, 2, 0, 2, 2],
  [2, 0, 0],
  [2, 2, 2, 2, 2, 0, 0, 0, 0],
  [2, 2, 0, 0],
  [2],
  [0, 2, 0, 0, 0, 0, 0, 0, 0, 0, 0, 0, 0, 0, 0],
  [2, 0, 0, 0, 0, 0],
  [2, 2, 2, 2, 2, 0, 2, 2, 2, 2],
  [0, 2, 0, 2, 0, 0, 0, 0, 0, 2, 2, 0, 0, 0, 2, 2, 2, 2, 0, 0, 0, 0, 2, 0, 2, 0, 0, 0, 0, 0, 0, 0, 0, 0, 0, 0, 0, 0, 2, 2, 2, 2, 2, 2, 2, 2, 2, 2, 2, 2, 2, 2, 2, 2]]
def fk (c j : Nat) : Nat := (fkL.getD c []).getD j 0
/-- what a final reference holds, once all is made -/
def fx (c k j : Nat) : Option Nat := match c with
  | 0 => ([some 19, some 49, none, none, none, none, none, none, some 51, some 52] : List (Option Nat)).getD j none
  | 1 => ([none, none, some 34, some 35, some 37, some 38, none, none, none, none, none, none, none, none, none, none] : List (Option Nat)).getD j none
  | 2 => ([some (k + 1), some (k + 2), none, some (k + 3), some (k + 4), some (k + 5), none, some (k + 6), some (k + 7), none, none, none] : List (Option Nat)).getD j none
  | 3 => ([some 15, none] : List (Option Nat)).getD j none
  | 4 => ([some 19, some 54, none, some 55, some 56] : List (Option Nat)).getD j none
  | 5 => ([some 36, none, none] : List (Option Nat)).getD j none
  | 6 => ([some (k + 1), some (k + 2), some (k + 3), some (k + 4), some (k + 5), none, none, none, none] : List (Option Nat)).getD j none
  | 7 => ([some 15, none, none, none] : List (Option Nat)).getD j none
  | 8 => ([some 19] : List (Option Nat)).getD j none
  | 9 => ([none, some (k + 1), none, none, none, none, none, none, none, none, none, none, none, none, none] : List (Option Nat)).getD j none
  | 10 => ([some 16, none, none, none, none, none] : List (Option Nat)).getD j none
  | 11 => ([none, none, some 15, some 17, some 18, none, some 19, some 49, some 50, some 53] : List (Option Nat)).getD j none
  | 12 => ([none, some 58, none, some 59, none, none, none, none, none, some 60, some 61, none, none, none, some 62, some 63, some 64, some 65, none, none, none, none, some 66, none, some 67, none, none, none, none, none, none, none, none, none, none, none, none, none, some 68, some 69, some 70, some 71, some 72, some 73, some 74, some 75, some 76, some 77, some 78, some 79, some 80, some 81, some 82, some 83] : List (Option Nat)).getD j none
  | _ => none
def tyA (c : Nat) : Nat → FieldType := match c with
  | 0 => tyX0
  | 1 => tyX1
  | 2 => tyX2
  | 3 => tyX3
  | 4 => tyX4
  | 5 => tyX5
  | 6 => tyX6
  | 7 => tyX7
  | 8 => tyX8
  | 9 => tyX9
  | 10 => tyX10
  | 11 => tyX11
  | _ => tyX12
def isSea (k : Nat) : Bool := k == 1 || k == 20
def isJudge (k : Nat) : Bool := k == 7 || k == 26
def isSw (k : Nat) : Bool := k == 39 || k == 41 || k == 43 || k == 45 || k == 47
theorem isSea_ly0 {k : Nat} (h : isSea k = true) : ly (k + 0) = (6, 9) := by
  simp only [isSea, Bool.or_eq_true, beq_iff_eq] at h
  rcases h with (rfl | rfl) <;> rfl
theorem isSea_ly1 {k : Nat} (h : isSea k = true) : ly (k + 1) = (20, 30) := by
  simp only [isSea, Bool.or_eq_true, beq_iff_eq] at h
  rcases h with (rfl | rfl) <;> rfl
theorem isSea_ly2 {k : Nat} (h : isSea k = true) : ly (k + 2) = (20, 5) := by
  simp only [isSea, Bool.or_eq_true, beq_iff_eq] at h
  rcases h with (rfl | rfl) <;> rfl
theorem isSea_ly3 {k : Nat} (h : isSea k = true) : ly (k + 3) = (20, 5) := by
  simp only [isSea, Bool.or_eq_true, beq_iff_eq] at h
  rcases h with (rfl | rfl) <;> rfl
theorem isSea_ly4 {k : Nat} (h : isSea k = true) : ly (k + 4) = (20, 5) := by
  simp only [isSea, Bool.or_eq_true, beq_iff_eq] at h
  rcases h with (rfl | rfl) <;> rfl
theorem isSea_ly5 {k : Nat} (h : isSea k = true) : ly (k + 5) = (20, 100) := by
  simp only [isSea, Bool.or_eq_true, beq_iff_eq] at h
  rcases h with (rfl | rfl) <;> rfl
theorem isSea_lt {k : Nat} (h : isSea k = true) : k + 5 < 85 := by
  simp only [isSea, Bool.or_eq_true, beq_iff_eq] at h
  omega
theorem isJudge_ly0 {k : Nat} (h : isJudge k = true) : ly (k + 0) = (2, 12) := by
  simp only [isJudge, Bool.or_eq_true, beq_iff_eq] at h
  rcases h with (rfl | rfl) <;> rfl
theorem isJudge_ly1 {k : Nat} (h : isJudge k = true) : ly (k + 1) = (20, 400) := by
  simp only [isJudge, Bool.or_eq_true, beq_iff_eq] at h
  rcases h with (rfl | rfl) <;> rfl
theorem isJudge_ly2 {k : Nat} (h : isJudge k = true) : ly (k + 2) = (20, 400) := by
  simp only [isJudge, Bool.or_eq_true, beq_iff_eq] at h
  rcases h with (rfl | rfl) <;> rfl
theorem isJudge_ly3 {k : Nat} (h : isJudge k = true) : ly (k + 3) = (23, 10) := by
  simp only [isJudge, Bool.or_eq_true, beq_iff_eq] at h
  rcases h with (rfl | rfl) <;> rfl
theorem isJudge_ly4 {k : Nat} (h : isJudge k = true) : ly (k + 4) = (20, 11) := by
  simp only [isJudge, Bool.or_eq_true, beq_iff_eq] at h
  rcases h with (rfl | rfl) <;> rfl
theorem isJudge_ly5 {k : Nat} (h : isJudge k = true) : ly (k + 5) = (20, 10) := by
  simp only [isJudge, Bool.or_eq_true, beq_iff_eq] at h
  rcases h with (rfl | rfl) <;> rfl
theorem isJudge_ly6 {k : Nat} (h : isJudge k = true) : ly (k + 6) = (20, 8) := by
  simp only [isJudge, Bool.or_eq_true, beq_iff_eq] at h
  rcases h with (rfl | rfl) <;> rfl
theorem isJudge_ly7 {k : Nat} (h : isJudge k = true) : ly (k + 7) = (20, 24) := by
  simp only [isJudge, Bool.or_eq_true, beq_iff_eq] at h
  rcases h with (rfl | rfl) <;> rfl
theorem isJudge_lt {k : Nat} (h : isJudge k = true) : k + 7 < 85 := by
  simp only [isJudge, Bool.or_eq_true, beq_iff_eq] at h
  omega
theorem isSw_ly0 {k : Nat} (h : isSw k = true) : ly (k + 0) = (9, 15) := by
  simp only [isSw, Bool.or_eq_true, beq_iff_eq] at h
  rcases h with ((((rfl | rfl) | rfl) | rfl) | rfl) <;> rfl
theorem isSw_ly1 {k : Nat} (h : isSw k = true) : ly (k + 1) = (20, 140) := by
  simp only [isSw, Bool.or_eq_true, beq_iff_eq] at h
  rcases h with ((((rfl | rfl) | rfl) | rfl) | rfl) <;> rfl
theorem isSw_lt {k : Nat} (h : isSw k = true) : k + 1 < 85 := by
  simp only [isSw, Bool.or_eq_true, beq_iff_eq] at h
  omega
/-- the String constants: class, place, text -/
def strT : List (String × Nat × String) := [(RX7, 54, "surfer"), (RX7, 88, "at"), (RX7, 97, "swims"), (RX7, 68, "heat"), (RX7, 73, "again"), (RX7, 63, "wave"), (RX7, 113, "left"), (RX7, 115, "right"), (RX7, 117, "both"), (RX7, 119, "high"), (RX7, 121, "long"), (RX11, 97, "the text is no sea"), (RX3, 44, "plus"), (RX3, 50, "less"), (RX3, 122, "high"), (RX3, 124, "long"), (RX3, 126, "ride"), (RX3, 128, "far"), (RX3, 130, "turns"), (RX3, 132, "minute"), (RX3, 134, "rides"), (RX3, 136, "best"), (RX3, 68, "if"), (RX3, 97, "not"), (RX3, 95, "and"), (RX3, 82, "or"), (RX11, 114, "the text is no judge"), (RX11, 127, "there is no sea"), (RX11, 364, "there is no such wave"), (RX11, 366, "it is another what"), (RX11, 361, "there is no such surfer"), (RX11, 368, "it is no place"), (RX11, 196, "that one is not out"), (RX11, 208, "it is no way"), (RX11, 370, "it is no ride, or no turns"), (RX11, 220, "it cannot be taken so"), (RX11, 229, "both are one"), (RX11, 231, "no wave is there"), (RX11, 248, "there is no such ride"), (RX11, 258, "there is no such rank"), (RX11, 264, "no wave is there, or that one is not out"), (RX11, 376, "that one is sent in, or on the wave"), (RX11, 281, "the heat is over"), (RX11, 378, "it is no number of waves, or of rides"), (RX11, 380, "nothing is seen"), (RX11, 318, "it did not go by"), (RX11, 326, "it is not to come"), (RX12, 176, "surfer"), (RX12, 178, "at"), (RX12, 180, "swims"), (RX12, 182, "heat"), (RX12, 184, "again"), (RX12, 186, "wave"), (RX12, 188, "left"), (RX12, 190, "right"), (RX12, 192, "both"), (RX12, 194, "high"), (RX12, 196, "long"), (RX12, 295, "plus"), (RX12, 297, "less"), (RX12, 276, "ride"), (RX12, 277, "far"), (RX12, 279, "turns"), (RX12, 281, "minute"), (RX12, 283, "rides"), (RX12, 284, "best"), (RX12, 299, "if"), (RX12, 259, "not"), (RX12, 254, "and"), (RX12, 246, "or")]
def strN : Nat := 70
def strBL : List (List Int) := [[115, 117, 114, 102, 101, 114],
  [97, 116],
  [115, 119, 105, 109, 115],
  [104, 101, 97, 116],
  [97, 103, 97, 105, 110],
  [119, 97, 118, 101],
  [108, 101, 102, 116],
  [114, 105, 103, 104, 116],
  [98, 111, 116, 104],
  [104, 105, 103, 104],
  [108, 111, 110, 103],
  [116, 104, 101, 32, 116, 101, 120, 116, 32, 105, 115, 32, 110, 111, 32, 115, 101, 97],
  [112, 108, 117, 115],
  [108, 101, 115, 115],
  [104, 105, 103, 104],
  [108, 111, 110, 103],
  [114, 105, 100, 101],
  [102, 97, 114],
  [116, 117, 114, 110, 115],
  [109, 105, 110, 117, 116, 101],
  [114, 105, 100, 101, 115],
  [98, 101, 115, 116],
  [105, 102],
  [110, 111, 116],
  [97, 110, 100],
  [111, 114],
  [116, 104, 101, 32, 116, 101, 120, 116, 32, 105, 115, 32, 110, 111, 32, 106, 117, 100, 103, 101],
  [116, 104, 101, 114, 101, 32, 105, 115, 32, 110, 111, 32, 115, 101, 97],
  [116, 104, 101, 114, 101, 32, 105, 115, 32, 110, 111, 32, 115, 117, 99, 104, 32, 119, 97, 118, 101],
  [105, 116, 32, 105, 115, 32, 97, 110, 111, 116, 104, 101, 114, 32, 119, 104, 97, 116],
  [116, 104, 101, 114, 101, 32, 105, 115, 32, 110, 111, 32, 115, 117, 99, 104, 32, 115, 117, 114, 102, 101, 114],
  [105, 116, 32, 105, 115, 32, 110, 111, 32, 112, 108, 97, 99, 101],
  [116, 104, 97, 116, 32, 111, 110, 101, 32, 105, 115, 32, 110, 111, 116, 32, 111, 117, 116],
  [105, 116, 32, 105, 115, 32, 110, 111, 32, 119, 97, 121],
  [105, 116, 32, 105, 115, 32, 110, 111, 32, 114, 105, 100, 101, 44, 32, 111, 114, 32, 110, 111, 32, 116, 117, 114, 110, 115],
  [105, 116, 32, 99, 97, 110, 110, 111, 116, 32, 98, 101, 32, 116, 97, 107, 101, 110, 32, 115, 111],
  [98, 111, 116, 104, 32, 97, 114, 101, 32, 111, 110, 101],
  [110, 111, 32, 119, 97, 118, 101, 32, 105, 115, 32, 116, 104, 101, 114, 101],
  [116, 104, 101, 114, 101, 32, 105, 115, 32, 110, 111, 32, 115, 117, 99, 104, 32, 114, 105, 100, 101],
  [116, 104, 101, 114, 101, 32, 105, 115, 32, 110, 111, 32, 115, 117, 99, 104, 32, 114, 97, 110, 107],
  [110, 111, 32, 119, 97, 118, 101, 32, 105, 115, 32, 116, 104, 101, 114, 101, 44, 32, 111, 114, 32, 116, 104, 97, 116, 32, 111, 110, 101, 32, 105, 115, 32, 110, 111, 116, 32, 111, 117, 116],
  [116, 104, 97, 116, 32, 111, 110, 101, 32, 105, 115, 32, 115, 101, 110, 116, 32, 105, 110, 44, 32, 111, 114, 32, 111, 110, 32, 116, 104, 101, 32, 119, 97, 118, 101],
  [116, 104, 101, 32, 104, 101, 97, 116, 32, 105, 115, 32, 111, 118, 101, 114],
  [105, 116, 32, 105, 115, 32, 110, 111, 32, 110, 117, 109, 98, 101, 114, 32, 111, 102, 32, 119, 97, 118, 101, 115, 44, 32, 111, 114, 32, 111, 102, 32, 114, 105, 100, 101, 115],
  [110, 111, 116, 104, 105, 110, 103, 32, 105, 115, 32, 115, 101, 101, 110],
  [105, 116, 32, 100, 105, 100, 32, 110, 111, 116, 32, 103, 111, 32, 98, 121],
  [105, 116, 32, 105, 115, 32, 110, 111, 116, 32, 116, 111, 32, 99, 111, 109, 101],
  [115, 117, 114, 102, 101, 114],
  [97, 116],
  [115, 119, 105, 109, 115],
  [104, 101, 97, 116],
  [97, 103, 97, 105, 110],
  [119, 97, 118, 101],
  [108, 101, 102, 116],
  [114, 105, 103, 104, 116],
  [98, 111, 116, 104],
  [104, 105, 103, 104],
  [108, 111, 110, 103],
  [112, 108, 117, 115],
  [108, 101, 115, 115],
  [114, 105, 100, 101],
  [102, 97, 114],
  [116, 117, 114, 110, 115],
  [109, 105, 110, 117, 116, 101],
  [114, 105, 100, 101, 115],
  [98, 101, 115, 116],
  [105, 102],
  [110, 111, 116],
  [97, 110, 100],
  [111, 114]]
def strB (j : Nat) : List Int := strBL.getD j []
def ncT : List (String × String) := [("java/lang/IllegalStateException", "java/lang/IllegalArgumentException"), ("java/lang/IndexOutOfBoundsException", "java/lang/IllegalArgumentException"), ("java/util/NoSuchElementException", "java/lang/IllegalArgumentException"), ("java/lang/IllegalArgumentException", "java/lang/IllegalStateException"), ("java/lang/IndexOutOfBoundsException", "java/lang/IllegalStateException"), ("java/util/NoSuchElementException", "java/lang/IllegalStateException"), ("java/lang/IllegalArgumentException", "java/lang/IndexOutOfBoundsException"), ("java/lang/IllegalStateException", "java/lang/IndexOutOfBoundsException"), ("java/util/NoSuchElementException", "java/lang/IndexOutOfBoundsException"), ("java/lang/IllegalArgumentException", "java/util/NoSuchElementException"), ("java/lang/IllegalStateException", "java/util/NoSuchElementException"), ("java/lang/IndexOutOfBoundsException", "java/util/NoSuchElementException")]
