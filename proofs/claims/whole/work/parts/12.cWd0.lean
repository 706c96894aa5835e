def offT : List (Nat × Nat) := [(1, 0), (2, 115), (3, 116), (4, 117), (5, 118), (6, 119), (7, 120), (100, 1), (101, 2), (102, 3), (103, 4), (104, 5), (105, 6), (106, 7), (107, 8), (110, 9), (111, 10), (112, 11), (113, 12), (114, 13), (115, 14), (116, 15), (117, 16), (130, 17), (131, 18), (132, 19), (133, 20), (134, 21), (135, 22), (136, 23), (137, 24), (138, 25), (139, 26), (140, 27), (141, 28), (150, 29), (151, 30), (152, 31), (153, 32), (154, 33), (155, 34), (156, 35), (157, 36), (158, 37), (159, 38), (200, 39), (201, 40), (202, 41), (203, 42), (204, 43), (205, 44), (206, 45), (207, 46), (210, 47), (211, 48), (212, 49), (213, 50), (214, 51), (215, 52), (216, 53), (217, 54), (230, 55), (231, 56), (232, 57), (233, 58), (234, 59), (235, 60), (236, 61), (237, 62), (238, 63), (239, 64), (240, 65), (241, 66), (250, 67), (251, 68), (252, 69), (253, 70), (254, 71), (255, 72), (256, 73), (257, 74), (258, 75), (259, 76), (300, 77), (301, 78), (302, 79), (303, 80), (304, 81), (305, 82), (306, 83), (307, 84), (310, 85), (311, 86), (312, 87), (313, 88), (314, 89), (315, 90), (316, 91), (317, 92), (330, 93), (331, 94), (332, 95), (333, 96), (334, 97), (335, 98), (336, 99), (337, 100), (338, 101), (339, 102), (340, 103), (341, 104), (350, 105), (351, 106), (352, 107), (353, 108), (354, 109), (355, 110), (356, 111), (357, 112), (358, 113), (359, 114), (1000, 121), (1001, 122), (1002, 123), (1003, 124), (1010, 125), (1011, 126), (1012, 127), (1013, 128), (1020, 129), (1021, 130), (1022, 131), (1023, 132), (1030, 133), (1031, 134), (1032, 135), (1033, 136), (1040, 137), (1041, 138), (1042, 139), (1043, 140), (1050, 141), (1051, 142), (1052, 143), (1053, 144), (1100, 145), (1101, 146), (1102, 147), (1103, 148), (1104, 149), (1105, 150), (1106, 151), (1107, 152), (1108, 153), (1109, 154), (1110, 155), (1111, 156), (2000, 157), (2001, 158), (2002, 159), (2003, 160), (2004, 161), (2005, 162), (2006, 163), (2007, 164), (2008, 165), (2012, 166), (2019, 167), (2020, 168), (2021, 169), (2022, 170), (2023, 171), (2024, 172), (2026, 173), (2028, 174), (2029, 175), (2030, 176), (2032, 177), (2033, 178), (2035, 179), (2036, 180), (2038, 181), (2040, 182), (2041, 183), (2042, 184), (2043, 185), (2044, 186)]
def off (id : Nat) : Nat := ((offT.find? (fun q => q.1 == id)).map (fun q => q.2)).getD 0
def mkE (D : va_G) (B : Nat) (cy : Nat → ClassId) (A : Nat → Prop) (est : Nat → Nat) : WE := (D, fun id => B + off id, cy, A, est)
def mem0 : Mem := (fun id => if id = 100 ∨ id = 200 ∨ id = 300 then (fun i => if i = 2 then 127 else if i = 4 then -1 else 0) else if id = 1100 ∨ id = 1102 ∨ id = 1104 ∨ id = 1106 ∨ id = 1108 ∨ id = 1110 then (fun i => if i = 0 then -1 else 0) else if id = 2000 then (fun i => if i = 9 then 127 else if i = 18 then -1 else 0) else if id = 2042 then upd (upd (upd (upd (upd (upd (fun _ => (0 : Int32)) 0 (-1 : Int32)) 1 (-1 : Int32)) 2 (-1 : Int32)) 3 (-1 : Int32)) 4 (-1 : Int32)) 5 (-1 : Int32) else fun _ => (0 : Int32), fun _ _ => (0 : Int64))
def cs0 (E : WE) (B : Nat) : List va_E := d_X6 E (B + 1) ++ (e_X7_init E (B + 158) :: d_X7 E (B + 158))
theorem aR_ext {E : WE} {j n : Nat} {h : Nat → Nat} {f : Nat → Option Nat} (hf : ∀ i, f i = if i < n then some (ead E (h i)) else none) : (.inl (ecy E j, n, .inr (.inr (.inr (.inr f)))) : va_E) = aR E j n h := by
  rw [show f = fun i => if i < n then some (ead E (h i)) else none from funext hf]
  rfl
theorem if_ext {n : Nat} {f g : Nat → Nat} (h : ∀ i, i < n → f i = g i) (i : Nat) : (if i < n then some (f i) else none) = if i < n then some (g i) else none := by
  by_cases hi : i < n
  · rw [if_pos hi, if_pos hi, h i hi]
  · rw [if_neg hi, if_neg hi]
theorem cs0_6 {E : WE} {B k : Nat} {e : va_E} (h : (d_X6 E (B + 1))[k]? = some e) : (cs0 E B)[k]? = some e := by
  have hl := (List.getElem?_eq_some_iff.mp h).1
  unfold cs0
  rw [List.getElem?_append_left hl]
  exact h
set_option maxRecDepth 100000 in
theorem len_c6 (E : WE) (b : Nat) : (d_X6 E b).length = 156 := rfl
theorem cs0_7 {E : WE} {B k : Nat} {e : va_E} (h : (e_X7_init E (B + 158) :: d_X7 E (B + 158))[k]? = some e) : (cs0 E B)[156 + k]? = some e := by
  unfold cs0
  rw [List.getElem?_append_right (by rw [len_c6]; omega), len_c6, show 156 + k - 156 = k by omega]
  exact h
set_option maxRecDepth 100000 in
theorem cc0_2 (D : va_G) (B : Nat) (cy : Nat → ClassId) (A : Nat → Prop) (est : Nat → Nat) : (d_X6 (mkE D B cy A est) (B + 1))[114]? = some (shape (mkE D B cy A est) (gI mem0 2) (gL mem0 2) 2) := rfl
set_option maxRecDepth 100000 in
theorem cc0_3 (D : va_G) (B : Nat) (cy : Nat → ClassId) (A : Nat → Prop) (est : Nat → Nat) : (d_X6 (mkE D B cy A est) (B + 1))[115]? = some (shape (mkE D B cy A est) (gI mem0 3) (gL mem0 3) 3) := rfl
set_option maxRecDepth 100000 in
theorem cc0_4 (D : va_G) (B : Nat) (cy : Nat → ClassId) (A : Nat → Prop) (est : Nat → Nat) : (d_X6 (mkE D B cy A est) (B + 1))[116]? = some (shape (mkE D B cy A est) (gI mem0 4) (gL mem0 4) 4) := (show (d_X6 (mkE D B cy A est) (B + 1))[116]? = some (shape (mkE D B cy A est) (gI mem0 4) (gL mem0 4) 4) from (rfl : (d_X6 (mkE D B cy A est) (B + 1))[116]? = some (.inl _)).trans (congrArg some (aR_ext (fun i => by by_cases hi : i < 6; (· rcases (show i = 0 ∨ i = 1 ∨ i = 2 ∨ i = 3 ∨ i = 4 ∨ i = 5 by omega) with rfl | rfl | rfl | rfl | rfl | rfl <;> rfl); · rw [if_neg hi]; simp only [va_up]; (repeat rw [if_neg (by omega)])))))
set_option maxRecDepth 100000 in
theorem cc0_5 (D : va_G) (B : Nat) (cy : Nat → ClassId) (A : Nat → Prop) (est : Nat → Nat) : (d_X6 (mkE D B cy A est) (B + 1))[117]? = some (shape (mkE D B cy A est) (gI mem0 5) (gL mem0 5) 5) := rfl
set_option maxRecDepth 100000 in
theorem cc0_6 (D : va_G) (B : Nat) (cy : Nat → ClassId) (A : Nat → Prop) (est : Nat → Nat) : (d_X6 (mkE D B cy A est) (B + 1))[118]? = some (shape (mkE D B cy A est) (gI mem0 6) (gL mem0 6) 6) := rfl
set_option maxRecDepth 100000 in
theorem cc0_7 (D : va_G) (B : Nat) (cy : Nat → ClassId) (A : Nat → Prop) (est : Nat → Nat) : (d_X6 (mkE D B cy A est) (B + 1))[119]? = some (shape (mkE D B cy A est) (gI mem0 7) (gL mem0 7) 7) := (show (d_X6 (mkE D B cy A est) (B + 1))[119]? = some (shape (mkE D B cy A est) (gI mem0 7) (gL mem0 7) 7) from (rfl : (d_X6 (mkE D B cy A est) (B + 1))[119]? = some (.inl _)).trans (congrArg some (aR_ext (fun i => by by_cases hi : i < 6; (· rcases (show i = 0 ∨ i = 1 ∨ i = 2 ∨ i = 3 ∨ i = 4 ∨ i = 5 by omega) with rfl | rfl | rfl | rfl | rfl | rfl <;> rfl); · rw [if_neg hi]; simp only [va_up]; (repeat rw [if_neg (by omega)])))))
set_option maxRecDepth 100000 in
theorem cc0_100 (D : va_G) (B : Nat) (cy : Nat → ClassId) (A : Nat → Prop) (est : Nat → Nat) : (d_X6 (mkE D B cy A est) (B + 1))[0]? = some (shape (mkE D B cy A est) (gI mem0 100) (gL mem0 100) 100) := rfl
set_option maxRecDepth 100000 in
theorem cc0_101 (D : va_G) (B : Nat) (cy : Nat → ClassId) (A : Nat → Prop) (est : Nat → Nat) : (d_X6 (mkE D B cy A est) (B + 1))[1]? = some (shape (mkE D B cy A est) (gI mem0 101) (gL mem0 101) 101) := (show (d_X6 (mkE D B cy A est) (B + 1))[1]? = some (shape (mkE D B cy A est) (gI mem0 101) (gL mem0 101) 101) from (rfl : (d_X6 (mkE D B cy A est) (B + 1))[1]? = some (.inl _)).trans (congrArg some (aR_ext (if_ext (n := 6) (fun i hi => by rcases (show i = 0 ∨ i = 1 ∨ i = 2 ∨ i = 3 ∨ i = 4 ∨ i = 5 by omega) with rfl | rfl | rfl | rfl | rfl | rfl <;> rfl)))))
set_option maxRecDepth 100000 in
theorem cc0_102 (D : va_G) (B : Nat) (cy : Nat → ClassId) (A : Nat → Prop) (est : Nat → Nat) : (d_X6 (mkE D B cy A est) (B + 1))[2]? = some (shape (mkE D B cy A est) (gI mem0 102) (gL mem0 102) 102) := rfl
set_option maxRecDepth 100000 in
theorem cc0_103 (D : va_G) (B : Nat) (cy : Nat → ClassId) (A : Nat → Prop) (est : Nat → Nat) : (d_X6 (mkE D B cy A est) (B + 1))[3]? = some (shape (mkE D B cy A est) (gI mem0 103) (gL mem0 103) 103) := rfl
set_option maxRecDepth 100000 in
theorem cc0_104 (D : va_G) (B : Nat) (cy : Nat → ClassId) (A : Nat → Prop) (est : Nat → Nat) : (d_X6 (mkE D B cy A est) (B + 1))[4]? = some (shape (mkE D B cy A est) (gI mem0 104) (gL mem0 104) 104) := rfl
set_option maxRecDepth 100000 in
theorem cc0_105 (D : va_G) (B : Nat) (cy : Nat → ClassId) (A : Nat → Prop) (est : Nat → Nat) : (d_X6 (mkE D B cy A est) (B + 1))[5]? = some (shape (mkE D B cy A est) (gI mem0 105) (gL mem0 105) 105) := rfl
set_option maxRecDepth 100000 in
theorem cc0_106 (D : va_G) (B : Nat) (cy : Nat → ClassId) (A : Nat → Prop) (est : Nat → Nat) : (d_X6 (mkE D B cy A est) (B + 1))[6]? = some (shape (mkE D B cy A est) (gI mem0 106) (gL mem0 106) 106) := rfl
set_option maxRecDepth 100000 in
theorem cc0_107 (D : va_G) (B : Nat) (cy : Nat → ClassId) (A : Nat → Prop) (est : Nat → Nat) : (d_X6 (mkE D B cy A est) (B + 1))[7]? = some (shape (mkE D B cy A est) (gI mem0 107) (gL mem0 107) 107) := rfl
set_option maxRecDepth 100000 in
theorem cc0_110 (D : va_G) (B : Nat) (cy : Nat → ClassId) (A : Nat → Prop) (est : Nat → Nat) : (d_X6 (mkE D B cy A est) (B + 1))[8]? = some (shape (mkE D B cy A est) (gI mem0 110) (gL mem0 110) 110) := rfl
set_option maxRecDepth 100000 in
theorem cc0_111 (D : va_G) (B : Nat) (cy : Nat → ClassId) (A : Nat → Prop) (est : Nat → Nat) : (d_X6 (mkE D B cy A est) (B + 1))[9]? = some (shape (mkE D B cy A est) (gI mem0 111) (gL mem0 111) 111) := (show (d_X6 (mkE D B cy A est) (B + 1))[9]? = some (shape (mkE D B cy A est) (gI mem0 111) (gL mem0 111) 111) from (rfl : (d_X6 (mkE D B cy A est) (B + 1))[9]? = some (.inl _)).trans (congrArg some (aR_ext (if_ext (n := 6) (fun i hi => by rcases (show i = 0 ∨ i = 1 ∨ i = 2 ∨ i = 3 ∨ i = 4 ∨ i = 5 by omega) with rfl | rfl | rfl | rfl | rfl | rfl <;> rfl)))))
set_option maxRecDepth 100000 in
theorem cc0_112 (D : va_G) (B : Nat) (cy : Nat → ClassId) (A : Nat → Prop) (est : Nat → Nat) : (d_X6 (mkE D B cy A est) (B + 1))[10]? = some (shape (mkE D B cy A est) (gI mem0 112) (gL mem0 112) 112) := rfl
set_option maxRecDepth 100000 in
theorem cc0_113 (D : va_G) (B : Nat) (cy : Nat → ClassId) (A : Nat → Prop) (est : Nat → Nat) : (d_X6 (mkE D B cy A est) (B + 1))[11]? = some (shape (mkE D B cy A est) (gI mem0 113) (gL mem0 113) 113) := rfl
set_option maxRecDepth 100000 in
theorem cc0_114 (D : va_G) (B : Nat) (cy : Nat → ClassId) (A : Nat → Prop) (est : Nat → Nat) : (d_X6 (mkE D B cy A est) (B + 1))[12]? = some (shape (mkE D B cy A est) (gI mem0 114) (gL mem0 114) 114) := rfl
set_option maxRecDepth 100000 in
theorem cc0_115 (D : va_G) (B : Nat) (cy : Nat → ClassId) (A : Nat → Prop) (est : Nat → Nat) : (d_X6 (mkE D B cy A est) (B + 1))[13]? = some (shape (mkE D B cy A est) (gI mem0 115) (gL mem0 115) 115) := rfl
set_option maxRecDepth 100000 in
theorem cc0_116 (D : va_G) (B : Nat) (cy : Nat → ClassId) (A : Nat → Prop) (est : Nat → Nat) : (d_X6 (mkE D B cy A est) (B + 1))[14]? = some (shape (mkE D B cy A est) (gI mem0 116) (gL mem0 116) 116) := rfl
set_option maxRecDepth 100000 in
theorem cc0_117 (D : va_G) (B : Nat) (cy : Nat → ClassId) (A : Nat → Prop) (est : Nat → Nat) : (d_X6 (mkE D B cy A est) (B + 1))[15]? = some (shape (mkE D B cy A est) (gI mem0 117) (gL mem0 117) 117) := rfl
set_option maxRecDepth 100000 in
theorem cc0_130 (D : va_G) (B : Nat) (cy : Nat → ClassId) (A : Nat → Prop) (est : Nat → Nat) : (d_X6 (mkE D B cy A est) (B + 1))[16]? = some (shape (mkE D B cy A est) (gI mem0 130) (gL mem0 130) 130) := rfl
set_option maxRecDepth 100000 in
theorem cc0_131 (D : va_G) (B : Nat) (cy : Nat → ClassId) (A : Nat → Prop) (est : Nat → Nat) : (d_X6 (mkE D B cy A est) (B + 1))[17]? = some (shape (mkE D B cy A est) (gI mem0 131) (gL mem0 131) 131) := (show (d_X6 (mkE D B cy A est) (B + 1))[17]? = some (shape (mkE D B cy A est) (gI mem0 131) (gL mem0 131) 131) from (rfl : (d_X6 (mkE D B cy A est) (B + 1))[17]? = some (.inl _)).trans (congrArg some (aR_ext (if_ext (n := 10) (fun i hi => by rcases (show i = 0 ∨ i = 1 ∨ i = 2 ∨ i = 3 ∨ i = 4 ∨ i = 5 ∨ i = 6 ∨ i = 7 ∨ i = 8 ∨ i = 9 by omega) with rfl | rfl | rfl | rfl | rfl | rfl | rfl | rfl | rfl | rfl <;> rfl)))))
set_option maxRecDepth 100000 in
theorem cc0_132 (D : va_G) (B : Nat) (cy : Nat → ClassId) (A : Nat → Prop) (est : Nat → Nat) : (d_X6 (mkE D B cy A est) (B + 1))[18]? = some (shape (mkE D B cy A est) (gI mem0 132) (gL mem0 132) 132) := rfl
set_option maxRecDepth 100000 in
theorem cc0_133 (D : va_G) (B : Nat) (cy : Nat → ClassId) (A : Nat → Prop) (est : Nat → Nat) : (d_X6 (mkE D B cy A est) (B + 1))[19]? = some (shape (mkE D B cy A est) (gI mem0 133) (gL mem0 133) 133) := rfl
set_option maxRecDepth 100000 in
theorem cc0_134 (D : va_G) (B : Nat) (cy : Nat → ClassId) (A : Nat → Prop) (est : Nat → Nat) : (d_X6 (mkE D B cy A est) (B + 1))[20]? = some (shape (mkE D B cy A est) (gI mem0 134) (gL mem0 134) 134) := rfl
set_option maxRecDepth 100000 in
theorem cc0_135 (D : va_G) (B : Nat) (cy : Nat → ClassId) (A : Nat → Prop) (est : Nat → Nat) : (d_X6 (mkE D B cy A est) (B + 1))[21]? = some (shape (mkE D B cy A est) (gI mem0 135) (gL mem0 135) 135) := rfl
set_option maxRecDepth 100000 in
theorem cc0_136 (D : va_G) (B : Nat) (cy : Nat → ClassId) (A : Nat → Prop) (est : Nat → Nat) : (d_X6 (mkE D B cy A est) (B + 1))[22]? = some (shape (mkE D B cy A est) (gI mem0 136) (gL mem0 136) 136) := rfl
set_option maxRecDepth 100000 in
theorem cc0_137 (D : va_G) (B : Nat) (cy : Nat → ClassId) (A : Nat → Prop) (est : Nat → Nat) : (d_X6 (mkE D B cy A est) (B + 1))[23]? = some (shape (mkE D B cy A est) (gI mem0 137) (gL mem0 137) 137) := rfl
set_option maxRecDepth 100000 in
theorem cc0_138 (D : va_G) (B : Nat) (cy : Nat → ClassId) (A : Nat → Prop) (est : Nat → Nat) : (d_X6 (mkE D B cy A est) (B + 1))[24]? = some (shape (mkE D B cy A est) (gI mem0 138) (gL mem0 138) 138) := rfl
set_option maxRecDepth 100000 in
theorem cc0_139 (D : va_G) (B : Nat) (cy : Nat → ClassId) (A : Nat → Prop) (est : Nat → Nat) : (d_X6 (mkE D B cy A est) (B + 1))[25]? = some (shape (mkE D B cy A est) (gI mem0 139) (gL mem0 139) 139) := rfl
set_option maxRecDepth 100000 in
theorem cc0_140 (D : va_G) (B : Nat) (cy : Nat → ClassId) (A : Nat → Prop) (est : Nat → Nat) : (d_X6 (mkE D B cy A est) (B + 1))[26]? = some (shape (mkE D B cy A est) (gI mem0 140) (gL mem0 140) 140) := rfl
set_option maxRecDepth 100000 in
theorem cc0_141 (D : va_G) (B : Nat) (cy : Nat → ClassId) (A : Nat → Prop) (est : Nat → Nat) : (d_X6 (mkE D B cy A est) (B + 1))[27]? = some (shape (mkE D B cy A est) (gI mem0 141) (gL mem0 141) 141) := rfl
set_option maxRecDepth 100000 in
theorem cc0_150 (D : va_G) (B : Nat) (cy : Nat → ClassId) (A : Nat → Prop) (est : Nat → Nat) : (d_X6 (mkE D B cy A est) (B + 1))[28]? = some (shape (mkE D B cy A est) (gI mem0 150) (gL mem0 150) 150) := rfl
set_option maxRecDepth 100000 in
theorem cc0_151 (D : va_G) (B : Nat) (cy : Nat → ClassId) (A : Nat → Prop) (est : Nat → Nat) : (d_X6 (mkE D B cy A est) (B + 1))[29]? = some (shape (mkE D B cy A est) (gI mem0 151) (gL mem0 151) 151) := (show (d_X6 (mkE D B cy A est) (B + 1))[29]? = some (shape (mkE D B cy A est) (gI mem0 151) (gL mem0 151) 151) from (rfl : (d_X6 (mkE D B cy A est) (B + 1))[29]? = some (.inl _)).trans (congrArg some (aR_ext (if_ext (n := 8) (fun i hi => by rcases (show i = 0 ∨ i = 1 ∨ i = 2 ∨ i = 3 ∨ i = 4 ∨ i = 5 ∨ i = 6 ∨ i = 7 by omega) with rfl | rfl | rfl | rfl | rfl | rfl | rfl | rfl <;> rfl)))))
set_option maxRecDepth 100000 in
theorem cc0_152 (D : va_G) (B : Nat) (cy : Nat → ClassId) (A : Nat → Prop) (est : Nat → Nat) : (d_X6 (mkE D B cy A est) (B + 1))[30]? = some (shape (mkE D B cy A est) (gI mem0 152) (gL mem0 152) 152) := rfl
set_option maxRecDepth 100000 in
theorem cc0_153 (D : va_G) (B : Nat) (cy : Nat → ClassId) (A : Nat → Prop) (est : Nat → Nat) : (d_X6 (mkE D B cy A est) (B + 1))[31]? = some (shape (mkE D B cy A est) (gI mem0 153) (gL mem0 153) 153) := rfl
set_option maxRecDepth 100000 in
theorem cc0_154 (D : va_G) (B : Nat) (cy : Nat → ClassId) (A : Nat → Prop) (est : Nat → Nat) : (d_X6 (mkE D B cy A est) (B + 1))[32]? = some (shape (mkE D B cy A est) (gI mem0 154) (gL mem0 154) 154) := rfl
set_option maxRecDepth 100000 in
theorem cc0_155 (D : va_G) (B : Nat) (cy : Nat → ClassId) (A : Nat → Prop) (est : Nat → Nat) : (d_X6 (mkE D B cy A est) (B + 1))[33]? = some (shape (mkE D B cy A est) (gI mem0 155) (gL mem0 155) 155) := rfl
set_option maxRecDepth 100000 in
theorem cc0_156 (D : va_G) (B : Nat) (cy : Nat → ClassId) (A : Nat → Prop) (est : Nat → Nat) : (d_X6 (mkE D B cy A est) (B + 1))[34]? = some (shape (mkE D B cy A est) (gI mem0 156) (gL mem0 156) 156) := rfl
set_option maxRecDepth 100000 in
theorem cc0_157 (D : va_G) (B : Nat) (cy : Nat → ClassId) (A : Nat → Prop) (est : Nat → Nat) : (d_X6 (mkE D B cy A est) (B + 1))[35]? = some (shape (mkE D B cy A est) (gI mem0 157) (gL mem0 157) 157) := rfl
set_option maxRecDepth 100000 in
theorem cc0_158 (D : va_G) (B : Nat) (cy : Nat → ClassId) (A : Nat → Prop) (est : Nat → Nat) : (d_X6 (mkE D B cy A est) (B + 1))[36]? = some (shape (mkE D B cy A est) (gI mem0 158) (gL mem0 158) 158) := rfl
set_option maxRecDepth 100000 in
theorem cc0_159 (D : va_G) (B : Nat) (cy : Nat → ClassId) (A : Nat → Prop) (est : Nat → Nat) : (d_X6 (mkE D B cy A est) (B + 1))[37]? = some (shape (mkE D B cy A est) (gI mem0 159) (gL mem0 159) 159) := rfl
set_option maxRecDepth 100000 in
theorem cc0_200 (D : va_G) (B : Nat) (cy : Nat → ClassId) (A : Nat → Prop) (est : Nat → Nat) : (d_X6 (mkE D B cy A est) (B + 1))[38]? = some (shape (mkE D B cy A est) (gI mem0 200) (gL mem0 200) 200) := rfl
set_option maxRecDepth 100000 in
theorem cc0_201 (D : va_G) (B : Nat) (cy : Nat → ClassId) (A : Nat → Prop) (est : Nat → Nat) : (d_X6 (mkE D B cy A est) (B + 1))[39]? = some (shape (mkE D B cy A est) (gI mem0 201) (gL mem0 201) 201) := (show (d_X6 (mkE D B cy A est) (B + 1))[39]? = some (shape (mkE D B cy A est) (gI mem0 201) (gL mem0 201) 201) from (rfl : (d_X6 (mkE D B cy A est) (B + 1))[39]? = some (.inl _)).trans (congrArg some (aR_ext (if_ext (n := 6) (fun i hi => by rcases (show i = 0 ∨ i = 1 ∨ i = 2 ∨ i = 3 ∨ i = 4 ∨ i = 5 by omega) with rfl | rfl | rfl | rfl | rfl | rfl <;> rfl)))))
set_option maxRecDepth 100000 in
theorem cc0_202 (D : va_G) (B : Nat) (cy : Nat → ClassId) (A : Nat → Prop) (est : Nat → Nat) : (d_X6 (mkE D B cy A est) (B + 1))[40]? = some (shape (mkE D B cy A est) (gI mem0 202) (gL mem0 202) 202) := rfl
set_option maxRecDepth 100000 in
theorem cc0_203 (D : va_G) (B : Nat) (cy : Nat → ClassId) (A : Nat → Prop) (est : Nat → Nat) : (d_X6 (mkE D B cy A est) (B + 1))[41]? = some (shape (mkE D B cy A est) (gI mem0 203) (gL mem0 203) 203) := rfl
set_option maxRecDepth 100000 in
theorem cc0_204 (D : va_G) (B : Nat) (cy : Nat → ClassId) (A : Nat → Prop) (est : Nat → Nat) : (d_X6 (mkE D B cy A est) (B + 1))[42]? = some (shape (mkE D B cy A est) (gI mem0 204) (gL mem0 204) 204) := rfl
set_option maxRecDepth 100000 in
theorem cc0_205 (D : va_G) (B : Nat) (cy : Nat → ClassId) (A : Nat → Prop) (est : Nat → Nat) : (d_X6 (mkE D B cy A est) (B + 1))[43]? = some (shape (mkE D B cy A est) (gI mem0 205) (gL mem0 205) 205) := rfl
set_option maxRecDepth 100000 in
theorem cc0_206 (D : va_G) (B : Nat) (cy : Nat → ClassId) (A : Nat → Prop) (est : Nat → Nat) : (d_X6 (mkE D B cy A est) (B + 1))[44]? = some (shape (mkE D B cy A est) (gI mem0 206) (gL mem0 206) 206) := rfl
set_option maxRecDepth 100000 in
theorem cc0_207 (D : va_G) (B : Nat) (cy : Nat → ClassId) (A : Nat → Prop) (est : Nat → Nat) : (d_X6 (mkE D B cy A est) (B + 1))[45]? = some (shape (mkE D B cy A est) (gI mem0 207) (gL mem0 207) 207) := rfl
set_option maxRecDepth 100000 in
theorem cc0_210 (D : va_G) (B : Nat) (cy : Nat → ClassId) (A : Nat → Prop) (est : Nat → Nat) : (d_X6 (mkE D B cy A est) (B + 1))[46]? = some (shape (mkE D B cy A est) (gI mem0 210) (gL mem0 210) 210) := rfl
set_option maxRecDepth 100000 in
theorem cc0_211 (D : va_G) (B : Nat) (cy : Nat → ClassId) (A : Nat → Prop) (est : Nat → Nat) : (d_X6 (mkE D B cy A est) (B + 1))[47]? = some (shape (mkE D B cy A est) (gI mem0 211) (gL mem0 211) 211) := (show (d_X6 (mkE D B cy A est) (B + 1))[47]? = some (shape (mkE D B cy A est) (gI mem0 211) (gL mem0 211) 211) from (rfl : (d_X6 (mkE D B cy A est) (B + 1))[47]? = some (.inl _)).trans (congrArg some (aR_ext (if_ext (n := 6) (fun i hi => by rcases (show i = 0 ∨ i = 1 ∨ i = 2 ∨ i = 3 ∨ i = 4 ∨ i = 5 by omega) with rfl | rfl | rfl | rfl | rfl | rfl <;> rfl)))))
set_option maxRecDepth 100000 in
theorem cc0_212 (D : va_G) (B : Nat) (cy : Nat → ClassId) (A : Nat → Prop) (est : Nat → Nat) : (d_X6 (mkE D B cy A est) (B + 1))[48]? = some (shape (mkE D B cy A est) (gI mem0 212) (gL mem0 212) 212) := rfl
set_option maxRecDepth 100000 in
theorem cc0_213 (D : va_G) (B : Nat) (cy : Nat → ClassId) (A : Nat → Prop) (est : Nat → Nat) : (d_X6 (mkE D B cy A est) (B + 1))[49]? = some (shape (mkE D B cy A est) (gI mem0 213) (gL mem0 213) 213) := rfl
set_option maxRecDepth 100000 in
theorem cc0_214 (D : va_G) (B : Nat) (cy : Nat → ClassId) (A : Nat → Prop) (est : Nat → Nat) : (d_X6 (mkE D B cy A est) (B + 1))[50]? = some (shape (mkE D B cy A est) (gI mem0 214) (gL mem0 214) 214) := rfl
set_option maxRecDepth 100000 in
theorem cc0_215 (D : va_G) (B : Nat) (cy : Nat → ClassId) (A : Nat → Prop) (est : Nat → Nat) : (d_X6 (mkE D B cy A est) (B + 1))[51]? = some (shape (mkE D B cy A est) (gI mem0 215) (gL mem0 215) 215) := rfl
set_option maxRecDepth 100000 in
theorem cc0_216 (D : va_G) (B : Nat) (cy : Nat → ClassId) (A : Nat → Prop) (est : Nat → Nat) : (d_X6 (mkE D B cy A est) (B + 1))[52]? = some (shape (mkE D B cy A est) (gI mem0 216) (gL mem0 216) 216) := rfl
set_option maxRecDepth 100000 in
theorem cc0_217 (D : va_G) (B : Nat) (cy : Nat → ClassId) (A : Nat → Prop) (est : Nat → Nat) : (d_X6 (mkE D B cy A est) (B + 1))[53]? = some (shape (mkE D B cy A est) (gI mem0 217) (gL mem0 217) 217) := rfl
set_option maxRecDepth 100000 in
theorem cc0_230 (D : va_G) (B : Nat) (cy : Nat → ClassId) (A : Nat → Prop) (est : Nat → Nat) : (d_X6 (mkE D B cy A est) (B + 1))[54]? = some (shape (mkE D B cy A est) (gI mem0 230) (gL mem0 230) 230) := rfl
set_option maxRecDepth 100000 in
theorem cc0_231 (D : va_G) (B : Nat) (cy : Nat → ClassId) (A : Nat → Prop) (est : Nat → Nat) : (d_X6 (mkE D B cy A est) (B + 1))[55]? = some (shape (mkE D B cy A est) (gI mem0 231) (gL mem0 231) 231) := (show (d_X6 (mkE D B cy A est) (B + 1))[55]? = some (shape (mkE D B cy A est) (gI mem0 231) (gL mem0 231) 231) from (rfl : (d_X6 (mkE D B cy A est) (B + 1))[55]? = some (.inl _)).trans (congrArg some (aR_ext (if_ext (n := 10) (fun i hi => by rcases (show i = 0 ∨ i = 1 ∨ i = 2 ∨ i = 3 ∨ i = 4 ∨ i = 5 ∨ i = 6 ∨ i = 7 ∨ i = 8 ∨ i = 9 by omega) with rfl | rfl | rfl | rfl | rfl | rfl | rfl | rfl | rfl | rfl <;> rfl)))))
set_option maxRecDepth 100000 in
theorem cc0_232 (D : va_G) (B : Nat) (cy : Nat → ClassId) (A : Nat → Prop) (est : Nat → Nat) : (d_X6 (mkE D B cy A est) (B + 1))[56]? = some (shape (mkE D B cy A est) (gI mem0 232) (gL mem0 232) 232) := rfl
set_option maxRecDepth 100000 in
theorem cc0_233 (D : va_G) (B : Nat) (cy : Nat → ClassId) (A : Nat → Prop) (est : Nat → Nat) : (d_X6 (mkE D B cy A est) (B + 1))[57]? = some (shape (mkE D B cy A est) (gI mem0 233) (gL mem0 233) 233) := rfl
set_option maxRecDepth 100000 in
theorem cc0_234 (D : va_G) (B : Nat) (cy : Nat → ClassId) (A : Nat → Prop) (est : Nat → Nat) : (d_X6 (mkE D B cy A est) (B + 1))[58]? = some (shape (mkE D B cy A est) (gI mem0 234) (gL mem0 234) 234) := rfl
set_option maxRecDepth 100000 in
theorem cc0_235 (D : va_G) (B : Nat) (cy : Nat → ClassId) (A : Nat → Prop) (est : Nat → Nat) : (d_X6 (mkE D B cy A est) (B + 1))[59]? = some (shape (mkE D B cy A est) (gI mem0 235) (gL mem0 235) 235) := rfl
set_option maxRecDepth 100000 in
theorem cc0_236 (D : va_G) (B : Nat) (cy : Nat → ClassId) (A : Nat → Prop) (est : Nat → Nat) : (d_X6 (mkE D B cy A est) (B + 1))[60]? = some (shape (mkE D B cy A est) (gI mem0 236) (gL mem0 236) 236) := rfl
set_option maxRecDepth 100000 in
theorem cc0_237 (D : va_G) (B : Nat) (cy : Nat → ClassId) (A : Nat → Prop) (est : Nat → Nat) : (d_X6 (mkE D B cy A est) (B + 1))[61]? = some (shape (mkE D B cy A est) (gI mem0 237) (gL mem0 237) 237) := rfl
set_option maxRecDepth 100000 in
theorem cc0_238 (D : va_G) (B : Nat) (cy : Nat → ClassId) (A : Nat → Prop) (est : Nat → Nat) : (d_X6 (mkE D B cy A est) (B + 1))[62]? = some (shape (mkE D B cy A est) (gI mem0 238) (gL mem0 238) 238) := rfl
set_option maxRecDepth 100000 in
theorem cc0_239 (D : va_G) (B : Nat) (cy : Nat → ClassId) (A : Nat → Prop) (est : Nat → Nat) : (d_X6 (mkE D B cy A est) (B + 1))[63]? = some (shape (mkE D B cy A est) (gI mem0 239) (gL mem0 239) 239) := rfl
set_option maxRecDepth 100000 in
theorem cc0_240 (D : va_G) (B : Nat) (cy : Nat → ClassId) (A : Nat → Prop) (est : Nat → Nat) : (d_X6 (mkE D B cy A est) (B + 1))[64]? = some (shape (mkE D B cy A est) (gI mem0 240) (gL mem0 240) 240) := rfl
set_option maxRecDepth 100000 in
theorem cc0_241 (D : va_G) (B : Nat) (cy : Nat → ClassId) (A : Nat → Prop) (est : Nat → Nat) : (d_X6 (mkE D B cy A est) (B + 1))[65]? = some (shape (mkE D B cy A est) (gI mem0 241) (gL mem0 241) 241) := rfl
set_option maxRecDepth 100000 in
theorem cc0_250 (D : va_G) (B : Nat) (cy : Nat → ClassId) (A : Nat → Prop) (est : Nat → Nat) : (d_X6 (mkE D B cy A est) (B + 1))[66]? = some (shape (mkE D B cy A est) (gI mem0 250) (gL mem0 250) 250) := rfl
set_option maxRecDepth 100000 in
theorem cc0_251 (D : va_G) (B : Nat) (cy : Nat → ClassId) (A : Nat → Prop) (est : Nat → Nat) : (d_X6 (mkE D B cy A est) (B + 1))[67]? = some (shape (mkE D B cy A est) (gI mem0 251) (gL mem0 251) 251) := (show (d_X6 (mkE D B cy A est) (B + 1))[67]? = some (shape (mkE D B cy A est) (gI mem0 251) (gL mem0 251) 251) from (rfl : (d_X6 (mkE D B cy A est) (B + 1))[67]? = some (.inl _)).trans (congrArg some (aR_ext (if_ext (n := 8) (fun i hi => by rcases (show i = 0 ∨ i = 1 ∨ i = 2 ∨ i = 3 ∨ i = 4 ∨ i = 5 ∨ i = 6 ∨ i = 7 by omega) with rfl | rfl | rfl | rfl | rfl | rfl | rfl | rfl <;> rfl)))))
set_option maxRecDepth 100000 in
theorem cc0_252 (D : va_G) (B : Nat) (cy : Nat → ClassId) (A : Nat → Prop) (est : Nat → Nat) : (d_X6 (mkE D B cy A est) (B + 1))[68]? = some (shape (mkE D B cy A est) (gI mem0 252) (gL mem0 252) 252) := rfl
set_option maxRecDepth 100000 in
theorem cc0_253 (D : va_G) (B : Nat) (cy : Nat → ClassId) (A : Nat → Prop) (est : Nat → Nat) : (d_X6 (mkE D B cy A est) (B + 1))[69]? = some (shape (mkE D B cy A est) (gI mem0 253) (gL mem0 253) 253) := rfl
set_option maxRecDepth 100000 in
theorem cc0_254 (D : va_G) (B : Nat) (cy : Nat → ClassId) (A : Nat → Prop) (est : Nat → Nat) : (d_X6 (mkE D B cy A est) (B + 1))[70]? = some (shape (mkE D B cy A est) (gI mem0 254) (gL mem0 254) 254) := rfl
set_option maxRecDepth 100000 in
theorem cc0_255 (D : va_G) (B : Nat) (cy : Nat → ClassId) (A : Nat → Prop) (est : Nat → Nat) : (d_X6 (mkE D B cy A est) (B + 1))[71]? = some (shape (mkE D B cy A est) (gI mem0 255) (gL mem0 255) 255) := rfl
set_option maxRecDepth 100000 in
theorem cc0_256 (D : va_G) (B : Nat) (cy : Nat → ClassId) (A : Nat → Prop) (est : Nat → Nat) : (d_X6 (mkE D B cy A est) (B + 1))[72]? = some (shape (mkE D B cy A est) (gI mem0 256) (gL mem0 256) 256) := rfl
set_option maxRecDepth 100000 in
theorem cc0_257 (D : va_G) (B : Nat) (cy : Nat → ClassId) (A : Nat → Prop) (est : Nat → Nat) : (d_X6 (mkE D B cy A est) (B + 1))[73]? = some (shape (mkE D B cy A est) (gI mem0 257) (gL mem0 257) 257) := rfl
set_option maxRecDepth 100000 in
theorem cc0_258 (D : va_G) (B : Nat) (cy : Nat → ClassId) (A : Nat → Prop) (est : Nat → Nat) : (d_X6 (mkE D B cy A est) (B + 1))[74]? = some (shape (mkE D B cy A est) (gI mem0 258) (gL mem0 258) 258) := rfl
set_option maxRecDepth 100000 in
theorem cc0_259 (D : va_G) (B : Nat) (cy : Nat → ClassId) (A : Nat → Prop) (est : Nat → Nat) : (d_X6 (mkE D B cy A est) (B + 1))[75]? = some (shape (mkE D B cy A est) (gI mem0 259) (gL mem0 259) 259) := rfl
set_option maxRecDepth 100000 in
theorem cc0_300 (D : va_G) (B : Nat) (cy : Nat → ClassId) (A : Nat → Prop) (est : Nat → Nat) : (d_X6 (mkE D B cy A est) (B + 1))[76]? = some (shape (mkE D B cy A est) (gI mem0 300) (gL mem0 300) 300) := rfl
set_option maxRecDepth 100000 in
theorem cc0_301 (D : va_G) (B : Nat) (cy : Nat → ClassId) (A : Nat → Prop) (est : Nat → Nat) : (d_X6 (mkE D B cy A est) (B + 1))[77]? = some (shape (mkE D B cy A est) (gI mem0 301) (gL mem0 301) 301) := (show (d_X6 (mkE D B cy A est) (B + 1))[77]? = some (shape (mkE D B cy A est) (gI mem0 301) (gL mem0 301) 301) from (rfl : (d_X6 (mkE D B cy A est) (B + 1))[77]? = some (.inl _)).trans (congrArg some (aR_ext (if_ext (n := 6) (fun i hi => by rcases (show i = 0 ∨ i = 1 ∨ i = 2 ∨ i = 3 ∨ i = 4 ∨ i = 5 by omega) with rfl | rfl | rfl | rfl | rfl | rfl <;> rfl)))))
set_option maxRecDepth 100000 in
theorem cc0_302 (D : va_G) (B : Nat) (cy : Nat → ClassId) (A : Nat → Prop) (est : Nat → Nat) : (d_X6 (mkE D B cy A est) (B + 1))[78]? = some (shape (mkE D B cy A est) (gI mem0 302) (gL mem0 302) 302) := rfl
set_option maxRecDepth 100000 in
theorem cc0_303 (D : va_G) (B : Nat) (cy : Nat → ClassId) (A : Nat → Prop) (est : Nat → Nat) : (d_X6 (mkE D B cy A est) (B + 1))[79]? = some (shape (mkE D B cy A est) (gI mem0 303) (gL mem0 303) 303) := rfl
set_option maxRecDepth 100000 in
theorem cc0_304 (D : va_G) (B : Nat) (cy : Nat → ClassId) (A : Nat → Prop) (est : Nat → Nat) : (d_X6 (mkE D B cy A est) (B + 1))[80]? = some (shape (mkE D B cy A est) (gI mem0 304) (gL mem0 304) 304) := rfl
set_option maxRecDepth 100000 in
theorem cc0_305 (D : va_G) (B : Nat) (cy : Nat → ClassId) (A : Nat → Prop) (est : Nat → Nat) : (d_X6 (mkE D B cy A est) (B + 1))[81]? = some (shape (mkE D B cy A est) (gI mem0 305) (gL mem0 305) 305) := rfl
set_option maxRecDepth 100000 in
theorem cc0_306 (D : va_G) (B : Nat) (cy : Nat → ClassId) (A : Nat → Prop) (est : Nat → Nat) : (d_X6 (mkE D B cy A est) (B + 1))[82]? = some (shape (mkE D B cy A est) (gI mem0 306) (gL mem0 306) 306) := rfl
set_option maxRecDepth 100000 in
theorem cc0_307 (D : va_G) (B : Nat) (cy : Nat → ClassId) (A : Nat → Prop) (est : Nat → Nat) : (d_X6 (mkE D B cy A est) (B + 1))[83]? = some (shape (mkE D B cy A est) (gI mem0 307) (gL mem0 307) 307) := rfl
set_option maxRecDepth 100000 in
theorem cc0_310 (D : va_G) (B : Nat) (cy : Nat → ClassId) (A : Nat → Prop) (est : Nat → Nat) : (d_X6 (mkE D B cy A est) (B + 1))[84]? = some (shape (mkE D B cy A est) (gI mem0 310) (gL mem0 310) 310) := rfl
set_option maxRecDepth 100000 in
theorem cc0_311 (D : va_G) (B : Nat) (cy : Nat → ClassId) (A : Nat → Prop) (est : Nat → Nat) : (d_X6 (mkE D B cy A est) (B + 1))[85]? = some (shape (mkE D B cy A est) (gI mem0 311) (gL mem0 311) 311) := (show (d_X6 (mkE D B cy A est) (B + 1))[85]? = some (shape (mkE D B cy A est) (gI mem0 311) (gL mem0 311) 311) from (rfl : (d_X6 (mkE D B cy A est) (B + 1))[85]? = some (.inl _)).trans (congrArg some (aR_ext (if_ext (n := 6) (fun i hi => by rcases (show i = 0 ∨ i = 1 ∨ i = 2 ∨ i = 3 ∨ i = 4 ∨ i = 5 by omega) with rfl | rfl | rfl | rfl | rfl | rfl <;> rfl)))))
set_option maxRecDepth 100000 in
theorem cc0_312 (D : va_G) (B : Nat) (cy : Nat → ClassId) (A : Nat → Prop) (est : Nat → Nat) : (d_X6 (mkE D B cy A est) (B + 1))[86]? = some (shape (mkE D B cy A est) (gI mem0 312) (gL mem0 312) 312) := rfl
set_option maxRecDepth 100000 in
theorem cc0_313 (D : va_G) (B : Nat) (cy : Nat → ClassId) (A : Nat → Prop) (est : Nat → Nat) : (d_X6 (mkE D B cy A est) (B + 1))[87]? = some (shape (mkE D B cy A est) (gI mem0 313) (gL mem0 313) 313) := rfl
set_option maxRecDepth 100000 in
theorem cc0_314 (D : va_G) (B : Nat) (cy : Nat → ClassId) (A : Nat → Prop) (est : Nat → Nat) : (d_X6 (mkE D B cy A est) (B + 1))[88]? = some (shape (mkE D B cy A est) (gI mem0 314) (gL mem0 314) 314) := rfl
set_option maxRecDepth 100000 in
theorem cc0_315 (D : va_G) (B : Nat) (cy : Nat → ClassId) (A : Nat → Prop) (est : Nat → Nat) : (d_X6 (mkE D B cy A est) (B + 1))[89]? = some (shape (mkE D B cy A est) (gI mem0 315) (gL mem0 315) 315) := rfl
set_option maxRecDepth 100000 in
theorem cc0_316 (D : va_G) (B : Nat) (cy : Nat → ClassId) (A : Nat → Prop) (est : Nat → Nat) : (d_X6 (mkE D B cy A est) (B + 1))[90]? = some (shape (mkE D B cy A est) (gI mem0 316) (gL mem0 316) 316) := rfl
set_option maxRecDepth 100000 in
theorem cc0_317 (D : va_G) (B : Nat) (cy : Nat → ClassId) (A : Nat → Prop) (est : Nat → Nat) : (d_X6 (mkE D B cy A est) (B + 1))[91]? = some (shape (mkE D B cy A est) (gI mem0 317) (gL mem0 317) 317) := rfl
set_option maxRecDepth 100000 in
theorem cc0_330 (D : va_G) (B : Nat) (cy : Nat → ClassId) (A : Nat → Prop) (est : Nat → Nat) : (d_X6 (mkE D B cy A est) (B + 1))[92]? = some (shape (mkE D B cy A est) (gI mem0 330) (gL mem0 330) 330) := rfl
set_option maxRecDepth 100000 in
theorem cc0_331 (D : va_G) (B : Nat) (cy : Nat → ClassId) (A : Nat → Prop) (est : Nat → Nat) : (d_X6 (mkE D B cy A est) (B + 1))[93]? = some (shape (mkE D B cy A est) (gI mem0 331) (gL mem0 331) 331) := (show (d_X6 (mkE D B cy A est) (B + 1))[93]? = some (shape (mkE D B cy A est) (gI mem0 331) (gL mem0 331) 331) from (rfl : (d_X6 (mkE D B cy A est) (B + 1))[93]? = some (.inl _)).trans (congrArg some (aR_ext (if_ext (n := 10) (fun i hi => by rcases (show i = 0 ∨ i = 1 ∨ i = 2 ∨ i = 3 ∨ i = 4 ∨ i = 5 ∨ i = 6 ∨ i = 7 ∨ i = 8 ∨ i = 9 by omega) with rfl | rfl | rfl | rfl | rfl | rfl | rfl | rfl | rfl | rfl <;> rfl)))))
set_option maxRecDepth 100000 in
theorem cc0_332 (D : va_G) (B : Nat) (cy : Nat → ClassId) (A : Nat → Prop) (est : Nat → Nat) : (d_X6 (mkE D B cy A est) (B + 1))[94]? = some (shape (mkE D B cy A est) (gI mem0 332) (gL mem0 332) 332) := rfl
set_option maxRecDepth 100000 in
theorem cc0_333 (D : va_G) (B : Nat) (cy : Nat → ClassId) (A : Nat → Prop) (est : Nat → Nat) : (d_X6 (mkE D B cy A est) (B + 1))[95]? = some (shape (mkE D B cy A est) (gI mem0 333) (gL mem0 333) 333) := rfl
set_option maxRecDepth 100000 in
theorem cc0_334 (D : va_G) (B : Nat) (cy : Nat → ClassId) (A : Nat → Prop) (est : Nat → Nat) : (d_X6 (mkE D B cy A est) (B + 1))[96]? = some (shape (mkE D B cy A est) (gI mem0 334) (gL mem0 334) 334) := rfl
set_option maxRecDepth 100000 in
theorem cc0_335 (D : va_G) (B : Nat) (cy : Nat → ClassId) (A : Nat → Prop) (est : Nat → Nat) : (d_X6 (mkE D B cy A est) (B + 1))[97]? = some (shape (mkE D B cy A est) (gI mem0 335) (gL mem0 335) 335) := rfl
set_option maxRecDepth 100000 in
theorem cc0_336 (D : va_G) (B : Nat) (cy : Nat → ClassId) (A : Nat → Prop) (est : Nat → Nat) : (d_X6 (mkE D B cy A est) (B + 1))[98]? = some (shape (mkE D B cy A est) (gI mem0 336) (gL mem0 336) 336) := rfl
set_option maxRecDepth 100000 in
theorem cc0_337 (D : va_G) (B : Nat) (cy : Nat → ClassId) (A : Nat → Prop) (est : Nat → Nat) : (d_X6 (mkE D B cy A est) (B + 1))[99]? = some (shape (mkE D B cy A est) (gI mem0 337) (gL mem0 337) 337) := rfl
set_option maxRecDepth 100000 in
theorem cc0_338 (D : va_G) (B : Nat) (cy : Nat → ClassId) (A : Nat → Prop) (est : Nat → Nat) : (d_X6 (mkE D B cy A est) (B + 1))[100]? = some (shape (mkE D B cy A est) (gI mem0 338) (gL mem0 338) 338) := rfl
set_option maxRecDepth 100000 in
theorem cc0_339 (D : va_G) (B : Nat) (cy : Nat → ClassId) (A : Nat → Prop) (est : Nat → Nat) : (d_X6 (mkE D B cy A est) (B + 1))[101]? = some (shape (mkE D B cy A est) (gI mem0 339) (gL mem0 339) 339) := rfl
set_option maxRecDepth 100000 in
theorem cc0_340 (D : va_G) (B : Nat) (cy : Nat → ClassId) (A : Nat → Prop) (est : Nat → Nat) : (d_X6 (mkE D B cy A est) (B + 1))[102]? = some (shape (mkE D B cy A est) (gI mem0 340) (gL mem0 340) 340) := rfl
set_option maxRecDepth 100000 in
theorem cc0_341 (D : va_G) (B : Nat) (cy : Nat → ClassId) (A : Nat → Prop) (est : Nat → Nat) : (d_X6 (mkE D B cy A est) (B + 1))[103]? = some (shape (mkE D B cy A est) (gI mem0 341) (gL mem0 341) 341) := rfl
set_option maxRecDepth 100000 in
theorem cc0_350 (D : va_G) (B : Nat) (cy : Nat → ClassId) (A : Nat → Prop) (est : Nat → Nat) : (d_X6 (mkE D B cy A est) (B + 1))[104]? = some (shape (mkE D B cy A est) (gI mem0 350) (gL mem0 350) 350) := rfl
set_option maxRecDepth 100000 in
theorem cc0_351 (D : va_G) (B : Nat) (cy : Nat → ClassId) (A : Nat → Prop) (est : Nat → Nat) : (d_X6 (mkE D B cy A est) (B + 1))[105]? = some (shape (mkE D B cy A est) (gI mem0 351) (gL mem0 351) 351) := (show (d_X6 (mkE D B cy A est) (B + 1))[105]? = some (shape (mkE D B cy A est) (gI mem0 351) (gL mem0 351) 351) from (rfl : (d_X6 (mkE D B cy A est) (B + 1))[105]? = some (.inl _)).trans (congrArg some (aR_ext (if_ext (n := 8) (fun i hi => by rcases (show i = 0 ∨ i = 1 ∨ i = 2 ∨ i = 3 ∨ i = 4 ∨ i = 5 ∨ i = 6 ∨ i = 7 by omega) with rfl | rfl | rfl | rfl | rfl | rfl | rfl | rfl <;> rfl)))))
set_option maxRecDepth 100000 in
theorem cc0_352 (D : va_G) (B : Nat) (cy : Nat → ClassId) (A : Nat → Prop) (est : Nat → Nat) : (d_X6 (mkE D B cy A est) (B + 1))[106]? = some (shape (mkE D B cy A est) (gI mem0 352) (gL mem0 352) 352) := rfl
set_option maxRecDepth 100000 in
theorem cc0_353 (D : va_G) (B : Nat) (cy : Nat → ClassId) (A : Nat → Prop) (est : Nat → Nat) : (d_X6 (mkE D B cy A est) (B + 1))[107]? = some (shape (mkE D B cy A est) (gI mem0 353) (gL mem0 353) 353) := rfl
set_option maxRecDepth 100000 in
theorem cc0_354 (D : va_G) (B : Nat) (cy : Nat → ClassId) (A : Nat → Prop) (est : Nat → Nat) : (d_X6 (mkE D B cy A est) (B + 1))[108]? = some (shape (mkE D B cy A est) (gI mem0 354) (gL mem0 354) 354) := rfl
set_option maxRecDepth 100000 in
theorem cc0_355 (D : va_G) (B : Nat) (cy : Nat → ClassId) (A : Nat → Prop) (est : Nat → Nat) : (d_X6 (mkE D B cy A est) (B + 1))[109]? = some (shape (mkE D B cy A est) (gI mem0 355) (gL mem0 355) 355) := rfl
set_option maxRecDepth 100000 in
theorem cc0_356 (D : va_G) (B : Nat) (cy : Nat → ClassId) (A : Nat → Prop) (est : Nat → Nat) : (d_X6 (mkE D B cy A est) (B + 1))[110]? = some (shape (mkE D B cy A est) (gI mem0 356) (gL mem0 356) 356) := rfl
set_option maxRecDepth 100000 in
theorem cc0_357 (D : va_G) (B : Nat) (cy : Nat → ClassId) (A : Nat → Prop) (est : Nat → Nat) : (d_X6 (mkE D B cy A est) (B + 1))[111]? = some (shape (mkE D B cy A est) (gI mem0 357) (gL mem0 357) 357) := rfl
set_option maxRecDepth 100000 in
theorem cc0_358 (D : va_G) (B : Nat) (cy : Nat → ClassId) (A : Nat → Prop) (est : Nat → Nat) : (d_X6 (mkE D B cy A est) (B + 1))[112]? = some (shape (mkE D B cy A est) (gI mem0 358) (gL mem0 358) 358) := rfl
set_option maxRecDepth 100000 in
theorem cc0_359 (D : va_G) (B : Nat) (cy : Nat → ClassId) (A : Nat → Prop) (est : Nat → Nat) : (d_X6 (mkE D B cy A est) (B + 1))[113]? = some (shape (mkE D B cy A est) (gI mem0 359) (gL mem0 359) 359) := rfl
set_option maxRecDepth 100000 in
theorem cc0_1000 (D : va_G) (B : Nat) (cy : Nat → ClassId) (A : Nat → Prop) (est : Nat → Nat) : (d_X6 (mkE D B cy A est) (B + 1))[120]? = some (shape (mkE D B cy A est) (gI mem0 1000) (gL mem0 1000) 1000) := rfl
set_option maxRecDepth 100000 in
theorem cc0_1001 (D : va_G) (B : Nat) (cy : Nat → ClassId) (A : Nat → Prop) (est : Nat → Nat) : (d_X6 (mkE D B cy A est) (B + 1))[121]? = some (shape (mkE D B cy A est) (gI mem0 1001) (gL mem0 1001) 1001) := rfl
set_option maxRecDepth 100000 in
theorem cc0_1002 (D : va_G) (B : Nat) (cy : Nat → ClassId) (A : Nat → Prop) (est : Nat → Nat) : (d_X6 (mkE D B cy A est) (B + 1))[122]? = some (shape (mkE D B cy A est) (gI mem0 1002) (gL mem0 1002) 1002) := rfl
set_option maxRecDepth 100000 in
theorem cc0_1003 (D : va_G) (B : Nat) (cy : Nat → ClassId) (A : Nat → Prop) (est : Nat → Nat) : (d_X6 (mkE D B cy A est) (B + 1))[123]? = some (shape (mkE D B cy A est) (gI mem0 1003) (gL mem0 1003) 1003) := rfl
set_option maxRecDepth 100000 in
theorem cc0_1010 (D : va_G) (B : Nat) (cy : Nat → ClassId) (A : Nat → Prop) (est : Nat → Nat) : (d_X6 (mkE D B cy A est) (B + 1))[124]? = some (shape (mkE D B cy A est) (gI mem0 1010) (gL mem0 1010) 1010) := rfl
set_option maxRecDepth 100000 in
theorem cc0_1011 (D : va_G) (B : Nat) (cy : Nat → ClassId) (A : Nat → Prop) (est : Nat → Nat) : (d_X6 (mkE D B cy A est) (B + 1))[125]? = some (shape (mkE D B cy A est) (gI mem0 1011) (gL mem0 1011) 1011) := rfl
set_option maxRecDepth 100000 in
theorem cc0_1012 (D : va_G) (B : Nat) (cy : Nat → ClassId) (A : Nat → Prop) (est : Nat → Nat) : (d_X6 (mkE D B cy A est) (B + 1))[126]? = some (shape (mkE D B cy A est) (gI mem0 1012) (gL mem0 1012) 1012) := rfl
set_option maxRecDepth 100000 in
theorem cc0_1013 (D : va_G) (B : Nat) (cy : Nat → ClassId) (A : Nat → Prop) (est : Nat → Nat) : (d_X6 (mkE D B cy A est) (B + 1))[127]? = some (shape (mkE D B cy A est) (gI mem0 1013) (gL mem0 1013) 1013) := rfl
set_option maxRecDepth 100000 in
theorem cc0_1020 (D : va_G) (B : Nat) (cy : Nat → ClassId) (A : Nat → Prop) (est : Nat → Nat) : (d_X6 (mkE D B cy A est) (B + 1))[128]? = some (shape (mkE D B cy A est) (gI mem0 1020) (gL mem0 1020) 1020) := rfl
set_option maxRecDepth 100000 in
theorem cc0_1021 (D : va_G) (B : Nat) (cy : Nat → ClassId) (A : Nat → Prop) (est : Nat → Nat) : (d_X6 (mkE D B cy A est) (B + 1))[129]? = some (shape (mkE D B cy A est) (gI mem0 1021) (gL mem0 1021) 1021) := rfl
set_option maxRecDepth 100000 in
theorem cc0_1022 (D : va_G) (B : Nat) (cy : Nat → ClassId) (A : Nat → Prop) (est : Nat → Nat) : (d_X6 (mkE D B cy A est) (B + 1))[130]? = some (shape (mkE D B cy A est) (gI mem0 1022) (gL mem0 1022) 1022) := rfl
set_option maxRecDepth 100000 in
theorem cc0_1023 (D : va_G) (B : Nat) (cy : Nat → ClassId) (A : Nat → Prop) (est : Nat → Nat) : (d_X6 (mkE D B cy A est) (B + 1))[131]? = some (shape (mkE D B cy A est) (gI mem0 1023) (gL mem0 1023) 1023) := rfl
set_option maxRecDepth 100000 in
theorem cc0_1030 (D : va_G) (B : Nat) (cy : Nat → ClassId) (A : Nat → Prop) (est : Nat → Nat) : (d_X6 (mkE D B cy A est) (B + 1))[132]? = some (shape (mkE D B cy A est) (gI mem0 1030) (gL mem0 1030) 1030) := rfl
set_option maxRecDepth 100000 in
theorem cc0_1031 (D : va_G) (B : Nat) (cy : Nat → ClassId) (A : Nat → Prop) (est : Nat → Nat) : (d_X6 (mkE D B cy A est) (B + 1))[133]? = some (shape (mkE D B cy A est) (gI mem0 1031) (gL mem0 1031) 1031) := rfl
set_option maxRecDepth 100000 in
theorem cc0_1032 (D : va_G) (B : Nat) (cy : Nat → ClassId) (A : Nat → Prop) (est : Nat → Nat) : (d_X6 (mkE D B cy A est) (B + 1))[134]? = some (shape (mkE D B cy A est) (gI mem0 1032) (gL mem0 1032) 1032) := rfl
set_option maxRecDepth 100000 in
theorem cc0_1033 (D : va_G) (B : Nat) (cy : Nat → ClassId) (A : Nat → Prop) (est : Nat → Nat) : (d_X6 (mkE D B cy A est) (B + 1))[135]? = some (shape (mkE D B cy A est) (gI mem0 1033) (gL mem0 1033) 1033) := rfl
set_option maxRecDepth 100000 in
theorem cc0_1040 (D : va_G) (B : Nat) (cy : Nat → ClassId) (A : Nat → Prop) (est : Nat → Nat) : (d_X6 (mkE D B cy A est) (B + 1))[136]? = some (shape (mkE D B cy A est) (gI mem0 1040) (gL mem0 1040) 1040) := rfl
set_option maxRecDepth 100000 in
theorem cc0_1041 (D : va_G) (B : Nat) (cy : Nat → ClassId) (A : Nat → Prop) (est : Nat → Nat) : (d_X6 (mkE D B cy A est) (B + 1))[137]? = some (shape (mkE D B cy A est) (gI mem0 1041) (gL mem0 1041) 1041) := rfl
set_option maxRecDepth 100000 in
theorem cc0_1042 (D : va_G) (B : Nat) (cy : Nat → ClassId) (A : Nat → Prop) (est : Nat → Nat) : (d_X6 (mkE D B cy A est) (B + 1))[138]? = some (shape (mkE D B cy A est) (gI mem0 1042) (gL mem0 1042) 1042) := rfl
set_option maxRecDepth 100000 in
theorem cc0_1043 (D : va_G) (B : Nat) (cy : Nat → ClassId) (A : Nat → Prop) (est : Nat → Nat) : (d_X6 (mkE D B cy A est) (B + 1))[139]? = some (shape (mkE D B cy A est) (gI mem0 1043) (gL mem0 1043) 1043) := rfl
set_option maxRecDepth 100000 in
theorem cc0_1050 (D : va_G) (B : Nat) (cy : Nat → ClassId) (A : Nat → Prop) (est : Nat → Nat) : (d_X6 (mkE D B cy A est) (B + 1))[140]? = some (shape (mkE D B cy A est) (gI mem0 1050) (gL mem0 1050) 1050) := rfl
set_option maxRecDepth 100000 in
theorem cc0_1051 (D : va_G) (B : Nat) (cy : Nat → ClassId) (A : Nat → Prop) (est : Nat → Nat) : (d_X6 (mkE D B cy A est) (B + 1))[141]? = some (shape (mkE D B cy A est) (gI mem0 1051) (gL mem0 1051) 1051) := rfl
set_option maxRecDepth 100000 in
theorem cc0_1052 (D : va_G) (B : Nat) (cy : Nat → ClassId) (A : Nat → Prop) (est : Nat → Nat) : (d_X6 (mkE D B cy A est) (B + 1))[142]? = some (shape (mkE D B cy A est) (gI mem0 1052) (gL mem0 1052) 1052) := rfl
set_option maxRecDepth 100000 in
theorem cc0_1053 (D : va_G) (B : Nat) (cy : Nat → ClassId) (A : Nat → Prop) (est : Nat → Nat) : (d_X6 (mkE D B cy A est) (B + 1))[143]? = some (shape (mkE D B cy A est) (gI mem0 1053) (gL mem0 1053) 1053) := rfl
set_option maxRecDepth 100000 in
theorem cc0_1100 (D : va_G) (B : Nat) (cy : Nat → ClassId) (A : Nat → Prop) (est : Nat → Nat) : (d_X6 (mkE D B cy A est) (B + 1))[144]? = some (shape (mkE D B cy A est) (gI mem0 1100) (gL mem0 1100) 1100) := rfl
set_option maxRecDepth 100000 in
theorem cc0_1101 (D : va_G) (B : Nat) (cy : Nat → ClassId) (A : Nat → Prop) (est : Nat → Nat) : (d_X6 (mkE D B cy A est) (B + 1))[145]? = some (shape (mkE D B cy A est) (gI mem0 1101) (gL mem0 1101) 1101) := rfl
set_option maxRecDepth 100000 in
theorem cc0_1102 (D : va_G) (B : Nat) (cy : Nat → ClassId) (A : Nat → Prop) (est : Nat → Nat) : (d_X6 (mkE D B cy A est) (B + 1))[146]? = some (shape (mkE D B cy A est) (gI mem0 1102) (gL mem0 1102) 1102) := rfl
set_option maxRecDepth 100000 in
theorem cc0_1103 (D : va_G) (B : Nat) (cy : Nat → ClassId) (A : Nat → Prop) (est : Nat → Nat) : (d_X6 (mkE D B cy A est) (B + 1))[147]? = some (shape (mkE D B cy A est) (gI mem0 1103) (gL mem0 1103) 1103) := rfl
set_option maxRecDepth 100000 in
theorem cc0_1104 (D : va_G) (B : Nat) (cy : Nat → ClassId) (A : Nat → Prop) (est : Nat → Nat) : (d_X6 (mkE D B cy A est) (B + 1))[148]? = some (shape (mkE D B cy A est) (gI mem0 1104) (gL mem0 1104) 1104) := rfl
set_option maxRecDepth 100000 in
theorem cc0_1105 (D : va_G) (B : Nat) (cy : Nat → ClassId) (A : Nat → Prop) (est : Nat → Nat) : (d_X6 (mkE D B cy A est) (B + 1))[149]? = some (shape (mkE D B cy A est) (gI mem0 1105) (gL mem0 1105) 1105) := rfl
set_option maxRecDepth 100000 in
theorem cc0_1106 (D : va_G) (B : Nat) (cy : Nat → ClassId) (A : Nat → Prop) (est : Nat → Nat) : (d_X6 (mkE D B cy A est) (B + 1))[150]? = some (shape (mkE D B cy A est) (gI mem0 1106) (gL mem0 1106) 1106) := rfl
set_option maxRecDepth 100000 in
theorem cc0_1107 (D : va_G) (B : Nat) (cy : Nat → ClassId) (A : Nat → Prop) (est : Nat → Nat) : (d_X6 (mkE D B cy A est) (B + 1))[151]? = some (shape (mkE D B cy A est) (gI mem0 1107) (gL mem0 1107) 1107) := rfl
set_option maxRecDepth 100000 in
theorem cc0_1108 (D : va_G) (B : Nat) (cy : Nat → ClassId) (A : Nat → Prop) (est : Nat → Nat) : (d_X6 (mkE D B cy A est) (B + 1))[152]? = some (shape (mkE D B cy A est) (gI mem0 1108) (gL mem0 1108) 1108) := rfl
set_option maxRecDepth 100000 in
theorem cc0_1109 (D : va_G) (B : Nat) (cy : Nat → ClassId) (A : Nat → Prop) (est : Nat → Nat) : (d_X6 (mkE D B cy A est) (B + 1))[153]? = some (shape (mkE D B cy A est) (gI mem0 1109) (gL mem0 1109) 1109) := rfl
set_option maxRecDepth 100000 in
theorem cc0_1110 (D : va_G) (B : Nat) (cy : Nat → ClassId) (A : Nat → Prop) (est : Nat → Nat) : (d_X6 (mkE D B cy A est) (B + 1))[154]? = some (shape (mkE D B cy A est) (gI mem0 1110) (gL mem0 1110) 1110) := rfl
set_option maxRecDepth 100000 in
theorem cc0_1111 (D : va_G) (B : Nat) (cy : Nat → ClassId) (A : Nat → Prop) (est : Nat → Nat) : (d_X6 (mkE D B cy A est) (B + 1))[155]? = some (shape (mkE D B cy A est) (gI mem0 1111) (gL mem0 1111) 1111) := rfl
set_option maxRecDepth 100000 in
theorem cc0_2000 (D : va_G) (B : Nat) (cy : Nat → ClassId) (A : Nat → Prop) (est : Nat → Nat) : (e_X7_init (mkE D B cy A est) (B + 158) :: d_X7 (mkE D B cy A est) (B + 158))[0]? = some (shape (mkE D B cy A est) (gI mem0 2000) (gL mem0 2000) 2000) := rfl
set_option maxRecDepth 100000 in
theorem cc0_2001 (D : va_G) (B : Nat) (cy : Nat → ClassId) (A : Nat → Prop) (est : Nat → Nat) : (e_X7_init (mkE D B cy A est) (B + 158) :: d_X7 (mkE D B cy A est) (B + 158))[1]? = some (shape (mkE D B cy A est) (gI mem0 2001) (gL mem0 2001) 2001) := rfl
set_option maxRecDepth 100000 in
theorem cc0_2002 (D : va_G) (B : Nat) (cy : Nat → ClassId) (A : Nat → Prop) (est : Nat → Nat) : (e_X7_init (mkE D B cy A est) (B + 158) :: d_X7 (mkE D B cy A est) (B + 158))[2]? = some (shape (mkE D B cy A est) (gI mem0 2002) (gL mem0 2002) 2002) := rfl
set_option maxRecDepth 100000 in
theorem cc0_2003 (D : va_G) (B : Nat) (cy : Nat → ClassId) (A : Nat → Prop) (est : Nat → Nat) : (e_X7_init (mkE D B cy A est) (B + 158) :: d_X7 (mkE D B cy A est) (B + 158))[3]? = some (shape (mkE D B cy A est) (gI mem0 2003) (gL mem0 2003) 2003) := rfl
set_option maxRecDepth 100000 in
theorem cc0_2004 (D : va_G) (B : Nat) (cy : Nat → ClassId) (A : Nat → Prop) (est : Nat → Nat) : (e_X7_init (mkE D B cy A est) (B + 158) :: d_X7 (mkE D B cy A est) (B + 158))[4]? = some (shape (mkE D B cy A est) (gI mem0 2004) (gL mem0 2004) 2004) := rfl
set_option maxRecDepth 100000 in
theorem cc0_2005 (D : va_G) (B : Nat) (cy : Nat → ClassId) (A : Nat → Prop) (est : Nat → Nat) : (e_X7_init (mkE D B cy A est) (B + 158) :: d_X7 (mkE D B cy A est) (B + 158))[5]? = some (shape (mkE D B cy A est) (gI mem0 2005) (gL mem0 2005) 2005) := rfl
set_option maxRecDepth 100000 in
theorem cc0_2006 (D : va_G) (B : Nat) (cy : Nat → ClassId) (A : Nat → Prop) (est : Nat → Nat) : (e_X7_init (mkE D B cy A est) (B + 158) :: d_X7 (mkE D B cy A est) (B + 158))[6]? = some (shape (mkE D B cy A est) (gI mem0 2006) (gL mem0 2006) 2006) := rfl
set_option maxRecDepth 100000 in
theorem cc0_2007 (D : va_G) (B : Nat) (cy : Nat → ClassId) (A : Nat → Prop) (est : Nat → Nat) : (e_X7_init (mkE D B cy A est) (B + 158) :: d_X7 (mkE D B cy A est) (B + 158))[7]? = some (shape (mkE D B cy A est) (gI mem0 2007) (gL mem0 2007) 2007) := rfl
set_option maxRecDepth 100000 in
theorem cc0_2008 (D : va_G) (B : Nat) (cy : Nat → ClassId) (A : Nat → Prop) (est : Nat → Nat) : (e_X7_init (mkE D B cy A est) (B + 158) :: d_X7 (mkE D B cy A est) (B + 158))[8]? = some (shape (mkE D B cy A est) (gI mem0 2008) (gL mem0 2008) 2008) := rfl
set_option maxRecDepth 100000 in
theorem cc0_2012 (D : va_G) (B : Nat) (cy : Nat → ClassId) (A : Nat → Prop) (est : Nat → Nat) : (e_X7_init (mkE D B cy A est) (B + 158) :: d_X7 (mkE D B cy A est) (B + 158))[9]? = some (shape (mkE D B cy A est) (gI mem0 2012) (gL mem0 2012) 2012) := rfl
set_option maxRecDepth 100000 in
theorem cc0_2019 (D : va_G) (B : Nat) (cy : Nat → ClassId) (A : Nat → Prop) (est : Nat → Nat) : (e_X7_init (mkE D B cy A est) (B + 158) :: d_X7 (mkE D B cy A est) (B + 158))[10]? = some (shape (mkE D B cy A est) (gI mem0 2019) (gL mem0 2019) 2019) := rfl
set_option maxRecDepth 100000 in
theorem cc0_2020 (D : va_G) (B : Nat) (cy : Nat → ClassId) (A : Nat → Prop) (est : Nat → Nat) : (e_X7_init (mkE D B cy A est) (B + 158) :: d_X7 (mkE D B cy A est) (B + 158))[11]? = some (shape (mkE D B cy A est) (gI mem0 2020) (gL mem0 2020) 2020) := rfl
set_option maxRecDepth 100000 in
theorem cc0_2021 (D : va_G) (B : Nat) (cy : Nat → ClassId) (A : Nat → Prop) (est : Nat → Nat) : (e_X7_init (mkE D B cy A est) (B + 158) :: d_X7 (mkE D B cy A est) (B + 158))[12]? = some (shape (mkE D B cy A est) (gI mem0 2021) (gL mem0 2021) 2021) := rfl
set_option maxRecDepth 100000 in
theorem cc0_2022 (D : va_G) (B : Nat) (cy : Nat → ClassId) (A : Nat → Prop) (est : Nat → Nat) : (e_X7_init (mkE D B cy A est) (B + 158) :: d_X7 (mkE D B cy A est) (B + 158))[13]? = some (shape (mkE D B cy A est) (gI mem0 2022) (gL mem0 2022) 2022) := rfl
set_option maxRecDepth 100000 in
theorem cc0_2023 (D : va_G) (B : Nat) (cy : Nat → ClassId) (A : Nat → Prop) (est : Nat → Nat) : (e_X7_init (mkE D B cy A est) (B + 158) :: d_X7 (mkE D B cy A est) (B + 158))[14]? = some (shape (mkE D B cy A est) (gI mem0 2023) (gL mem0 2023) 2023) := rfl
set_option maxRecDepth 100000 in
theorem cc0_2024 (D : va_G) (B : Nat) (cy : Nat → ClassId) (A : Nat → Prop) (est : Nat → Nat) : (e_X7_init (mkE D B cy A est) (B + 158) :: d_X7 (mkE D B cy A est) (B + 158))[15]? = some (shape (mkE D B cy A est) (gI mem0 2024) (gL mem0 2024) 2024) := rfl
set_option maxRecDepth 100000 in
theorem cc0_2026 (D : va_G) (B : Nat) (cy : Nat → ClassId) (A : Nat → Prop) (est : Nat → Nat) : (e_X7_init (mkE D B cy A est) (B + 158) :: d_X7 (mkE D B cy A est) (B + 158))[16]? = some (shape (mkE D B cy A est) (gI mem0 2026) (gL mem0 2026) 2026) := rfl
set_option maxRecDepth 100000 in
theorem cc0_2028 (D : va_G) (B : Nat) (cy : Nat → ClassId) (A : Nat → Prop) (est : Nat → Nat) : (e_X7_init (mkE D B cy A est) (B + 158) :: d_X7 (mkE D B cy A est) (B + 158))[17]? = some (shape (mkE D B cy A est) (gI mem0 2028) (gL mem0 2028) 2028) := rfl
set_option maxRecDepth 100000 in
theorem cc0_2029 (D : va_G) (B : Nat) (cy : Nat → ClassId) (A : Nat → Prop) (est : Nat → Nat) : (e_X7_init (mkE D B cy A est) (B + 158) :: d_X7 (mkE D B cy A est) (B + 158))[18]? = some (shape (mkE D B cy A est) (gI mem0 2029) (gL mem0 2029) 2029) := rfl
set_option maxRecDepth 100000 in
theorem cc0_2030 (D : va_G) (B : Nat) (cy : Nat → ClassId) (A : Nat → Prop) (est : Nat → Nat) : (e_X7_init (mkE D B cy A est) (B + 158) :: d_X7 (mkE D B cy A est) (B + 158))[19]? = some (shape (mkE D B cy A est) (gI mem0 2030) (gL mem0 2030) 2030) := rfl
set_option maxRecDepth 100000 in
theorem cc0_2032 (D : va_G) (B : Nat) (cy : Nat → ClassId) (A : Nat → Prop) (est : Nat → Nat) : (e_X7_init (mkE D B cy A est) (B + 158) :: d_X7 (mkE D B cy A est) (B + 158))[20]? = some (shape (mkE D B cy A est) (gI mem0 2032) (gL mem0 2032) 2032) := rfl
set_option maxRecDepth 100000 in
theorem cc0_2033 (D : va_G) (B : Nat) (cy : Nat → ClassId) (A : Nat → Prop) (est : Nat → Nat) : (e_X7_init (mkE D B cy A est) (B + 158) :: d_X7 (mkE D B cy A est) (B + 158))[21]? = some (shape (mkE D B cy A est) (gI mem0 2033) (gL mem0 2033) 2033) := rfl
set_option maxRecDepth 100000 in
theorem cc0_2035 (D : va_G) (B : Nat) (cy : Nat → ClassId) (A : Nat → Prop) (est : Nat → Nat) : (e_X7_init (mkE D B cy A est) (B + 158) :: d_X7 (mkE D B cy A est) (B + 158))[22]? = some (shape (mkE D B cy A est) (gI mem0 2035) (gL mem0 2035) 2035) := rfl
set_option maxRecDepth 100000 in
theorem cc0_2036 (D : va_G) (B : Nat) (cy : Nat → ClassId) (A : Nat → Prop) (est : Nat → Nat) : (e_X7_init (mkE D B cy A est) (B + 158) :: d_X7 (mkE D B cy A est) (B + 158))[23]? = some (shape (mkE D B cy A est) (gI mem0 2036) (gL mem0 2036) 2036) := rfl
set_option maxRecDepth 100000 in
theorem cc0_2038 (D : va_G) (B : Nat) (cy : Nat → ClassId) (A : Nat → Prop) (est : Nat → Nat) : (e_X7_init (mkE D B cy A est) (B + 158) :: d_X7 (mkE D B cy A est) (B + 158))[24]? = some (shape (mkE D B cy A est) (gI mem0 2038) (gL mem0 2038) 2038) := rfl
set_option maxRecDepth 100000 in
theorem cc0_2040 (D : va_G) (B : Nat) (cy : Nat → ClassId) (A : Nat → Prop) (est : Nat → Nat) : (e_X7_init (mkE D B cy A est) (B + 158) :: d_X7 (mkE D B cy A est) (B + 158))[25]? = some (shape (mkE D B cy A est) (gI mem0 2040) (gL mem0 2040) 2040) := rfl
set_option maxRecDepth 100000 in
theorem cc0_2041 (D : va_G) (B : Nat) (cy : Nat → ClassId) (A : Nat → Prop) (est : Nat → Nat) : (e_X7_init (mkE D B cy A est) (B + 158) :: d_X7 (mkE D B cy A est) (B + 158))[26]? = some (shape (mkE D B cy A est) (gI mem0 2041) (gL mem0 2041) 2041) := rfl
set_option maxRecDepth 100000 in
theorem cc0_2042 (D : va_G) (B : Nat) (cy : Nat → ClassId) (A : Nat → Prop) (est : Nat → Nat) : (e_X7_init (mkE D B cy A est) (B + 158) :: d_X7 (mkE D B cy A est) (B + 158))[27]? = some (shape (mkE D B cy A est) (gI mem0 2042) (gL mem0 2042) 2042) := rfl
set_option maxRecDepth 100000 in
theorem cc0_2043 (D : va_G) (B : Nat) (cy : Nat → ClassId) (A : Nat → Prop) (est : Nat → Nat) : (e_X7_init (mkE D B cy A est) (B + 158) :: d_X7 (mkE D B cy A est) (B + 158))[28]? = some (shape (mkE D B cy A est) (gI mem0 2043) (gL mem0 2043) 2043) := rfl
set_option maxRecDepth 100000 in
theorem cc0_2044 (D : va_G) (B : Nat) (cy : Nat → ClassId) (A : Nat → Prop) (est : Nat → Nat) : (e_X7_init (mkE D B cy A est) (B + 158) :: d_X7 (mkE D B cy A est) (B + 158))[29]? = some (shape (mkE D B cy A est) (gI mem0 2044) (gL mem0 2044) 2044) := rfl
set_option maxRecDepth 100000 in
theorem wd0_all (D : va_G) (B : Nat) (cy : Nat → ClassId) (A : Nat → Prop) (est : Nat → Nat) : ∀ id ∈ wids, id ≠ 1 → ∃ k, off id = k + 1 ∧ (cs0 (mkE D B cy A est) B)[k]? = some (shape (mkE D B cy A est) (gI mem0 id) (gL mem0 id) id) := by
  refine List.forall_mem_cons.mpr ⟨fun h => absurd rfl h, ?_⟩
  refine List.forall_mem_cons.mpr ⟨fun _ => ⟨114, by decide +kernel, cs0_6 (cc0_2 D B cy A est)⟩, ?_⟩
  refine List.forall_mem_cons.mpr ⟨fun _ => ⟨115, by decide +kernel, cs0_6 (cc0_3 D B cy A est)⟩, ?_⟩
  refine List.forall_mem_cons.mpr ⟨fun _ => ⟨116, by decide +kernel, cs0_6 (cc0_4 D B cy A est)⟩, ?_⟩
  refine List.forall_mem_cons.mpr ⟨fun _ => ⟨117, by decide +kernel, cs0_6 (cc0_5 D B cy A est)⟩, ?_⟩
  refine List.forall_mem_cons.mpr ⟨fun _ => ⟨118, by decide +kernel, cs0_6 (cc0_6 D B cy A est)⟩, ?_⟩
  refine List.forall_mem_cons.mpr ⟨fun _ => ⟨119, by decide +kernel, cs0_6 (cc0_7 D B cy A est)⟩, ?_⟩
  refine List.forall_mem_cons.mpr ⟨fun _ => ⟨0, by decide +kernel, cs0_6 (cc0_100 D B cy A est)⟩, ?_⟩
  refine List.forall_mem_cons.mpr ⟨fun _ => ⟨1, by decide +kernel, cs0_6 (cc0_101 D B cy A est)⟩, ?_⟩
  refine List.forall_mem_cons.mpr ⟨fun _ => ⟨2, by decide +kernel, cs0_6 (cc0_102 D B cy A est)⟩, ?_⟩
  refine List.forall_mem_cons.mpr ⟨fun _ => ⟨3, by decide +kernel, cs0_6 (cc0_103 D B cy A est)⟩, ?_⟩
  refine List.forall_mem_cons.mpr ⟨fun _ => ⟨4, by decide +kernel, cs0_6 (cc0_104 D B cy A est)⟩, ?_⟩
  refine List.forall_mem_cons.mpr ⟨fun _ => ⟨5, by decide +kernel, cs0_6 (cc0_105 D B cy A est)⟩, ?_⟩
  refine List.forall_mem_cons.mpr ⟨fun _ => ⟨6, by decide +kernel, cs0_6 (cc0_106 D B cy A est)⟩, ?_⟩
  refine List.forall_mem_cons.mpr ⟨fun _ => ⟨7, by decide +kernel, cs0_6 (cc0_107 D B cy A est)⟩, ?_⟩
  refine List.forall_mem_cons.mpr ⟨fun _ => ⟨8, by decide +kernel, cs0_6 (cc0_110 D B cy A est)⟩, ?_⟩
  refine List.forall_mem_cons.mpr ⟨fun _ => ⟨9, by decide +kernel, cs0_6 (cc0_111 D B cy A est)⟩, ?_⟩
  refine List.forall_mem_cons.mpr ⟨fun _ => ⟨10, by decide +kernel, cs0_6 (cc0_112 D B cy A est)⟩, ?_⟩
  refine List.forall_mem_cons.mpr ⟨fun _ => ⟨11, by decide +kernel, cs0_6 (cc0_113 D B cy A est)⟩, ?_⟩
  refine List.forall_mem_cons.mpr ⟨fun _ => ⟨12, by decide +kernel, cs0_6 (cc0_114 D B cy A est)⟩, ?_⟩
  refine List.forall_mem_cons.mpr ⟨fun _ => ⟨13, by decide +kernel, cs0_6 (cc0_115 D B cy A est)⟩, ?_⟩
  refine List.forall_mem_cons.mpr ⟨fun _ => ⟨14, by decide +kernel, cs0_6 (cc0_116 D B cy A est)⟩, ?_⟩
  refine List.forall_mem_cons.mpr ⟨fun _ => ⟨15, by decide +kernel, cs0_6 (cc0_117 D B cy A est)⟩, ?_⟩
  refine List.forall_mem_cons.mpr ⟨fun _ => ⟨16, by decide +kernel, cs0_6 (cc0_130 D B cy A est)⟩, ?_⟩
  refine List.forall_mem_cons.mpr ⟨fun _ => ⟨17, by decide +kernel, cs0_6 (cc0_131 D B cy A est)⟩, ?_⟩
  refine List.forall_mem_cons.mpr ⟨fun _ => ⟨18, by decide +kernel, cs0_6 (cc0_132 D B cy A est)⟩, ?_⟩
  refine List.forall_mem_cons.mpr ⟨fun _ => ⟨19, by decide +kernel, cs0_6 (cc0_133 D B cy A est)⟩, ?_⟩
  refine List.forall_mem_cons.mpr ⟨fun _ => ⟨20, by decide +kernel, cs0_6 (cc0_134 D B cy A est)⟩, ?_⟩
  refine List.forall_mem_cons.mpr ⟨fun _ => ⟨21, by decide +kernel, cs0_6 (cc0_135 D B cy A est)⟩, ?_⟩
  refine List.forall_mem_cons.mpr ⟨fun _ => ⟨22, by decide +kernel, cs0_6 (cc0_136 D B cy A est)⟩, ?_⟩
  refine List.forall_mem_cons.mpr ⟨fun _ => ⟨23, by decide +kernel, cs0_6 (cc0_137 D B cy A est)⟩, ?_⟩
  refine List.forall_mem_cons.mpr ⟨fun _ => ⟨24, by decide +kernel, cs0_6 (cc0_138 D B cy A est)⟩, ?_⟩
  refine List.forall_mem_cons.mpr ⟨fun _ => ⟨25, by decide +kernel, cs0_6 (cc0_139 D B cy A est)⟩, ?_⟩
  refine List.forall_mem_cons.mpr ⟨fun _ => ⟨26, by decide +kernel, cs0_6 (cc0_140 D B cy A est)⟩, ?_⟩
  refine List.forall_mem_cons.mpr ⟨fun _ => ⟨27, by decide +kernel, cs0_6 (cc0_141 D B cy A est)⟩, ?_⟩
  refine List.forall_mem_cons.mpr ⟨fun _ => ⟨28, by decide +kernel, cs0_6 (cc0_150 D B cy A est)⟩, ?_⟩
  refine List.forall_mem_cons.mpr ⟨fun _ => ⟨29, by decide +kernel, cs0_6 (cc0_151 D B cy A est)⟩, ?_⟩
  refine List.forall_mem_cons.mpr ⟨fun _ => ⟨30, by decide +kernel, cs0_6 (cc0_152 D B cy A est)⟩, ?_⟩
  refine List.forall_mem_cons.mpr ⟨fun _ => ⟨31, by decide +kernel, cs0_6 (cc0_153 D B cy A est)⟩, ?_⟩
  refine List.forall_mem_cons.mpr ⟨fun _ => ⟨32, by decide +kernel, cs0_6 (cc0_154 D B cy A est)⟩, ?_⟩
  refine List.forall_mem_cons.mpr ⟨fun _ => ⟨33, by decide +kernel, cs0_6 (cc0_155 D B cy A est)⟩, ?_⟩
  refine List.forall_mem_cons.mpr ⟨fun _ => ⟨34, by decide +kernel, cs0_6 (cc0_156 D B cy A est)⟩, ?_⟩
  refine List.forall_mem_cons.mpr ⟨fun _ => ⟨35, by decide +kernel, cs0_6 (cc0_157 D B cy A est)⟩, ?_⟩
  refine List.forall_mem_cons.mpr ⟨fun _ => ⟨36, by decide +kernel, cs0_6 (cc0_158 D B cy A est)⟩, ?_⟩
  refine List.forall_mem_cons.mpr ⟨fun _ => ⟨37, by decide +kernel, cs0_6 (cc0_159 D B cy A est)⟩, ?_⟩
  refine List.forall_mem_cons.mpr ⟨fun _ => ⟨38, by decide +kernel, cs0_6 (cc0_200 D B cy A est)⟩, ?_⟩
  refine List.forall_mem_cons.mpr ⟨fun _ => ⟨39, by decide +kernel, cs0_6 (cc0_201 D B cy A est)⟩, ?_⟩
  refine List.forall_mem_cons.mpr ⟨fun _ => ⟨40, by decide +kernel, cs0_6 (cc0_202 D B cy A est)⟩, ?_⟩
  refine List.forall_mem_cons.mpr ⟨fun _ => ⟨41, by decide +kernel, cs0_6 (cc0_203 D B cy A est)⟩, ?_⟩
  refine List.forall_mem_cons.mpr ⟨fun _ => ⟨42, by decide +kernel, cs0_6 (cc0_204 D B cy A est)⟩, ?_⟩
  refine List.forall_mem_cons.mpr ⟨fun _ => ⟨43, by decide +kernel, cs0_6 (cc0_205 D B cy A est)⟩, ?_⟩
  refine List.forall_mem_cons.mpr ⟨fun _ => ⟨44, by decide +kernel, cs0_6 (cc0_206 D B cy A est)⟩, ?_⟩
  refine List.forall_mem_cons.mpr ⟨fun _ => ⟨45, by decide +kernel, cs0_6 (cc0_207 D B cy A est)⟩, ?_⟩
  refine List.forall_mem_cons.mpr ⟨fun _ => ⟨46, by decide +kernel, cs0_6 (cc0_210 D B cy A est)⟩, ?_⟩
  refine List.forall_mem_cons.mpr ⟨fun _ => ⟨47, by decide +kernel, cs0_6 (cc0_211 D B cy A est)⟩, ?_⟩
  refine List.forall_mem_cons.mpr ⟨fun _ => ⟨48, by decide +kernel, cs0_6 (cc0_212 D B cy A est)⟩, ?_⟩
  refine List.forall_mem_cons.mpr ⟨fun _ => ⟨49, by decide +kernel, cs0_6 (cc0_213 D B cy A est)⟩, ?_⟩
  refine List.forall_mem_cons.mpr ⟨fun _ => ⟨50, by decide +kernel, cs0_6 (cc0_214 D B cy A est)⟩, ?_⟩
  refine List.forall_mem_cons.mpr ⟨fun _ => ⟨51, by decide +kernel, cs0_6 (cc0_215 D B cy A est)⟩, ?_⟩
  refine List.forall_mem_cons.mpr ⟨fun _ => ⟨52, by decide +kernel, cs0_6 (cc0_216 D B cy A est)⟩, ?_⟩
  refine List.forall_mem_cons.mpr ⟨fun _ => ⟨53, by decide +kernel, cs0_6 (cc0_217 D B cy A est)⟩, ?_⟩
  refine List.forall_mem_cons.mpr ⟨fun _ => ⟨54, by decide +kernel, cs0_6 (cc0_230 D B cy A est)⟩, ?_⟩
  refine List.forall_mem_cons.mpr ⟨fun _ => ⟨55, by decide +kernel, cs0_6 (cc0_231 D B cy A est)⟩, ?_⟩
  refine List.forall_mem_cons.mpr ⟨fun _ => ⟨56, by decide +kernel, cs0_6 (cc0_232 D B cy A est)⟩, ?_⟩
  refine List.forall_mem_cons.mpr ⟨fun _ => ⟨57, by decide +kernel, cs0_6 (cc0_233 D B cy A est)⟩, ?_⟩
  refine List.forall_mem_cons.mpr ⟨fun _ => ⟨58, by decide +kernel, cs0_6 (cc0_234 D B cy A est)⟩, ?_⟩
  refine List.forall_mem_cons.mpr ⟨fun _ => ⟨59, by decide +kernel, cs0_6 (cc0_235 D B cy A est)⟩, ?_⟩
  refine List.forall_mem_cons.mpr ⟨fun _ => ⟨60, by decide +kernel, cs0_6 (cc0_236 D B cy A est)⟩, ?_⟩
  refine List.forall_mem_cons.mpr ⟨fun _ => ⟨61, by decide +kernel, cs0_6 (cc0_237 D B cy A est)⟩, ?_⟩
  refine List.forall_mem_cons.mpr ⟨fun _ => ⟨62, by decide +kernel, cs0_6 (cc0_238 D B cy A est)⟩, ?_⟩
  refine List.forall_mem_cons.mpr ⟨fun _ => ⟨63, by decide +kernel, cs0_6 (cc0_239 D B cy A est)⟩, ?_⟩
  refine List.forall_mem_cons.mpr ⟨fun _ => ⟨64, by decide +kernel, cs0_6 (cc0_240 D B cy A est)⟩, ?_⟩
  refine List.forall_mem_cons.mpr ⟨fun _ => ⟨65, by decide +kernel, cs0_6 (cc0_241 D B cy A est)⟩, ?_⟩
  refine List.forall_mem_cons.mpr ⟨fun _ => ⟨66, by decide +kernel, cs0_6 (cc0_250 D B cy A est)⟩, ?_⟩
  refine List.forall_mem_cons.mpr ⟨fun _ => ⟨67, by decide +kernel, cs0_6 (cc0_251 D B cy A est)⟩, ?_⟩
  refine List.forall_mem_cons.mpr ⟨fun _ => ⟨68, by decide +kernel, cs0_6 (cc0_252 D B cy A est)⟩, ?_⟩
  refine List.forall_mem_cons.mpr ⟨fun _ => ⟨69, by decide +kernel, cs0_6 (cc0_253 D B cy A est)⟩, ?_⟩
  refine List.forall_mem_cons.mpr ⟨fun _ => ⟨70, by decide +kernel, cs0_6 (cc0_254 D B cy A est)⟩, ?_⟩
  refine List.forall_mem_cons.mpr ⟨fun _ => ⟨71, by decide +kernel, cs0_6 (cc0_255 D B cy A est)⟩, ?_⟩
  refine List.forall_mem_cons.mpr ⟨fun _ => ⟨72, by decide +kernel, cs0_6 (cc0_256 D B cy A est)⟩, ?_⟩
  refine List.forall_mem_cons.mpr ⟨fun _ => ⟨73, by decide +kernel, cs0_6 (cc0_257 D B cy A est)⟩, ?_⟩
  refine List.forall_mem_cons.mpr ⟨fun _ => ⟨74, by decide +kernel, cs0_6 (cc0_258 D B cy A est)⟩, ?_⟩
  refine List.forall_mem_cons.mpr ⟨fun _ => ⟨75, by decide +kernel, cs0_6 (cc0_259 D B cy A est)⟩, ?_⟩
  refine List.forall_mem_cons.mpr ⟨fun _ => ⟨76, by decide +kernel, cs0_6 (cc0_300 D B cy A est)⟩, ?_⟩
  refine List.forall_mem_cons.mpr ⟨fun _ => ⟨77, by decide +kernel, cs0_6 (cc0_301 D B cy A est)⟩, ?_⟩
  refine List.forall_mem_cons.mpr ⟨fun _ => ⟨78, by decide +kernel, cs0_6 (cc0_302 D B cy A est)⟩, ?_⟩
  refine List.forall_mem_cons.mpr ⟨fun _ => ⟨79, by decide +kernel, cs0_6 (cc0_303 D B cy A est)⟩, ?_⟩
  refine List.forall_mem_cons.mpr ⟨fun _ => ⟨80, by decide +kernel, cs0_6 (cc0_304 D B cy A est)⟩, ?_⟩
  refine List.forall_mem_cons.mpr ⟨fun _ => ⟨81, by decide +kernel, cs0_6 (cc0_305 D B cy A est)⟩, ?_⟩
  refine List.forall_mem_cons.mpr ⟨fun _ => ⟨82, by decide +kernel, cs0_6 (cc0_306 D B cy A est)⟩, ?_⟩
  refine List.forall_mem_cons.mpr ⟨fun _ => ⟨83, by decide +kernel, cs0_6 (cc0_307 D B cy A est)⟩, ?_⟩
  refine List.forall_mem_cons.mpr ⟨fun _ => ⟨84, by decide +kernel, cs0_6 (cc0_310 D B cy A est)⟩, ?_⟩
  refine List.forall_mem_cons.mpr ⟨fun _ => ⟨85, by decide +kernel, cs0_6 (cc0_311 D B cy A est)⟩, ?_⟩
  refine List.forall_mem_cons.mpr ⟨fun _ => ⟨86, by decide +kernel, cs0_6 (cc0_312 D B cy A est)⟩, ?_⟩
  refine List.forall_mem_cons.mpr ⟨fun _ => ⟨87, by decide +kernel, cs0_6 (cc0_313 D B cy A est)⟩, ?_⟩
  refine List.forall_mem_cons.mpr ⟨fun _ => ⟨88, by decide +kernel, cs0_6 (cc0_314 D B cy A est)⟩, ?_⟩
  refine List.forall_mem_cons.mpr ⟨fun _ => ⟨89, by decide +kernel, cs0_6 (cc0_315 D B cy A est)⟩, ?_⟩
  refine List.forall_mem_cons.mpr ⟨fun _ => ⟨90, by decide +kernel, cs0_6 (cc0_316 D B cy A est)⟩, ?_⟩
  refine List.forall_mem_cons.mpr ⟨fun _ => ⟨91, by decide +kernel, cs0_6 (cc0_317 D B cy A est)⟩, ?_⟩
  refine List.forall_mem_cons.mpr ⟨fun _ => ⟨92, by decide +kernel, cs0_6 (cc0_330 D B cy A est)⟩, ?_⟩
  refine List.forall_mem_cons.mpr ⟨fun _ => ⟨93, by decide +kernel, cs0_6 (cc0_331 D B cy A est)⟩, ?_⟩
  refine List.forall_mem_cons.mpr ⟨fun _ => ⟨94, by decide +kernel, cs0_6 (cc0_332 D B cy A est)⟩, ?_⟩
  refine List.forall_mem_cons.mpr ⟨fun _ => ⟨95, by decide +kernel, cs0_6 (cc0_333 D B cy A est)⟩, ?_⟩
  refine List.forall_mem_cons.mpr ⟨fun _ => ⟨96, by decide +kernel, cs0_6 (cc0_334 D B cy A est)⟩, ?_⟩
  refine List.forall_mem_cons.mpr ⟨fun _ => ⟨97, by decide +kernel, cs0_6 (cc0_335 D B cy A est)⟩, ?_⟩
  refine List.forall_mem_cons.mpr ⟨fun _ => ⟨98, by decide +kernel, cs0_6 (cc0_336 D B cy A est)⟩, ?_⟩
  refine List.forall_mem_cons.mpr ⟨fun _ => ⟨99, by decide +kernel, cs0_6 (cc0_337 D B cy A est)⟩, ?_⟩
  refine List.forall_mem_cons.mpr ⟨fun _ => ⟨100, by decide +kernel, cs0_6 (cc0_338 D B cy A est)⟩, ?_⟩
  refine List.forall_mem_cons.mpr ⟨fun _ => ⟨101, by decide +kernel, cs0_6 (cc0_339 D B cy A est)⟩, ?_⟩
  refine List.forall_mem_cons.mpr ⟨fun _ => ⟨102, by decide +kernel, cs0_6 (cc0_340 D B cy A est)⟩, ?_⟩
  refine List.forall_mem_cons.mpr ⟨fun _ => ⟨103, by decide +kernel, cs0_6 (cc0_341 D B cy A est)⟩, ?_⟩
  refine List.forall_mem_cons.mpr ⟨fun _ => ⟨104, by decide +kernel, cs0_6 (cc0_350 D B cy A est)⟩, ?_⟩
  refine List.forall_mem_cons.mpr ⟨fun _ => ⟨105, by decide +kernel, cs0_6 (cc0_351 D B cy A est)⟩, ?_⟩
  refine List.forall_mem_cons.mpr ⟨fun _ => ⟨106, by decide +kernel, cs0_6 (cc0_352 D B cy A est)⟩, ?_⟩
  refine List.forall_mem_cons.mpr ⟨fun _ => ⟨107, by decide +kernel, cs0_6 (cc0_353 D B cy A est)⟩, ?_⟩
  refine List.forall_mem_cons.mpr ⟨fun _ => ⟨108, by decide +kernel, cs0_6 (cc0_354 D B cy A est)⟩, ?_⟩
  refine List.forall_mem_cons.mpr ⟨fun _ => ⟨109, by decide +kernel, cs0_6 (cc0_355 D B cy A est)⟩, ?_⟩
  refine List.forall_mem_cons.mpr ⟨fun _ => ⟨110, by decide +kernel, cs0_6 (cc0_356 D B cy A est)⟩, ?_⟩
  refine List.forall_mem_cons.mpr ⟨fun _ => ⟨111, by decide +kernel, cs0_6 (cc0_357 D B cy A est)⟩, ?_⟩
  refine List.forall_mem_cons.mpr ⟨fun _ => ⟨112, by decide +kernel, cs0_6 (cc0_358 D B cy A est)⟩, ?_⟩
  refine List.forall_mem_cons.mpr ⟨fun _ => ⟨113, by decide +kernel, cs0_6 (cc0_359 D B cy A est)⟩, ?_⟩
  refine List.forall_mem_cons.mpr ⟨fun _ => ⟨120, by decide +kernel, cs0_6 (cc0_1000 D B cy A est)⟩, ?_⟩
  refine List.forall_mem_cons.mpr ⟨fun _ => ⟨121, by decide +kernel, cs0_6 (cc0_1001 D B cy A est)⟩, ?_⟩
  refine List.forall_mem_cons.mpr ⟨fun _ => ⟨122, by decide +kernel, cs0_6 (cc0_1002 D B cy A est)⟩, ?_⟩
  refine List.forall_mem_cons.mpr ⟨fun _ => ⟨123, by decide +kernel, cs0_6 (cc0_1003 D B cy A est)⟩, ?_⟩
  refine List.forall_mem_cons.mpr ⟨fun _ => ⟨124, by decide +kernel, cs0_6 (cc0_1010 D B cy A est)⟩, ?_⟩
  refine List.forall_mem_cons.mpr ⟨fun _ => ⟨125, by decide +kernel, cs0_6 (cc0_1011 D B cy A est)⟩, ?_⟩
  refine List.forall_mem_cons.mpr ⟨fun _ => ⟨126, by decide +kernel, cs0_6 (cc0_1012 D B cy A est)⟩, ?_⟩
  refine List.forall_mem_cons.mpr ⟨fun _ => ⟨127, by decide +kernel, cs0_6 (cc0_1013 D B cy A est)⟩, ?_⟩
  refine List.forall_mem_cons.mpr ⟨fun _ => ⟨128, by decide +kernel, cs0_6 (cc0_1020 D B cy A est)⟩, ?_⟩
  refine List.forall_mem_cons.mpr ⟨fun _ => ⟨129, by decide +kernel, cs0_6 (cc0_1021 D B cy A est)⟩, ?_⟩
  refine List.forall_mem_cons.mpr ⟨fun _ => ⟨130, by decide +kernel, cs0_6 (cc0_1022 D B cy A est)⟩, ?_⟩
  refine List.forall_mem_cons.mpr ⟨fun _ => ⟨131, by decide +kernel, cs0_6 (cc0_1023 D B cy A est)⟩, ?_⟩
  refine List.forall_mem_cons.mpr ⟨fun _ => ⟨132, by decide +kernel, cs0_6 (cc0_1030 D B cy A est)⟩, ?_⟩
  refine List.forall_mem_cons.mpr ⟨fun _ => ⟨133, by decide +kernel, cs0_6 (cc0_1031 D B cy A est)⟩, ?_⟩
  refine List.forall_mem_cons.mpr ⟨fun _ => ⟨134, by decide +kernel, cs0_6 (cc0_1032 D B cy A est)⟩, ?_⟩
  refine List.forall_mem_cons.mpr ⟨fun _ => ⟨135, by decide +kernel, cs0_6 (cc0_1033 D B cy A est)⟩, ?_⟩
  refine List.forall_mem_cons.mpr ⟨fun _ => ⟨136, by decide +kernel, cs0_6 (cc0_1040 D B cy A est)⟩, ?_⟩
  refine List.forall_mem_cons.mpr ⟨fun _ => ⟨137, by decide +kernel, cs0_6 (cc0_1041 D B cy A est)⟩, ?_⟩
  refine List.forall_mem_cons.mpr ⟨fun _ => ⟨138, by decide +kernel, cs0_6 (cc0_1042 D B cy A est)⟩, ?_⟩
  refine List.forall_mem_cons.mpr ⟨fun _ => ⟨139, by decide +kernel, cs0_6 (cc0_1043 D B cy A est)⟩, ?_⟩
  refine List.forall_mem_cons.mpr ⟨fun _ => ⟨140, by decide +kernel, cs0_6 (cc0_1050 D B cy A est)⟩, ?_⟩
  refine List.forall_mem_cons.mpr ⟨fun _ => ⟨141, by decide +kernel, cs0_6 (cc0_1051 D B cy A est)⟩, ?_⟩
  refine List.forall_mem_cons.mpr ⟨fun _ => ⟨142, by decide +kernel, cs0_6 (cc0_1052 D B cy A est)⟩, ?_⟩
  refine List.forall_mem_cons.mpr ⟨fun _ => ⟨143, by decide +kernel, cs0_6 (cc0_1053 D B cy A est)⟩, ?_⟩
  refine List.forall_mem_cons.mpr ⟨fun _ => ⟨144, by decide +kernel, cs0_6 (cc0_1100 D B cy A est)⟩, ?_⟩
  refine List.forall_mem_cons.mpr ⟨fun _ => ⟨145, by decide +kernel, cs0_6 (cc0_1101 D B cy A est)⟩, ?_⟩
  refine List.forall_mem_cons.mpr ⟨fun _ => ⟨146, by decide +kernel, cs0_6 (cc0_1102 D B cy A est)⟩, ?_⟩
  refine List.forall_mem_cons.mpr ⟨fun _ => ⟨147, by decide +kernel, cs0_6 (cc0_1103 D B cy A est)⟩, ?_⟩
  refine List.forall_mem_cons.mpr ⟨fun _ => ⟨148, by decide +kernel, cs0_6 (cc0_1104 D B cy A est)⟩, ?_⟩
  refine List.forall_mem_cons.mpr ⟨fun _ => ⟨149, by decide +kernel, cs0_6 (cc0_1105 D B cy A est)⟩, ?_⟩
  refine List.forall_mem_cons.mpr ⟨fun _ => ⟨150, by decide +kernel, cs0_6 (cc0_1106 D B cy A est)⟩, ?_⟩
  refine List.forall_mem_cons.mpr ⟨fun _ => ⟨151, by decide +kernel, cs0_6 (cc0_1107 D B cy A est)⟩, ?_⟩
  refine List.forall_mem_cons.mpr ⟨fun _ => ⟨152, by decide +kernel, cs0_6 (cc0_1108 D B cy A est)⟩, ?_⟩
  refine List.forall_mem_cons.mpr ⟨fun _ => ⟨153, by decide +kernel, cs0_6 (cc0_1109 D B cy A est)⟩, ?_⟩
  refine List.forall_mem_cons.mpr ⟨fun _ => ⟨154, by decide +kernel, cs0_6 (cc0_1110 D B cy A est)⟩, ?_⟩
  refine List.forall_mem_cons.mpr ⟨fun _ => ⟨155, by decide +kernel, cs0_6 (cc0_1111 D B cy A est)⟩, ?_⟩
  refine List.forall_mem_cons.mpr ⟨fun _ => ⟨156, by decide +kernel, cs0_7 (k := 0) (cc0_2000 D B cy A est)⟩, ?_⟩
  refine List.forall_mem_cons.mpr ⟨fun _ => ⟨157, by decide +kernel, cs0_7 (k := 1) (cc0_2001 D B cy A est)⟩, ?_⟩
  refine List.forall_mem_cons.mpr ⟨fun _ => ⟨158, by decide +kernel, cs0_7 (k := 2) (cc0_2002 D B cy A est)⟩, ?_⟩
  refine List.forall_mem_cons.mpr ⟨fun _ => ⟨159, by decide +kernel, cs0_7 (k := 3) (cc0_2003 D B cy A est)⟩, ?_⟩
  refine List.forall_mem_cons.mpr ⟨fun _ => ⟨160, by decide +kernel, cs0_7 (k := 4) (cc0_2004 D B cy A est)⟩, ?_⟩
  refine List.forall_mem_cons.mpr ⟨fun _ => ⟨161, by decide +kernel, cs0_7 (k := 5) (cc0_2005 D B cy A est)⟩, ?_⟩
  refine List.forall_mem_cons.mpr ⟨fun _ => ⟨162, by decide +kernel, cs0_7 (k := 6) (cc0_2006 D B cy A est)⟩, ?_⟩
  refine List.forall_mem_cons.mpr ⟨fun _ => ⟨163, by decide +kernel, cs0_7 (k := 7) (cc0_2007 D B cy A est)⟩, ?_⟩
  refine List.forall_mem_cons.mpr ⟨fun _ => ⟨164, by decide +kernel, cs0_7 (k := 8) (cc0_2008 D B cy A est)⟩, ?_⟩
  refine List.forall_mem_cons.mpr ⟨fun _ => ⟨165, by decide +kernel, cs0_7 (k := 9) (cc0_2012 D B cy A est)⟩, ?_⟩
  refine List.forall_mem_cons.mpr ⟨fun _ => ⟨166, by decide +kernel, cs0_7 (k := 10) (cc0_2019 D B cy A est)⟩, ?_⟩
  refine List.forall_mem_cons.mpr ⟨fun _ => ⟨167, by decide +kernel, cs0_7 (k := 11) (cc0_2020 D B cy A est)⟩, ?_⟩
  refine List.forall_mem_cons.mpr ⟨fun _ => ⟨168, by decide +kernel, cs0_7 (k := 12) (cc0_2021 D B cy A est)⟩, ?_⟩
  refine List.forall_mem_cons.mpr ⟨fun _ => ⟨169, by decide +kernel, cs0_7 (k := 13) (cc0_2022 D B cy A est)⟩, ?_⟩
  refine List.forall_mem_cons.mpr ⟨fun _ => ⟨170, by decide +kernel, cs0_7 (k := 14) (cc0_2023 D B cy A est)⟩, ?_⟩
  refine List.forall_mem_cons.mpr ⟨fun _ => ⟨171, by decide +kernel, cs0_7 (k := 15) (cc0_2024 D B cy A est)⟩, ?_⟩
  refine List.forall_mem_cons.mpr ⟨fun _ => ⟨172, by decide +kernel, cs0_7 (k := 16) (cc0_2026 D B cy A est)⟩, ?_⟩
  refine List.forall_mem_cons.mpr ⟨fun _ => ⟨173, by decide +kernel, cs0_7 (k := 17) (cc0_2028 D B cy A est)⟩, ?_⟩
  refine List.forall_mem_cons.mpr ⟨fun _ => ⟨174, by decide +kernel, cs0_7 (k := 18) (cc0_2029 D B cy A est)⟩, ?_⟩
  refine List.forall_mem_cons.mpr ⟨fun _ => ⟨175, by decide +kernel, cs0_7 (k := 19) (cc0_2030 D B cy A est)⟩, ?_⟩
  refine List.forall_mem_cons.mpr ⟨fun _ => ⟨176, by decide +kernel, cs0_7 (k := 20) (cc0_2032 D B cy A est)⟩, ?_⟩
  refine List.forall_mem_cons.mpr ⟨fun _ => ⟨177, by decide +kernel, cs0_7 (k := 21) (cc0_2033 D B cy A est)⟩, ?_⟩
  refine List.forall_mem_cons.mpr ⟨fun _ => ⟨178, by decide +kernel, cs0_7 (k := 22) (cc0_2035 D B cy A est)⟩, ?_⟩
  refine List.forall_mem_cons.mpr ⟨fun _ => ⟨179, by decide +kernel, cs0_7 (k := 23) (cc0_2036 D B cy A est)⟩, ?_⟩
  refine List.forall_mem_cons.mpr ⟨fun _ => ⟨180, by decide +kernel, cs0_7 (k := 24) (cc0_2038 D B cy A est)⟩, ?_⟩
  refine List.forall_mem_cons.mpr ⟨fun _ => ⟨181, by decide +kernel, cs0_7 (k := 25) (cc0_2040 D B cy A est)⟩, ?_⟩
  refine List.forall_mem_cons.mpr ⟨fun _ => ⟨182, by decide +kernel, cs0_7 (k := 26) (cc0_2041 D B cy A est)⟩, ?_⟩
  refine List.forall_mem_cons.mpr ⟨fun _ => ⟨183, by decide +kernel, cs0_7 (k := 27) (cc0_2042 D B cy A est)⟩, ?_⟩
  refine List.forall_mem_cons.mpr ⟨fun _ => ⟨184, by decide +kernel, cs0_7 (k := 28) (cc0_2043 D B cy A est)⟩, ?_⟩
  refine List.forall_mem_cons.mpr ⟨fun _ => ⟨185, by decide +kernel, cs0_7 (k := 29) (cc0_2044 D B cy A est)⟩, ?_⟩
  exact fun _ h => absurd h List.not_mem_nil
theorem off_inj : va_nd (wids.map off) = true := by decide +kernel
theorem wd0 {D : va_G} {B : Nat} {cy : Nat → ClassId} {A : Nat → Prop} {est : Nat → Nat} {s : State} {H0 H : Heap} {locs : List Loc} (hA : ∀ q, B ≤ q → A q) (hK : va_K D vwCl (wtys (mkE D B cy A est)) s) (hC : CR (mkE D B cy A est) A B (B + 1) (e_X6_init (mkE D B cy A est) (B + 1)) (cs0 (mkE D B cy A est) B) H0 H locs) : Wd (mkE D B cy A est) mem0 s H := by
  have key : ∀ (k : Nat) (q : Nat × va_E), (wcells (mkE D B cy A est) mem0)[k]? = some q → ∃ id, wids[k]? = some id ∧ q = (B + off id, shape (mkE D B cy A est) (gI mem0 id) (gL mem0 id) id) := by
    intro k q hq
    rw [wcells, List.getElem?_map] at hq
    cases hi : wids[k]? with
    | none => rw [hi] at hq; simp at hq
    | some id => rw [hi] at hq; simp only [Option.map_some, Option.some.injEq] at hq; exact ⟨id, rfl, hq.symm⟩
  refine ⟨fun k q hq => ?_, hK, fun i j x y hi hj hxy => ?_, fun k q hq => ?_⟩
  · obtain ⟨id, hid, rfl⟩ := key k q hq
    have hm := List.mem_of_getElem? hid
    by_cases h1 : id = 1
    · subst h1
      exact hC.1
    · obtain ⟨k', h2, h3⟩ := wd0_all D B cy A est id hm h1
      have h := hC.2.1 k' _ h3
      rw [show B + 1 + k' = B + off id by rw [h2]; omega] at h
      exact h
  · obtain ⟨id, hid, rfl⟩ := key i x hi
    obtain ⟨id', hid', rfl⟩ := key j y hj
    have h : off id = off id' := by
      have h2 : B + off id = B + off id' := hxy
      omega
    exact va_nd_inj _ off_inj i j (off id) (by rw [List.getElem?_map, hid]; rfl) (by rw [List.getElem?_map, hid', h]; rfl)
  · obtain ⟨id, -, rfl⟩ := key k q hq
    exact hA _ (Nat.le_add_right _ _)
