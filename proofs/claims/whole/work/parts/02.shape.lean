/-- what lies at a place: its kind and how many slots (kinds below 20: an object of that number; 20 int, 21 long, 22 char, 23 boolean, 24 and 25 rows of places) -/
def mj_shp (q : Nat) : Nat × Nat := bif Nat.blt q 218 then (bif Nat.blt q 109 then (bif Nat.blt q 54 then (bif Nat.blt q 27 then (bif Nat.blt q 13 then (bif Nat.blt q 6 then (bif Nat.blt q 3 then (bif Nat.blt q 1 then (11, 14) else (bif Nat.blt q 2 then (8, 2) else (20, 1600))) else (bif Nat.blt q 4 then (0, 10) else (bif Nat.blt q 5 then (20, 7) else (20, 7)))) else (bif Nat.blt q 9 then (bif Nat.blt q 7 then (20, 7) else (bif Nat.blt q 8 then (5, 4) else (20, 1603))) else (bif Nat.blt q 11 then (bif Nat.blt q 10 then (20, 4) else (20, 4)) else (bif Nat.blt q 12 then (0, 10) else (20, 7))))) else (bif Nat.blt q 20 then (bif Nat.blt q 16 then (bif Nat.blt q 14 then (20, 7) else (bif Nat.blt q 15 then (20, 7) else (5, 4))) else (bif Nat.blt q 18 then (bif Nat.blt q 17 then (20, 1603) else (20, 4)) else (bif Nat.blt q 19 then (20, 4) else (4, 6)))) else (bif Nat.blt q 23 then (bif Nat.blt q 21 then (9, 6) else (bif Nat.blt q 22 then (10, 8) else (20, 64))) else (bif Nat.blt q 25 then (bif Nat.blt q 24 then (20, 7) else (20, 7)) else (bif Nat.blt q 26 then (20, 7) else (20, 7)))))) else (bif Nat.blt q 40 then (bif Nat.blt q 33 then (bif Nat.blt q 30 then (bif Nat.blt q 28 then (20, 7) else (bif Nat.blt q 29 then (7, 5) else (20, 7))) else (bif Nat.blt q 31 then (20, 7) else (bif Nat.blt q 32 then (6, 2) else (20, 48)))) else (bif Nat.blt q 36 then (bif Nat.blt q 34 then (3, 9) else (bif Nat.blt q 35 then (7, 5) else (20, 7))) else (bif Nat.blt q 38 then (bif Nat.blt q 37 then (20, 7) else (21, 128)) else (bif Nat.blt q 39 then (20, 630) else (2, 2))))) else (bif Nat.blt q 47 then (bif Nat.blt q 43 then (bif Nat.blt q 41 then (20, 40) else (bif Nat.blt q 42 then (1, 4) else (24, 20))) else (bif Nat.blt q 45 then (bif Nat.blt q 44 then (25, 20) else (7, 5)) else (bif Nat.blt q 46 then (20, 7) else (20, 7)))) else (bif Nat.blt q 50 then (bif Nat.blt q 48 then (2, 2) else (bif Nat.blt q 49 then (20, 40) else (7, 5))) else (bif Nat.blt q 52 then (bif Nat.blt q 51 then (20, 7) else (20, 7)) else (bif Nat.blt q 53 then (2, 2) else (20, 40))))))) else (bif Nat.blt q 81 then (bif Nat.blt q 67 then (bif Nat.blt q 60 then (bif Nat.blt q 57 then (bif Nat.blt q 55 then (7, 5) else (bif Nat.blt q 56 then (20, 7) else (20, 7))) else (bif Nat.blt q 58 then (2, 2) else (bif Nat.blt q 59 then (20, 40) else (7, 5)))) else (bif Nat.blt q 63 then (bif Nat.blt q 61 then (20, 7) else (bif Nat.blt q 62 then (20, 7) else (2, 2))) else (bif Nat.blt q 65 then (bif Nat.blt q 64 then (20, 40) else (7, 5)) else (bif Nat.blt q 66 then (20, 7) else (20, 7))))) else (bif Nat.blt q 74 then (bif Nat.blt q 70 then (bif Nat.blt q 68 then (2, 2) else (bif Nat.blt q 69 then (20, 40) else (7, 5))) else (bif Nat.blt q 72 then (bif Nat.blt q 71 then (20, 7) else (20, 7)) else (bif Nat.blt q 73 then (2, 2) else (20, 40)))) else (bif Nat.blt q 77 then (bif Nat.blt q 75 then (7, 5) else (bif Nat.blt q 76 then (20, 7) else (20, 7))) else (bif Nat.blt q 79 then (bif Nat.blt q 78 then (2, 2) else (20, 40)) else (bif Nat.blt q 80 then (7, 5) else (20, 7)))))) else (bif Nat.blt q 95 then (bif Nat.blt q 88 then (bif Nat.blt q 84 then (bif Nat.blt q 82 then (20, 7) else (bif Nat.blt q 83 then (2, 2) else (20, 40))) else (bif Nat.blt q 86 then (bif Nat.blt q 85 then (7, 5) else (20, 7)) else (bif Nat.blt q 87 then (20, 7) else (2, 2)))) else (bif Nat.blt q 91 then (bif Nat.blt q 89 then (20, 40) else (bif Nat.blt q 90 then (7, 5) else (20, 7))) else (bif Nat.blt q 93 then (bif Nat.blt q 92 then (20, 7) else (2, 2)) else (bif Nat.blt q 94 then (20, 40) else (7, 5))))) else (bif Nat.blt q 102 then (bif Nat.blt q 98 then (bif Nat.blt q 96 then (20, 7) else (bif Nat.blt q 97 then (20, 7) else (2, 2))) else (bif Nat.blt q 100 then (bif Nat.blt q 99 then (20, 40) else (7, 5)) else (bif Nat.blt q 101 then (20, 7) else (20, 7)))) else (bif Nat.blt q 105 then (bif Nat.blt q 103 then (2, 2) else (bif Nat.blt q 104 then (20, 40) else (7, 5))) else (bif Nat.blt q 107 then (bif Nat.blt q 106 then (20, 7) else (20, 7)) else (bif Nat.blt q 108 then (2, 2) else (20, 40)))))))) else (bif Nat.blt q 163 then (bif Nat.blt q 136 then (bif Nat.blt q 122 then (bif Nat.blt q 115 then (bif Nat.blt q 112 then (bif Nat.blt q 110 then (7, 5) else (bif Nat.blt q 111 then (20, 7) else (20, 7))) else (bif Nat.blt q 113 then (2, 2) else (bif Nat.blt q 114 then (20, 40) else (7, 5)))) else (bif Nat.blt q 118 then (bif Nat.blt q 116 then (20, 7) else (bif Nat.blt q 117 then (20, 7) else (2, 2))) else (bif Nat.blt q 120 then (bif Nat.blt q 119 then (20, 40) else (7, 5)) else (bif Nat.blt q 121 then (20, 7) else (20, 7))))) else (bif Nat.blt q 129 then (bif Nat.blt q 125 then (bif Nat.blt q 123 then (2, 2) else (bif Nat.blt q 124 then (20, 40) else (7, 5))) else (bif Nat.blt q 127 then (bif Nat.blt q 126 then (20, 7) else (20, 7)) else (bif Nat.blt q 128 then (2, 2) else (20, 40)))) else (bif Nat.blt q 132 then (bif Nat.blt q 130 then (7, 5) else (bif Nat.blt q 131 then (20, 7) else (20, 7))) else (bif Nat.blt q 134 then (bif Nat.blt q 133 then (2, 2) else (20, 40)) else (bif Nat.blt q 135 then (7, 5) else (20, 7)))))) else (bif Nat.blt q 149 then (bif Nat.blt q 142 then (bif Nat.blt q 139 then (bif Nat.blt q 137 then (20, 7) else (bif Nat.blt q 138 then (2, 2) else (20, 40))) else (bif Nat.blt q 140 then (7, 5) else (bif Nat.blt q 141 then (20, 7) else (20, 7)))) else (bif Nat.blt q 145 then (bif Nat.blt q 143 then (2, 2) else (bif Nat.blt q 144 then (20, 40) else (20, 24))) else (bif Nat.blt q 147 then (bif Nat.blt q 146 then (20, 6) else (12, 100)) else (bif Nat.blt q 148 then (20, 1600) else (20, 6))))) else (bif Nat.blt q 156 then (bif Nat.blt q 152 then (bif Nat.blt q 150 then (22, 4) else (bif Nat.blt q 151 then (22, 3) else (22, 4))) else (bif Nat.blt q 154 then (bif Nat.blt q 153 then (22, 4) else (22, 4)) else (bif Nat.blt q 155 then (22, 4) else (22, 5)))) else (bif Nat.blt q 159 then (bif Nat.blt q 157 then (22, 5) else (bif Nat.blt q 158 then (22, 4) else (22, 4))) else (bif Nat.blt q 161 then (bif Nat.blt q 160 then (22, 4) else (22, 5)) else (bif Nat.blt q 162 then (22, 5) else (22, 5))))))) else (bif Nat.blt q 190 then (bif Nat.blt q 176 then (bif Nat.blt q 169 then (bif Nat.blt q 166 then (bif Nat.blt q 164 then (22, 4) else (bif Nat.blt q 165 then (22, 6) else (22, 4))) else (bif Nat.blt q 167 then (22, 5) else (bif Nat.blt q 168 then (22, 2) else (22, 3)))) else (bif Nat.blt q 172 then (bif Nat.blt q 170 then (22, 3) else (bif Nat.blt q 171 then (22, 3) else (22, 3))) else (bif Nat.blt q 174 then (bif Nat.blt q 173 then (22, 3) else (20, 4)) else (bif Nat.blt q 175 then (21, 14) else (20, 7))))) else (bif Nat.blt q 183 then (bif Nat.blt q 179 then (bif Nat.blt q 177 then (20, 14) else (bif Nat.blt q 178 then (20, 2) else (20, 4))) else (bif Nat.blt q 181 then (bif Nat.blt q 180 then (20, 6) else (20, 6)) else (bif Nat.blt q 182 then (20, 3200) else (20, 150)))) else (bif Nat.blt q 186 then (bif Nat.blt q 184 then (20, 29) else (bif Nat.blt q 185 then (20, 7) else (20, 7))) else (bif Nat.blt q 188 then (bif Nat.blt q 187 then (20, 7) else (20, 7)) else (bif Nat.blt q 189 then (20, 896) else (20, 48)))))) else (bif Nat.blt q 204 then (bif Nat.blt q 197 then (bif Nat.blt q 193 then (bif Nat.blt q 191 then (20, 651) else (bif Nat.blt q 192 then (23, 21) else (20, 21))) else (bif Nat.blt q 195 then (bif Nat.blt q 194 then (20, 3000) else (22, 5)) else (bif Nat.blt q 196 then (22, 4) else (22, 5)))) else (bif Nat.blt q 200 then (bif Nat.blt q 198 then (22, 5) else (bif Nat.blt q 199 then (22, 4) else (22, 5))) else (bif Nat.blt q 202 then (bif Nat.blt q 201 then (22, 3) else (22, 3)) else (bif Nat.blt q 203 then (22, 2) else (22, 3))))) else (bif Nat.blt q 211 then (bif Nat.blt q 207 then (bif Nat.blt q 205 then (22, 3) else (bif Nat.blt q 206 then (22, 3) else (22, 3))) else (bif Nat.blt q 209 then (bif Nat.blt q 208 then (22, 5) else (22, 5)) else (bif Nat.blt q 210 then (22, 4) else (22, 6)))) else (bif Nat.blt q 214 then (bif Nat.blt q 212 then (22, 4) else (bif Nat.blt q 213 then (22, 4) else (22, 4))) else (bif Nat.blt q 216 then (bif Nat.blt q 215 then (20, 1700) else (20, 1700)) else (bif Nat.blt q 217 then (21, 1700) else (20, 24))))))))) else (99, 0)
def mj_SL : Nat → Nat
  | 0 => 0
  | n + 1 => mj_SL n + (mj_shp n).2
def mj_T (ci : Nat) : u_T := match ci with
  | 0 => TX0
  | 1 => TX1
  | 2 => TX2
  | 3 => TX3
  | 4 => TX4
  | 5 => TX5
  | 6 => TX6
  | 7 => TX7
  | 8 => TX8
  | 9 => TX9
  | 10 => TX10
  | 11 => TX11
  | _ => TX12
def mj_ty (ci : Nat) : Nat → FieldType := match ci with
  | 0 => tyX0
  | 1 => tyX1
  | 2 => tyX2
  | 3 => tyX3
  | 4 => tyX4
  | 5 => tyX5
  | 6 => tyX6
  | 7 => tyX7
  | 8 => tyX8
  | 9 => tyX9
  | 10 => tyX10
  | 11 => tyX11
  | _ => tyX12
def mj_R (ci : Nat) : String := match ci with
  | 0 => RX0
  | 1 => RX1
  | 2 => RX2
  | 3 => RX3
  | 4 => RX4
  | 5 => RX5
  | 6 => RX6
  | 7 => RX7
  | 8 => RX8
  | 9 => RX9
  | 10 => RX10
  | 11 => RX11
  | _ => RX12
def mj_N (ci : Nat) : Nat := match ci with
  | 0 => 10
  | 1 => 4
  | 2 => 2
  | 3 => 9
  | 4 => 6
  | 5 => 4
  | 6 => 2
  | 7 => 5
  | 8 => 2
  | 9 => 6
  | 10 => 8
  | 11 => 14
  | _ => 100
theorem mj_cl : ∀ ci, ci < 13 → vwCl[ci]? = some (mj_R ci, mj_T ci, mj_N ci) := by
  intro ci h
  rcases (show ci = 0 ∨ ci = 1 ∨ ci = 2 ∨ ci = 3 ∨ ci = 4 ∨ ci = 5 ∨ ci = 6 ∨ ci = 7 ∨ ci = 8 ∨ ci = 9 ∨ ci = 10 ∨ ci = 11 ∨ ci = 12 by omega) with rfl | rfl | rfl | rfl | rfl | rfl | rfl | rfl | rfl | rfl | rfl | rfl | rfl <;> rfl
theorem mj_nm : ∀ ci, ci < 13 → ∀ a, a < mj_N ci → ∀ b, b < mj_N ci → a ≠ b → (mj_T ci a).2.1 ≠ (mj_T ci b).2.1 := by
  intro ci h
  rcases (show ci = 0 ∨ ci = 1 ∨ ci = 2 ∨ ci = 3 ∨ ci = 4 ∨ ci = 5 ∨ ci = 6 ∨ ci = 7 ∨ ci = 8 ∨ ci = 9 ∨ ci = 10 ∨ ci = 11 ∨ ci = 12 by omega) with rfl | rfl | rfl | rfl | rfl | rfl | rfl | rfl | rfl | rfl | rfl | rfl | rfl
  · exact nmX0
  · exact nmX1
  · exact nmX2
  · exact nmX3
  · exact nmX4
  · exact nmX5
  · exact nmX6
  · exact nmX7
  · exact nmX8
  · exact nmX9
  · exact nmX10
  · exact nmX11
  · exact nmX12
theorem mj_tyok : ∀ ci, ci < 13 → ∀ k, k < mj_N ci → parseFieldDescriptor (mj_T ci k).2.2.1 = some (mj_ty ci k) := by
  intro ci h
  rcases (show ci = 0 ∨ ci = 1 ∨ ci = 2 ∨ ci = 3 ∨ ci = 4 ∨ ci = 5 ∨ ci = 6 ∨ ci = 7 ∨ ci = 8 ∨ ci = 9 ∨ ci = 10 ∨ ci = 11 ∨ ci = 12 by omega) with rfl | rfl | rfl | rfl | rfl | rfl | rfl | rfl | rfl | rfl | rfl | rfl | rfl
  · exact tyX0_ok
  · exact tyX1_ok
  · exact tyX2_ok
  · exact tyX3_ok
  · exact tyX4_ok
  · exact tyX5_ok
  · exact tyX6_ok
  · exact tyX7_ok
  · exact tyX8_ok
  · exact tyX9_ok
  · exact tyX10_ok
  · exact tyX11_ok
  · exact tyX12_ok
theorem mj_shpN : ∀ q, q < 218 → (mj_shp q).1 < 13 → (mj_shp q).2 = mj_N (mj_shp q).1 := by decide +kernel
