theorem mj_m0 : mj_mok 0 := ⟨mj_in1 (i := 54) rfl rfl, mj_in1 (i := 3) rfl rfl, ⟨mj_in1 (i := 53) rfl rfl, rfl, rfl⟩⟩
theorem mj_m1 : mj_mok 1 := ⟨mj_in3 (i := 49) rfl rfl, mj_in1 (i := 3) rfl rfl, ⟨mj_in3 (i := 47) rfl rfl, mj_in3 (i := 48) rfl rfl⟩⟩
theorem mj_m2 : mj_mok 2 := ⟨mj_in1 (i := 81) rfl rfl, mj_in1 (i := 3) rfl rfl, ⟨mj_in1 (i := 79) rfl rfl, mj_in1 (i := 80) rfl rfl⟩⟩
theorem mj_m3 : mj_mok 3 := ⟨mj_in3 (i := 117) rfl rfl, mj_in1 (i := 3) rfl rfl, ⟨mj_in3 (i := 115) rfl rfl, mj_in3 (i := 116) rfl rfl⟩⟩
theorem mj_m4 : mj_mok 4 := ⟨mj_in3 (i := 85) rfl rfl, mj_in1 (i := 3) rfl rfl, ⟨mj_in3 (i := 83) rfl rfl, mj_in3 (i := 84) rfl rfl⟩⟩
theorem mj_m5 : mj_mok 5 := ⟨mj_in3 (i := 101) rfl rfl, mj_in1 (i := 3) rfl rfl, ⟨mj_in3 (i := 99) rfl rfl, mj_in3 (i := 100) rfl rfl⟩⟩
theorem mj_m6 : mj_mok 6 := ⟨mj_in3 (i := 113) rfl rfl, mj_in1 (i := 3) rfl rfl, ⟨mj_in3 (i := 111) rfl rfl, mj_in3 (i := 112) rfl rfl⟩⟩
theorem mj_m7 : mj_mok 7 := ⟨mj_in3 (i := 182) rfl rfl, mj_in1 (i := 3) rfl rfl, ⟨mj_in3 (i := 180) rfl rfl, mj_in3 (i := 181) rfl rfl⟩⟩
theorem mj_m8 : mj_mok 8 := ⟨mj_in2 (i := 122) rfl rfl, mj_in1 (i := 13) rfl rfl, ⟨mj_in2 (i := 121) rfl rfl, rfl, rfl⟩⟩
theorem mj_m9 : mj_mok 9 := ⟨mj_in4 (i := 213) rfl rfl, mj_in1 (i := 13) rfl rfl, ⟨mj_in4 (i := 211) rfl rfl, mj_in4 (i := 212) rfl rfl⟩⟩
theorem mj_m10 : mj_mok 10 := ⟨mj_in5 (i := 33) rfl rfl, mj_in1 (i := 13) rfl rfl, ⟨mj_in5 (i := 31) rfl rfl, mj_in5 (i := 32) rfl rfl⟩⟩
theorem mj_m11 : mj_mok 11 := ⟨mj_in2 (i := 108) rfl rfl, mj_in1 (i := 12) rfl rfl, ⟨mj_in2 (i := 107) rfl rfl, rfl, rfl⟩⟩
theorem mj_m12 : mj_mok 12 := ⟨mj_in5 (i := 9) rfl rfl, mj_in1 (i := 12) rfl rfl, ⟨mj_in5 (i := 7) rfl rfl, mj_in5 (i := 8) rfl rfl⟩⟩
theorem mj_m13 : mj_mok 13 := ⟨mj_in4 (i := 51) rfl rfl, mj_in1 (i := 12) rfl rfl, ⟨mj_in4 (i := 49) rfl rfl, mj_in4 (i := 50) rfl rfl⟩⟩
theorem mj_m14 : mj_mok 14 := ⟨mj_in4 (i := 218) rfl rfl, mj_in1 (i := 12) rfl rfl, ⟨mj_in4 (i := 216) rfl rfl, mj_in4 (i := 217) rfl rfl⟩⟩
theorem mj_m15 : mj_mok 15 := ⟨mj_in2 (i := 69) rfl rfl, mj_in1 (i := 11) rfl rfl, ⟨mj_in2 (i := 68) rfl rfl, rfl, rfl⟩⟩
theorem mj_m16 : mj_mok 16 := ⟨mj_in4 (i := 97) rfl rfl, mj_in1 (i := 11) rfl rfl, ⟨mj_in4 (i := 95) rfl rfl, mj_in4 (i := 96) rfl rfl⟩⟩
theorem mj_m17 : mj_mok 17 := ⟨mj_in4 (i := 59) rfl rfl, mj_in1 (i := 11) rfl rfl, ⟨mj_in4 (i := 57) rfl rfl, mj_in4 (i := 58) rfl rfl⟩⟩
theorem mj_m18 : mj_mok 18 := ⟨mj_in4 (i := 80) rfl rfl, mj_in1 (i := 11) rfl rfl, ⟨mj_in4 (i := 78) rfl rfl, mj_in4 (i := 79) rfl rfl⟩⟩
theorem mj_m19 : mj_mok 19 := ⟨mj_in4 (i := 89) rfl rfl, mj_in1 (i := 11) rfl rfl, ⟨mj_in4 (i := 87) rfl rfl, mj_in4 (i := 88) rfl rfl⟩⟩
theorem mj_m20 : mj_mok 20 := ⟨mj_in4 (i := 101) rfl rfl, mj_in1 (i := 11) rfl rfl, ⟨mj_in4 (i := 99) rfl rfl, mj_in4 (i := 100) rfl rfl⟩⟩
theorem mj_m21 : mj_mok 21 := ⟨mj_in4 (i := 105) rfl rfl, mj_in1 (i := 11) rfl rfl, mj_in4 (i := 104) rfl rfl⟩
theorem mj_m22 : mj_mok 22 := ⟨mj_in4 (i := 113) rfl rfl, mj_in1 (i := 11) rfl rfl, ⟨mj_in4 (i := 111) rfl rfl, mj_in4 (i := 112) rfl rfl⟩⟩
theorem mj_m23 : mj_mok 23 := ⟨mj_in4 (i := 118) rfl rfl, mj_in1 (i := 11) rfl rfl, ⟨mj_in4 (i := 117) rfl rfl, mj_ip2 (i := 14) rfl⟩⟩
theorem mj_m24 : mj_mok 24 := ⟨mj_in4 (i := 126) rfl rfl, mj_in1 (i := 11) rfl rfl, ⟨mj_in4 (i := 124) rfl rfl, mj_in4 (i := 125) rfl rfl⟩⟩
theorem mj_m25 : mj_mok 25 := ⟨mj_in4 (i := 135) rfl rfl, mj_in1 (i := 11) rfl rfl, ⟨mj_in4 (i := 133) rfl rfl, mj_in4 (i := 134) rfl rfl⟩⟩
theorem mj_m26 : mj_mok 26 := ⟨mj_in4 (i := 143) rfl rfl, mj_in1 (i := 11) rfl rfl, ⟨mj_in4 (i := 142) rfl rfl, mj_ip2 (i := 15) rfl⟩⟩
theorem mj_m27 : mj_mok 27 := ⟨mj_in4 (i := 147) rfl rfl, mj_in1 (i := 11) rfl rfl, ⟨mj_in4 (i := 146) rfl rfl, mj_ip3 (i := 0) rfl⟩⟩
theorem mj_m28 : mj_mok 28 := ⟨mj_in4 (i := 170) rfl rfl, mj_in1 (i := 11) rfl rfl, ⟨mj_in4 (i := 168) rfl rfl, mj_in4 (i := 169) rfl rfl⟩⟩
theorem mj_m29 : mj_mok 29 := ⟨mj_in4 (i := 179) rfl rfl, mj_in1 (i := 11) rfl rfl, ⟨mj_in4 (i := 178) rfl rfl, mj_ip3 (i := 1) rfl⟩⟩
theorem mj_m30 : mj_mok 30 := ⟨mj_in4 (i := 191) rfl rfl, mj_in1 (i := 11) rfl rfl, ⟨mj_in4 (i := 189) rfl rfl, mj_in4 (i := 190) rfl rfl⟩⟩
theorem mj_m31 : mj_mok 31 := ⟨mj_in4 (i := 195) rfl rfl, mj_in1 (i := 11) rfl rfl, ⟨mj_in4 (i := 194) rfl rfl, mj_ip3 (i := 2) rfl⟩⟩
theorem mj_m32 : mj_mok 32 := ⟨mj_in4 (i := 200) rfl rfl, mj_in1 (i := 11) rfl rfl, ⟨mj_in4 (i := 199) rfl rfl, mj_ip3 (i := 3) rfl⟩⟩
theorem mj_m33 : mj_mok 33 := ⟨mj_in1 (i := 161) rfl rfl, mj_in1 (i := 5) rfl rfl, ⟨mj_in1 (i := 160) rfl rfl, rfl, rfl⟩⟩
theorem mj_m34 : mj_mok 34 := ⟨mj_in2 (i := 214) rfl rfl, mj_in1 (i := 5) rfl rfl, ⟨mj_in2 (i := 212) rfl rfl, mj_in2 (i := 213) rfl rfl⟩⟩
theorem mj_m35 : mj_mok 35 := ⟨mj_in5 (i := 45) rfl rfl, mj_in1 (i := 5) rfl rfl, ⟨mj_in5 (i := 43) rfl rfl, mj_in5 (i := 44) rfl rfl⟩⟩
theorem mj_m36 : mj_mok 36 := ⟨mj_in5 (i := 49) rfl rfl, mj_in1 (i := 5) rfl rfl, ⟨mj_in5 (i := 47) rfl rfl, mj_in5 (i := 48) rfl rfl⟩⟩
theorem mj_m37 : mj_mok 37 := ⟨mj_in5 (i := 53) rfl rfl, mj_in1 (i := 5) rfl rfl, ⟨mj_in5 (i := 52) rfl rfl, mj_ip3 (i := 9) rfl⟩⟩
theorem mj_m38 : mj_mok 38 := ⟨mj_in2 (i := 218) rfl rfl, mj_in1 (i := 5) rfl rfl, ⟨mj_in2 (i := 217) rfl rfl, mj_ip1 (i := 2) rfl⟩⟩
theorem mj_m39 : mj_mok 39 := ⟨mj_in3 (i := 68) rfl rfl, mj_in1 (i := 5) rfl rfl, ⟨mj_in3 (i := 67) rfl rfl, mj_ip1 (i := 8) rfl⟩⟩
theorem mj_m40 : mj_mok 40 := ⟨mj_in3 (i := 60) rfl rfl, mj_in1 (i := 5) rfl rfl, ⟨mj_in3 (i := 59) rfl rfl, mj_ip1 (i := 6) rfl⟩⟩
theorem mj_m41 : mj_mok 41 := ⟨mj_in3 (i := 64) rfl rfl, mj_in1 (i := 5) rfl rfl, ⟨mj_in3 (i := 63) rfl rfl, mj_ip1 (i := 7) rfl⟩⟩
theorem mj_m42 : mj_mok 42 := ⟨mj_in3 (i := 105) rfl rfl, mj_in1 (i := 5) rfl rfl, ⟨mj_in3 (i := 104) rfl rfl, mj_ip1 (i := 12) rfl⟩⟩
theorem mj_m43 : mj_mok 43 := ⟨mj_in3 (i := 121) rfl rfl, mj_in1 (i := 5) rfl rfl, ⟨mj_in3 (i := 120) rfl rfl, mj_ip1 (i := 14) rfl⟩⟩
theorem mj_m44 : mj_mok 44 := ⟨mj_in3 (i := 125) rfl rfl, mj_in1 (i := 5) rfl rfl, ⟨mj_in3 (i := 124) rfl rfl, mj_ip1 (i := 15) rfl⟩⟩
theorem mj_m45 : mj_mok 45 := ⟨mj_in3 (i := 129) rfl rfl, mj_in1 (i := 5) rfl rfl, ⟨mj_in3 (i := 128) rfl rfl, mj_ip2 (i := 0) rfl⟩⟩
theorem mj_m46 : mj_mok 46 := ⟨mj_in3 (i := 174) rfl rfl, mj_in1 (i := 5) rfl rfl, ⟨mj_in3 (i := 173) rfl rfl, mj_ip2 (i := 9) rfl⟩⟩
theorem mj_m47 : mj_mok 47 := ⟨mj_in3 (i := 178) rfl rfl, mj_in1 (i := 5) rfl rfl, ⟨mj_in3 (i := 177) rfl rfl, mj_ip2 (i := 10) rfl⟩⟩
theorem mj_m48 : mj_mok 48 := ⟨mj_in3 (i := 109) rfl rfl, mj_in1 (i := 5) rfl rfl, ⟨mj_in3 (i := 108) rfl rfl, mj_ip1 (i := 13) rfl⟩⟩
theorem mj_m49 : mj_mok 49 := ⟨mj_in3 (i := 73) rfl rfl, mj_in1 (i := 5) rfl rfl, ⟨mj_in3 (i := 72) rfl rfl, mj_ip1 (i := 9) rfl⟩⟩
theorem mj_m50 : mj_mok 50 := ⟨mj_in3 (i := 89) rfl rfl, mj_in1 (i := 5) rfl rfl, ⟨mj_in3 (i := 88) rfl rfl, mj_ip1 (i := 10) rfl⟩⟩
theorem mj_m51 : mj_mok 51 := ⟨mj_in3 (i := 157) rfl rfl, mj_in1 (i := 5) rfl rfl, ⟨mj_in3 (i := 156) rfl rfl, mj_ip2 (i := 5) rfl⟩⟩
theorem mj_m52 : mj_mok 52 := ⟨mj_in3 (i := 97) rfl rfl, mj_in1 (i := 5) rfl rfl, ⟨mj_in3 (i := 96) rfl rfl, mj_ip1 (i := 11) rfl⟩⟩
theorem mj_m53 : mj_mok 53 := ⟨mj_in5 (i := 58) rfl rfl, mj_in1 (i := 5) rfl rfl, ⟨mj_in5 (i := 57) rfl rfl, mj_ip3 (i := 10) rfl⟩⟩
theorem mj_m54 : mj_mok 54 := ⟨mj_in5 (i := 62) rfl rfl, mj_in1 (i := 5) rfl rfl, ⟨mj_in5 (i := 61) rfl rfl, mj_ip3 (i := 11) rfl⟩⟩
theorem mj_m55 : mj_mok 55 := ⟨mj_in5 (i := 66) rfl rfl, mj_in1 (i := 5) rfl rfl, ⟨mj_in5 (i := 65) rfl rfl, mj_ip3 (i := 12) rfl⟩⟩
theorem mj_m56 : mj_mok 56 := ⟨mj_in3 (i := 135) rfl rfl, mj_in1 (i := 5) rfl rfl, ⟨mj_in3 (i := 134) rfl rfl, mj_ip2 (i := 1) rfl⟩⟩
theorem mj_m57 : mj_mok 57 := ⟨mj_in3 (i := 139) rfl rfl, mj_in1 (i := 5) rfl rfl, ⟨mj_in3 (i := 138) rfl rfl, mj_ip2 (i := 2) rfl⟩⟩
theorem mj_m58 : mj_mok 58 := ⟨mj_in3 (i := 143) rfl rfl, mj_in1 (i := 5) rfl rfl, ⟨mj_in3 (i := 142) rfl rfl, mj_ip2 (i := 3) rfl⟩⟩
theorem mj_m59 : mj_mok 59 := ⟨mj_in3 (i := 161) rfl rfl, mj_in1 (i := 5) rfl rfl, ⟨mj_in3 (i := 160) rfl rfl, mj_ip2 (i := 6) rfl⟩⟩
theorem mj_m60 : mj_mok 60 := ⟨mj_in3 (i := 153) rfl rfl, mj_in1 (i := 5) rfl rfl, ⟨mj_in3 (i := 152) rfl rfl, mj_ip2 (i := 4) rfl⟩⟩
theorem mj_m61 : mj_mok 61 := ⟨mj_in5 (i := 70) rfl rfl, mj_in1 (i := 5) rfl rfl, ⟨mj_in5 (i := 69) rfl rfl, mj_ip3 (i := 13) rfl⟩⟩
theorem mj_m62 : mj_mok 62 := ⟨mj_in3 (i := 165) rfl rfl, mj_in1 (i := 5) rfl rfl, ⟨mj_in3 (i := 164) rfl rfl, mj_ip2 (i := 7) rfl⟩⟩
theorem mj_m63 : mj_mok 63 := ⟨mj_in1 (i := 60) rfl rfl, mj_in1 (i := 4) rfl rfl, ⟨mj_in1 (i := 59) rfl rfl, rfl, rfl⟩⟩
theorem mj_m64 : mj_mok 64 := ⟨mj_in3 (i := 54) rfl rfl, mj_in1 (i := 4) rfl rfl, ⟨mj_in3 (i := 52) rfl rfl, mj_in3 (i := 53) rfl rfl⟩⟩
theorem mj_m65 : mj_mok 65 := ⟨mj_in1 (i := 93) rfl rfl, mj_in1 (i := 4) rfl rfl, ⟨mj_in1 (i := 91) rfl rfl, mj_in1 (i := 92) rfl rfl⟩⟩
theorem mj_m66 : mj_mok 66 := ⟨mj_in1 (i := 101) rfl rfl, mj_in1 (i := 4) rfl rfl, ⟨mj_in1 (i := 99) rfl rfl, mj_in1 (i := 100) rfl rfl⟩⟩
theorem mj_m67 : mj_mok 67 := ⟨mj_in1 (i := 89) rfl rfl, mj_in1 (i := 4) rfl rfl, ⟨mj_in1 (i := 87) rfl rfl, mj_in1 (i := 88) rfl rfl⟩⟩
theorem mj_m68 : mj_mok 68 := ⟨mj_in1 (i := 97) rfl rfl, mj_in1 (i := 4) rfl rfl, ⟨mj_in1 (i := 95) rfl rfl, mj_in1 (i := 96) rfl rfl⟩⟩
theorem mj_m69 : mj_mok 69 := ⟨mj_in1 (i := 85) rfl rfl, mj_in1 (i := 4) rfl rfl, ⟨mj_in1 (i := 83) rfl rfl, mj_in1 (i := 84) rfl rfl⟩⟩
theorem mj_m70 : mj_mok 70 := ⟨mj_in3 (i := 189) rfl rfl, mj_in1 (i := 4) rfl rfl, ⟨mj_in3 (i := 187) rfl rfl, mj_in3 (i := 188) rfl rfl⟩⟩
theorem mj_m71 : mj_mok 71 := ⟨mj_in2 (i := 55) rfl rfl, mj_in1 (i := 10) rfl rfl, ⟨mj_in2 (i := 54) rfl rfl, rfl, rfl⟩⟩
theorem mj_m72 : mj_mok 72 := ⟨mj_in4 (i := 156) rfl rfl, mj_in1 (i := 10) rfl rfl, ⟨mj_in4 (i := 154) rfl rfl, mj_in4 (i := 155) rfl rfl⟩⟩
theorem mj_m73 : mj_mok 73 := ⟨mj_in4 (i := 160) rfl rfl, mj_in1 (i := 10) rfl rfl, ⟨mj_in4 (i := 158) rfl rfl, mj_in4 (i := 159) rfl rfl⟩⟩
theorem mj_m74 : mj_mok 74 := ⟨mj_in4 (i := 174) rfl rfl, mj_in1 (i := 10) rfl rfl, ⟨mj_in4 (i := 172) rfl rfl, mj_in4 (i := 173) rfl rfl⟩⟩
theorem mj_m75 : mj_mok 75 := ⟨mj_in4 (i := 183) rfl rfl, mj_in1 (i := 10) rfl rfl, ⟨mj_in4 (i := 181) rfl rfl, mj_in4 (i := 182) rfl rfl⟩⟩
theorem mj_m76 : mj_mok 76 := ⟨mj_in2 (i := 14) rfl rfl, mj_in1 (i := 8) rfl rfl, ⟨mj_in2 (i := 13) rfl rfl, rfl, rfl⟩⟩
theorem mj_m77 : mj_mok 77 := ⟨mj_in3 (i := 194) rfl rfl, mj_in1 (i := 8) rfl rfl, ⟨mj_in3 (i := 192) rfl rfl, mj_in3 (i := 193) rfl rfl⟩⟩
theorem mj_m78 : mj_mok 78 := ⟨mj_in4 (i := 63) rfl rfl, mj_in1 (i := 8) rfl rfl, ⟨mj_in4 (i := 61) rfl rfl, mj_in4 (i := 62) rfl rfl⟩⟩
theorem mj_m79 : mj_mok 79 := ⟨mj_in3 (i := 218) rfl rfl, mj_in1 (i := 8) rfl rfl, ⟨mj_in3 (i := 216) rfl rfl, mj_in3 (i := 217) rfl rfl⟩⟩
theorem mj_m80 : mj_mok 80 := ⟨mj_in1 (i := 34) rfl rfl, mj_in1 (i := 2) rfl rfl, ⟨mj_in1 (i := 33) rfl rfl, rfl, rfl⟩⟩
theorem mj_m81 : mj_mok 81 := ⟨mj_in2 (i := 198) rfl rfl, mj_in1 (i := 2) rfl rfl, ⟨mj_in2 (i := 196) rfl rfl, mj_in2 (i := 197) rfl rfl⟩⟩
theorem mj_m82 : mj_mok 82 := ⟨mj_in1 (i := 167) rfl rfl, mj_in1 (i := 6) rfl rfl, ⟨mj_in1 (i := 166) rfl rfl, rfl, rfl⟩⟩
theorem mj_m83 : mj_mok 83 := ⟨mj_in2 (i := 222) rfl rfl, mj_in1 (i := 6) rfl rfl, ⟨mj_in2 (i := 220) rfl rfl, mj_in2 (i := 221) rfl rfl⟩⟩
theorem mj_m84 : mj_mok 84 := ⟨mj_in2 (i := 226) rfl rfl, mj_in1 (i := 6) rfl rfl, ⟨mj_in2 (i := 224) rfl rfl, mj_in2 (i := 225) rfl rfl⟩⟩
theorem mj_m85 : mj_mok 85 := ⟨mj_in3 (i := 77) rfl rfl, mj_in1 (i := 6) rfl rfl, ⟨mj_in3 (i := 75) rfl rfl, mj_in3 (i := 76) rfl rfl⟩⟩
theorem mj_m86 : mj_mok 86 := ⟨mj_in3 (i := 93) rfl rfl, mj_in1 (i := 6) rfl rfl, ⟨mj_in3 (i := 91) rfl rfl, mj_in3 (i := 92) rfl rfl⟩⟩
theorem mj_m87 : mj_mok 87 := ⟨mj_in3 (i := 149) rfl rfl, mj_in1 (i := 6) rfl rfl, ⟨mj_in3 (i := 147) rfl rfl, mj_in3 (i := 148) rfl rfl⟩⟩
theorem mj_m88 : mj_mok 88 := ⟨mj_in3 (i := 81) rfl rfl, mj_in1 (i := 6) rfl rfl, ⟨mj_in3 (i := 79) rfl rfl, mj_in3 (i := 80) rfl rfl⟩⟩
theorem mj_m89 : mj_mok 89 := ⟨mj_in2 (i := 230) rfl rfl, mj_in1 (i := 6) rfl rfl, ⟨mj_in2 (i := 229) rfl rfl, mj_ip1 (i := 3) rfl⟩⟩
theorem mj_m90 : mj_mok 90 := ⟨mj_in3 (i := 0) rfl rfl, mj_in1 (i := 6) rfl rfl, ⟨mj_in2 (i := 239) rfl rfl, mj_ip1 (i := 4) rfl⟩⟩
theorem mj_m91 : mj_mok 91 := ⟨mj_in3 (i := 45) rfl rfl, mj_in1 (i := 6) rfl rfl, ⟨mj_in3 (i := 44) rfl rfl, mj_ip1 (i := 5) rfl⟩⟩
theorem mj_m92 : mj_mok 92 := ⟨mj_in2 (i := 233) rfl rfl, mj_in1 (i := 6) rfl rfl, mj_in2 (i := 232) rfl rfl⟩
theorem mj_m93 : mj_mok 93 := ⟨mj_in1 (i := 218) rfl rfl, mj_in1 (i := 7) rfl rfl, ⟨mj_in1 (i := 217) rfl rfl, rfl, rfl⟩⟩
theorem mj_m94 : mj_mok 94 := ⟨mj_in3 (i := 208) rfl rfl, mj_in1 (i := 7) rfl rfl, ⟨mj_in3 (i := 206) rfl rfl, mj_in3 (i := 207) rfl rfl⟩⟩
theorem mj_m95 : mj_mok 95 := ⟨mj_in3 (i := 235) rfl rfl, mj_in1 (i := 7) rfl rfl, ⟨mj_in3 (i := 233) rfl rfl, mj_in3 (i := 234) rfl rfl⟩⟩
theorem mj_m96 : mj_mok 96 := ⟨mj_in4 (i := 68) rfl rfl, mj_in1 (i := 7) rfl rfl, ⟨mj_in4 (i := 66) rfl rfl, mj_in4 (i := 67) rfl rfl⟩⟩
theorem mj_m97 : mj_mok 97 := ⟨mj_in4 (i := 72) rfl rfl, mj_in1 (i := 7) rfl rfl, ⟨mj_in4 (i := 70) rfl rfl, mj_in4 (i := 71) rfl rfl⟩⟩
theorem mj_m98 : mj_mok 98 := ⟨mj_in4 (i := 43) rfl rfl, mj_in1 (i := 7) rfl rfl, ⟨mj_in4 (i := 41) rfl rfl, mj_in4 (i := 42) rfl rfl⟩⟩
theorem mj_m99 : mj_mok 99 := ⟨mj_in4 (i := 0) rfl rfl, mj_in1 (i := 7) rfl rfl, ⟨mj_in3 (i := 239) rfl rfl, mj_ip2 (i := 11) rfl⟩⟩
theorem mj_m100 : mj_mok 100 := ⟨mj_in4 (i := 8) rfl rfl, mj_in1 (i := 7) rfl rfl, ⟨mj_in4 (i := 6) rfl rfl, mj_in4 (i := 7) rfl rfl⟩⟩
theorem mj_m101 : mj_mok 101 := ⟨mj_in4 (i := 12) rfl rfl, mj_in1 (i := 7) rfl rfl, ⟨mj_in4 (i := 11) rfl rfl, mj_ip2 (i := 12) rfl⟩⟩
theorem mj_m102 : mj_mok 102 := ⟨mj_in4 (i := 16) rfl rfl, mj_in1 (i := 7) rfl rfl, ⟨mj_in4 (i := 15) rfl rfl, mj_ip2 (i := 13) rfl⟩⟩
theorem mj_m103 : mj_mok 103 := ⟨mj_in4 (i := 20) rfl rfl, mj_in1 (i := 7) rfl rfl, mj_in4 (i := 19) rfl rfl⟩
theorem mj_m104 : mj_mok 104 := ⟨mj_in4 (i := 34) rfl rfl, mj_in1 (i := 7) rfl rfl, mj_in4 (i := 33) rfl rfl⟩
theorem mj_m105 : mj_mok 105 := ⟨mj_in1 (i := 26) rfl rfl, mj_in1 (i := 1) rfl rfl, ⟨mj_in1 (i := 25) rfl rfl, rfl, rfl⟩⟩
theorem mj_m106 : mj_mok 106 := ⟨mj_in2 (i := 190) rfl rfl, mj_in1 (i := 1) rfl rfl, ⟨mj_in2 (i := 188) rfl rfl, mj_in2 (i := 189) rfl rfl⟩⟩
theorem mj_m107 : mj_mok 107 := ⟨mj_in2 (i := 202) rfl rfl, mj_in1 (i := 1) rfl rfl, ⟨mj_in2 (i := 200) rfl rfl, mj_in2 (i := 201) rfl rfl⟩⟩
theorem mj_m108 : mj_mok 108 := ⟨mj_in2 (i := 210) rfl rfl, mj_in1 (i := 1) rfl rfl, ⟨mj_in2 (i := 208) rfl rfl, mj_in2 (i := 209) rfl rfl⟩⟩
theorem mj_m109 : mj_mok 109 := ⟨mj_in3 (i := 200) rfl rfl, mj_in1 (i := 1) rfl rfl, ⟨mj_in3 (i := 198) rfl rfl, mj_in3 (i := 199) rfl rfl⟩⟩
theorem mj_m110 : mj_mok 110 := ⟨mj_in3 (i := 204) rfl rfl, mj_in1 (i := 1) rfl rfl, ⟨mj_in3 (i := 202) rfl rfl, mj_in3 (i := 203) rfl rfl⟩⟩
theorem mj_m111 : mj_mok 111 := ⟨mj_in3 (i := 222) rfl rfl, mj_in1 (i := 1) rfl rfl, ⟨mj_in3 (i := 220) rfl rfl, mj_in3 (i := 221) rfl rfl⟩⟩
theorem mj_m112 : mj_mok 112 := ⟨mj_in3 (i := 227) rfl rfl, mj_in1 (i := 1) rfl rfl, ⟨mj_in3 (i := 225) rfl rfl, mj_in3 (i := 226) rfl rfl⟩⟩
theorem mj_m113 : mj_mok 113 := ⟨mj_in3 (i := 231) rfl rfl, mj_in1 (i := 1) rfl rfl, ⟨mj_in3 (i := 229) rfl rfl, mj_in3 (i := 230) rfl rfl⟩⟩
theorem mj_m114 : mj_mok 114 := ⟨mj_in4 (i := 47) rfl rfl, mj_in1 (i := 1) rfl rfl, ⟨mj_in4 (i := 45) rfl rfl, mj_in4 (i := 46) rfl rfl⟩⟩
theorem mj_m115 : mj_mok 115 := ⟨mj_in4 (i := 55) rfl rfl, mj_in1 (i := 1) rfl rfl, ⟨mj_in4 (i := 53) rfl rfl, mj_in4 (i := 54) rfl rfl⟩⟩
theorem mj_m116 : mj_mok 116 := ⟨mj_in4 (i := 76) rfl rfl, mj_in1 (i := 1) rfl rfl, ⟨mj_in4 (i := 74) rfl rfl, mj_in4 (i := 75) rfl rfl⟩⟩
theorem mj_m117 : mj_mok 117 := ⟨mj_in4 (i := 85) rfl rfl, mj_in1 (i := 1) rfl rfl, ⟨mj_in4 (i := 83) rfl rfl, mj_in4 (i := 84) rfl rfl⟩⟩
theorem mj_m118 : mj_mok 118 := ⟨mj_in4 (i := 93) rfl rfl, mj_in1 (i := 1) rfl rfl, ⟨mj_in4 (i := 91) rfl rfl, mj_in4 (i := 92) rfl rfl⟩⟩
theorem mj_m119 : mj_mok 119 := ⟨mj_in4 (i := 109) rfl rfl, mj_in1 (i := 1) rfl rfl, ⟨mj_in4 (i := 107) rfl rfl, mj_in4 (i := 108) rfl rfl⟩⟩
theorem mj_m120 : mj_mok 120 := ⟨mj_in4 (i := 122) rfl rfl, mj_in1 (i := 1) rfl rfl, ⟨mj_in4 (i := 120) rfl rfl, mj_in4 (i := 121) rfl rfl⟩⟩
theorem mj_m121 : mj_mok 121 := ⟨mj_in4 (i := 131) rfl rfl, mj_in1 (i := 1) rfl rfl, ⟨mj_in4 (i := 129) rfl rfl, mj_in4 (i := 130) rfl rfl⟩⟩
theorem mj_m122 : mj_mok 122 := ⟨mj_in4 (i := 152) rfl rfl, mj_in1 (i := 1) rfl rfl, ⟨mj_in4 (i := 150) rfl rfl, mj_in4 (i := 151) rfl rfl⟩⟩
theorem mj_m123 : mj_mok 123 := ⟨mj_in4 (i := 166) rfl rfl, mj_in1 (i := 1) rfl rfl, ⟨mj_in4 (i := 164) rfl rfl, mj_in4 (i := 165) rfl rfl⟩⟩
theorem mj_m124 : mj_mok 124 := ⟨mj_in4 (i := 187) rfl rfl, mj_in1 (i := 1) rfl rfl, ⟨mj_in4 (i := 185) rfl rfl, mj_in4 (i := 186) rfl rfl⟩⟩
theorem mj_m125 : mj_mok 125 := ⟨mj_in4 (i := 205) rfl rfl, mj_in1 (i := 1) rfl rfl, ⟨mj_in4 (i := 203) rfl rfl, mj_in4 (i := 204) rfl rfl⟩⟩
theorem mj_m126 : mj_mok 126 := ⟨mj_in4 (i := 224) rfl rfl, mj_in1 (i := 1) rfl rfl, ⟨mj_in4 (i := 222) rfl rfl, mj_in4 (i := 223) rfl rfl⟩⟩
theorem mj_m127 : mj_mok 127 := ⟨mj_in4 (i := 228) rfl rfl, mj_in1 (i := 1) rfl rfl, ⟨mj_in4 (i := 226) rfl rfl, mj_in4 (i := 227) rfl rfl⟩⟩
theorem mj_m128 : mj_mok 128 := ⟨mj_in4 (i := 236) rfl rfl, mj_in1 (i := 1) rfl rfl, ⟨mj_in4 (i := 234) rfl rfl, mj_in4 (i := 235) rfl rfl⟩⟩
theorem mj_m129 : mj_mok 129 := ⟨mj_in5 (i := 0) rfl rfl, mj_in1 (i := 1) rfl rfl, ⟨mj_in4 (i := 238) rfl rfl, mj_in4 (i := 239) rfl rfl⟩⟩
theorem mj_m130 : mj_mok 130 := ⟨mj_in5 (i := 14) rfl rfl, mj_in1 (i := 1) rfl rfl, ⟨mj_in5 (i := 12) rfl rfl, mj_in5 (i := 13) rfl rfl⟩⟩
theorem mj_m131 : mj_mok 131 := ⟨mj_in5 (i := 29) rfl rfl, mj_in1 (i := 1) rfl rfl, ⟨mj_in5 (i := 27) rfl rfl, mj_in5 (i := 28) rfl rfl⟩⟩
theorem mj_m132 : mj_mok 132 := ⟨mj_in5 (i := 37) rfl rfl, mj_in1 (i := 1) rfl rfl, ⟨mj_in5 (i := 35) rfl rfl, mj_in5 (i := 36) rfl rfl⟩⟩
theorem mj_m133 : mj_mok 133 := ⟨mj_in5 (i := 41) rfl rfl, mj_in1 (i := 1) rfl rfl, ⟨mj_in5 (i := 39) rfl rfl, mj_in5 (i := 40) rfl rfl⟩⟩
theorem mj_m134 : mj_mok 134 := ⟨mj_in5 (i := 85) rfl rfl, mj_in1 (i := 1) rfl rfl, ⟨mj_in5 (i := 83) rfl rfl, mj_in5 (i := 84) rfl rfl⟩⟩
theorem mj_m135 : mj_mok 135 := ⟨mj_in5 (i := 92) rfl rfl, mj_in1 (i := 1) rfl rfl, ⟨mj_in5 (i := 90) rfl rfl, mj_in5 (i := 91) rfl rfl⟩⟩
theorem mj_m136 : mj_mok 136 := ⟨mj_in5 (i := 96) rfl rfl, mj_in1 (i := 1) rfl rfl, ⟨mj_in5 (i := 94) rfl rfl, mj_in5 (i := 95) rfl rfl⟩⟩
theorem mj_m137 : mj_mok 137 := ⟨mj_in5 (i := 108) rfl rfl, mj_in1 (i := 1) rfl rfl, ⟨mj_in5 (i := 106) rfl rfl, mj_in5 (i := 107) rfl rfl⟩⟩
theorem mj_m138 : mj_mok 138 := ⟨mj_in2 (i := 194) rfl rfl, mj_in1 (i := 1) rfl rfl, ⟨mj_in2 (i := 193) rfl rfl, mj_ip1 (i := 0) rfl⟩⟩
theorem mj_m139 : mj_mok 139 := ⟨mj_in2 (i := 206) rfl rfl, mj_in1 (i := 1) rfl rfl, ⟨mj_in2 (i := 205) rfl rfl, mj_ip1 (i := 1) rfl⟩⟩
theorem mj_m140 : mj_mok 140 := ⟨mj_in4 (i := 209) rfl rfl, mj_in1 (i := 1) rfl rfl, ⟨mj_in4 (i := 208) rfl rfl, mj_ip3 (i := 4) rfl⟩⟩
theorem mj_m141 : mj_mok 141 := ⟨mj_in4 (i := 232) rfl rfl, mj_in1 (i := 1) rfl rfl, ⟨mj_in4 (i := 231) rfl rfl, mj_ip3 (i := 5) rfl⟩⟩
theorem mj_m142 : mj_mok 142 := ⟨mj_in5 (i := 4) rfl rfl, mj_in1 (i := 1) rfl rfl, ⟨mj_in5 (i := 3) rfl rfl, mj_ip3 (i := 6) rfl⟩⟩
theorem mj_m143 : mj_mok 143 := ⟨mj_in5 (i := 18) rfl rfl, mj_in1 (i := 1) rfl rfl, ⟨mj_in5 (i := 17) rfl rfl, mj_ip3 (i := 7) rfl⟩⟩
theorem mj_m144 : mj_mok 144 := ⟨mj_in5 (i := 22) rfl rfl, mj_in1 (i := 1) rfl rfl, ⟨mj_in5 (i := 21) rfl rfl, mj_ip3 (i := 8) rfl⟩⟩
theorem mj_m145 : mj_mok 145 := ⟨mj_in5 (i := 76) rfl rfl, mj_in1 (i := 1) rfl rfl, ⟨mj_in5 (i := 75) rfl rfl, mj_ip3 (i := 14) rfl⟩⟩
theorem mj_m146 : mj_mok 146 := ⟨mj_in5 (i := 81) rfl rfl, mj_in1 (i := 1) rfl rfl, ⟨mj_in5 (i := 80) rfl rfl, mj_ip3 (i := 15) rfl⟩⟩
theorem mj_m147 : mj_mok 147 := ⟨mj_in5 (i := 100) rfl rfl, mj_in1 (i := 1) rfl rfl, ⟨mj_in5 (i := 99) rfl rfl, mj_ip4 (i := 0) rfl⟩⟩
theorem mj_m148 : mj_mok 148 := ⟨mj_in5 (i := 104) rfl rfl, mj_in1 (i := 1) rfl rfl, ⟨mj_in5 (i := 103) rfl rfl, mj_ip4 (i := 1) rfl⟩⟩
theorem mj_m149 : mj_mok 149 := ⟨mj_in5 (i := 88) rfl rfl, mj_in1 (i := 1) rfl rfl, mj_in5 (i := 87) rfl rfl⟩
theorem mj_m150 : mj_mok 150 := ⟨mj_in4 (i := 37) rfl rfl, mj_in1 (i := 1) rfl rfl, mj_in4 (i := 36) rfl rfl⟩
theorem mj_m151 : mj_mok 151 := ⟨mj_in5 (i := 113) rfl rfl, mj_in1 (i := 14) rfl rfl, ⟨mj_in5 (i := 112) rfl rfl, rfl, rfl⟩⟩
theorem mj_m152 : mj_mok 152 := ⟨mj_in7 (i := 4) rfl rfl, mj_in1 (i := 14) rfl rfl, mj_in7 (i := 3) rfl rfl⟩
theorem mj_m153 : mj_mok 153 := ⟨mj_in6 (i := 181) rfl rfl, mj_in1 (i := 14) rfl rfl, ⟨mj_in6 (i := 179) rfl rfl, mj_in6 (i := 180) rfl rfl⟩⟩
theorem mj_m154 : mj_mok 154 := ⟨mj_in6 (i := 185) rfl rfl, mj_in1 (i := 14) rfl rfl, ⟨mj_in6 (i := 183) rfl rfl, mj_in6 (i := 184) rfl rfl⟩⟩
theorem mj_m155 : mj_mok 155 := ⟨mj_in6 (i := 201) rfl rfl, mj_in1 (i := 14) rfl rfl, ⟨mj_in6 (i := 200) rfl rfl, mj_ip4 (i := 4) rfl⟩⟩
theorem mj_m156 : mj_mok 156 := ⟨mj_in6 (i := 212) rfl rfl, mj_in1 (i := 14) rfl rfl, mj_in6 (i := 211) rfl rfl⟩
theorem mj_m157 : mj_mok 157 := ⟨mj_in7 (i := 1) rfl rfl, mj_in1 (i := 14) rfl rfl, mj_in7 (i := 0) rfl rfl⟩
theorem mj_m158 : mj_mok 158 := ⟨mj_in6 (i := 193) rfl rfl, mj_in1 (i := 14) rfl rfl, ⟨mj_in6 (i := 192) rfl rfl, mj_ip4 (i := 2) rfl⟩⟩
theorem mj_m159 : mj_mok 159 := ⟨mj_in6 (i := 209) rfl rfl, mj_in1 (i := 14) rfl rfl, ⟨mj_in6 (i := 208) rfl rfl, mj_ip4 (i := 6) rfl⟩⟩
theorem mj_m160 : mj_mok 160 := ⟨mj_in6 (i := 205) rfl rfl, mj_in1 (i := 14) rfl rfl, ⟨mj_in6 (i := 204) rfl rfl, mj_ip4 (i := 5) rfl⟩⟩
theorem mj_m161 : mj_mok 161 := ⟨mj_in6 (i := 234) rfl rfl, mj_in1 (i := 14) rfl rfl, ⟨mj_in6 (i := 233) rfl rfl, mj_ip4 (i := 11) rfl⟩⟩
theorem mj_m162 : mj_mok 162 := ⟨mj_in7 (i := 52) rfl rfl, mj_in1 (i := 14) rfl rfl, ⟨mj_in7 (i := 51) rfl rfl, mj_ip5 (i := 8) rfl⟩⟩
theorem mj_m163 : mj_mok 163 := ⟨mj_in7 (i := 48) rfl rfl, mj_in1 (i := 14) rfl rfl, ⟨mj_in7 (i := 47) rfl rfl, mj_ip5 (i := 7) rfl⟩⟩
theorem mj_m164 : mj_mok 164 := ⟨mj_in6 (i := 238) rfl rfl, mj_in1 (i := 14) rfl rfl, ⟨mj_in6 (i := 237) rfl rfl, mj_ip4 (i := 12) rfl⟩⟩
theorem mj_m165 : mj_mok 165 := ⟨mj_in6 (i := 224) rfl rfl, mj_in1 (i := 14) rfl rfl, ⟨mj_in6 (i := 223) rfl rfl, mj_ip4 (i := 9) rfl⟩⟩
theorem mj_m166 : mj_mok 166 := ⟨mj_in6 (i := 220) rfl rfl, mj_in1 (i := 14) rfl rfl, ⟨mj_in6 (i := 219) rfl rfl, mj_ip4 (i := 8) rfl⟩⟩
theorem mj_m167 : mj_mok 167 := ⟨mj_in7 (i := 40) rfl rfl, mj_in1 (i := 14) rfl rfl, ⟨mj_in7 (i := 39) rfl rfl, mj_ip5 (i := 5) rfl⟩⟩
theorem mj_m168 : mj_mok 168 := ⟨mj_in6 (i := 230) rfl rfl, mj_in1 (i := 14) rfl rfl, ⟨mj_in6 (i := 229) rfl rfl, mj_ip4 (i := 10) rfl⟩⟩
theorem mj_m169 : mj_mok 169 := ⟨mj_in7 (i := 12) rfl rfl, mj_in1 (i := 14) rfl rfl, ⟨mj_in7 (i := 11) rfl rfl, mj_ip4 (i := 14) rfl⟩⟩
theorem mj_m170 : mj_mok 170 := ⟨mj_in6 (i := 216) rfl rfl, mj_in1 (i := 14) rfl rfl, ⟨mj_in6 (i := 215) rfl rfl, mj_ip4 (i := 7) rfl⟩⟩
theorem mj_m171 : mj_mok 171 := ⟨mj_in7 (i := 8) rfl rfl, mj_in1 (i := 14) rfl rfl, ⟨mj_in7 (i := 7) rfl rfl, mj_ip4 (i := 13) rfl⟩⟩
theorem mj_m172 : mj_mok 172 := ⟨mj_in7 (i := 16) rfl rfl, mj_in1 (i := 14) rfl rfl, ⟨mj_in7 (i := 15) rfl rfl, mj_ip4 (i := 15) rfl⟩⟩
theorem mj_m173 : mj_mok 173 := ⟨mj_in7 (i := 20) rfl rfl, mj_in1 (i := 14) rfl rfl, ⟨mj_in7 (i := 19) rfl rfl, mj_ip5 (i := 0) rfl⟩⟩
theorem mj_m174 : mj_mok 174 := ⟨mj_in6 (i := 197) rfl rfl, mj_in1 (i := 14) rfl rfl, ⟨mj_in6 (i := 196) rfl rfl, mj_ip4 (i := 3) rfl⟩⟩
theorem mj_m175 : mj_mok 175 := ⟨mj_in6 (i := 189) rfl rfl, mj_in1 (i := 14) rfl rfl, ⟨mj_in6 (i := 187) rfl rfl, mj_in6 (i := 188) rfl rfl⟩⟩
theorem mj_m176 : mj_mok 176 := ⟨mj_in7 (i := 91) rfl rfl, mj_in1 (i := 14) rfl rfl, ⟨mj_in7 (i := 90) rfl rfl, mj_ip6 (i := 1) rfl⟩⟩
theorem mj_m177 : mj_mok 177 := ⟨mj_in7 (i := 95) rfl rfl, mj_in1 (i := 14) rfl rfl, ⟨mj_in7 (i := 93) rfl rfl, mj_in7 (i := 94) rfl rfl⟩⟩
theorem mj_m178 : mj_mok 178 := ⟨mj_in7 (i := 107) rfl rfl, mj_in1 (i := 14) rfl rfl, ⟨mj_in7 (i := 106) rfl rfl, mj_ip6 (i := 3) rfl⟩⟩
theorem mj_m179 : mj_mok 179 := ⟨mj_in7 (i := 127) rfl rfl, mj_in1 (i := 14) rfl rfl, ⟨mj_in7 (i := 126) rfl rfl, mj_ip6 (i := 7) rfl⟩⟩
theorem mj_m180 : mj_mok 180 := ⟨mj_in7 (i := 115) rfl rfl, mj_in1 (i := 14) rfl rfl, ⟨mj_in7 (i := 114) rfl rfl, mj_ip6 (i := 5) rfl⟩⟩
theorem mj_m181 : mj_mok 181 := ⟨mj_in7 (i := 176) rfl rfl, mj_in1 (i := 14) rfl rfl, ⟨mj_in7 (i := 175) rfl rfl, mj_ip7 (i := 1) rfl⟩⟩
theorem mj_m182 : mj_mok 182 := ⟨mj_in7 (i := 180) rfl rfl, mj_in1 (i := 14) rfl rfl, ⟨mj_in7 (i := 179) rfl rfl, mj_ip7 (i := 2) rfl⟩⟩
theorem mj_m183 : mj_mok 183 := ⟨mj_in7 (i := 152) rfl rfl, mj_in1 (i := 14) rfl rfl, ⟨mj_in7 (i := 151) rfl rfl, mj_ip6 (i := 11) rfl⟩⟩
theorem mj_m184 : mj_mok 184 := ⟨mj_in7 (i := 172) rfl rfl, mj_in1 (i := 14) rfl rfl, ⟨mj_in7 (i := 171) rfl rfl, mj_ip7 (i := 0) rfl⟩⟩
theorem mj_m185 : mj_mok 185 := ⟨mj_in7 (i := 168) rfl rfl, mj_in1 (i := 14) rfl rfl, ⟨mj_in7 (i := 167) rfl rfl, mj_ip6 (i := 15) rfl⟩⟩
theorem mj_m186 : mj_mok 186 := ⟨mj_in7 (i := 111) rfl rfl, mj_in1 (i := 14) rfl rfl, ⟨mj_in7 (i := 110) rfl rfl, mj_ip6 (i := 4) rfl⟩⟩
theorem mj_m187 : mj_mok 187 := ⟨mj_in7 (i := 103) rfl rfl, mj_in1 (i := 14) rfl rfl, ⟨mj_in7 (i := 102) rfl rfl, mj_ip6 (i := 2) rfl⟩⟩
theorem mj_m188 : mj_mok 188 := ⟨mj_in7 (i := 156) rfl rfl, mj_in1 (i := 14) rfl rfl, ⟨mj_in7 (i := 155) rfl rfl, mj_ip6 (i := 12) rfl⟩⟩
theorem mj_m189 : mj_mok 189 := ⟨mj_in7 (i := 195) rfl rfl, mj_in1 (i := 14) rfl rfl, mj_in7 (i := 194) rfl rfl⟩
theorem mj_m190 : mj_mok 190 := ⟨mj_in7 (i := 148) rfl rfl, mj_in1 (i := 14) rfl rfl, ⟨mj_in7 (i := 147) rfl rfl, mj_ip6 (i := 10) rfl⟩⟩
theorem mj_m191 : mj_mok 191 := ⟨mj_in7 (i := 200) rfl rfl, mj_in1 (i := 14) rfl rfl, ⟨mj_in7 (i := 199) rfl rfl, mj_ip7 (i := 4) rfl⟩⟩
theorem mj_m192 : mj_mok 192 := ⟨mj_in7 (i := 144) rfl rfl, mj_in1 (i := 14) rfl rfl, ⟨mj_in7 (i := 143) rfl rfl, mj_ip6 (i := 9) rfl⟩⟩
theorem mj_m193 : mj_mok 193 := ⟨mj_in7 (i := 140) rfl rfl, mj_in1 (i := 14) rfl rfl, ⟨mj_in7 (i := 139) rfl rfl, mj_ip6 (i := 8) rfl⟩⟩
theorem mj_m194 : mj_mok 194 := ⟨mj_in7 (i := 229) rfl rfl, mj_in1 (i := 14) rfl rfl, ⟨mj_in7 (i := 228) rfl rfl, mj_ip7 (i := 9) rfl⟩⟩
theorem mj_m195 : mj_mok 195 := ⟨mj_in7 (i := 225) rfl rfl, mj_in1 (i := 14) rfl rfl, ⟨mj_in7 (i := 224) rfl rfl, mj_ip7 (i := 8) rfl⟩⟩
theorem mj_m196 : mj_mok 196 := ⟨mj_in7 (i := 221) rfl rfl, mj_in1 (i := 14) rfl rfl, ⟨mj_in7 (i := 220) rfl rfl, mj_ip7 (i := 7) rfl⟩⟩
theorem mj_m197 : mj_mok 197 := ⟨mj_in7 (i := 217) rfl rfl, mj_in1 (i := 14) rfl rfl, ⟨mj_in7 (i := 216) rfl rfl, mj_ip7 (i := 6) rfl⟩⟩
theorem mj_m198 : mj_mok 198 := ⟨mj_in7 (i := 237) rfl rfl, mj_in1 (i := 14) rfl rfl, ⟨mj_in7 (i := 236) rfl rfl, mj_ip7 (i := 11) rfl⟩⟩
theorem mj_m199 : mj_mok 199 := ⟨mj_in7 (i := 233) rfl rfl, mj_in1 (i := 14) rfl rfl, ⟨mj_in7 (i := 232) rfl rfl, mj_ip7 (i := 10) rfl⟩⟩
theorem mj_m200 : mj_mok 200 := ⟨mj_in7 (i := 213) rfl rfl, mj_in1 (i := 14) rfl rfl, ⟨mj_in7 (i := 212) rfl rfl, mj_ip7 (i := 5) rfl⟩⟩
theorem mj_m201 : mj_mok 201 := ⟨mj_in8 (i := 20) rfl rfl, mj_in1 (i := 14) rfl rfl, mj_in8 (i := 19) rfl rfl⟩
theorem mj_m202 : mj_mok 202 := ⟨mj_in7 (i := 119) rfl rfl, mj_in1 (i := 14) rfl rfl, ⟨mj_in7 (i := 118) rfl rfl, mj_ip6 (i := 6) rfl⟩⟩
theorem mj_m203 : mj_mok 203 := ⟨mj_in7 (i := 99) rfl rfl, mj_in1 (i := 14) rfl rfl, ⟨mj_in7 (i := 97) rfl rfl, mj_in7 (i := 98) rfl rfl⟩⟩
theorem mj_m204 : mj_mok 204 := ⟨mj_in7 (i := 123) rfl rfl, mj_in1 (i := 14) rfl rfl, ⟨mj_in7 (i := 121) rfl rfl, mj_in7 (i := 122) rfl rfl⟩⟩
theorem mj_m205 : mj_mok 205 := ⟨mj_in7 (i := 132) rfl rfl, mj_in1 (i := 14) rfl rfl, ⟨mj_in7 (i := 130) rfl rfl, mj_in7 (i := 131) rfl rfl⟩⟩
theorem mj_m206 : mj_mok 206 := ⟨mj_in7 (i := 136) rfl rfl, mj_in1 (i := 14) rfl rfl, ⟨mj_in7 (i := 134) rfl rfl, mj_in7 (i := 135) rfl rfl⟩⟩
theorem mj_m207 : mj_mok 207 := ⟨mj_in7 (i := 204) rfl rfl, mj_in1 (i := 14) rfl rfl, ⟨mj_in7 (i := 202) rfl rfl, mj_in7 (i := 203) rfl rfl⟩⟩
theorem mj_m208 : mj_mok 208 := ⟨mj_in7 (i := 209) rfl rfl, mj_in1 (i := 14) rfl rfl, ⟨mj_in7 (i := 207) rfl rfl, mj_in7 (i := 208) rfl rfl⟩⟩
theorem mj_m209 : mj_mok 209 := ⟨mj_in8 (i := 1) rfl rfl, mj_in1 (i := 14) rfl rfl, ⟨mj_in7 (i := 239) rfl rfl, mj_in8 (i := 0) rfl rfl⟩⟩
theorem mj_m210 : mj_mok 210 := ⟨mj_in8 (i := 9) rfl rfl, mj_in1 (i := 14) rfl rfl, ⟨mj_in8 (i := 8) rfl rfl, mj_ip7 (i := 12) rfl⟩⟩
theorem mj_m211 : mj_mok 211 := ⟨mj_in8 (i := 5) rfl rfl, mj_in1 (i := 14) rfl rfl, ⟨mj_in8 (i := 3) rfl rfl, mj_in8 (i := 4) rfl rfl⟩⟩
theorem mj_m212 : mj_mok 212 := ⟨mj_in8 (i := 13) rfl rfl, mj_in1 (i := 14) rfl rfl, ⟨mj_in8 (i := 11) rfl rfl, mj_in8 (i := 12) rfl rfl⟩⟩
theorem mj_m213 : mj_mok 213 := ⟨mj_in8 (i := 24) rfl rfl, mj_in1 (i := 14) rfl rfl, ⟨mj_in8 (i := 23) rfl rfl, mj_ip7 (i := 13) rfl⟩⟩
theorem mj_m214 : mj_mok 214 := ⟨mj_in8 (i := 17) rfl rfl, mj_in1 (i := 14) rfl rfl, ⟨mj_in8 (i := 15) rfl rfl, mj_in8 (i := 16) rfl rfl⟩⟩
theorem mj_m215 : mj_mok 215 := ⟨mj_in8 (i := 28) rfl rfl, mj_in1 (i := 14) rfl rfl, ⟨mj_in8 (i := 26) rfl rfl, mj_in8 (i := 27) rfl rfl⟩⟩
theorem mj_m216 : mj_mok 216 := ⟨mj_in8 (i := 36) rfl rfl, mj_in1 (i := 14) rfl rfl, ⟨mj_in8 (i := 35) rfl rfl, mj_ip7 (i := 14) rfl⟩⟩
theorem mj_m217 : mj_mok 217 := ⟨mj_in8 (i := 40) rfl rfl, mj_in1 (i := 14) rfl rfl, ⟨mj_in8 (i := 39) rfl rfl, mj_ip7 (i := 15) rfl⟩⟩
theorem mj_m218 : mj_mok 218 := ⟨mj_in8 (i := 32) rfl rfl, mj_in1 (i := 14) rfl rfl, ⟨mj_in8 (i := 30) rfl rfl, mj_in8 (i := 31) rfl rfl⟩⟩
theorem mj_m219 : mj_mok 219 := ⟨mj_in8 (i := 48) rfl rfl, mj_in1 (i := 14) rfl rfl, ⟨mj_in8 (i := 47) rfl rfl, mj_ip8 (i := 0) rfl⟩⟩
theorem mj_m220 : mj_mok 220 := ⟨mj_in8 (i := 44) rfl rfl, mj_in1 (i := 14) rfl rfl, ⟨mj_in8 (i := 42) rfl rfl, mj_in8 (i := 43) rfl rfl⟩⟩
theorem mj_m221 : mj_mok 221 := ⟨mj_in8 (i := 60) rfl rfl, mj_in1 (i := 14) rfl rfl, ⟨mj_in8 (i := 59) rfl rfl, mj_ip8 (i := 2) rfl⟩⟩
theorem mj_m222 : mj_mok 222 := ⟨mj_in8 (i := 56) rfl rfl, mj_in1 (i := 14) rfl rfl, ⟨mj_in8 (i := 55) rfl rfl, mj_ip8 (i := 1) rfl⟩⟩
theorem mj_m223 : mj_mok 223 := ⟨mj_in8 (i := 52) rfl rfl, mj_in1 (i := 14) rfl rfl, ⟨mj_in8 (i := 50) rfl rfl, mj_in8 (i := 51) rfl rfl⟩⟩
theorem mj_m224 : mj_mok 224 := ⟨mj_in8 (i := 68) rfl rfl, mj_in1 (i := 14) rfl rfl, ⟨mj_in8 (i := 67) rfl rfl, mj_ip8 (i := 3) rfl⟩⟩
theorem mj_m225 : mj_mok 225 := ⟨mj_in8 (i := 64) rfl rfl, mj_in1 (i := 14) rfl rfl, ⟨mj_in8 (i := 62) rfl rfl, mj_in8 (i := 63) rfl rfl⟩⟩
theorem mj_m226 : mj_mok 226 := ⟨mj_in8 (i := 84) rfl rfl, mj_in1 (i := 14) rfl rfl, ⟨mj_in8 (i := 83) rfl rfl, mj_ip8 (i := 5) rfl⟩⟩
theorem mj_m227 : mj_mok 227 := ⟨mj_in8 (i := 72) rfl rfl, mj_in1 (i := 14) rfl rfl, ⟨mj_in8 (i := 70) rfl rfl, mj_in8 (i := 71) rfl rfl⟩⟩
theorem mj_m228 : mj_mok 228 := ⟨mj_in8 (i := 80) rfl rfl, mj_in1 (i := 14) rfl rfl, ⟨mj_in8 (i := 79) rfl rfl, mj_ip8 (i := 4) rfl⟩⟩
theorem mj_m229 : mj_mok 229 := ⟨mj_in8 (i := 76) rfl rfl, mj_in1 (i := 14) rfl rfl, ⟨mj_in8 (i := 74) rfl rfl, mj_in8 (i := 75) rfl rfl⟩⟩
theorem mj_m230 : mj_mok 230 := ⟨mj_in8 (i := 88) rfl rfl, mj_in1 (i := 14) rfl rfl, ⟨mj_in8 (i := 86) rfl rfl, mj_in8 (i := 87) rfl rfl⟩⟩
theorem mj_m231 : mj_mok 231 := ⟨mj_in8 (i := 92) rfl rfl, mj_in1 (i := 14) rfl rfl, ⟨mj_in8 (i := 90) rfl rfl, mj_in8 (i := 91) rfl rfl⟩⟩
theorem mj_m232 : mj_mok 232 := ⟨mj_in8 (i := 96) rfl rfl, mj_in1 (i := 14) rfl rfl, ⟨mj_in8 (i := 94) rfl rfl, mj_in8 (i := 95) rfl rfl⟩⟩
theorem mj_m233 : mj_mok 233 := ⟨mj_in8 (i := 100) rfl rfl, mj_in1 (i := 14) rfl rfl, ⟨mj_in8 (i := 98) rfl rfl, mj_in8 (i := 99) rfl rfl⟩⟩
theorem mj_m234 : mj_mok 234 := ⟨mj_in8 (i := 104) rfl rfl, mj_in1 (i := 14) rfl rfl, ⟨mj_in8 (i := 102) rfl rfl, mj_in8 (i := 103) rfl rfl⟩⟩
theorem mj_m235 : mj_mok 235 := ⟨mj_in8 (i := 112) rfl rfl, mj_in1 (i := 14) rfl rfl, ⟨mj_in8 (i := 111) rfl rfl, mj_ip8 (i := 6) rfl⟩⟩
theorem mj_m236 : mj_mok 236 := ⟨mj_in8 (i := 108) rfl rfl, mj_in1 (i := 14) rfl rfl, ⟨mj_in8 (i := 106) rfl rfl, mj_in8 (i := 107) rfl rfl⟩⟩
theorem mj_m237 : mj_mok 237 := ⟨mj_in7 (i := 60) rfl rfl, mj_in1 (i := 14) rfl rfl, ⟨mj_in7 (i := 59) rfl rfl, mj_ip5 (i := 10) rfl⟩⟩
theorem mj_m238 : mj_mok 238 := ⟨mj_in7 (i := 44) rfl rfl, mj_in1 (i := 14) rfl rfl, ⟨mj_in7 (i := 43) rfl rfl, mj_ip5 (i := 6) rfl⟩⟩
theorem mj_m239 : mj_mok 239 := ⟨mj_in7 (i := 87) rfl rfl, mj_in1 (i := 14) rfl rfl, ⟨mj_in7 (i := 86) rfl rfl, mj_ip6 (i := 0) rfl⟩⟩
theorem mj_m240 : mj_mok 240 := ⟨mj_in7 (i := 68) rfl rfl, mj_in1 (i := 14) rfl rfl, ⟨mj_in7 (i := 67) rfl rfl, mj_ip5 (i := 12) rfl⟩⟩
theorem mj_m241 : mj_mok 241 := ⟨mj_in7 (i := 79) rfl rfl, mj_in1 (i := 14) rfl rfl, mj_in7 (i := 78) rfl rfl⟩
theorem mj_m242 : mj_mok 242 := ⟨mj_in7 (i := 76) rfl rfl, mj_in1 (i := 14) rfl rfl, ⟨mj_in7 (i := 75) rfl rfl, mj_ip5 (i := 14) rfl⟩⟩
theorem mj_m243 : mj_mok 243 := ⟨mj_in7 (i := 83) rfl rfl, mj_in1 (i := 14) rfl rfl, ⟨mj_in7 (i := 82) rfl rfl, mj_ip5 (i := 15) rfl⟩⟩
theorem mj_m244 : mj_mok 244 := ⟨mj_in7 (i := 36) rfl rfl, mj_in1 (i := 14) rfl rfl, ⟨mj_in7 (i := 35) rfl rfl, mj_ip5 (i := 4) rfl⟩⟩
theorem mj_m245 : mj_mok 245 := ⟨mj_in7 (i := 32) rfl rfl, mj_in1 (i := 14) rfl rfl, ⟨mj_in7 (i := 31) rfl rfl, mj_ip5 (i := 3) rfl⟩⟩
theorem mj_m246 : mj_mok 246 := ⟨mj_in7 (i := 56) rfl rfl, mj_in1 (i := 14) rfl rfl, ⟨mj_in7 (i := 55) rfl rfl, mj_ip5 (i := 9) rfl⟩⟩
theorem mj_m247 : mj_mok 247 := ⟨mj_in7 (i := 64) rfl rfl, mj_in1 (i := 14) rfl rfl, ⟨mj_in7 (i := 63) rfl rfl, mj_ip5 (i := 11) rfl⟩⟩
theorem mj_m248 : mj_mok 248 := ⟨mj_in7 (i := 28) rfl rfl, mj_in1 (i := 14) rfl rfl, ⟨mj_in7 (i := 27) rfl rfl, mj_ip5 (i := 2) rfl⟩⟩
theorem mj_m249 : mj_mok 249 := ⟨mj_in7 (i := 72) rfl rfl, mj_in1 (i := 14) rfl rfl, ⟨mj_in7 (i := 71) rfl rfl, mj_ip5 (i := 13) rfl⟩⟩
theorem mj_m250 : mj_mok 250 := ⟨mj_in7 (i := 24) rfl rfl, mj_in1 (i := 14) rfl rfl, ⟨mj_in7 (i := 23) rfl rfl, mj_ip5 (i := 1) rfl⟩⟩
theorem mj_m251 : mj_mok 251 := ⟨mj_in8 (i := 132) rfl rfl, mj_in1 (i := 14) rfl rfl, ⟨mj_in8 (i := 131) rfl rfl, mj_ip8 (i := 9) rfl⟩⟩
theorem mj_m252 : mj_mok 252 := ⟨mj_in8 (i := 144) rfl rfl, mj_in1 (i := 14) rfl rfl, ⟨mj_in8 (i := 143) rfl rfl, mj_ip8 (i := 12) rfl⟩⟩
theorem mj_m253 : mj_mok 253 := ⟨mj_in8 (i := 136) rfl rfl, mj_in1 (i := 14) rfl rfl, ⟨mj_in8 (i := 135) rfl rfl, mj_ip8 (i := 10) rfl⟩⟩
theorem mj_m254 : mj_mok 254 := ⟨mj_in8 (i := 128) rfl rfl, mj_in1 (i := 14) rfl rfl, ⟨mj_in8 (i := 127) rfl rfl, mj_ip8 (i := 8) rfl⟩⟩
theorem mj_m255 : mj_mok 255 := ⟨mj_in8 (i := 140) rfl rfl, mj_in1 (i := 14) rfl rfl, ⟨mj_in8 (i := 139) rfl rfl, mj_ip8 (i := 11) rfl⟩⟩
theorem mj_m256 : mj_mok 256 := ⟨mj_in7 (i := 187) rfl rfl, mj_in1 (i := 14) rfl rfl, mj_in7 (i := 186) rfl rfl⟩
theorem mj_m257 : mj_mok 257 := ⟨mj_in7 (i := 192) rfl rfl, mj_in1 (i := 14) rfl rfl, mj_in7 (i := 191) rfl rfl⟩
theorem mj_m258 : mj_mok 258 := ⟨mj_in7 (i := 160) rfl rfl, mj_in1 (i := 14) rfl rfl, ⟨mj_in7 (i := 159) rfl rfl, mj_ip6 (i := 13) rfl⟩⟩
theorem mj_m259 : mj_mok 259 := ⟨mj_in7 (i := 184) rfl rfl, mj_in1 (i := 14) rfl rfl, ⟨mj_in7 (i := 183) rfl rfl, mj_ip7 (i := 3) rfl⟩⟩
theorem mj_m260 : mj_mok 260 := ⟨mj_in7 (i := 164) rfl rfl, mj_in1 (i := 14) rfl rfl, ⟨mj_in7 (i := 163) rfl rfl, mj_ip6 (i := 14) rfl⟩⟩
theorem mj_m261 : mj_mok 261 := ⟨mj_in8 (i := 154) rfl rfl, mj_in1 (i := 14) rfl rfl, ⟨mj_in8 (i := 153) rfl rfl, mj_ip8 (i := 14) rfl⟩⟩
theorem mj_m262 : mj_mok 262 := ⟨mj_in8 (i := 150) rfl rfl, mj_in1 (i := 14) rfl rfl, ⟨mj_in8 (i := 149) rfl rfl, mj_ip8 (i := 13) rfl⟩⟩
theorem mj_m263 : mj_mok 263 := ⟨mj_in8 (i := 124) rfl rfl, mj_in1 (i := 14) rfl rfl, ⟨mj_in8 (i := 123) rfl rfl, mj_ip8 (i := 7) rfl⟩⟩
theorem mj_m264 : mj_mok 264 := ⟨mj_in8 (i := 158) rfl rfl, mj_in1 (i := 14) rfl rfl, ⟨mj_in8 (i := 157) rfl rfl, mj_ip8 (i := 15) rfl⟩⟩
theorem mj_m265 : mj_mok 265 := ⟨mj_in8 (i := 120) rfl rfl, mj_in1 (i := 14) rfl rfl, ⟨mj_in8 (i := 118) rfl rfl, mj_in8 (i := 119) rfl rfl⟩⟩
theorem mj_m266 : mj_mok 266 := ⟨mj_in8 (i := 169) rfl rfl, mj_in1 (i := 14) rfl rfl, mj_in8 (i := 168) rfl rfl⟩
theorem mj_m267 : mj_mok 267 := ⟨mj_in8 (i := 166) rfl rfl, mj_in1 (i := 14) rfl rfl, ⟨mj_in8 (i := 165) rfl rfl, mj_ip9 (i := 0) rfl⟩⟩
theorem mj_m268 : mj_mok 268 := ⟨mj_in8 (i := 162) rfl rfl, mj_in1 (i := 14) rfl rfl, ⟨mj_in8 (i := 160) rfl rfl, mj_in8 (i := 161) rfl rfl⟩⟩
theorem mj_m269 : mj_mok 269 := ⟨mj_in8 (i := 173) rfl rfl, mj_in1 (i := 14) rfl rfl, ⟨mj_in8 (i := 171) rfl rfl, mj_in8 (i := 172) rfl rfl⟩⟩
theorem mj_m270 : mj_mok 270 := ⟨mj_in8 (i := 181) rfl rfl, mj_in1 (i := 14) rfl rfl, ⟨mj_in8 (i := 180) rfl rfl, mj_ip9 (i := 1) rfl⟩⟩
theorem mj_m271 : mj_mok 271 := ⟨mj_in8 (i := 177) rfl rfl, mj_in1 (i := 14) rfl rfl, ⟨mj_in8 (i := 175) rfl rfl, mj_in8 (i := 176) rfl rfl⟩⟩
theorem mj_m272 : mj_mok 272 := ⟨mj_in8 (i := 185) rfl rfl, mj_in1 (i := 14) rfl rfl, ⟨mj_in8 (i := 183) rfl rfl, mj_in8 (i := 184) rfl rfl⟩⟩
theorem mj_m273 : mj_mok 273 := ⟨mj_in3 (i := 211) rfl rfl, mj_in1 (i := 21) rfl rfl, mj_in3 (i := 210) rfl rfl⟩
theorem mj_m274 : mj_mok 274 := ⟨mj_in4 (i := 23) rfl rfl, mj_in1 (i := 15) rfl rfl, mj_in4 (i := 22) rfl rfl⟩
theorem mj_m275 : mj_mok 275 := ⟨mj_in4 (i := 3) rfl rfl, mj_in1 (i := 15) rfl rfl, mj_in4 (i := 2) rfl rfl⟩
theorem mj_m276 : mj_mok 276 := ⟨mj_in4 (i := 31) rfl rfl, mj_in1 (i := 15) rfl rfl, mj_in4 (i := 30) rfl rfl⟩
theorem mj_m277 : mj_mok 277 := ⟨mj_in2 (i := 236) rfl rfl, mj_in1 (i := 15) rfl rfl, mj_in2 (i := 235) rfl rfl⟩
theorem mj_m278 : mj_mok 278 := ⟨mj_in4 (i := 28) rfl rfl, mj_in1 (i := 15) rfl rfl, mj_in4 (i := 27) rfl rfl⟩
theorem mj_m279 : mj_mok 279 := ⟨mj_in4 (i := 139) rfl rfl, mj_in1 (i := 9) rfl rfl, mj_in4 (i := 138) rfl rfl⟩
theorem mj_m280 : mj_mok 280 := ⟨mj_in2 (i := 18) rfl rfl, mj_in1 (i := 9) rfl rfl, mj_in2 (i := 17) rfl rfl⟩
theorem mj_m281 : mj_mok 281 := ⟨mj_in3 (i := 169) rfl rfl, mj_in1 (i := 5) rfl rfl, ⟨mj_in3 (i := 168) rfl rfl, mj_ip2 (i := 8) rfl⟩⟩
theorem mj_mk40 : ∀ y, y < 40 → mj_mok y := lt_s (lt_s (lt_s (lt_s (lt_s (lt_s (lt_s (lt_s (lt_s (lt_s (lt_s (lt_s (lt_s (lt_s (lt_s (lt_s (lt_s (lt_s (lt_s (lt_s (lt_s (lt_s (lt_s (lt_s (lt_s (lt_s (lt_s (lt_s (lt_s (lt_s (lt_s (lt_s (lt_s (lt_s (lt_s (lt_s (lt_s (lt_s (lt_s (lt_s (lt_0) mj_m0) mj_m1) mj_m2) mj_m3) mj_m4) mj_m5) mj_m6) mj_m7) mj_m8) mj_m9) mj_m10) mj_m11) mj_m12) mj_m13) mj_m14) mj_m15) mj_m16) mj_m17) mj_m18) mj_m19) mj_m20) mj_m21) mj_m22) mj_m23) mj_m24) mj_m25) mj_m26) mj_m27) mj_m28) mj_m29) mj_m30) mj_m31) mj_m32) mj_m33) mj_m34) mj_m35) mj_m36) mj_m37) mj_m38) mj_m39
theorem mj_mk80 : ∀ y, y < 80 → mj_mok y := lt_s (lt_s (lt_s (lt_s (lt_s (lt_s (lt_s (lt_s (lt_s (lt_s (lt_s (lt_s (lt_s (lt_s (lt_s (lt_s (lt_s (lt_s (lt_s (lt_s (lt_s (lt_s (lt_s (lt_s (lt_s (lt_s (lt_s (lt_s (lt_s (lt_s (lt_s (lt_s (lt_s (lt_s (lt_s (lt_s (lt_s (lt_s (lt_s (lt_s (mj_mk40) mj_m40) mj_m41) mj_m42) mj_m43) mj_m44) mj_m45) mj_m46) mj_m47) mj_m48) mj_m49) mj_m50) mj_m51) mj_m52) mj_m53) mj_m54) mj_m55) mj_m56) mj_m57) mj_m58) mj_m59) mj_m60) mj_m61) mj_m62) mj_m63) mj_m64) mj_m65) mj_m66) mj_m67) mj_m68) mj_m69) mj_m70) mj_m71) mj_m72) mj_m73) mj_m74) mj_m75) mj_m76) mj_m77) mj_m78) mj_m79
theorem mj_mk120 : ∀ y, y < 120 → mj_mok y := lt_s (lt_s (lt_s (lt_s (lt_s (lt_s (lt_s (lt_s (lt_s (lt_s (lt_s (lt_s (lt_s (lt_s (lt_s (lt_s (lt_s (lt_s (lt_s (lt_s (lt_s (lt_s (lt_s (lt_s (lt_s (lt_s (lt_s (lt_s (lt_s (lt_s (lt_s (lt_s (lt_s (lt_s (lt_s (lt_s (lt_s (lt_s (lt_s (lt_s (mj_mk80) mj_m80) mj_m81) mj_m82) mj_m83) mj_m84) mj_m85) mj_m86) mj_m87) mj_m88) mj_m89) mj_m90) mj_m91) mj_m92) mj_m93) mj_m94) mj_m95) mj_m96) mj_m97) mj_m98) mj_m99) mj_m100) mj_m101) mj_m102) mj_m103) mj_m104) mj_m105) mj_m106) mj_m107) mj_m108) mj_m109) mj_m110) mj_m111) mj_m112) mj_m113) mj_m114) mj_m115) mj_m116) mj_m117) mj_m118) mj_m119
theorem mj_mk160 : ∀ y, y < 160 → mj_mok y := lt_s (lt_s (lt_s (lt_s (lt_s (lt_s (lt_s (lt_s (lt_s (lt_s (lt_s (lt_s (lt_s (lt_s (lt_s (lt_s (lt_s (lt_s (lt_s (lt_s (lt_s (lt_s (lt_s (lt_s (lt_s (lt_s (lt_s (lt_s (lt_s (lt_s (lt_s (lt_s (lt_s (lt_s (lt_s (lt_s (lt_s (lt_s (lt_s (lt_s (mj_mk120) mj_m120) mj_m121) mj_m122) mj_m123) mj_m124) mj_m125) mj_m126) mj_m127) mj_m128) mj_m129) mj_m130) mj_m131) mj_m132) mj_m133) mj_m134) mj_m135) mj_m136) mj_m137) mj_m138) mj_m139) mj_m140) mj_m141) mj_m142) mj_m143) mj_m144) mj_m145) mj_m146) mj_m147) mj_m148) mj_m149) mj_m150) mj_m151) mj_m152) mj_m153) mj_m154) mj_m155) mj_m156) mj_m157) mj_m158) mj_m159
theorem mj_mk200 : ∀ y, y < 200 → mj_mok y := lt_s (lt_s (lt_s (lt_s (lt_s (lt_s (lt_s (lt_s (lt_s (lt_s (lt_s (lt_s (lt_s (lt_s (lt_s (lt_s (lt_s (lt_s (lt_s (lt_s (lt_s (lt_s (lt_s (lt_s (lt_s (lt_s (lt_s (lt_s (lt_s (lt_s (lt_s (lt_s (lt_s (lt_s (lt_s (lt_s (lt_s (lt_s (lt_s (lt_s (mj_mk160) mj_m160) mj_m161) mj_m162) mj_m163) mj_m164) mj_m165) mj_m166) mj_m167) mj_m168) mj_m169) mj_m170) mj_m171) mj_m172) mj_m173) mj_m174) mj_m175) mj_m176) mj_m177) mj_m178) mj_m179) mj_m180) mj_m181) mj_m182) mj_m183) mj_m184) mj_m185) mj_m186) mj_m187) mj_m188) mj_m189) mj_m190) mj_m191) mj_m192) mj_m193) mj_m194) mj_m195) mj_m196) mj_m197) mj_m198) mj_m199
theorem mj_mk240 : ∀ y, y < 240 → mj_mok y := lt_s (lt_s (lt_s (lt_s (lt_s (lt_s (lt_s (lt_s (lt_s (lt_s (lt_s (lt_s (lt_s (lt_s (lt_s (lt_s (lt_s (lt_s (lt_s (lt_s (lt_s (lt_s (lt_s (lt_s (lt_s (lt_s (lt_s (lt_s (lt_s (lt_s (lt_s (lt_s (lt_s (lt_s (lt_s (lt_s (lt_s (lt_s (lt_s (lt_s (mj_mk200) mj_m200) mj_m201) mj_m202) mj_m203) mj_m204) mj_m205) mj_m206) mj_m207) mj_m208) mj_m209) mj_m210) mj_m211) mj_m212) mj_m213) mj_m214) mj_m215) mj_m216) mj_m217) mj_m218) mj_m219) mj_m220) mj_m221) mj_m222) mj_m223) mj_m224) mj_m225) mj_m226) mj_m227) mj_m228) mj_m229) mj_m230) mj_m231) mj_m232) mj_m233) mj_m234) mj_m235) mj_m236) mj_m237) mj_m238) mj_m239
theorem mj_mk280 : ∀ y, y < 280 → mj_mok y := lt_s (lt_s (lt_s (lt_s (lt_s (lt_s (lt_s (lt_s (lt_s (lt_s (lt_s (lt_s (lt_s (lt_s (lt_s (lt_s (lt_s (lt_s (lt_s (lt_s (lt_s (lt_s (lt_s (lt_s (lt_s (lt_s (lt_s (lt_s (lt_s (lt_s (lt_s (lt_s (lt_s (lt_s (lt_s (lt_s (lt_s (lt_s (lt_s (lt_s (mj_mk240) mj_m240) mj_m241) mj_m242) mj_m243) mj_m244) mj_m245) mj_m246) mj_m247) mj_m248) mj_m249) mj_m250) mj_m251) mj_m252) mj_m253) mj_m254) mj_m255) mj_m256) mj_m257) mj_m258) mj_m259) mj_m260) mj_m261) mj_m262) mj_m263) mj_m264) mj_m265) mj_m266) mj_m267) mj_m268) mj_m269) mj_m270) mj_m271) mj_m272) mj_m273) mj_m274) mj_m275) mj_m276) mj_m277) mj_m278) mj_m279
theorem mj_mk282 : ∀ y, y < 282 → mj_mok y := lt_s (lt_s (mj_mk280) mj_m280) mj_m281
theorem mj_moB_all : ∀ y, y < 282 → mj_moB y = true := by decide +kernel
