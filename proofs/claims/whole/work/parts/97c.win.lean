/-! The law's rows, by windows of its bytes. -/
set_option maxRecDepth 1000000 in
theorem rk420_0 : (p420_0).all (rowC 420) = true := by decide +kernel
def wb_1 : List UInt8 := [159, 0, 5, 3, 172, 167, 17, 239, 43, 42, 21, 4, 4, 96, 46, 42, 21, 4, 5, 96, 46, 42, 21, 4, 6, 96, 46, 45, 184, 0, 205, 54, 5, 44, 42, 21, 4, 4, 96, 46, 42, 21, 4, 5, 96, 46, 42, 21, 4, 6, 96, 46, 182, 0, 208, 54, 6, 44, 182, 0, 202, 21, 5, 159, 0, 5, 3, 172, 21, 5, 154, 0, 15, 45, 3, 47, 21, 6, 133, 148, 153, 0, 5, 3, 172, 167, 17, 159, 43, 45, 184, 0, 209, 54, 5, 44]
set_option maxRecDepth 1000000 in
theorem wb_1_ok : ((cO 420).data.toList.drop 321).take 96 = wb_1 := by decide +kernel
set_option maxRecDepth 1000000 in
theorem wb_1_all : (p420_1).all (fun r => winC ⟨⟨wb_1⟩⟩ 321 96 r && restC 420 r) = true := by decide +kernel
theorem rk420_1 : (p420_1).all (rowC 420) = true := rows_win wb_1_ok wb_1_all
def wb_2 : List UInt8 := [182, 0, 212, 54, 6, 44, 182, 0, 202, 21, 5, 159, 0, 5, 3, 172, 21, 5, 154, 0, 15, 45, 3, 47, 21, 6, 133, 148, 153, 0, 5, 3, 172, 167, 17, 115, 43, 42, 21, 4, 4, 96, 46, 42, 21, 4, 5, 96, 46, 42, 21, 4, 6, 96, 46, 184, 0, 213, 54, 5, 44, 42, 21, 4, 4, 96, 46, 42, 21, 4, 5, 96, 46, 42, 21, 4, 6, 96, 46, 182, 0, 215, 87, 44, 182, 0, 202, 21, 5, 159, 0, 5, 3, 172, 167, 17, 54, 43]
set_option maxRecDepth 1000000 in
theorem wb_2_ok : ((cO 420).data.toList.drop 417).take 98 = wb_2 := by decide +kernel
set_option maxRecDepth 1000000 in
theorem wb_2_all : (p420_2).all (fun r => winC ⟨⟨wb_2⟩⟩ 417 98 r && restC 420 r) = true := by decide +kernel
theorem rk420_2 : (p420_2).all (rowC 420) = true := rows_win wb_2_ok wb_2_all
def wb_3 : List UInt8 := [42, 21, 4, 4, 96, 46, 42, 21, 4, 5, 96, 46, 184, 0, 217, 54, 5, 44, 42, 21, 4, 4, 96, 46, 42, 21, 4, 5, 96, 46, 182, 0, 220, 87, 44, 182, 0, 202, 21, 5, 159, 0, 5, 3, 172, 167, 17, 5, 43, 42, 21, 4, 4, 96, 46, 42, 21, 4, 5, 96, 46, 45, 184, 0, 222, 54, 5, 44, 42, 21, 4, 4, 96, 46, 42, 21, 4, 5, 96, 46, 182, 0, 225, 54, 6, 44, 182, 0, 202, 21, 5, 159, 0, 5, 3]
set_option maxRecDepth 1000000 in
theorem wb_3_ok : ((cO 420).data.toList.drop 515).take 95 = wb_3 := by decide +kernel
set_option maxRecDepth 1000000 in
theorem wb_3_all : (p420_3).all (fun r => winC ⟨⟨wb_3⟩⟩ 515 95 r && restC 420 r) = true := by decide +kernel
theorem rk420_3 : (p420_3).all (rowC 420) = true := rows_win wb_3_ok wb_3_all
def wb_4 : List UInt8 := [172, 21, 5, 154, 0, 15, 45, 3, 47, 21, 6, 133, 148, 153, 0, 5, 3, 172, 167, 16, 193, 43, 42, 21, 4, 4, 96, 46, 42, 21, 4, 5, 96, 46, 153, 0, 7, 4, 167, 0, 4, 3, 42, 21, 4, 6, 96, 46, 153, 0, 7, 4, 167, 0, 4, 3, 45, 184, 0, 226, 54, 5, 44, 42, 21, 4, 4, 96, 46, 42, 21, 4, 5, 96, 46, 153, 0, 7, 4, 167, 0, 4, 3, 42, 21, 4, 6, 96, 46, 153, 0, 7, 4, 167, 0, 4, 3]
set_option maxRecDepth 1000000 in
theorem wb_4_ok : ((cO 420).data.toList.drop 610).take 97 = wb_4 := by decide +kernel
set_option maxRecDepth 1000000 in
theorem wb_4_all : (p420_4).all (fun r => winC ⟨⟨wb_4⟩⟩ 610 97 r && restC 420 r) = true := by decide +kernel
theorem rk420_4 : (p420_4).all (rowC 420) = true := rows_win wb_4_ok wb_4_all
def wb_5 : List UInt8 := [182, 0, 229, 55, 6, 44, 182, 0, 202, 21, 5, 159, 0, 5, 3, 172, 21, 5, 154, 0, 14, 45, 3, 47, 22, 6, 148, 153, 0, 5, 3, 172, 167, 16, 82, 43, 42, 21, 4, 4, 96, 46, 45, 184, 0, 230, 54, 5, 44, 42, 21, 4, 4, 96, 46, 182, 0, 233, 54, 6, 44, 182, 0, 202, 21, 5, 159, 0, 5, 3, 172, 21, 5, 154, 0, 22, 45, 3, 47, 21, 6, 153, 0, 7, 10, 167, 0, 4, 9, 148, 153, 0, 5, 3, 172, 167, 16, 19, 43, 42, 21, 4, 4, 96, 46, 42]
set_option maxRecDepth 1000000 in
theorem wb_5_ok : ((cO 420).data.toList.drop 707).take 106 = wb_5 := by decide +kernel
set_option maxRecDepth 1000000 in
theorem wb_5_all : (p420_5).all (fun r => winC ⟨⟨wb_5⟩⟩ 707 106 r && restC 420 r) = true := by decide +kernel
theorem rk420_5 : (p420_5).all (rowC 420) = true := rows_win wb_5_ok wb_5_all
def wb_6 : List UInt8 := [21, 4, 5, 96, 46, 153, 0, 7, 4, 167, 0, 4, 3, 45, 184, 0, 234, 54, 5, 44, 42, 21, 4, 4, 96, 46, 42, 21, 4, 5, 96, 46, 153, 0, 7, 4, 167, 0, 4, 3, 182, 0, 237, 55, 6, 44, 182, 0, 202, 21, 5, 159, 0, 5, 3, 172, 21, 5, 154, 0, 14, 45, 3, 47, 22, 6, 148, 153, 0, 5, 3, 172, 167, 15, 192, 43, 42, 21, 4, 4, 96, 46, 42, 21, 4, 5, 96, 46, 153, 0, 7, 4, 167, 0, 4, 3, 45, 184, 0, 238, 54, 5, 44]
set_option maxRecDepth 1000000 in
theorem wb_6_ok : ((cO 420).data.toList.drop 813).take 103 = wb_6 := by decide +kernel
set_option maxRecDepth 1000000 in
theorem wb_6_all : (p420_6).all (fun r => winC ⟨⟨wb_6⟩⟩ 813 103 r && restC 420 r) = true := by decide +kernel
theorem rk420_6 : (p420_6).all (rowC 420) = true := rows_win wb_6_ok wb_6_all
def wb_7 : List UInt8 := [42, 21, 4, 4, 96, 46, 42, 21, 4, 5, 96, 46, 153, 0, 7, 4, 167, 0, 4, 3, 182, 0, 240, 54, 6, 44, 182, 0, 202, 21, 5, 159, 0, 5, 3, 172, 21, 5, 154, 0, 15, 45, 3, 47, 21, 6, 133, 148, 153, 0, 5, 3, 172, 167, 15, 108, 43, 42, 21, 4, 4, 96, 46, 42, 21, 4, 5, 96, 46, 153, 0, 7, 4, 167, 0, 4, 3, 45, 184, 0, 241, 54, 5, 44, 42, 21, 4, 4, 96, 46, 42, 21, 4, 5, 96, 46, 153, 0, 7]
set_option maxRecDepth 1000000 in
theorem wb_7_ok : ((cO 420).data.toList.drop 916).take 99 = wb_7 := by decide +kernel
set_option maxRecDepth 1000000 in
theorem wb_7_all : (p420_7).all (fun r => winC ⟨⟨wb_7⟩⟩ 916 99 r && restC 420 r) = true := by decide +kernel
theorem rk420_7 : (p420_7).all (rowC 420) = true := rows_win wb_7_ok wb_7_all
def wb_8 : List UInt8 := [4, 167, 0, 4, 3, 182, 0, 243, 54, 6, 44, 182, 0, 202, 21, 5, 159, 0, 5, 3, 172, 21, 5, 154, 0, 22, 45, 3, 47, 21, 6, 153, 0, 7, 10, 167, 0, 4, 9, 148, 153, 0, 5, 3, 172, 167, 15, 17, 43, 42, 21, 4, 4, 96, 46, 42, 21, 4, 5, 96, 46, 42, 21, 4, 6, 96, 46, 153, 0, 7, 4, 167, 0, 4, 3, 45, 184, 0, 244, 54, 5, 44, 42, 21, 4, 4, 96, 46, 42, 21, 4, 5, 96, 46, 42, 21, 4, 6, 96]
set_option maxRecDepth 1000000 in
theorem wb_8_ok : ((cO 420).data.toList.drop 1015).take 99 = wb_8 := by decide +kernel
set_option maxRecDepth 1000000 in
theorem wb_8_all : (p420_8).all (fun r => winC ⟨⟨wb_8⟩⟩ 1015 99 r && restC 420 r) = true := by decide +kernel
theorem rk420_8 : (p420_8).all (rowC 420) = true := rows_win wb_8_ok wb_8_all
def wb_9 : List UInt8 := [46, 153, 0, 7, 4, 167, 0, 4, 3, 182, 0, 247, 54, 6, 44, 182, 0, 202, 21, 5, 159, 0, 5, 3, 172, 21, 5, 154, 0, 15, 45, 3, 47, 21, 6, 133, 148, 153, 0, 5, 3, 172, 167, 14, 177, 43, 42, 21, 4, 4, 96, 46, 42, 21, 4, 5, 96, 46, 42, 21, 4, 6, 96, 46, 42, 21, 4, 7, 96, 46, 153, 0, 7, 4, 167, 0, 4, 3, 45, 184, 0, 248, 54, 5, 44, 42, 21, 4, 4, 96, 46, 42, 21, 4, 5, 96, 46]
set_option maxRecDepth 1000000 in
theorem wb_9_ok : ((cO 420).data.toList.drop 1114).take 97 = wb_9 := by decide +kernel
set_option maxRecDepth 1000000 in
theorem wb_9_all : (p420_9).all (fun r => winC ⟨⟨wb_9⟩⟩ 1114 97 r && restC 420 r) = true := by decide +kernel
theorem rk420_9 : (p420_9).all (rowC 420) = true := rows_win wb_9_ok wb_9_all
def wb_10 : List UInt8 := [42, 21, 4, 6, 96, 46, 42, 21, 4, 7, 96, 46, 153, 0, 7, 4, 167, 0, 4, 3, 182, 0, 251, 54, 6, 44, 182, 0, 202, 21, 5, 159, 0, 5, 3, 172, 21, 5, 154, 0, 15, 45, 3, 47, 21, 6, 133, 148, 153, 0, 5, 3, 172, 167, 14, 69, 43, 42, 21, 4, 4, 96, 46, 42, 21, 4, 5, 96, 46, 42, 21, 4, 6, 96, 46, 42, 21, 4, 7, 96, 46, 42, 21, 4, 8, 96, 46, 153, 0, 7, 4, 167, 0, 4, 3]
set_option maxRecDepth 1000000 in
theorem wb_10_ok : ((cO 420).data.toList.drop 1211).take 95 = wb_10 := by decide +kernel
set_option maxRecDepth 1000000 in
theorem wb_10_all : (p420_10).all (fun r => winC ⟨⟨wb_10⟩⟩ 1211 95 r && restC 420 r) = true := by decide +kernel
theorem rk420_10 : (p420_10).all (rowC 420) = true := rows_win wb_10_ok wb_10_all
def wb_11 : List UInt8 := [45, 184, 0, 252, 54, 5, 44, 42, 21, 4, 4, 96, 46, 42, 21, 4, 5, 96, 46, 42, 21, 4, 6, 96, 46, 42, 21, 4, 7, 96, 46, 42, 21, 4, 8, 96, 46, 153, 0, 7, 4, 167, 0, 4, 3, 182, 0, 255, 54, 6, 44, 182, 0, 202, 21, 5, 159, 0, 5, 3, 172, 21, 5, 154, 0, 15, 45, 3, 47, 21, 6, 133, 148, 153, 0, 5, 3, 172, 167, 13, 205, 43, 42, 21, 4, 4, 96, 46, 42, 21, 4, 5, 96, 46]
set_option maxRecDepth 1000000 in
theorem wb_11_ok : ((cO 420).data.toList.drop 1306).take 94 = wb_11 := by decide +kernel
set_option maxRecDepth 1000000 in
theorem wb_11_all : (p420_11).all (fun r => winC ⟨⟨wb_11⟩⟩ 1306 94 r && restC 420 r) = true := by decide +kernel
theorem rk420_11 : (p420_11).all (rowC 420) = true := rows_win wb_11_ok wb_11_all
def wb_12 : List UInt8 := [42, 21, 4, 6, 96, 46, 42, 21, 4, 7, 96, 46, 45, 184, 1, 0, 54, 5, 44, 42, 21, 4, 4, 96, 46, 42, 21, 4, 5, 96, 46, 42, 21, 4, 6, 96, 46, 42, 21, 4, 7, 96, 46, 182, 1, 3, 54, 6, 44, 182, 0, 202, 21, 5, 159, 0, 5, 3, 172, 21, 5, 154, 0, 15, 45, 3, 47, 21, 6, 133, 148, 153, 0, 5, 3, 172, 167, 13, 113, 43, 42, 21, 4, 4, 96, 46, 42, 21, 4, 5, 96]
set_option maxRecDepth 1000000 in
theorem wb_12_ok : ((cO 420).data.toList.drop 1400).take 91 = wb_12 := by decide +kernel
set_option maxRecDepth 1000000 in
theorem wb_12_all : (p420_12).all (fun r => winC ⟨⟨wb_12⟩⟩ 1400 91 r && restC 420 r) = true := by decide +kernel
theorem rk420_12 : (p420_12).all (rowC 420) = true := rows_win wb_12_ok wb_12_all
def wb_13 : List UInt8 := [46, 153, 0, 7, 4, 167, 0, 4, 3, 45, 184, 1, 4, 54, 5, 44, 42, 21, 4, 4, 96, 46, 42, 21, 4, 5, 96, 46, 153, 0, 7, 4, 167, 0, 4, 3, 182, 1, 6, 54, 6, 44, 182, 0, 202, 21, 5, 159, 0, 5, 3, 172, 21, 5, 154, 0, 15, 45, 3, 47, 21, 6, 133, 148, 153, 0, 5, 3, 172, 167, 13, 29, 43, 42, 21, 4, 4, 96, 46, 42, 21, 4, 5, 96, 46, 153, 0, 7, 4, 167, 0, 4, 3, 42, 21, 4, 6, 96, 46, 45]
set_option maxRecDepth 1000000 in
theorem wb_13_ok : ((cO 420).data.toList.drop 1491).take 100 = wb_13 := by decide +kernel
set_option maxRecDepth 1000000 in
theorem wb_13_all : (p420_13).all (fun r => winC ⟨⟨wb_13⟩⟩ 1491 100 r && restC 420 r) = true := by decide +kernel
theorem rk420_13 : (p420_13).all (rowC 420) = true := rows_win wb_13_ok wb_13_all
def wb_14 : List UInt8 := [184, 1, 7, 54, 5, 44, 42, 21, 4, 4, 96, 46, 42, 21, 4, 5, 96, 46, 153, 0, 7, 4, 167, 0, 4, 3, 42, 21, 4, 6, 96, 46, 182, 1, 10, 54, 6, 44, 182, 0, 202, 21, 5, 159, 0, 5, 3, 172, 21, 5, 154, 0, 22, 45, 3, 47, 21, 6, 153, 0, 7, 10, 167, 0, 4, 9, 148, 153, 0, 5, 3, 172, 167, 12, 182, 43, 42, 21, 4, 4, 96, 46, 42, 21, 4, 5, 96, 46, 153, 0, 7, 4, 167, 0, 4, 3, 42, 21, 4, 6, 96]
set_option maxRecDepth 1000000 in
theorem wb_14_ok : ((cO 420).data.toList.drop 1591).take 101 = wb_14 := by decide +kernel
set_option maxRecDepth 1000000 in
theorem wb_14_all : (p420_14).all (fun r => winC ⟨⟨wb_14⟩⟩ 1591 101 r && restC 420 r) = true := by decide +kernel
theorem rk420_14 : (p420_14).all (rowC 420) = true := rows_win wb_14_ok wb_14_all
def wb_15 : List UInt8 := [46, 42, 21, 4, 7, 96, 46, 153, 0, 7, 4, 167, 0, 4, 3, 45, 184, 1, 11, 54, 5, 44, 42, 21, 4, 4, 96, 46, 42, 21, 4, 5, 96, 46, 153, 0, 7, 4, 167, 0, 4, 3, 42, 21, 4, 6, 96, 46, 42, 21, 4, 7, 96, 46, 153, 0, 7, 4, 167, 0, 4, 3, 182, 1, 14, 55, 6, 44, 182, 0, 202, 21, 5, 159, 0, 5, 3, 172, 21, 5, 154, 0, 14, 45, 3, 47, 22, 6, 148, 153, 0, 5, 3, 172, 167, 12, 59, 43, 42, 21, 4]
set_option maxRecDepth 1000000 in
theorem wb_15_ok : ((cO 420).data.toList.drop 1692).take 101 = wb_15 := by decide +kernel
set_option maxRecDepth 1000000 in
theorem wb_15_all : (p420_15).all (fun r => winC ⟨⟨wb_15⟩⟩ 1692 101 r && restC 420 r) = true := by decide +kernel
theorem rk420_15 : (p420_15).all (rowC 420) = true := rows_win wb_15_ok wb_15_all
def wb_16 : List UInt8 := [4, 96, 46, 42, 21, 4, 5, 96, 46, 153, 0, 7, 4, 167, 0, 4, 3, 42, 21, 4, 6, 96, 46, 45, 184, 1, 15, 54, 5, 44, 42, 21, 4, 4, 96, 46, 42, 21, 4, 5, 96, 46, 153, 0, 7, 4, 167, 0, 4, 3, 42, 21, 4, 6, 96, 46, 182, 1, 17, 55, 6, 44, 182, 0, 202, 21, 5, 159, 0, 5, 3, 172, 21, 5, 154, 0, 14, 45, 3, 47, 22, 6, 148, 153, 0, 5, 3, 172, 167, 11, 220, 43, 42, 21, 4, 4, 96]
set_option maxRecDepth 1000000 in
theorem wb_16_ok : ((cO 420).data.toList.drop 1793).take 97 = wb_16 := by decide +kernel
set_option maxRecDepth 1000000 in
theorem wb_16_all : (p420_16).all (fun r => winC ⟨⟨wb_16⟩⟩ 1793 97 r && restC 420 r) = true := by decide +kernel
theorem rk420_16 : (p420_16).all (rowC 420) = true := rows_win wb_16_ok wb_16_all
