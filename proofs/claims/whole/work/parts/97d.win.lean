/-! The law's rows, by windows of its bytes. -/
def wb_17 : List UInt8 := [46, 42, 21, 4, 5, 96, 46, 153, 0, 7, 4, 167, 0, 4, 3, 42, 21, 4, 6, 96, 46, 42, 21, 4, 7, 96, 46, 153, 0, 7, 4, 167, 0, 4, 3, 45, 184, 1, 18, 54, 5, 44, 42, 21, 4, 4, 96, 46, 42, 21, 4, 5, 96, 46, 153, 0, 7, 4, 167, 0, 4, 3, 42, 21, 4, 6, 96, 46, 42, 21, 4, 7, 96, 46, 153, 0, 7, 4, 167, 0, 4, 3, 182, 1, 20, 55, 6, 44, 182, 0, 202, 21, 5, 159, 0, 5, 3, 172]
set_option maxRecDepth 1000000 in
theorem wb_17_ok : ((cO 420).data.toList.drop 1890).take 98 = wb_17 := by decide +kernel
set_option maxRecDepth 1000000 in
theorem wb_17_all : (p420_17).all (fun r => winC ⟨⟨wb_17⟩⟩ 1890 98 r && restC 420 r) = true := by decide +kernel
theorem rk420_17 : (p420_17).all (rowC 420) = true := rows_win wb_17_ok wb_17_all
def wb_18 : List UInt8 := [21, 5, 154, 0, 14, 45, 3, 47, 22, 6, 148, 153, 0, 5, 3, 172, 167, 11, 97, 43, 42, 21, 4, 4, 96, 46, 42, 21, 4, 5, 96, 46, 153, 0, 7, 4, 167, 0, 4, 3, 42, 21, 4, 6, 96, 46, 153, 0, 7, 4, 167, 0, 4, 3, 45, 184, 1, 21, 54, 5, 44, 42, 21, 4, 4, 96, 46, 42, 21, 4, 5, 96, 46, 153, 0, 7, 4, 167, 0, 4, 3, 42, 21, 4, 6, 96, 46, 153, 0, 7, 4, 167, 0, 4, 3, 182, 1, 23, 55, 6]
set_option maxRecDepth 1000000 in
theorem wb_18_ok : ((cO 420).data.toList.drop 1988).take 100 = wb_18 := by decide +kernel
set_option maxRecDepth 1000000 in
theorem wb_18_all : (p420_18).all (fun r => winC ⟨⟨wb_18⟩⟩ 1988 100 r && restC 420 r) = true := by decide +kernel
theorem rk420_18 : (p420_18).all (rowC 420) = true := rows_win wb_18_ok wb_18_all
def wb_19 : List UInt8 := [44, 182, 0, 202, 21, 5, 159, 0, 5, 3, 172, 21, 5, 154, 0, 14, 45, 3, 47, 22, 6, 148, 153, 0, 5, 3, 172, 167, 10, 242, 43, 42, 21, 4, 4, 96, 46, 42, 21, 4, 5, 96, 46, 153, 0, 7, 4, 167, 0, 4, 3, 42, 21, 4, 6, 96, 46, 45, 184, 1, 24, 54, 5, 44, 42, 21, 4, 4, 96, 46, 42, 21, 4, 5, 96, 46, 153, 0, 7, 4, 167, 0, 4, 3, 42, 21, 4, 6, 96, 46, 182, 1, 26, 54, 6, 44, 182, 0, 202]
set_option maxRecDepth 1000000 in
theorem wb_19_ok : ((cO 420).data.toList.drop 2088).take 99 = wb_19 := by decide +kernel
set_option maxRecDepth 1000000 in
theorem wb_19_all : (p420_19).all (fun r => winC ⟨⟨wb_19⟩⟩ 2088 99 r && restC 420 r) = true := by decide +kernel
theorem rk420_19 : (p420_19).all (rowC 420) = true := rows_win wb_19_ok wb_19_all
def wb_20 : List UInt8 := [21, 5, 159, 0, 5, 3, 172, 21, 5, 154, 0, 15, 45, 3, 47, 21, 6, 133, 148, 153, 0, 5, 3, 172, 167, 10, 146, 43, 42, 21, 4, 4, 96, 46, 153, 0, 7, 4, 167, 0, 4, 3, 42, 21, 4, 5, 96, 46, 42, 21, 4, 6, 96, 46, 153, 0, 7, 4, 167, 0, 4, 3, 45, 184, 1, 27, 54, 5, 44, 42, 21, 4, 4, 96, 46, 153, 0, 7, 4, 167, 0, 4, 3, 42, 21, 4, 5, 96, 46, 42, 21, 4, 6, 96, 46, 153, 0, 7]
set_option maxRecDepth 1000000 in
theorem wb_20_ok : ((cO 420).data.toList.drop 2187).take 98 = wb_20 := by decide +kernel
set_option maxRecDepth 1000000 in
theorem wb_20_all : (p420_20).all (fun r => winC ⟨⟨wb_20⟩⟩ 2187 98 r && restC 420 r) = true := by decide +kernel
theorem rk420_20 : (p420_20).all (rowC 420) = true := rows_win wb_20_ok wb_20_all
def wb_21 : List UInt8 := [4, 167, 0, 4, 3, 182, 1, 30, 54, 6, 44, 182, 0, 202, 21, 5, 159, 0, 5, 3, 172, 21, 5, 154, 0, 15, 45, 3, 47, 21, 6, 133, 148, 153, 0, 5, 3, 172, 167, 10, 34, 43, 42, 21, 4, 4, 96, 46, 42, 21, 4, 5, 96, 46, 153, 0, 7, 4, 167, 0, 4, 3, 42, 21, 4, 6, 96, 46, 153, 0, 7, 4, 167, 0, 4, 3, 45, 184, 1, 31, 54, 5, 44, 42, 21, 4, 4, 96, 46, 42, 21, 4, 5, 96, 46, 153, 0, 7, 4, 167, 0, 4]
set_option maxRecDepth 1000000 in
theorem wb_21_ok : ((cO 420).data.toList.drop 2285).take 102 = wb_21 := by decide +kernel
set_option maxRecDepth 1000000 in
theorem wb_21_all : (p420_21).all (fun r => winC ⟨⟨wb_21⟩⟩ 2285 102 r && restC 420 r) = true := by decide +kernel
theorem rk420_21 : (p420_21).all (rowC 420) = true := rows_win wb_21_ok wb_21_all
def wb_22 : List UInt8 := [3, 42, 21, 4, 6, 96, 46, 153, 0, 7, 4, 167, 0, 4, 3, 182, 1, 33, 55, 6, 44, 182, 0, 202, 21, 5, 159, 0, 5, 3, 172, 21, 5, 154, 0, 14, 45, 3, 47, 22, 6, 148, 153, 0, 5, 3, 172, 167, 9, 179, 43, 42, 21, 4, 4, 96, 46, 42, 21, 4, 5, 96, 46, 42, 21, 4, 6, 96, 46, 153, 0, 7, 4, 167, 0, 4, 3, 45, 184, 1, 34, 54, 5, 44, 42, 21, 4, 4, 96, 46, 42, 21, 4, 5, 96, 46, 42]
set_option maxRecDepth 1000000 in
theorem wb_22_ok : ((cO 420).data.toList.drop 2387).take 97 = wb_22 := by decide +kernel
set_option maxRecDepth 1000000 in
theorem wb_22_all : (p420_22).all (fun r => winC ⟨⟨wb_22⟩⟩ 2387 97 r && restC 420 r) = true := by decide +kernel
theorem rk420_22 : (p420_22).all (rowC 420) = true := rows_win wb_22_ok wb_22_all
def wb_23 : List UInt8 := [21, 4, 6, 96, 46, 153, 0, 7, 4, 167, 0, 4, 3, 182, 1, 36, 54, 6, 44, 182, 0, 202, 21, 5, 159, 0, 5, 3, 172, 21, 5, 154, 0, 15, 45, 3, 47, 21, 6, 133, 148, 153, 0, 5, 3, 172, 167, 9, 83, 43, 42, 21, 4, 4, 96, 46, 42, 21, 4, 5, 96, 46, 153, 0, 7, 4, 167, 0, 4, 3, 42, 21, 4, 6, 96, 46, 42, 21, 4, 7, 96, 46, 45, 184, 1, 37, 54, 5, 44, 42, 21, 4, 4, 96, 46, 42, 21, 4]
set_option maxRecDepth 1000000 in
theorem wb_23_ok : ((cO 420).data.toList.drop 2484).take 98 = wb_23 := by decide +kernel
set_option maxRecDepth 1000000 in
theorem wb_23_all : (p420_23).all (fun r => winC ⟨⟨wb_23⟩⟩ 2484 98 r && restC 420 r) = true := by decide +kernel
theorem rk420_23 : (p420_23).all (rowC 420) = true := rows_win wb_23_ok wb_23_all
def wb_24 : List UInt8 := [5, 96, 46, 153, 0, 7, 4, 167, 0, 4, 3, 42, 21, 4, 6, 96, 46, 42, 21, 4, 7, 96, 46, 182, 1, 40, 54, 6, 44, 182, 0, 202, 21, 5, 159, 0, 5, 3, 172, 21, 5, 154, 0, 15, 45, 3, 47, 21, 6, 133, 148, 153, 0, 5, 3, 172, 167, 8, 231, 43, 42, 21, 4, 4, 96, 46, 42, 21, 4, 5, 96, 46, 153, 0, 7, 4, 167, 0, 4, 3, 42, 21, 4, 6, 96, 46, 42, 21, 4, 7, 96, 46, 42, 21, 4]
set_option maxRecDepth 1000000 in
theorem wb_24_ok : ((cO 420).data.toList.drop 2582).take 95 = wb_24 := by decide +kernel
set_option maxRecDepth 1000000 in
theorem wb_24_all : (p420_24).all (fun r => winC ⟨⟨wb_24⟩⟩ 2582 95 r && restC 420 r) = true := by decide +kernel
theorem rk420_24 : (p420_24).all (rowC 420) = true := rows_win wb_24_ok wb_24_all
def wb_25 : List UInt8 := [8, 96, 46, 42, 21, 4, 16, 6, 96, 46, 153, 0, 7, 4, 167, 0, 4, 3, 42, 21, 4, 16, 7, 96, 46, 153, 0, 7, 4, 167, 0, 4, 3, 45, 184, 1, 41, 54, 5, 44, 42, 21, 4, 4, 96, 46, 42, 21, 4, 5, 96, 46, 153, 0, 7, 4, 167, 0, 4, 3, 42, 21, 4, 6, 96, 46, 42, 21, 4, 7, 96, 46, 42, 21, 4, 8, 96, 46, 42, 21, 4, 16, 6, 96, 46, 153, 0, 7, 4, 167, 0, 4, 3, 42]
set_option maxRecDepth 1000000 in
theorem wb_25_ok : ((cO 420).data.toList.drop 2677).take 94 = wb_25 := by decide +kernel
set_option maxRecDepth 1000000 in
theorem wb_25_all : (p420_25).all (fun r => winC ⟨⟨wb_25⟩⟩ 2677 94 r && restC 420 r) = true := by decide +kernel
theorem rk420_25 : (p420_25).all (rowC 420) = true := rows_win wb_25_ok wb_25_all
def wb_26 : List UInt8 := [21, 4, 16, 7, 96, 46, 153, 0, 7, 4, 167, 0, 4, 3, 182, 1, 44, 55, 6, 44, 182, 0, 202, 21, 5, 159, 0, 5, 3, 172, 21, 5, 154, 0, 14, 45, 3, 47, 22, 6, 148, 153, 0, 5, 3, 172, 167, 8, 52, 43, 42, 21, 4, 4, 96, 46, 42, 21, 4, 5, 96, 46, 153, 0, 7, 4, 167, 0, 4, 3, 42, 21, 4, 6, 96, 46, 42, 21, 4, 7, 96, 46, 42, 21, 4, 8, 96, 46, 153, 0, 7, 4, 167, 0, 4, 3, 45, 184, 1, 45, 54, 5]
set_option maxRecDepth 1000000 in
theorem wb_26_ok : ((cO 420).data.toList.drop 2771).take 102 = wb_26 := by decide +kernel
set_option maxRecDepth 1000000 in
theorem wb_26_all : (p420_26).all (fun r => winC ⟨⟨wb_26⟩⟩ 2771 102 r && restC 420 r) = true := by decide +kernel
theorem rk420_26 : (p420_26).all (rowC 420) = true := rows_win wb_26_ok wb_26_all
def wb_27 : List UInt8 := [44, 42, 21, 4, 4, 96, 46, 42, 21, 4, 5, 96, 46, 153, 0, 7, 4, 167, 0, 4, 3, 42, 21, 4, 6, 96, 46, 42, 21, 4, 7, 96, 46, 42, 21, 4, 8, 96, 46, 153, 0, 7, 4, 167, 0, 4, 3, 182, 1, 48, 54, 6, 44, 182, 0, 202, 21, 5, 159, 0, 5, 3, 172, 21, 5, 154, 0, 15, 45, 3, 47, 21, 6, 133, 148, 153, 0, 5, 3, 172, 167, 7, 172, 43, 42, 21, 4, 4, 96, 46, 42, 21, 4, 5, 96]
set_option maxRecDepth 1000000 in
theorem wb_27_ok : ((cO 420).data.toList.drop 2873).take 95 = wb_27 := by decide +kernel
set_option maxRecDepth 1000000 in
theorem wb_27_all : (p420_27).all (fun r => winC ⟨⟨wb_27⟩⟩ 2873 95 r && restC 420 r) = true := by decide +kernel
theorem rk420_27 : (p420_27).all (rowC 420) = true := rows_win wb_27_ok wb_27_all
def wb_28 : List UInt8 := [46, 153, 0, 7, 4, 167, 0, 4, 3, 42, 21, 4, 6, 96, 46, 42, 21, 4, 7, 96, 46, 42, 21, 4, 8, 96, 46, 45, 184, 1, 49, 54, 5, 44, 42, 21, 4, 4, 96, 46, 42, 21, 4, 5, 96, 46, 153, 0, 7, 4, 167, 0, 4, 3, 42, 21, 4, 6, 96, 46, 42, 21, 4, 7, 96, 46, 42, 21, 4, 8, 96, 46, 182, 1, 52, 54, 6, 44, 182, 0, 202, 21, 5, 159, 0, 5, 3, 172, 21, 5, 154, 0, 15, 45]
set_option maxRecDepth 1000000 in
theorem wb_28_ok : ((cO 420).data.toList.drop 2968).take 94 = wb_28 := by decide +kernel
set_option maxRecDepth 1000000 in
theorem wb_28_all : (p420_28).all (fun r => winC ⟨⟨wb_28⟩⟩ 2968 94 r && restC 420 r) = true := by decide +kernel
theorem rk420_28 : (p420_28).all (rowC 420) = true := rows_win wb_28_ok wb_28_all
def wb_29 : List UInt8 := [3, 47, 21, 6, 133, 148, 153, 0, 5, 3, 172, 167, 7, 52, 43, 42, 21, 4, 4, 96, 46, 42, 21, 4, 5, 96, 46, 153, 0, 7, 4, 167, 0, 4, 3, 45, 184, 1, 53, 54, 5, 44, 42, 21, 4, 4, 96, 46, 42, 21, 4, 5, 96, 46, 153, 0, 7, 4, 167, 0, 4, 3, 182, 1, 55, 54, 6, 44, 182, 0, 202, 21, 5, 159, 0, 5, 3, 172, 21, 5, 154, 0, 15, 45, 3, 47, 21, 6, 133, 148, 153, 0, 5, 3, 172, 167, 6, 224, 43, 42]
set_option maxRecDepth 1000000 in
theorem wb_29_ok : ((cO 420).data.toList.drop 3062).take 100 = wb_29 := by decide +kernel
set_option maxRecDepth 1000000 in
theorem wb_29_all : (p420_29).all (fun r => winC ⟨⟨wb_29⟩⟩ 3062 100 r && restC 420 r) = true := by decide +kernel
theorem rk420_29 : (p420_29).all (rowC 420) = true := rows_win wb_29_ok wb_29_all
def wb_30 : List UInt8 := [21, 4, 4, 96, 46, 42, 21, 4, 5, 96, 46, 153, 0, 7, 4, 167, 0, 4, 3, 42, 21, 4, 6, 96, 46, 42, 21, 4, 7, 96, 46, 153, 0, 7, 4, 167, 0, 4, 3, 42, 21, 4, 8, 96, 46, 153, 0, 7, 4, 167, 0, 4, 3, 45, 184, 1, 56, 54, 5, 44, 42, 21, 4, 4, 96, 46, 42, 21, 4, 5, 96, 46, 153, 0, 7, 4, 167, 0, 4, 3, 42, 21, 4, 6, 96, 46, 42, 21, 4, 7, 96, 46]
set_option maxRecDepth 1000000 in
theorem wb_30_ok : ((cO 420).data.toList.drop 3162).take 92 = wb_30 := by decide +kernel
set_option maxRecDepth 1000000 in
theorem wb_30_all : (p420_30).all (fun r => winC ⟨⟨wb_30⟩⟩ 3162 92 r && restC 420 r) = true := by decide +kernel
theorem rk420_30 : (p420_30).all (rowC 420) = true := rows_win wb_30_ok wb_30_all
def wb_31 : List UInt8 := [153, 0, 7, 4, 167, 0, 4, 3, 42, 21, 4, 8, 96, 46, 153, 0, 7, 4, 167, 0, 4, 3, 182, 1, 59, 55, 6, 44, 182, 0, 202, 21, 5, 159, 0, 5, 3, 172, 21, 5, 154, 0, 14, 45, 3, 47, 22, 6, 148, 153, 0, 5, 3, 172, 167, 6, 73, 43, 42, 21, 4, 4, 96, 46, 42, 21, 4, 5, 96, 46, 153, 0, 7, 4, 167, 0, 4, 3, 42, 21, 4, 6, 96, 46, 153, 0, 7, 4, 167, 0, 4, 3, 45, 184, 1, 60, 54, 5, 44, 42, 21, 4, 4, 96]
set_option maxRecDepth 1000000 in
theorem wb_31_ok : ((cO 420).data.toList.drop 3254).take 104 = wb_31 := by decide +kernel
set_option maxRecDepth 1000000 in
theorem wb_31_all : (p420_31).all (fun r => winC ⟨⟨wb_31⟩⟩ 3254 104 r && restC 420 r) = true := by decide +kernel
theorem rk420_31 : (p420_31).all (rowC 420) = true := rows_win wb_31_ok wb_31_all
def wb_32 : List UInt8 := [46, 42, 21, 4, 5, 96, 46, 153, 0, 7, 4, 167, 0, 4, 3, 42, 21, 4, 6, 96, 46, 153, 0, 7, 4, 167, 0, 4, 3, 182, 1, 62, 55, 6, 44, 182, 0, 202, 21, 5, 159, 0, 5, 3, 172, 21, 5, 154, 0, 14, 45, 3, 47, 22, 6, 148, 153, 0, 5, 3, 172, 167, 5, 218, 43, 42, 21, 4, 4, 96, 46, 42, 21, 4, 5, 96, 46, 153, 0, 7, 4, 167, 0, 4, 3, 45, 184, 1, 63, 54, 5, 44, 42, 21, 4, 4, 96, 46, 42, 21, 4]
set_option maxRecDepth 1000000 in
theorem wb_32_ok : ((cO 420).data.toList.drop 3358).take 101 = wb_32 := by decide +kernel
set_option maxRecDepth 1000000 in
theorem wb_32_all : (p420_32).all (fun r => winC ⟨⟨wb_32⟩⟩ 3358 101 r && restC 420 r) = true := by decide +kernel
theorem rk420_32 : (p420_32).all (rowC 420) = true := rows_win wb_32_ok wb_32_all
