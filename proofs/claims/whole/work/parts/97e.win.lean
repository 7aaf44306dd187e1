/-! The law's rows, by windows of its bytes. -/
def wb_33 : List UInt8 := [5, 96, 46, 153, 0, 7, 4, 167, 0, 4, 3, 182, 1, 65, 55, 6, 44, 182, 0, 202, 21, 5, 159, 0, 5, 3, 172, 21, 5, 154, 0, 14, 45, 3, 47, 22, 6, 148, 153, 0, 5, 3, 172, 167, 5, 135, 43, 42, 21, 4, 4, 96, 46, 45, 184, 1, 66, 54, 5, 44, 42, 21, 4, 4, 96, 46, 182, 1, 68, 54, 6, 44, 182, 0, 202, 21, 5, 159, 0, 5, 3, 172, 21, 5, 154, 0, 22, 45, 3, 47, 21, 6, 153, 0, 7, 10, 167, 0, 4, 9, 148, 153, 0, 5, 3, 172, 167, 5, 72]
set_option maxRecDepth 1000000 in
theorem wb_33_ok : ((cO 420).data.toList.drop 3459).take 109 = wb_33 := by decide +kernel
set_option maxRecDepth 1000000 in
theorem wb_33_all : (p420_33).all (fun r => winC ⟨⟨wb_33⟩⟩ 3459 109 r && restC 420 r) = true := by decide +kernel
theorem rk420_33 : (p420_33).all (rowC 420) = true := rows_win wb_33_ok wb_33_all
def wb_34 : List UInt8 := [43, 42, 21, 4, 4, 96, 46, 42, 21, 4, 5, 96, 46, 42, 21, 4, 6, 96, 46, 45, 184, 1, 69, 54, 5, 44, 42, 21, 4, 4, 96, 46, 42, 21, 4, 5, 96, 46, 42, 21, 4, 6, 96, 46, 182, 1, 71, 54, 6, 44, 182, 0, 202, 21, 5, 159, 0, 5, 3, 172, 21, 5, 154, 0, 15, 45, 3, 47, 21, 6, 133, 148, 153, 0, 5, 3, 172, 167, 4, 248, 43, 42, 21, 4, 4, 96, 46, 42, 21, 4, 5]
set_option maxRecDepth 1000000 in
theorem wb_34_ok : ((cO 420).data.toList.drop 3568).take 91 = wb_34 := by decide +kernel
set_option maxRecDepth 1000000 in
theorem wb_34_all : (p420_34).all (fun r => winC ⟨⟨wb_34⟩⟩ 3568 91 r && restC 420 r) = true := by decide +kernel
theorem rk420_34 : (p420_34).all (rowC 420) = true := rows_win wb_34_ok wb_34_all
def wb_35 : List UInt8 := [96, 46, 45, 184, 1, 72, 54, 5, 44, 42, 21, 4, 4, 96, 46, 42, 21, 4, 5, 96, 46, 182, 1, 74, 54, 6, 44, 182, 0, 202, 21, 5, 159, 0, 5, 3, 172, 21, 5, 154, 0, 15, 45, 3, 47, 21, 6, 133, 148, 153, 0, 5, 3, 172, 167, 4, 180, 43, 184, 1, 75, 54, 5, 44, 182, 1, 78, 87, 44, 182, 0, 202, 21, 5, 159, 0, 5, 3, 172, 167, 4, 155, 43, 42, 21, 4, 4, 96, 46, 42, 21, 4, 5, 96, 46, 45, 184, 1, 80, 54, 5, 44]
set_option maxRecDepth 1000000 in
theorem wb_35_ok : ((cO 420).data.toList.drop 3659).take 102 = wb_35 := by decide +kernel
set_option maxRecDepth 1000000 in
theorem wb_35_all : (p420_35).all (fun r => winC ⟨⟨wb_35⟩⟩ 3659 102 r && restC 420 r) = true := by decide +kernel
theorem rk420_35 : (p420_35).all (rowC 420) = true := rows_win wb_35_ok wb_35_all
def wb_36 : List UInt8 := [42, 21, 4, 4, 96, 46, 42, 21, 4, 5, 96, 46, 182, 1, 82, 54, 6, 44, 182, 0, 202, 21, 5, 159, 0, 5, 3, 172, 21, 5, 154, 0, 15, 45, 3, 47, 21, 6, 133, 148, 153, 0, 5, 3, 172, 167, 4, 87, 43, 42, 21, 4, 4, 96, 46, 42, 21, 4, 5, 96, 46, 153, 0, 7, 4, 167, 0, 4, 3, 42, 21, 4, 6, 96, 46, 42, 21, 4, 7, 96, 46, 42, 21, 4, 8, 96, 46, 42, 21, 4, 16, 6, 96]
set_option maxRecDepth 1000000 in
theorem wb_36_ok : ((cO 420).data.toList.drop 3761).take 93 = wb_36 := by decide +kernel
set_option maxRecDepth 1000000 in
theorem wb_36_all : (p420_36).all (fun r => winC ⟨⟨wb_36⟩⟩ 3761 93 r && restC 420 r) = true := by decide +kernel
theorem rk420_36 : (p420_36).all (rowC 420) = true := rows_win wb_36_ok wb_36_all
def wb_37 : List UInt8 := [46, 45, 184, 1, 83, 54, 5, 44, 42, 21, 4, 4, 96, 46, 42, 21, 4, 5, 96, 46, 153, 0, 7, 4, 167, 0, 4, 3, 42, 21, 4, 6, 96, 46, 42, 21, 4, 7, 96, 46, 42, 21, 4, 8, 96, 46, 42, 21, 4, 16, 6, 96, 46, 182, 1, 86, 54, 6, 44, 182, 0, 202, 21, 5, 159, 0, 5, 3, 172, 21, 5, 154, 0, 15, 45, 3, 47, 21, 6, 133, 148, 153, 0, 5, 3, 172, 167, 3, 209, 43, 42, 21, 4, 4, 96]
set_option maxRecDepth 1000000 in
theorem wb_37_ok : ((cO 420).data.toList.drop 3854).take 95 = wb_37 := by decide +kernel
set_option maxRecDepth 1000000 in
theorem wb_37_all : (p420_37).all (fun r => winC ⟨⟨wb_37⟩⟩ 3854 95 r && restC 420 r) = true := by decide +kernel
theorem rk420_37 : (p420_37).all (rowC 420) = true := rows_win wb_37_ok wb_37_all
def wb_38 : List UInt8 := [46, 42, 21, 4, 5, 96, 46, 153, 0, 7, 4, 167, 0, 4, 3, 42, 21, 4, 6, 96, 46, 42, 21, 4, 7, 96, 46, 42, 21, 4, 8, 96, 46, 42, 21, 4, 16, 6, 96, 46, 42, 21, 4, 16, 7, 96, 46, 42, 21, 4, 16, 8, 96, 46, 153, 0, 7, 4, 167, 0, 4, 3, 42, 21, 4, 16, 9, 96, 46, 153, 0, 7, 4, 167, 0, 4, 3, 45, 184, 1, 87, 54, 5, 44, 42, 21, 4, 4, 96, 46, 42, 21, 4]
set_option maxRecDepth 1000000 in
theorem wb_38_ok : ((cO 420).data.toList.drop 3949).take 93 = wb_38 := by decide +kernel
set_option maxRecDepth 1000000 in
theorem wb_38_all : (p420_38).all (fun r => winC ⟨⟨wb_38⟩⟩ 3949 93 r && restC 420 r) = true := by decide +kernel
theorem rk420_38 : (p420_38).all (rowC 420) = true := rows_win wb_38_ok wb_38_all
def wb_39 : List UInt8 := [5, 96, 46, 153, 0, 7, 4, 167, 0, 4, 3, 42, 21, 4, 6, 96, 46, 42, 21, 4, 7, 96, 46, 42, 21, 4, 8, 96, 46, 42, 21, 4, 16, 6, 96, 46, 42, 21, 4, 16, 7, 96, 46, 42, 21, 4, 16, 8, 96, 46, 153, 0, 7, 4, 167, 0, 4, 3, 42, 21, 4, 16, 9, 96, 46, 153, 0, 7, 4, 167, 0, 4, 3, 182, 1, 90, 55, 6, 44, 182, 0, 202, 21, 5, 159, 0, 5, 3, 172, 21, 5, 154, 0, 14, 45, 3, 47, 22, 6]
set_option maxRecDepth 1000000 in
theorem wb_39_ok : ((cO 420).data.toList.drop 4042).take 99 = wb_39 := by decide +kernel
set_option maxRecDepth 1000000 in
theorem wb_39_all : (p420_39).all (fun r => winC ⟨⟨wb_39⟩⟩ 4042 99 r && restC 420 r) = true := by decide +kernel
theorem rk420_39 : (p420_39).all (rowC 420) = true := rows_win wb_39_ok wb_39_all
def wb_40 : List UInt8 := [148, 153, 0, 5, 3, 172, 167, 3, 2, 43, 42, 21, 4, 4, 96, 46, 42, 21, 4, 5, 96, 46, 153, 0, 7, 4, 167, 0, 4, 3, 42, 21, 4, 6, 96, 46, 42, 21, 4, 7, 96, 46, 42, 21, 4, 8, 96, 46, 45, 184, 1, 91, 54, 5, 44, 42, 21, 4, 4, 96, 46, 42, 21, 4, 5, 96, 46, 153, 0, 7, 4, 167, 0, 4, 3, 42, 21, 4, 6, 96, 46, 42, 21, 4, 7, 96, 46, 42]
set_option maxRecDepth 1000000 in
theorem wb_40_ok : ((cO 420).data.toList.drop 4141).take 88 = wb_40 := by decide +kernel
set_option maxRecDepth 1000000 in
theorem wb_40_all : (p420_40).all (fun r => winC ⟨⟨wb_40⟩⟩ 4141 88 r && restC 420 r) = true := by decide +kernel
theorem rk420_40 : (p420_40).all (rowC 420) = true := rows_win wb_40_ok wb_40_all
def wb_41 : List UInt8 := [21, 4, 8, 96, 46, 182, 1, 93, 54, 6, 44, 182, 0, 202, 21, 5, 159, 0, 5, 3, 172, 21, 5, 154, 0, 15, 45, 3, 47, 21, 6, 133, 148, 153, 0, 5, 3, 172, 167, 2, 138, 43, 42, 21, 4, 4, 96, 46, 42, 21, 4, 5, 96, 46, 153, 0, 7, 4, 167, 0, 4, 3, 42, 21, 4, 6, 96, 46, 42, 21, 4, 7, 96, 46, 153, 0, 7, 4, 167, 0, 4, 3, 42, 21, 4, 8, 96, 46, 45, 184, 1, 94, 54, 5, 44, 42, 21, 4]
set_option maxRecDepth 1000000 in
theorem wb_41_ok : ((cO 420).data.toList.drop 4229).take 98 = wb_41 := by decide +kernel
set_option maxRecDepth 1000000 in
theorem wb_41_all : (p420_41).all (fun r => winC ⟨⟨wb_41⟩⟩ 4229 98 r && restC 420 r) = true := by decide +kernel
theorem rk420_41 : (p420_41).all (rowC 420) = true := rows_win wb_41_ok wb_41_all
def wb_42 : List UInt8 := [4, 96, 46, 42, 21, 4, 5, 96, 46, 153, 0, 7, 4, 167, 0, 4, 3, 42, 21, 4, 6, 96, 46, 42, 21, 4, 7, 96, 46, 153, 0, 7, 4, 167, 0, 4, 3, 42, 21, 4, 8, 96, 46, 182, 1, 97, 55, 6, 44, 182, 0, 202, 21, 5, 159, 0, 5, 3, 172, 21, 5, 154, 0, 14, 45, 3, 47, 22, 6, 148, 153, 0, 5, 3, 172, 167, 2, 3, 43, 42, 21, 4, 4, 96, 46, 42, 21, 4, 5, 96, 46, 42, 21, 4, 6]
set_option maxRecDepth 1000000 in
theorem wb_42_ok : ((cO 420).data.toList.drop 4327).take 95 = wb_42 := by decide +kernel
set_option maxRecDepth 1000000 in
theorem wb_42_all : (p420_42).all (fun r => winC ⟨⟨wb_42⟩⟩ 4327 95 r && restC 420 r) = true := by decide +kernel
theorem rk420_42 : (p420_42).all (rowC 420) = true := rows_win wb_42_ok wb_42_all
def wb_43 : List UInt8 := [96, 46, 42, 21, 4, 7, 96, 46, 153, 0, 7, 4, 167, 0, 4, 3, 42, 21, 4, 8, 96, 46, 45, 184, 1, 98, 54, 5, 44, 42, 21, 4, 4, 96, 46, 42, 21, 4, 5, 96, 46, 42, 21, 4, 6, 96, 46, 42, 21, 4, 7, 96, 46, 153, 0, 7, 4, 167, 0, 4, 3, 42, 21, 4, 8, 96, 46, 182, 1, 101, 54, 6, 44, 182, 0, 202, 21, 5, 159, 0, 5, 3, 172, 21, 5, 154, 0, 15, 45, 3, 47, 21, 6, 133]
set_option maxRecDepth 1000000 in
theorem wb_43_ok : ((cO 420).data.toList.drop 4422).take 94 = wb_43 := by decide +kernel
set_option maxRecDepth 1000000 in
theorem wb_43_all : (p420_43).all (fun r => winC ⟨⟨wb_43⟩⟩ 4422 94 r && restC 420 r) = true := by decide +kernel
theorem rk420_43 : (p420_43).all (rowC 420) = true := rows_win wb_43_ok wb_43_all
def wb_44 : List UInt8 := [148, 153, 0, 5, 3, 172, 167, 1, 139, 43, 42, 21, 4, 4, 96, 46, 42, 21, 4, 5, 96, 46, 45, 184, 1, 102, 54, 5, 44, 42, 21, 4, 4, 96, 46, 42, 21, 4, 5, 96, 46, 182, 1, 104, 54, 6, 44, 182, 0, 202, 21, 5, 159, 0, 5, 3, 172, 21, 5, 154, 0, 15, 45, 3, 47, 21, 6, 133, 148, 153, 0, 5, 3, 172, 167, 1, 71, 43, 42, 21, 4, 4, 96, 46, 182, 1, 105, 44, 42, 21, 4, 4, 96, 46, 182, 1, 108]
set_option maxRecDepth 1000000 in
theorem wb_44_ok : ((cO 420).data.toList.drop 4516).take 97 = wb_44 := by decide +kernel
set_option maxRecDepth 1000000 in
theorem wb_44_all : (p420_44).all (fun r => winC ⟨⟨wb_44⟩⟩ 4516 97 r && restC 420 r) = true := by decide +kernel
theorem rk420_44 : (p420_44).all (rowC 420) = true := rows_win wb_44_ok wb_44_all
def wb_45 : List UInt8 := [159, 1, 48, 3, 172, 43, 182, 1, 109, 44, 182, 1, 112, 159, 1, 35, 3, 172, 43, 42, 21, 4, 4, 96, 46, 45, 184, 1, 113, 54, 5, 44, 42, 21, 4, 4, 96, 46, 182, 1, 115, 54, 6, 44, 182, 0, 202, 21, 5, 159, 0, 5, 3, 172, 21, 5, 154, 0, 15, 45, 3, 47, 21, 6, 133, 148, 153, 0, 5, 3, 172, 167, 0, 233, 43, 182, 1, 116, 44, 182, 1, 119, 159, 0, 222, 3, 172, 43, 42, 21, 4, 4, 96, 46, 45, 184, 1, 120, 54, 5, 44, 42, 21, 4]
set_option maxRecDepth 1000000 in
theorem wb_45_ok : ((cO 420).data.toList.drop 4613).take 104 = wb_45 := by decide +kernel
set_option maxRecDepth 1000000 in
theorem wb_45_all : (p420_45).all (fun r => winC ⟨⟨wb_45⟩⟩ 4613 104 r && restC 420 r) = true := by decide +kernel
theorem rk420_45 : (p420_45).all (rowC 420) = true := rows_win wb_45_ok wb_45_all
def wb_46 : List UInt8 := [4, 96, 46, 182, 1, 122, 55, 6, 44, 182, 0, 202, 21, 5, 159, 0, 5, 3, 172, 21, 5, 154, 0, 14, 45, 3, 47, 22, 6, 148, 153, 0, 5, 3, 172, 167, 0, 165, 43, 42, 21, 4, 4, 96, 46, 45, 184, 1, 123, 54, 5, 44, 42, 21, 4, 4, 96, 46, 182, 1, 125, 54, 6, 44, 182, 0, 202, 21, 5, 159, 0, 5, 3, 172, 21, 5, 154, 0, 15, 45, 3, 47, 21, 6, 133, 148, 153, 0, 5, 3, 172, 167, 0, 109, 43, 42, 21, 4, 4, 96, 46, 45]
set_option maxRecDepth 1000000 in
theorem wb_46_ok : ((cO 420).data.toList.drop 4717).take 102 = wb_46 := by decide +kernel
set_option maxRecDepth 1000000 in
theorem wb_46_all : (p420_46).all (fun r => winC ⟨⟨wb_46⟩⟩ 4717 102 r && restC 420 r) = true := by decide +kernel
theorem rk420_46 : (p420_46).all (rowC 420) = true := rows_win wb_46_ok wb_46_all
def wb_47 : List UInt8 := [184, 1, 126, 54, 5, 44, 42, 21, 4, 4, 96, 46, 182, 1, 128, 54, 6, 44, 182, 0, 202, 21, 5, 159, 0, 5, 3, 172, 21, 5, 154, 0, 15, 45, 3, 47, 21, 6, 133, 148, 153, 0, 5, 3, 172, 167, 0, 53, 43, 42, 21, 4, 4, 96, 46, 182, 1, 129, 44, 42, 21, 4, 4, 96, 46, 182, 1, 132, 159, 0, 30, 3, 172, 43, 42, 21, 4, 4, 96, 46, 182, 1, 133, 44, 42, 21, 4, 4, 96, 46, 182, 1, 136, 159, 0, 5, 3, 172, 132, 4, 10, 167, 236, 223]
set_option maxRecDepth 1000000 in
theorem wb_47_ok : ((cO 420).data.toList.drop 4819).take 104 = wb_47 := by decide +kernel
set_option maxRecDepth 1000000 in
theorem wb_47_all : (p420_47).all (fun r => winC ⟨⟨wb_47⟩⟩ 4819 104 r && restC 420 r) = true := by decide +kernel
theorem rk420_47 : (p420_47).all (rowC 420) = true := rows_win wb_47_ok wb_47_all
def wb_48 : List UInt8 := [4, 172]
set_option maxRecDepth 1000000 in
theorem wb_48_ok : ((cO 420).data.toList.drop 4923).take 2 = wb_48 := by decide +kernel
set_option maxRecDepth 1000000 in
theorem wb_48_all : (p420_48).all (fun r => winC ⟨⟨wb_48⟩⟩ 4923 2 r && restC 420 r) = true := by decide +kernel
theorem rk420_48 : (p420_48).all (rowC 420) = true := rows_win wb_48_ok wb_48_all
