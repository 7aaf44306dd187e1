set_option maxRecDepth 1000000 in
theorem rk419_0 : (p419_0).all (rowC 419) = true := by decide +kernel
set_option maxRecDepth 1000000 in
theorem rk419_1 : (p419_1).all (rowC 419) = true := by decide +kernel
set_option maxRecDepth 1000000 in
theorem rk419_2 : (p419_2).all (rowC 419) = true := by decide +kernel
set_option maxRecDepth 1000000 in
theorem rk419_3 : (p419_3).all (rowC 419) = true := by decide +kernel
set_option maxRecDepth 1000000 in
theorem rk419_4 : (p419_4).all (rowC 419) = true := by decide +kernel
set_option maxRecDepth 1000000 in
theorem rk419_5 : (p419_5).all (rowC 419) = true := by decide +kernel
set_option maxRecDepth 1000000 in
theorem rk419_6 : (p419_6).all (rowC 419) = true := by decide +kernel
set_option maxRecDepth 1000000 in
theorem rk419_7 : (p419_7).all (rowC 419) = true := by decide +kernel
set_option maxRecDepth 1000000 in
theorem rk419_8 : (p419_8).all (rowC 419) = true := by decide +kernel
set_option maxRecDepth 1000000 in
theorem rk419_9 : (p419_9).all (rowC 419) = true := by decide +kernel
set_option maxRecDepth 1000000 in
theorem rk419_10 : (p419_10).all (rowC 419) = true := by decide +kernel
set_option maxRecDepth 1000000 in
theorem rk419_11 : (p419_11).all (rowC 419) = true := by decide +kernel
set_option maxRecDepth 1000000 in
theorem rk419_12 : (p419_12).all (rowC 419) = true := by decide +kernel
set_option maxRecDepth 1000000 in
theorem rk419_13 : (p419_13).all (rowC 419) = true := by decide +kernel
set_option maxRecDepth 1000000 in
theorem rk419_14 : (p419_14).all (rowC 419) = true := by decide +kernel
set_option maxRecDepth 1000000 in
theorem rk419_15 : (p419_15).all (rowC 419) = true := by decide +kernel
set_option maxRecDepth 1000000 in
theorem rk419_16 : (p419_16).all (rowC 419) = true := by decide +kernel
set_option maxRecDepth 1000000 in
theorem rk419_17 : (p419_17).all (rowC 419) = true := by decide +kernel
set_option maxRecDepth 1000000 in
theorem rk419_18 : (p419_18).all (rowC 419) = true := by decide +kernel
set_option maxRecDepth 1000000 in
theorem rk419_19 : (p419_19).all (rowC 419) = true := by decide +kernel
set_option maxRecDepth 1000000 in
theorem rk419_20 : (p419_20).all (rowC 419) = true := by decide +kernel
set_option maxRecDepth 1000000 in
theorem rk419_21 : (p419_21).all (rowC 419) = true := by decide +kernel
set_option maxRecDepth 1000000 in
theorem rk419_22 : (p419_22).all (rowC 419) = true := by decide +kernel
set_option maxRecDepth 1000000 in
theorem rk419_23 : (p419_23).all (rowC 419) = true := by decide +kernel
set_option maxRecDepth 1000000 in
theorem rk419_24 : (p419_24).all (rowC 419) = true := by decide +kernel
set_option maxRecDepth 1000000 in
theorem rk419_25 : (p419_25).all (rowC 419) = true := by decide +kernel
set_option maxRecDepth 1000000 in
theorem rk419_26 : (p419_26).all (rowC 419) = true := by decide +kernel
set_option maxRecDepth 1000000 in
theorem rk419_27 : (p419_27).all (rowC 419) = true := by decide +kernel
set_option maxRecDepth 1000000 in
theorem rk419_28 : (p419_28).all (rowC 419) = true := by decide +kernel
set_option maxRecDepth 1000000 in
theorem rk419_29 : (p419_29).all (rowC 419) = true := by decide +kernel
set_option maxRecDepth 1000000 in
theorem rk419_30 : (p419_30).all (rowC 419) = true := by decide +kernel
set_option maxRecDepth 1000000 in
theorem rk419_31 : (p419_31).all (rowC 419) = true := by decide +kernel
set_option maxRecDepth 1000000 in
theorem rk419_32 : (p419_32).all (rowC 419) = true := by decide +kernel
set_option maxRecDepth 1000000 in
theorem rk419_33 : (p419_33).all (rowC 419) = true := by decide +kernel
set_option maxRecDepth 1000000 in
theorem rk419_34 : (p419_34).all (rowC 419) = true := by decide +kernel
set_option maxRecDepth 1000000 in
theorem rk419_35 : (p419_35).all (rowC 419) = true := by decide +kernel
set_option maxRecDepth 1000000 in
theorem rk419_36 : (p419_36).all (rowC 419) = true := by decide +kernel
set_option maxRecDepth 1000000 in
theorem rk419_37 : (p419_37).all (rowC 419) = true := by decide +kernel
set_option maxRecDepth 1000000 in
theorem rk419_38 : (p419_38).all (rowC 419) = true := by decide +kernel
set_option maxRecDepth 1000000 in
theorem rk419_39 : (p419_39).all (rowC 419) = true := by decide +kernel
set_option maxRecDepth 1000000 in
theorem rk419_40 : (p419_40).all (rowC 419) = true := by decide +kernel
set_option maxRecDepth 1000000 in
theorem rk419_41 : (p419_41).all (rowC 419) = true := by decide +kernel
set_option maxRecDepth 1000000 in
theorem rk419_42 : (p419_42).all (rowC 419) = true := by decide +kernel
set_option maxRecDepth 1000000 in
theorem rk419_43 : (p419_43).all (rowC 419) = true := by decide +kernel
set_option maxRecDepth 1000000 in
theorem rk419_44 : (p419_44).all (rowC 419) = true := by decide +kernel
set_option maxRecDepth 1000000 in
theorem rk419_45 : (p419_45).all (rowC 419) = true := by decide +kernel
set_option maxRecDepth 1000000 in
theorem rk419_46 : (p419_46).all (rowC 419) = true := by decide +kernel
set_option maxRecDepth 1000000 in
theorem rk419_47 : (p419_47).all (rowC 419) = true := by decide +kernel
set_option maxRecDepth 1000000 in
theorem rk419_48 : (p419_48).all (rowC 419) = true := by decide +kernel
theorem all_ap {α : Type} {p : α → Bool} {a b : List α} (ha : a.all p = true) (hb : b.all p = true) : (a ++ b).all p = true := by rw [List.all_append, ha, hb]; rfl
theorem rk419 : (p419).all (rowC 419) = true := all_ap rk419_0 (all_ap rk419_1 (all_ap rk419_2 (all_ap rk419_3 (all_ap rk419_4 (all_ap rk419_5 (all_ap rk419_6 (all_ap rk419_7 (all_ap rk419_8 (all_ap rk419_9 (all_ap rk419_10 (all_ap rk419_11 (all_ap rk419_12 (all_ap rk419_13 (all_ap rk419_14 (all_ap rk419_15 (all_ap rk419_16 (all_ap rk419_17 (all_ap rk419_18 (all_ap rk419_19 (all_ap rk419_20 (all_ap rk419_21 (all_ap rk419_22 (all_ap rk419_23 (all_ap rk419_24 (all_ap rk419_25 (all_ap rk419_26 (all_ap rk419_27 (all_ap rk419_28 (all_ap rk419_29 (all_ap rk419_30 (all_ap rk419_31 (all_ap rk419_32 (all_ap rk419_33 (all_ap rk419_34 (all_ap rk419_35 (all_ap rk419_36 (all_ap rk419_37 (all_ap rk419_38 (all_ap rk419_39 (all_ap rk419_40 (all_ap rk419_41 (all_ap rk419_42 (all_ap rk419_43 (all_ap rk419_44 (all_ap rk419_45 (all_ap rk419_46 (all_ap rk419_47 (rk419_48))))))))))))))))))))))))))))))))))))))))))))))))
theorem cnd {c : Bool} {α : Type} {P : α → Prop} {a b : α} (ha : P a) (hb : P b) : P (cond c a b) := by cases c <;> assumption
set_option maxRecDepth 1000000 in
theorem mk_all : ((List.range 419).all mthC) = true := by decide +kernel
