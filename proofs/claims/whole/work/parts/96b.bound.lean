/-! Codes are small; ints in answers: by program. -/
theorem cd_br {ch : Ch} {o : Option Ch} : (brO ch o).1 ≤ 9 := by
  cases o
  · exact Nat.le_of_ble_eq_true rfl
  · exact Nat.le_of_ble_eq_true rfl
theorem spBring_ok {ch : Ch} {sh : Nat → Option Ch} (hok : ChOk ch) (hsh : ShOk sh) {k : Int} : ChOk (spBring sh ch k).2.2 := by
  unfold spBring
  split
  · exact hok
  · next q =>
    cases ho : sh k.toNat with
    | none => exact hok
    | some c => exact hsh k.toNat c (by omega) ho
theorem vb_374 {ch : Ch} {m : Int} : (spEndless ch m).2 = 0 ∨ (spEndless ch m).2 = 1 := by
  unfold spEndless
  repeat' (first | apply vb_if | apply vb_iP | apply vi_if | apply vi_iP | exact Or.inl rfl | exact Or.inr rfl)
theorem vb_377 {ch : Ch} {l4 l5 x h : Int} : (spWit ch l4 l5 x h).2 = 0 ∨ (spWit ch l4 l5 x h).2 = 1 := by
  unfold spWit
  repeat' (first | apply vb_if | apply vb_iP | apply vi_if | apply vi_iP | exact Or.inl rfl | exact Or.inr rfl)
theorem vb_383 {ch : Ch} {m k : Int} : (spP ch m (fIsFr k)).2 = 0 ∨ (spP ch m (fIsFr k)).2 = 1 := by
  unfold spP fIsFr
  repeat' (first | apply vb_if | apply vb_iP | apply vi_if | apply vi_iP | exact Or.inl rfl | exact Or.inr rfl)
theorem vb_400 {ch : Ch} {m : Int} : (spP ch m fHigh).2 = 0 ∨ (spP ch m fHigh).2 = 1 := by
  unfold spP fHigh
  repeat' (first | apply vb_if | apply vb_iP | apply vi_if | apply vi_iP | exact Or.inl rfl | exact Or.inr rfl)
theorem cd_367 {ch : Ch} {a b d : Int} : (spLoad ch a b d).1 ≤ 9 := by
  unfold spLoad
  repeat' (first | apply cd_1 (n := 8) | apply cd_if | apply cd_iT | apply cd_iP | exact Nat.le_of_ble_eq_true rfl | apply cd_br)
theorem cd_368 {ch : Ch} {t p q : Int} : (spAdd ch t p q).1 ≤ 9 := by
  unfold spAdd
  repeat' (first | apply cd_1 (n := 8) | apply cd_if | apply cd_iT | apply cd_iP | exact Nat.le_of_ble_eq_true rfl | apply cd_br)
theorem cd_369 {ch : Ch} : (spDrop ch).1 ≤ 9 := by
  unfold spDrop
  repeat' (first | apply cd_1 (n := 8) | apply cd_if | apply cd_iT | apply cd_iP | exact Nat.le_of_ble_eq_true rfl | apply cd_br)
theorem cd_370 {ch : Ch} {m p q : Int} : (spTrim ch m p q).1 ≤ 9 := by
  unfold spTrim
  repeat' (first | apply cd_1 (n := 8) | apply cd_if | apply cd_iT | apply cd_iP | exact Nat.le_of_ble_eq_true rfl | apply cd_br)
theorem cd_372 {ch : Ch} {m x : Int} : (spEl ch m x).1 ≤ 9 := by
  unfold spEl
  repeat' (first | apply cd_1 (n := 8) | apply cd_if | apply cd_iT | apply cd_iP | exact Nat.le_of_ble_eq_true rfl | apply cd_br)
theorem cd_373 {ch : Ch} {m x lo : Int} : (spSeen ch m x lo).1 ≤ 9 := by
  unfold spSeen
  repeat' (first | apply cd_1 (n := 8) | apply cd_if | apply cd_iT | apply cd_iP | exact Nat.le_of_ble_eq_true rfl | apply cd_br)
theorem cd_374 {ch : Ch} {m : Int} : (spEndless ch m).1 ≤ 9 := by
  unfold spEndless
  repeat' (first | apply cd_1 (n := 8) | apply cd_if | apply cd_iT | apply cd_iP | exact Nat.le_of_ble_eq_true rfl | apply cd_br)
theorem cd_375 {ch : Ch} {m lo : Int} : (spEcho ch m lo).1 ≤ 9 := by
  unfold spEcho
  repeat' (first | apply cd_1 (n := 8) | apply cd_if | apply cd_iT | apply cd_iP | exact Nat.le_of_ble_eq_true rfl | apply cd_br)
theorem cd_376 {ch : Ch} {x hm : Int} : (spPar ch x hm).1 ≤ 9 := by
  unfold spPar
  repeat' (first | apply cd_1 (n := 8) | apply cd_if | apply cd_iT | apply cd_iP | exact Nat.le_of_ble_eq_true rfl | apply cd_br)
theorem cd_377 {ch : Ch} {l4 l5 : Int} {x hm : Int} : (spWit ch l4 l5 x hm).1 ≤ 9 := by
  unfold spWit
  repeat' (first | apply cd_1 (n := 8) | apply cd_if | apply cd_iT | apply cd_iP | exact Nat.le_of_ble_eq_true rfl | apply cd_br)
theorem cd_378 {p q lo : Int} : (spHalf p q lo).1 ≤ 9 := by
  unfold spHalf
  repeat' (first | apply cd_1 (n := 8) | apply cd_if | apply cd_iT | apply cd_iP | exact Nat.le_of_ble_eq_true rfl | apply cd_br)
theorem cd_379 {p q n lo : Int} : (spTimes p q n lo).1 ≤ 9 := by
  unfold spTimes
  repeat' (first | apply cd_1 (n := 8) | apply cd_if | apply cd_iT | apply cd_iP | exact Nat.le_of_ble_eq_true rfl | apply cd_br)
theorem cd_380 {p q r s lo : Int} : (spTog p q r s lo).1 ≤ 9 := by
  unfold spTog
  repeat' (first | apply cd_1 (n := 8) | apply cd_if | apply cd_iT | apply cd_iP | exact Nat.le_of_ble_eq_true rfl | apply cd_br)
theorem cd_381 {p q r s : Int} : (spLonger p q r s).1 ≤ 9 := by
  unfold spLonger
  repeat' (first | apply cd_1 (n := 8) | apply cd_if | apply cd_iT | apply cd_iP | exact Nat.le_of_ble_eq_true rfl | apply cd_br)
theorem cd_382 {ch : Ch} {m : Int} : (spP ch m fPlaces).1 ≤ 9 := by
  unfold spP fPlaces
  repeat' (first | apply cd_1 (n := 8) | apply cd_if | apply cd_iT | apply cd_iP | exact Nat.le_of_ble_eq_true rfl | apply cd_br)
theorem cd_383 {ch : Ch} {m k : Int} : (spP ch m (fIsFr k)).1 ≤ 9 := by
  unfold spP fIsFr
  repeat' (first | apply cd_1 (n := 8) | apply cd_if | apply cd_iT | apply cd_iP | exact Nat.le_of_ble_eq_true rfl | apply cd_br)
theorem cd_384 {ch : Ch} {m al k lo : Int} : (spP ch m (fPlace k al lo)).1 ≤ 9 := by
  unfold spP fPlace
  repeat' (first | apply cd_1 (n := 8) | apply cd_if | apply cd_iT | apply cd_iP | exact Nat.le_of_ble_eq_true rfl | apply cd_br)
theorem cd_385 {ch : Ch} {m al k : Int} : (spP ch m (fAbout k al)).1 ≤ 9 := by
  unfold spP fAbout
  repeat' (first | apply cd_1 (n := 8) | apply cd_if | apply cd_iT | apply cd_iP | exact Nat.le_of_ble_eq_true rfl | apply cd_br)
theorem cd_386 {ch : Ch} {m al k lo : Int} : (spP ch m (fNeeds k al lo)).1 ≤ 9 := by
  unfold spP fNeeds
  repeat' (first | apply cd_1 (n := 8) | apply cd_if | apply cd_iT | apply cd_iP | exact Nat.le_of_ble_eq_true rfl | apply cd_br)
theorem cd_387 {ch : Ch} {m lo : Int} : (spP ch m (fSquare lo)).1 ≤ 9 := by
  unfold spP fSquare
  repeat' (first | apply cd_1 (n := 8) | apply cd_if | apply cd_iT | apply cd_iP | exact Nat.le_of_ble_eq_true rfl | apply cd_br)
theorem cd_388 {ch : Ch} {m al k : Int} : (spP ch m (fSign k al)).1 ≤ 9 := by
  unfold spP fSign
  repeat' (first | apply cd_1 (n := 8) | apply cd_if | apply cd_iT | apply cd_iP | exact Nat.le_of_ble_eq_true rfl | apply cd_br)
theorem cd_389 {ch : Ch} {al k op : Int} : (spBuild ch k al op).1 ≤ 9 := by
  unfold spBuild
  repeat' (first | apply cd_1 (n := 8) | apply cd_if | apply cd_iT | apply cd_iP | exact Nat.le_of_ble_eq_true rfl | apply cd_br)
theorem cd_390 {ch : Ch} {m al lo : Int} : (spP ch m (fReal al lo)).1 ≤ 9 := by
  unfold spP fReal
  repeat' (first | apply cd_1 (n := 8) | apply cd_if | apply cd_iT | apply cd_iP | exact Nat.le_of_ble_eq_true rfl | apply cd_br)
theorem cd_391 {p q lo : Int} : (spGreat p q lo).1 ≤ 9 := by
  unfold spGreat
  repeat' (first | apply cd_1 (n := 8) | apply cd_if | apply cd_iT | apply cd_iP | exact Nat.le_of_ble_eq_true rfl | apply cd_br)
theorem cd_392 {ch : Ch} {m al x y : Int} : (spWays ch m al x y).1 ≤ 9 := by
  unfold spWays fWays
  repeat' (first | apply cd_1 (n := 8) | apply cd_if | apply cd_iT | apply cd_iP | exact Nat.le_of_ble_eq_true rfl | apply cd_br)
theorem cd_393 {ch : Ch} {m al x y k se lo : Int} : (spStub ch m al x y k se lo).1 ≤ 9 := by
  unfold spStub fStub fPair
  repeat' (first | apply cd_1 (n := 8) | apply cd_if | apply cd_iT | apply cd_iP | exact Nat.le_of_ble_eq_true rfl | apply cd_br)
theorem cd_394 {ch : Ch} {m al x y lo : Int} : (spD ch m al x y (fEsc al x y lo)).1 ≤ 9 := by
  unfold spD fEsc
  repeat' (first | apply cd_1 (n := 8) | apply cd_if | apply cd_iT | apply cd_iP | exact Nat.le_of_ble_eq_true rfl | apply cd_br)
theorem cd_395 {ch : Ch} {m al x y wh : Int} : (spRes ch m al x y wh).1 ≤ 9 := by
  unfold spRes spD fRes
  repeat' (first | apply cd_1 (n := 8) | apply cd_if | apply cd_iT | apply cd_iP | exact Nat.le_of_ble_eq_true rfl | apply cd_br)
theorem cd_396 {ch : Ch} {m al : Int} : (spP ch m (fCor al)).1 ≤ 9 := by
  unfold spP fCor
  repeat' (first | apply cd_1 (n := 8) | apply cd_if | apply cd_iT | apply cd_iP | exact Nat.le_of_ble_eq_true rfl | apply cd_br)
theorem cd_397 {ch : Ch} {m al k se lo : Int} : (spP ch m (fCorn al k se lo)).1 ≤ 9 := by
  unfold spP fCorn fPair
  repeat' (first | apply cd_1 (n := 8) | apply cd_if | apply cd_iT | apply cd_iP | exact Nat.le_of_ble_eq_true rfl | apply cd_br)
theorem cd_398 {ch : Ch} {m x lo : Int} : (spP ch m (fExt x lo)).1 ≤ 9 := by
  unfold spP fExt
  repeat' (first | apply cd_1 (n := 8) | apply cd_if | apply cd_iT | apply cd_iP | exact Nat.le_of_ble_eq_true rfl | apply cd_br)
theorem cd_399 {ch : Ch} {m lo : Int} : (spP ch m (fSwell lo)).1 ≤ 9 := by
  unfold spP fSwell
  repeat' (first | apply cd_1 (n := 8) | apply cd_if | apply cd_iT | apply cd_iP | exact Nat.le_of_ble_eq_true rfl | apply cd_br)
theorem cd_400 {ch : Ch} {m : Int} : (spP ch m fHigh).1 ≤ 9 := by
  unfold spP fHigh
  repeat' (first | apply cd_1 (n := 8) | apply cd_if | apply cd_iT | apply cd_iP | exact Nat.le_of_ble_eq_true rfl | apply cd_br)
theorem cd_401 {ch : Ch} {m k wh : Int} : (spExa ch m k wh).1 ≤ 9 := by
  unfold spExa
  repeat' (first | apply cd_1 (n := 8) | apply cd_if | apply cd_iT | apply cd_iP | exact Nat.le_of_ble_eq_true rfl | apply cd_br)
theorem cd_402 {ch : Ch} {m wh : Int} : (spTun ch m wh).1 ≤ 9 := by
  unfold spTun
  repeat' (first | apply cd_1 (n := 8) | apply cd_if | apply cd_iT | apply cd_iP | exact Nat.le_of_ble_eq_true rfl | apply cd_br)
theorem cd_403 {ch : Ch} : (spDual ch).1 ≤ 9 := by
  unfold spDual
  repeat' (first | apply cd_1 (n := 8) | apply cd_if | apply cd_iT | apply cd_iP | exact Nat.le_of_ble_eq_true rfl | apply cd_br)
theorem cd_404 {ch : Ch} {m wh : Int} : (spBest ch m wh).1 ≤ 9 := by
  unfold spBest
  repeat' (first | apply cd_1 (n := 8) | apply cd_if | apply cd_iT | apply cd_iP | exact Nat.le_of_ble_eq_true rfl | apply cd_br)
theorem cd_405 {ch : Ch} {m al x y u v : Int} : (spT ch m al x y u v (f3w al x y)).1 ≤ 9 := by
  unfold spT f3w fThree
  repeat' (first | apply cd_1 (n := 8) | apply cd_if | apply cd_iT | apply cd_iP | exact Nat.le_of_ble_eq_true rfl | apply cd_br)
theorem cd_406 {ch : Ch} {m al x y u v k se lo : Int} : (spT ch m al x y u v (fPair 3 al x y k se lo)).1 ≤ 9 := by
  unfold spT fPair fThree
  repeat' (first | apply cd_1 (n := 8) | apply cd_if | apply cd_iT | apply cd_iP | exact Nat.le_of_ble_eq_true rfl | apply cd_br)
theorem cd_407 {ch : Ch} {m al n u v : Int} : (spCir ch m al n u v).1 ≤ 9 := by
  unfold spCir
  repeat' (first | apply cd_1 (n := 8) | apply cd_if | apply cd_iT | apply cd_iP | exact Nat.le_of_ble_eq_true rfl | apply cd_br)
theorem cd_408 {ch : Ch} {m al n ls wh : Int} : (spRim ch m al n ls wh).1 ≤ 9 := by
  unfold spRim
  repeat' (first | apply cd_1 (n := 8) | apply cd_if | apply cd_iT | apply cd_iP | exact Nat.le_of_ble_eq_true rfl | apply cd_br)
theorem cd_409 {ch : Ch} {m p q op wh : Int} : (spSpl ch m p q op wh).1 ≤ 9 := by
  unfold spSpl
  repeat' (first | apply cd_1 (n := 8) | apply cd_if | apply cd_iT | apply cd_iP | exact Nat.le_of_ble_eq_true rfl | apply cd_br)
theorem cd_410 {ch : Ch} {n wh : Int} : (spFil ch n wh).1 ≤ 9 := by
  unfold spFil
  repeat' (first | apply cd_1 (n := 8) | apply cd_if | apply cd_iT | apply cd_iP | exact Nat.le_of_ble_eq_true rfl | apply cd_br)
theorem cd_411 {ch : Ch} {wh : Int} : (spDri ch wh).1 ≤ 9 := by
  unfold spDri
  repeat' (first | apply cd_1 (n := 8) | apply cd_if | apply cd_iT | apply cd_iP | exact Nat.le_of_ble_eq_true rfl | apply cd_br)
theorem cd_412 {ch : Ch} {wh : Int} : (spLen ch wh).1 ≤ 9 := by
  unfold spLen
  repeat' (first | apply cd_1 (n := 8) | apply cd_if | apply cd_iT | apply cd_iP | exact Nat.le_of_ble_eq_true rfl | apply cd_br)
theorem cd_414 {ch : Ch} {sh : Nat → Option Ch} {k : Int} : (spBring sh ch k).1 ≤ 9 := by
  unfold spBring
  repeat' (first | apply cd_1 (n := 8) | apply cd_if | apply cd_iT | apply cd_iP | exact Nat.le_of_ble_eq_true rfl | apply cd_br)
theorem v_368 {Lx : Nat} {I : Mi} {L : Ml} {e : Nat} {Q : Kq} {x1 x2 x3 : Int32} (h : Wp 368 0 [(0, .ref 1), (1, .int x1), (2, .int x2), (3, .int x3), (4, .ref 70)] [] (gE Lx) I L e Q) : Wp 368 0 [(0, .ref 1), (1, .int x1), (2, .int x2), (3, .int x3), (4, .ref 70)] [] (gE Lx) I L e (oI Q) := by
  obtain ⟨o, g2, I2, L2, e2, h1, h2⟩ := h
  exact ⟨o, g2, I2, L2, e2, h1, h2, ((((((h1.i f_368_0 rfl).i f_368_2 rfl).i f_368_3 rfl).i f_368_4 rfl).i f_368_5 rfl).i f_368_6 rfl).out f_368_7 rfl f_368_10 f_368_11 f_368_12 f_368_23 f_368_24⟩
theorem v_369 {Lx : Nat} {I : Mi} {L : Ml} {e : Nat} {Q : Kq} (h : Wp 369 0 [(0, .ref 1), (1, .ref 70)] [] (gE Lx) I L e Q) : Wp 369 0 [(0, .ref 1), (1, .ref 70)] [] (gE Lx) I L e (oI Q) := by
  obtain ⟨o, g2, I2, L2, e2, h1, h2⟩ := h
  exact ⟨o, g2, I2, L2, e2, h1, h2, (((h1.i f_369_0 rfl).i f_369_1 rfl).i f_369_2 rfl).out f_369_3 rfl f_369_6 f_369_7 f_369_8 f_369_14 f_369_15⟩
theorem v_372 {Lx : Nat} {I : Mi} {L : Ml} {e : Nat} {Q : Kq} {x1 x2 : Int32} (h : Wp 372 0 [(0, .ref 1), (1, .int x1), (2, .int x2), (3, .ref 70)] [] (gE Lx) I L e Q) : Wp 372 0 [(0, .ref 1), (1, .int x1), (2, .int x2), (3, .ref 70)] [] (gE Lx) I L e (oI Q) := by
  obtain ⟨o, g2, I2, L2, e2, h1, h2⟩ := h
  exact ⟨o, g2, I2, L2, e2, h1, h2, (((((h1.i f_372_0 rfl).i f_372_1 rfl).i f_372_2 rfl).i f_372_3 rfl).i f_372_4 rfl).out f_372_5 rfl f_372_8 f_372_9 f_372_10 f_372_21 f_372_22⟩
theorem v_376 {Lx : Nat} {I : Mi} {L : Ml} {e : Nat} {Q : Kq} {x1 x2 : Int32} (h : Wp 376 0 [(0, .ref 1), (1, .int x1), (2, .int x2), (3, .ref 70)] [] (gE Lx) I L e Q) : Wp 376 0 [(0, .ref 1), (1, .int x1), (2, .int x2), (3, .ref 70)] [] (gE Lx) I L e (oI Q) := by
  obtain ⟨o, g2, I2, L2, e2, h1, h2⟩ := h
  exact ⟨o, g2, I2, L2, e2, h1, h2, (((((h1.i f_376_0 rfl).i f_376_1 rfl).i f_376_2 rfl).i f_376_3 rfl).i f_376_4 rfl).out f_376_5 rfl f_376_8 f_376_9 f_376_10 f_376_17 f_376_18⟩
theorem v_378 {Lx : Nat} {I : Mi} {L : Ml} {e : Nat} {Q : Kq} {x1 x2 x3 : Int32} (h : Wp 378 0 [(0, .ref 1), (1, .int x1), (2, .int x2), (3, .int x3), (4, .ref 70)] [] (gE Lx) I L e Q) : Wp 378 0 [(0, .ref 1), (1, .int x1), (2, .int x2), (3, .int x3), (4, .ref 70)] [] (gE Lx) I L e (oI Q) := by
  obtain ⟨o, g2, I2, L2, e2, h1, h2⟩ := h
  exact ⟨o, g2, I2, L2, e2, h1, h2, ((((((h1.i f_378_0 rfl).i f_378_2 rfl).i f_378_3 rfl).i f_378_4 rfl).i f_378_5 rfl).i f_378_6 rfl).out f_378_7 rfl f_378_10 f_378_11 f_378_12 f_378_23 f_378_24⟩
theorem v_379 {Lx : Nat} {I : Mi} {L : Ml} {e : Nat} {Q : Kq} {x1 x2 x3 x4 : Int32} (h : Wp 379 0 [(0, .ref 1), (1, .int x1), (2, .int x2), (3, .int x3), (4, .int x4), (5, .ref 70)] [] (gE Lx) I L e Q) : Wp 379 0 [(0, .ref 1), (1, .int x1), (2, .int x2), (3, .int x3), (4, .int x4), (5, .ref 70)] [] (gE Lx) I L e (oI Q) := by
  obtain ⟨o, g2, I2, L2, e2, h1, h2⟩ := h
  exact ⟨o, g2, I2, L2, e2, h1, h2, (((((((h1.i f_379_0 rfl).i f_379_2 rfl).i f_379_3 rfl).i f_379_4 rfl).i f_379_5 rfl).i f_379_6 rfl).i f_379_7 rfl).out f_379_9 rfl f_379_12 f_379_13 f_379_14 f_379_21 f_379_22⟩
theorem v_380 {Lx : Nat} {I : Mi} {L : Ml} {e : Nat} {Q : Kq} {x1 x2 x3 x4 x5 : Int32} (h : Wp 380 0 [(0, .ref 1), (1, .int x1), (2, .int x2), (3, .int x3), (4, .int x4), (5, .int x5), (6, .ref 70)] [] (gE Lx) I L e Q) : Wp 380 0 [(0, .ref 1), (1, .int x1), (2, .int x2), (3, .int x3), (4, .int x4), (5, .int x5), (6, .ref 70)] [] (gE Lx) I L e (oI Q) := by
  obtain ⟨o, g2, I2, L2, e2, h1, h2⟩ := h
  exact ⟨o, g2, I2, L2, e2, h1, h2, ((((((((h1.i f_380_0 rfl).i f_380_2 rfl).i f_380_3 rfl).i f_380_4 rfl).i f_380_5 rfl).i f_380_6 rfl).i f_380_7 rfl).i f_380_9 rfl).out f_380_11 rfl f_380_14 f_380_15 f_380_16 f_380_23 f_380_24⟩
theorem v_381 {Lx : Nat} {I : Mi} {L : Ml} {e : Nat} {Q : Kq} {x1 x2 x3 x4 : Int32} (h : Wp 381 0 [(0, .ref 1), (1, .int x1), (2, .int x2), (3, .int x3), (4, .int x4), (5, .ref 70)] [] (gE Lx) I L e Q) : Wp 381 0 [(0, .ref 1), (1, .int x1), (2, .int x2), (3, .int x3), (4, .int x4), (5, .ref 70)] [] (gE Lx) I L e (oI Q) := by
  obtain ⟨o, g2, I2, L2, e2, h1, h2⟩ := h
  exact ⟨o, g2, I2, L2, e2, h1, h2, (((((((h1.i f_381_0 rfl).i f_381_2 rfl).i f_381_3 rfl).i f_381_4 rfl).i f_381_5 rfl).i f_381_6 rfl).i f_381_7 rfl).out f_381_9 rfl f_381_12 f_381_13 f_381_14 f_381_21 f_381_22⟩
theorem v_382 {Lx : Nat} {I : Mi} {L : Ml} {e : Nat} {Q : Kq} {x1 x2 : Int32} (h : Wp 382 0 [(0, .ref 1), (1, .int x1), (2, .int x2), (3, .ref 70)] [] (gE Lx) I L e Q) : Wp 382 0 [(0, .ref 1), (1, .int x1), (2, .int x2), (3, .ref 70)] [] (gE Lx) I L e (oI Q) := by
  obtain ⟨o, g2, I2, L2, e2, h1, h2⟩ := h
  exact ⟨o, g2, I2, L2, e2, h1, h2, (((((h1.i f_382_0 rfl).i f_382_1 rfl).i f_382_2 rfl).i f_382_3 rfl).i f_382_4 rfl).out f_382_5 rfl f_382_8 f_382_9 f_382_10 f_382_21 f_382_22⟩
theorem v_388 {Lx : Nat} {I : Mi} {L : Ml} {e : Nat} {Q : Kq} {x1 x2 x3 : Int32} (h : Wp 388 0 [(0, .ref 1), (1, .int x1), (2, .int x2), (3, .int x3), (4, .ref 70)] [] (gE Lx) I L e Q) : Wp 388 0 [(0, .ref 1), (1, .int x1), (2, .int x2), (3, .int x3), (4, .ref 70)] [] (gE Lx) I L e (oI Q) := by
  obtain ⟨o, g2, I2, L2, e2, h1, h2⟩ := h
  exact ⟨o, g2, I2, L2, e2, h1, h2, ((((((h1.i f_388_0 rfl).i f_388_2 rfl).i f_388_3 rfl).i f_388_4 rfl).i f_388_5 rfl).i f_388_6 rfl).out f_388_7 rfl f_388_10 f_388_11 f_388_12 f_388_23 f_388_24⟩
theorem v_389 {Lx : Nat} {I : Mi} {L : Ml} {e : Nat} {Q : Kq} {x1 x2 x3 : Int32} (h : Wp 389 0 [(0, .ref 1), (1, .int x1), (2, .int x2), (3, .int x3), (4, .ref 70)] [] (gE Lx) I L e Q) : Wp 389 0 [(0, .ref 1), (1, .int x1), (2, .int x2), (3, .int x3), (4, .ref 70)] [] (gE Lx) I L e (oI Q) := by
  obtain ⟨o, g2, I2, L2, e2, h1, h2⟩ := h
  exact ⟨o, g2, I2, L2, e2, h1, h2, ((((((h1.i f_389_0 rfl).i f_389_2 rfl).i f_389_3 rfl).i f_389_4 rfl).i f_389_5 rfl).i f_389_6 rfl).out f_389_7 rfl f_389_10 f_389_11 f_389_12 f_389_19 f_389_20⟩
theorem v_391 {Lx : Nat} {I : Mi} {L : Ml} {e : Nat} {Q : Kq} {x1 x2 x3 : Int32} (h : Wp 391 0 [(0, .ref 1), (1, .int x1), (2, .int x2), (3, .int x3), (4, .ref 70)] [] (gE Lx) I L e Q) : Wp 391 0 [(0, .ref 1), (1, .int x1), (2, .int x2), (3, .int x3), (4, .ref 70)] [] (gE Lx) I L e (oI Q) := by
  obtain ⟨o, g2, I2, L2, e2, h1, h2⟩ := h
  exact ⟨o, g2, I2, L2, e2, h1, h2, ((((((h1.i f_391_0 rfl).i f_391_2 rfl).i f_391_3 rfl).i f_391_4 rfl).i f_391_5 rfl).i f_391_6 rfl).out f_391_7 rfl f_391_10 f_391_11 f_391_12 f_391_19 f_391_20⟩
theorem v_392 {Lx : Nat} {I : Mi} {L : Ml} {e : Nat} {Q : Kq} {x1 x2 x3 x4 : Int32} (h : Wp 392 0 [(0, .ref 1), (1, .int x1), (2, .int x2), (3, .int x3), (4, .int x4), (5, .ref 70)] [] (gE Lx) I L e Q) : Wp 392 0 [(0, .ref 1), (1, .int x1), (2, .int x2), (3, .int x3), (4, .int x4), (5, .ref 70)] [] (gE Lx) I L e (oI Q) := by
  obtain ⟨o, g2, I2, L2, e2, h1, h2⟩ := h
  exact ⟨o, g2, I2, L2, e2, h1, h2, (((((((h1.i f_392_0 rfl).i f_392_2 rfl).i f_392_3 rfl).i f_392_4 rfl).i f_392_5 rfl).i f_392_6 rfl).i f_392_7 rfl).out f_392_9 rfl f_392_12 f_392_13 f_392_14 f_392_29 f_392_30⟩
theorem v_394 {Lx : Nat} {I : Mi} {L : Ml} {e : Nat} {Q : Kq} {x1 x2 x3 x4 x5 : Int32} (h : Wp 394 0 [(0, .ref 1), (1, .int x1), (2, .int x2), (3, .int x3), (4, .int x4), (5, .int x5), (6, .ref 70)] [] (gE Lx) I L e Q) : Wp 394 0 [(0, .ref 1), (1, .int x1), (2, .int x2), (3, .int x3), (4, .int x4), (5, .int x5), (6, .ref 70)] [] (gE Lx) I L e (oI Q) := by
  obtain ⟨o, g2, I2, L2, e2, h1, h2⟩ := h
  exact ⟨o, g2, I2, L2, e2, h1, h2, ((((((((h1.i f_394_0 rfl).i f_394_2 rfl).i f_394_3 rfl).i f_394_4 rfl).i f_394_5 rfl).i f_394_6 rfl).i f_394_7 rfl).i f_394_9 rfl).out f_394_11 rfl f_394_14 f_394_15 f_394_16 f_394_31 f_394_32⟩
theorem v_395 {Lx : Nat} {I : Mi} {L : Ml} {e : Nat} {Q : Kq} {x1 x2 x3 x4 x5 : Int32} (h : Wp 395 0 [(0, .ref 1), (1, .int x1), (2, .int x2), (3, .int x3), (4, .int x4), (5, .int x5), (6, .ref 70)] [] (gE Lx) I L e Q) : Wp 395 0 [(0, .ref 1), (1, .int x1), (2, .int x2), (3, .int x3), (4, .int x4), (5, .int x5), (6, .ref 70)] [] (gE Lx) I L e (oI Q) := by
  obtain ⟨o, g2, I2, L2, e2, h1, h2⟩ := h
  exact ⟨o, g2, I2, L2, e2, h1, h2, ((((((((h1.i f_395_0 rfl).i f_395_2 rfl).i f_395_3 rfl).i f_395_4 rfl).i f_395_5 rfl).i f_395_6 rfl).i f_395_7 rfl).i f_395_9 rfl).out f_395_11 rfl f_395_14 f_395_15 f_395_16 f_395_35 f_395_36⟩
theorem v_396 {Lx : Nat} {I : Mi} {L : Ml} {e : Nat} {Q : Kq} {x1 x2 : Int32} (h : Wp 396 0 [(0, .ref 1), (1, .int x1), (2, .int x2), (3, .ref 70)] [] (gE Lx) I L e Q) : Wp 396 0 [(0, .ref 1), (1, .int x1), (2, .int x2), (3, .ref 70)] [] (gE Lx) I L e (oI Q) := by
  obtain ⟨o, g2, I2, L2, e2, h1, h2⟩ := h
  exact ⟨o, g2, I2, L2, e2, h1, h2, (((((h1.i f_396_0 rfl).i f_396_1 rfl).i f_396_2 rfl).i f_396_3 rfl).i f_396_4 rfl).out f_396_5 rfl f_396_8 f_396_9 f_396_10 f_396_21 f_396_22⟩
theorem v_401 {Lx : Nat} {I : Mi} {L : Ml} {e : Nat} {Q : Kq} {x1 x2 x3 : Int32} (h : Wp 401 0 [(0, .ref 1), (1, .int x1), (2, .int x2), (3, .int x3), (4, .ref 70)] [] (gE Lx) I L e Q) : Wp 401 0 [(0, .ref 1), (1, .int x1), (2, .int x2), (3, .int x3), (4, .ref 70)] [] (gE Lx) I L e (oI Q) := by
  obtain ⟨o, g2, I2, L2, e2, h1, h2⟩ := h
  exact ⟨o, g2, I2, L2, e2, h1, h2, ((((((h1.i f_401_0 rfl).i f_401_2 rfl).i f_401_3 rfl).i f_401_4 rfl).i f_401_5 rfl).i f_401_6 rfl).out f_401_7 rfl f_401_10 f_401_11 f_401_12 f_401_27 f_401_28⟩
theorem v_402 {Lx : Nat} {I : Mi} {L : Ml} {e : Nat} {Q : Kq} {x1 x2 : Int32} (h : Wp 402 0 [(0, .ref 1), (1, .int x1), (2, .int x2), (3, .ref 70)] [] (gE Lx) I L e Q) : Wp 402 0 [(0, .ref 1), (1, .int x1), (2, .int x2), (3, .ref 70)] [] (gE Lx) I L e (oI Q) := by
  obtain ⟨o, g2, I2, L2, e2, h1, h2⟩ := h
  exact ⟨o, g2, I2, L2, e2, h1, h2, (((((h1.i f_402_0 rfl).i f_402_1 rfl).i f_402_2 rfl).i f_402_3 rfl).i f_402_4 rfl).out f_402_5 rfl f_402_8 f_402_9 f_402_10 f_402_25 f_402_26⟩
theorem v_404 {Lx : Nat} {I : Mi} {L : Ml} {e : Nat} {Q : Kq} {x1 x2 : Int32} (h : Wp 404 0 [(0, .ref 1), (1, .int x1), (2, .int x2), (3, .ref 70)] [] (gE Lx) I L e Q) : Wp 404 0 [(0, .ref 1), (1, .int x1), (2, .int x2), (3, .ref 70)] [] (gE Lx) I L e (oI Q) := by
  obtain ⟨o, g2, I2, L2, e2, h1, h2⟩ := h
  exact ⟨o, g2, I2, L2, e2, h1, h2, (((((h1.i f_404_0 rfl).i f_404_1 rfl).i f_404_2 rfl).i f_404_3 rfl).i f_404_4 rfl).out f_404_5 rfl f_404_8 f_404_9 f_404_10 f_404_25 f_404_26⟩
theorem v_405 {Lx : Nat} {I : Mi} {L : Ml} {e : Nat} {Q : Kq} {x1 x2 x3 x4 x5 x6 : Int32} (h : Wp 405 0 [(0, .ref 1), (1, .int x1), (2, .int x2), (3, .int x3), (4, .int x4), (5, .int x5), (6, .int x6), (7, .ref 70)] [] (gE Lx) I L e Q) : Wp 405 0 [(0, .ref 1), (1, .int x1), (2, .int x2), (3, .int x3), (4, .int x4), (5, .int x5), (6, .int x6), (7, .ref 70)] [] (gE Lx) I L e (oI Q) := by
  obtain ⟨o, g2, I2, L2, e2, h1, h2⟩ := h
  exact ⟨o, g2, I2, L2, e2, h1, h2, (((((((((h1.i f_405_0 rfl).i f_405_2 rfl).i f_405_3 rfl).i f_405_4 rfl).i f_405_5 rfl).i f_405_6 rfl).i f_405_7 rfl).i f_405_9 rfl).i f_405_11 rfl).out f_405_13 rfl f_405_16 f_405_17 f_405_18 f_405_33 f_405_34⟩
theorem v_407 {Lx : Nat} {I : Mi} {L : Ml} {e : Nat} {Q : Kq} {x1 x2 x3 x4 x5 : Int32} (h : Wp 407 0 [(0, .ref 1), (1, .int x1), (2, .int x2), (3, .int x3), (4, .int x4), (5, .int x5), (6, .ref 70)] [] (gE Lx) I L e Q) : Wp 407 0 [(0, .ref 1), (1, .int x1), (2, .int x2), (3, .int x3), (4, .int x4), (5, .int x5), (6, .ref 70)] [] (gE Lx) I L e (oI Q) := by
  obtain ⟨o, g2, I2, L2, e2, h1, h2⟩ := h
  exact ⟨o, g2, I2, L2, e2, h1, h2, ((((((((h1.i f_407_0 rfl).i f_407_2 rfl).i f_407_3 rfl).i f_407_4 rfl).i f_407_5 rfl).i f_407_6 rfl).i f_407_7 rfl).i f_407_9 rfl).out f_407_11 rfl f_407_14 f_407_15 f_407_16 f_407_31 f_407_32⟩
theorem v_409 {Lx : Nat} {I : Mi} {L : Ml} {e : Nat} {Q : Kq} {x1 x2 x3 x4 x5 : Int32} (h : Wp 409 0 [(0, .ref 1), (1, .int x1), (2, .int x2), (3, .int x3), (4, .int x4), (5, .int x5), (6, .ref 70)] [] (gE Lx) I L e Q) : Wp 409 0 [(0, .ref 1), (1, .int x1), (2, .int x2), (3, .int x3), (4, .int x4), (5, .int x5), (6, .ref 70)] [] (gE Lx) I L e (oI Q) := by
  obtain ⟨o, g2, I2, L2, e2, h1, h2⟩ := h
  exact ⟨o, g2, I2, L2, e2, h1, h2, ((((((((h1.i f_409_0 rfl).i f_409_2 rfl).i f_409_3 rfl).i f_409_4 rfl).i f_409_5 rfl).i f_409_6 rfl).i f_409_7 rfl).i f_409_9 rfl).out f_409_11 rfl f_409_14 f_409_15 f_409_16 f_409_35 f_409_36⟩
theorem v_410 {Lx : Nat} {I : Mi} {L : Ml} {e : Nat} {Q : Kq} {x1 x2 : Int32} (h : Wp 410 0 [(0, .ref 1), (1, .int x1), (2, .int x2), (3, .ref 70)] [] (gE Lx) I L e Q) : Wp 410 0 [(0, .ref 1), (1, .int x1), (2, .int x2), (3, .ref 70)] [] (gE Lx) I L e (oI Q) := by
  obtain ⟨o, g2, I2, L2, e2, h1, h2⟩ := h
  exact ⟨o, g2, I2, L2, e2, h1, h2, (((((h1.i f_410_0 rfl).i f_410_1 rfl).i f_410_2 rfl).i f_410_3 rfl).i f_410_4 rfl).out f_410_5 rfl f_410_8 f_410_9 f_410_10 f_410_25 f_410_26⟩
theorem v_411 {Lx : Nat} {I : Mi} {L : Ml} {e : Nat} {Q : Kq} {x1 : Int32} (h : Wp 411 0 [(0, .ref 1), (1, .int x1), (2, .ref 70)] [] (gE Lx) I L e Q) : Wp 411 0 [(0, .ref 1), (1, .int x1), (2, .ref 70)] [] (gE Lx) I L e (oI Q) := by
  obtain ⟨o, g2, I2, L2, e2, h1, h2⟩ := h
  exact ⟨o, g2, I2, L2, e2, h1, h2, ((((h1.i f_411_0 rfl).i f_411_1 rfl).i f_411_2 rfl).i f_411_3 rfl).out f_411_4 rfl f_411_7 f_411_8 f_411_9 f_411_15 f_411_16⟩
theorem v_414 {Lx : Nat} {I : Mi} {L : Ml} {e : Nat} {Q : Kq} {x1 : Int32} (h : Wp 414 0 [(0, .ref 1), (1, .int x1), (2, .ref 70)] [] (gE Lx) I L e Q) : Wp 414 0 [(0, .ref 1), (1, .int x1), (2, .ref 70)] [] (gE Lx) I L e (oI Q) := by
  obtain ⟨o, g2, I2, L2, e2, h1, h2⟩ := h
  exact ⟨o, g2, I2, L2, e2, h1, h2, ((((h1.i f_414_0 rfl).i f_414_1 rfl).i f_414_2 rfl).i f_414_3 rfl).out f_414_4 rfl f_414_7 f_414_8 f_414_9 f_414_18 f_414_19⟩
