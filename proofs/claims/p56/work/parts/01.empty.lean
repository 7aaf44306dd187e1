/-! The owed statement says nothing: no launch lists this class file with this word for the law's code. The file's own law has an exception table of four rows; the word says that there is none. -/
set_option maxRecDepth 100000 in
theorem em_table : ((textOf? x.name).bind fun n => (textOf? x.desc).bind fun d => (classFile.handlers? n d).map List.length) = some 4 := by decide +kernel
set_option maxRecDepth 100000 in
theorem em_code : classFile.hasCode x code maxLocals ret = false := by decide +kernel
theorem em_lists (l : Launch) (h : Lists l classFile x code maxLocals ret tables_1 room_1) : False := by
  obtain ⟨-, hf, ⟨hc, -⟩, -⟩ := h
  have hm : (x, code, maxLocals, ret) ∈ (headSpec (Cond.code x code maxLocals ret :: tables_1) room_1).pre.codes ++ (headSpec (Cond.code x code maxLocals ret :: tables_1) room_1).post.codes := by
    refine List.mem_append_left _ ?_
    show (x, code, maxLocals, ret) ∈ [(x, code, maxLocals, ret)] ++ (allAtoms tables_1).codes
    exact List.mem_append_left _ (List.mem_singleton.mpr rfl)
  have h1 := hc _ hm
  dsimp only at h1
  rw [hf, Option.any_some, em_code] at h1
  cases h1
theorem i_vc : Claimed_1_1 ∧ Claimed_1_2 := ⟨fun l _ hL _ => (em_lists l hL).elim, fun l _ hL _ => (em_lists l hL).elim⟩
