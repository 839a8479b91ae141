set_option maxRecDepth 100000 in
theorem kw_X3_program__fieldLink_RX3_13_ActHouse_programLengths_I_ : (.fieldLink RX3 13 "ActHouse" "programLengths" "[I" : Cond) ∈ wsX3_program := by decide +kernel
set_option maxRecDepth 100000 in
theorem kin_X3_program_X3 : ∀ w ∈ u_ws RX3 TX3 18, w ∈ wsX3_program := by decide +kernel
set_option maxHeartbeats 4000000 in
set_option maxRecDepth 100000 in
theorem c_X3_program {l : Launch} {D : va_G} {sz : Nat} {h : Nat} {xprogramSteps : Nat} {xprogramLengths : Nat} {xlimits : Nat} {xfloors : Nat} {xvalues : Nat} {xacts : Nat} {xorder : Nat} {xdoneRow : Nat} {xrunning : Nat} {xbegunOfClass : Nat} {xbook : Nat} {xwaits : Nat} {x : Int32} {f : Nat → Int32} {cI : ClassId}  : Met l yX3_program wsX3_program ({ frames := 1, cells := 0, slots := 0, locals := 21 }) (va_Pc [.ref h, .int x] (k_Pre D [(cI, .int)] [(h, .inr (3, [.ref xprogramSteps, .ref xprogramLengths, .ref xlimits, .ref xfloors, .ref xvalues, .ref xacts, .ref xorder, .ref xdoneRow, .ref xrunning, .ref xbegunOfClass, .ref xbook, .ref xwaits, .int 0, .int 0, .int 0, .int 0, .int 0, .int 0])), (xprogramLengths, .inl (cI, 8, .inl f))] sz)) (va_Qi (fun (r : Int32) (u : va_W × List (ClassId × FieldType)) => (r = 1 ∧ u = ([], [(cI, .int)]) ∧ 0 ≤ x.toInt ∧ x.toInt < 8) ∨ (r = 0 ∧ u = ([], [(cI, .int)]) ∧ (x.toInt < 0 ∨ 8 ≤ x.toInt))) (k_B D (va_A [(h, .inr (3, [.ref xprogramSteps, .ref xprogramLengths, .ref xlimits, .ref xfloors, .ref xvalues, .ref xacts, .ref xorder, .ref xdoneRow, .ref xrunning, .ref xbegunOfClass, .ref xbook, .ref xwaits, .int 0, .int 0, .int 0, .int 0, .int 0, .int 0])), (xprogramLengths, .inl (cI, 8, .inl f))] sz)) (va_A [(h, .inr (3, [.ref xprogramSteps, .ref xprogramLengths, .ref xlimits, .ref xfloors, .ref xvalues, .ref xacts, .ref xorder, .ref xdoneRow, .ref xrunning, .ref xbegunOfClass, .ref xbook, .ref xwaits, .int 0, .int 0, .int 0, .int 0, .int 0, .int 0])), (xprogramLengths, .inl (cI, 8, .inl f))] sz)) 0 0 (va_A [(h, .inr (3, [.ref xprogramSteps, .ref xprogramLengths, .ref xlimits, .ref xfloors, .ref xvalues, .ref xacts, .ref xorder, .ref xdoneRow, .ref xrunning, .ref xbegunOfClass, .ref xbook, .ref xwaits, .int 0, .int 0, .int 0, .int 0, .int 0, .int 0])), (xprogramLengths, .inl (cI, 8, .inl f))] sz) := by
  refine Met.ofW (cc := cX3_program) (maxL := 2) (ret := (some .boolean)) (by decide) rfl ?_
  intro p e s m args below meth c s₁ B hml hv
  obtain ⟨rfl, hsz, hP, hK, hD0⟩ := hv
  have hx := B.exec
  have hb := B.bytes
  have hr := B.returns
  have hts := atoms_spec (ws := wsX3_program) B.pre
  have hown : s.vm.findClass RX3 = some m.cls := findClass_of_methodNamed B.named
  have hlocks := B.notSynchronized
  subst hsz
  have hD := hD0.self (sz := s.heap.size)
  generalize hAe : va_A [(h, .inr (3, [.ref xprogramSteps, .ref xprogramLengths, .ref xlimits, .ref xfloors, .ref xvalues, .ref xacts, .ref xorder, .ref xdoneRow, .ref xrunning, .ref xbegunOfClass, .ref xbook, .ref xwaits, .int 0, .int 0, .int 0, .int 0, .int 0, .int 0])), (xprogramLengths, .inl (cI, 8, .inl f))] s.heap.size = A at hD ⊢
  have hA : ∀ q : Nat, s.heap.size ≤ q → A q := fun q h => by rw [← hAe]; exact Or.inr h
  have hS : va_S A s.heap s.heap [] := va_S.rf
  have hl := lv_entry ([.ref h, .int x]) (n := 2) (Nat.le_of_ble_eq_true rfl)
  rw [lg_entry_eq]
  generalize (lg_sl ([.ref h, .int x]) ++ List.replicate (2 - (lg_sl ([.ref h, .int x])).length) Slot.unset).toArray = ls at hl ⊢
  have hl : lv_has ls 2 [(0, .ref h), (1, .int x)] := hl
  refine lv_iload_n hx hb dX3_program_0 rfl (lv_at hl 1 rfl) ?_
  refine lv_bipush (v := 8) hx hb dX3_program_1 (by decide) ?_
  have hPc := hP.sub (ws' := []) [] rfl
  have hDc := hD.sub (ws' := []) [] (by decide) rfl
  have hKc := hK.sub (tys' := []) [] rfl
  have hFc := va_free (wc := []) hD hS hA [] rfl
  refine va_calli (va_runS (As := [.int x, .int 8]) (rest := []) ⟨hx, hb, hml, hown, hts⟩ (c_X3_isBelow (l := l) (D := D) (x := x) (y := 8) ) (va_cwS 2 hts gX3_program_X3_isBelow rfl rfl rfl (by decide +kernel) ⟨Nat.le_of_ble_eq_true rfl, Nat.le_of_ble_eq_true rfl⟩) ⟨k_blind, fun U hU hW => ⟨rfl, k_pre hU hW hPc hKc hDc⟩⟩ rfl rfl hl.1 rfl (lv_room (Nat.le_of_ble_eq_true rfl)) dX3_program_3 ⟨by decide, by decide⟩) hS (fun q _ h => hFc q h) hFc (fun r1 u t H1 locs ht hvm hw hB hz1 hk1 hS => ?_)
  refine W.widen (k := 0) (n := 0) (Nat.le_refl _) (Nat.le_refl _) ?_
  have hl8 : (8 : Int32).toInt = 8 := by decide
  rcases hw with ⟨rfl, rfl, ha_1, hb_1⟩ | ⟨rfl, rfl, ha_1⟩
  · skip
    obtain ⟨hP1, hK1, hD1⟩ := hB
    rw [ht] at hP1
    have hK1 := va_K.moved hvm.symm hK1
    obtain ⟨hP, hD⟩ := va_join (wr := [(h, .inr (3, [.ref xprogramSteps, .ref xprogramLengths, .ref xlimits, .ref xfloors, .ref xvalues, .ref xacts, .ref xorder, .ref xdoneRow, .ref xrunning, .ref xbegunOfClass, .ref xbook, .ref xwaits, .int 0, .int 0, .int 0, .int 0, .int 0, .int 0])), (xprogramLengths, .inl (cI, 8, .inl f))]) (w1 := []) hP hD [] [0, 1] rfl rfl (by decide) (by decide) hk1 hFc hP1 hD1
    generalize H1 = H at hP hS ⊢
    have hP : va_P D vwCl [(h, .inr (3, [.ref xprogramSteps, .ref xprogramLengths, .ref xlimits, .ref xfloors, .ref xvalues, .ref xacts, .ref xorder, .ref xdoneRow, .ref xrunning, .ref xbegunOfClass, .ref xbook, .ref xwaits, .int 0, .int 0, .int 0, .int 0, .int 0, .int 0])), (xprogramLengths, .inl (cI, 8, .inl f))] H := hP
    have hD : va_D A [(h, .inr (3, [.ref xprogramSteps, .ref xprogramLengths, .ref xlimits, .ref xfloors, .ref xvalues, .ref xacts, .ref xorder, .ref xdoneRow, .ref xrunning, .ref xbegunOfClass, .ref xbook, .ref xwaits, .int 0, .int 0, .int 0, .int 0, .int 0, .int 0])), (xprogramLengths, .inl (cI, 8, .inl f))] := hD
    refine lv_if_ne (tgt := 11) hx hb dX3_program_6 (by decide) (fun c2 => ?_) (fun c2 => ?_)
    · skip
      refine lv_aload_n hx hb dX3_program_11 rfl (lv_at hl 0 rfl) ?_
      refine va_get (D := D) (ci := 3) (v := .ref xprogramLengths) (C := RX3) (T := TX3) (N := 18) hx hb hts kin_X3_program_X3 hown hK hP 0 rfl rfl 1 (by decide) (hts _ kw_X3_program__fieldLink_RX3_13_ActHouse_programLengths_I_) (fun _ h9 => h9) rfl dX3_program_12 ?_
      refine lv_iload_n hx hb dX3_program_15 rfl (lv_at hl 1 rfl) ?_
      refine lv_iconst (v := 0) hx hb dX3_program_16 (by decide) ?_
      have hi17 : vp_in x 8 := (k_in (by omega) (by omega))
      refine va_iast hx hb hK hP hD hS 1 0 rfl rfl hi17 dX3_program_17 (fun H locs hP hD hS => ?_)
      have hP : va_P D vwCl [(h, .inr (3, [.ref xprogramSteps, .ref xprogramLengths, .ref xlimits, .ref xfloors, .ref xvalues, .ref xacts, .ref xorder, .ref xdoneRow, .ref xrunning, .ref xbegunOfClass, .ref xbook, .ref xwaits, .int 0, .int 0, .int 0, .int 0, .int 0, .int 0])), (xprogramLengths, .inl (cI, 8, .inl (upd f x.toNatClampNeg 0)))] H := hP
      have hD : va_D A [(h, .inr (3, [.ref xprogramSteps, .ref xprogramLengths, .ref xlimits, .ref xfloors, .ref xvalues, .ref xacts, .ref xorder, .ref xdoneRow, .ref xrunning, .ref xbegunOfClass, .ref xbook, .ref xwaits, .int 0, .int 0, .int 0, .int 0, .int 0, .int 0])), (xprogramLengths, .inl (cI, 8, .inl (upd f x.toNatClampNeg 0)))] := hD
      refine lv_iconst (v := 1) hx hb dX3_program_18 (by decide) ?_
      have hP := hP.sub (ws' := []) [] rfl
      have hD := hD.sub (ws' := []) [] (by decide) rfl
      have hK := hK.sub (tys' := [(cI, .int)]) [0] rfl
      refine W.widen (k := 0) (n := 0) (by decide) (by decide) ?_
      exact W.zret (v := 1) hx hb hr (by decide) (fun t ht hW => ⟨⟨1, ([], [(cI, .int)]), rfl, Or.inl ⟨rfl, rfl, (by omega), (by omega)⟩, ⟨by rw [ht]; exact hP, va_K.moved hW.alike hK, hD⟩⟩, hS.F ht⟩) hS.2.2 dX3_program_19
    · skip
      exact absurd c2 (by decide)
  · skip
    obtain ⟨hP1, hK1, hD1⟩ := hB
    rw [ht] at hP1
    have hK1 := va_K.moved hvm.symm hK1
    obtain ⟨hP, hD⟩ := va_join (wr := [(h, .inr (3, [.ref xprogramSteps, .ref xprogramLengths, .ref xlimits, .ref xfloors, .ref xvalues, .ref xacts, .ref xorder, .ref xdoneRow, .ref xrunning, .ref xbegunOfClass, .ref xbook, .ref xwaits, .int 0, .int 0, .int 0, .int 0, .int 0, .int 0])), (xprogramLengths, .inl (cI, 8, .inl f))]) (w1 := []) hP hD [] [0, 1] rfl rfl (by decide) (by decide) hk1 hFc hP1 hD1
    generalize H1 = H at hP hS ⊢
    have hP : va_P D vwCl [(h, .inr (3, [.ref xprogramSteps, .ref xprogramLengths, .ref xlimits, .ref xfloors, .ref xvalues, .ref xacts, .ref xorder, .ref xdoneRow, .ref xrunning, .ref xbegunOfClass, .ref xbook, .ref xwaits, .int 0, .int 0, .int 0, .int 0, .int 0, .int 0])), (xprogramLengths, .inl (cI, 8, .inl f))] H := hP
    have hD : va_D A [(h, .inr (3, [.ref xprogramSteps, .ref xprogramLengths, .ref xlimits, .ref xfloors, .ref xvalues, .ref xacts, .ref xorder, .ref xdoneRow, .ref xrunning, .ref xbegunOfClass, .ref xbook, .ref xwaits, .int 0, .int 0, .int 0, .int 0, .int 0, .int 0])), (xprogramLengths, .inl (cI, 8, .inl f))] := hD
    refine lv_if_ne (tgt := 11) hx hb dX3_program_6 (by decide) (fun c3 => ?_) (fun c3 => ?_)
    · skip
      exact absurd c3 (by decide)
    · skip
      refine lv_iconst (v := 0) hx hb dX3_program_9 (by decide) ?_
      have hP := hP.sub (ws' := []) [] rfl
      have hD := hD.sub (ws' := []) [] (by decide) rfl
      have hK := hK.sub (tys' := [(cI, .int)]) [0] rfl
      refine W.widen (k := 0) (n := 0) (by decide) (by decide) ?_
      exact W.zret (v := 0) hx hb hr (by decide) (fun t ht hW => ⟨⟨0, ([], [(cI, .int)]), rfl, Or.inr (⟨rfl, rfl, (by omega)⟩), ⟨by rw [ht]; exact hP, va_K.moved hW.alike hK, hD⟩⟩, hS.F ht⟩) hS.2.2 dX3_program_10
set_option maxRecDepth 100000 in
theorem kw_X3_step__fieldLink_RX3_13_ActHouse_programLengths_I_ : (.fieldLink RX3 13 "ActHouse" "programLengths" "[I" : Cond) ∈ wsX3_step := by decide +kernel
set_option maxRecDepth 100000 in
theorem kin_X3_step_X3 : ∀ w ∈ u_ws RX3 TX3 18, w ∈ wsX3_step := by decide +kernel
set_option maxRecDepth 100000 in
theorem kw_X3_step__fieldLink_RX3_9_ActHouse_programSteps_I_ : (.fieldLink RX3 9 "ActHouse" "programSteps" "[I" : Cond) ∈ wsX3_step := by decide +kernel
set_option maxHeartbeats 4000000 in
set_option maxRecDepth 100000 in
theorem c_X3_step {l : Launch} {D : va_G} {sz : Nat} {h : Nat} {xprogramSteps : Nat} {xprogramLengths : Nat} {xlimits : Nat} {xfloors : Nat} {xvalues : Nat} {xacts : Nat} {xorder : Nat} {xdoneRow : Nat} {xrunning : Nat} {xbegunOfClass : Nat} {xbook : Nat} {xwaits : Nat} {x : Int32} {y : Int32} {cI : ClassId}  : Met l yX3_step wsX3_step ({ frames := 2, cells := 0, slots := 0, locals := 40 }) (va_Pc [.ref h, .int x, .int y] (k_Pre D [(cI, .int)] [(h, .inr (3, [.ref xprogramSteps, .ref xprogramLengths, .ref xlimits, .ref xfloors, .ref xvalues, .ref xacts, .ref xorder, .ref xdoneRow, .ref xrunning, .ref xbegunOfClass, .ref xbook, .ref xwaits, .int 0, .int 0, .int 0, .int 0, .int 0, .int 0])), (xprogramLengths, .inl (cI, 8, .inl (fun _ => 0))), (xprogramSteps, .inl (cI, 96, .inl (fun _ => 0)))] sz)) (va_Qi (fun (r : Int32) (u : va_W × List (ClassId × FieldType)) => (r = 1 ∧ u = ([], [(cI, .int)]) ∧ 0 ≤ x.toInt ∧ x.toInt < 8 ∧ kv y = 1) ∨ (r = (-1) ∧ u = ([], [(cI, .int)]) ∧ (x.toInt < 0 ∨ 8 ≤ x.toInt ∨ kv y = 0))) (k_B D (va_A [(h, .inr (3, [.ref xprogramSteps, .ref xprogramLengths, .ref xlimits, .ref xfloors, .ref xvalues, .ref xacts, .ref xorder, .ref xdoneRow, .ref xrunning, .ref xbegunOfClass, .ref xbook, .ref xwaits, .int 0, .int 0, .int 0, .int 0, .int 0, .int 0])), (xprogramLengths, .inl (cI, 8, .inl (fun _ => 0))), (xprogramSteps, .inl (cI, 96, .inl (fun _ => 0)))] sz)) (va_A [(h, .inr (3, [.ref xprogramSteps, .ref xprogramLengths, .ref xlimits, .ref xfloors, .ref xvalues, .ref xacts, .ref xorder, .ref xdoneRow, .ref xrunning, .ref xbegunOfClass, .ref xbook, .ref xwaits, .int 0, .int 0, .int 0, .int 0, .int 0, .int 0])), (xprogramLengths, .inl (cI, 8, .inl (fun _ => 0))), (xprogramSteps, .inl (cI, 96, .inl (fun _ => 0)))] sz)) 0 0 (va_A [(h, .inr (3, [.ref xprogramSteps, .ref xprogramLengths, .ref xlimits, .ref xfloors, .ref xvalues, .ref xacts, .ref xorder, .ref xdoneRow, .ref xrunning, .ref xbegunOfClass, .ref xbook, .ref xwaits, .int 0, .int 0, .int 0, .int 0, .int 0, .int 0])), (xprogramLengths, .inl (cI, 8, .inl (fun _ => 0))), (xprogramSteps, .inl (cI, 96, .inl (fun _ => 0)))] sz) := by
  refine Met.ofW (cc := cX3_step) (maxL := 4) (ret := (some .int)) (by decide) rfl ?_
  intro p e s m args below meth c s₁ B hml hv
  obtain ⟨rfl, hsz, hP, hK, hD0⟩ := hv
  have hx := B.exec
  have hb := B.bytes
  have hr := B.returns
  have hts := atoms_spec (ws := wsX3_step) B.pre
  have hown : s.vm.findClass RX3 = some m.cls := findClass_of_methodNamed B.named
  have hlocks := B.notSynchronized
  subst hsz
  have hD := hD0.self (sz := s.heap.size)
  generalize hAe : va_A [(h, .inr (3, [.ref xprogramSteps, .ref xprogramLengths, .ref xlimits, .ref xfloors, .ref xvalues, .ref xacts, .ref xorder, .ref xdoneRow, .ref xrunning, .ref xbegunOfClass, .ref xbook, .ref xwaits, .int 0, .int 0, .int 0, .int 0, .int 0, .int 0])), (xprogramLengths, .inl (cI, 8, .inl (fun _ => 0))), (xprogramSteps, .inl (cI, 96, .inl (fun _ => 0)))] s.heap.size = A at hD ⊢
  have hA : ∀ q : Nat, s.heap.size ≤ q → A q := fun q h => by rw [← hAe]; exact Or.inr h
  have hS : va_S A s.heap s.heap [] := va_S.rf
  have hl := lv_entry ([.ref h, .int x, .int y]) (n := 4) (Nat.le_of_ble_eq_true rfl)
  rw [lg_entry_eq]
  generalize (lg_sl ([.ref h, .int x, .int y]) ++ List.replicate (4 - (lg_sl ([.ref h, .int x, .int y])).length) Slot.unset).toArray = ls at hl ⊢
  have hl : lv_has ls 4 [(0, .ref h), (1, .int x), (2, .int y)] := hl
  refine lv_iload_n hx hb dX3_step_0 rfl (lv_at hl 1 rfl) ?_
  refine lv_bipush (v := 8) hx hb dX3_step_1 (by decide) ?_
  have hPc := hP.sub (ws' := []) [] rfl
  have hDc := hD.sub (ws' := []) [] (by decide) rfl
  have hKc := hK.sub (tys' := []) [] rfl
  have hFc := va_free (wc := []) hD hS hA [] rfl
  refine va_calli (va_runS (As := [.int x, .int 8]) (rest := []) ⟨hx, hb, hml, hown, hts⟩ (c_X3_isBelow (l := l) (D := D) (x := x) (y := 8) ) (va_cwS 2 hts gX3_step_X3_isBelow rfl rfl rfl (by decide +kernel) ⟨Nat.le_of_ble_eq_true rfl, Nat.le_of_ble_eq_true rfl⟩) ⟨k_blind, fun U hU hW => ⟨rfl, k_pre hU hW hPc hKc hDc⟩⟩ rfl rfl hl.1 rfl (lv_room (Nat.le_of_ble_eq_true rfl)) dX3_step_3 ⟨by decide, by decide⟩) hS (fun q _ h => hFc q h) hFc (fun r1 u t H1 locs ht hvm hw hB hz1 hk1 hS => ?_)
  refine W.widen (k := 0) (n := 0) (Nat.le_refl _) (Nat.le_refl _) ?_
  have hl8 : (8 : Int32).toInt = 8 := by decide
  rcases hw with ⟨rfl, rfl, ha_1, hb_1⟩ | ⟨rfl, rfl, ha_1⟩
  · skip
    obtain ⟨hP1, hK1, hD1⟩ := hB
    rw [ht] at hP1
    have hK1 := va_K.moved hvm.symm hK1
    obtain ⟨hP, hD⟩ := va_join (wr := [(h, .inr (3, [.ref xprogramSteps, .ref xprogramLengths, .ref xlimits, .ref xfloors, .ref xvalues, .ref xacts, .ref xorder, .ref xdoneRow, .ref xrunning, .ref xbegunOfClass, .ref xbook, .ref xwaits, .int 0, .int 0, .int 0, .int 0, .int 0, .int 0])), (xprogramLengths, .inl (cI, 8, .inl (fun _ => 0))), (xprogramSteps, .inl (cI, 96, .inl (fun _ => 0)))]) (w1 := []) hP hD [] [0, 1, 2] rfl rfl (by decide) (by decide) hk1 hFc hP1 hD1
    generalize H1 = H at hP hS ⊢
    have hP : va_P D vwCl [(h, .inr (3, [.ref xprogramSteps, .ref xprogramLengths, .ref xlimits, .ref xfloors, .ref xvalues, .ref xacts, .ref xorder, .ref xdoneRow, .ref xrunning, .ref xbegunOfClass, .ref xbook, .ref xwaits, .int 0, .int 0, .int 0, .int 0, .int 0, .int 0])), (xprogramLengths, .inl (cI, 8, .inl (fun _ => 0))), (xprogramSteps, .inl (cI, 96, .inl (fun _ => 0)))] H := hP
    have hD : va_D A [(h, .inr (3, [.ref xprogramSteps, .ref xprogramLengths, .ref xlimits, .ref xfloors, .ref xvalues, .ref xacts, .ref xorder, .ref xdoneRow, .ref xrunning, .ref xbegunOfClass, .ref xbook, .ref xwaits, .int 0, .int 0, .int 0, .int 0, .int 0, .int 0])), (xprogramLengths, .inl (cI, 8, .inl (fun _ => 0))), (xprogramSteps, .inl (cI, 96, .inl (fun _ => 0)))] := hD
    refine lv_if_eq (tgt := 16) hx hb dX3_step_6 (by decide) (fun c2 => ?_) (fun c2 => ?_)
    · skip
      exact absurd c2 (by decide)
    · skip
      refine lv_iload_n hx hb dX3_step_9 rfl (lv_at hl 2 rfl) ?_
      have hPc := hP.sub (ws' := []) [] rfl
      have hDc := hD.sub (ws' := []) [] (by decide) rfl
      have hKc := hK.sub (tys' := []) [] rfl
      have hFc := va_free (wc := []) hD hS hA [] rfl
      refine va_calli (va_runS (As := [.int y]) (rest := []) ⟨hx, hb, hml, hown, hts⟩ (c_X3_isStep (l := l) (D := D) (x := y) ) (va_cwS 1 hts gX3_step_X3_isStep rfl rfl rfl (by decide +kernel) ⟨Nat.le_of_ble_eq_true rfl, Nat.le_of_ble_eq_true rfl⟩) ⟨k_blind, fun U hU hW => ⟨rfl, k_pre hU hW hPc hKc hDc⟩⟩ rfl rfl hl.1 rfl (lv_room (Nat.le_of_ble_eq_true rfl)) dX3_step_10 ⟨by decide, by decide⟩) hS (fun q _ h => hFc q h) hFc (fun r3 u t H1 locs ht hvm hw hB hz1 hk1 hS => ?_)
      refine W.widen (k := 0) (n := 0) (Nat.le_refl _) (Nat.le_refl _) ?_
      rcases hw with ⟨rfl, rfl, ha_3⟩ | ⟨rfl, rfl, ha_3⟩
      · skip
        obtain ⟨hP1, hK1, hD1⟩ := hB
        rw [ht] at hP1
        have hK1 := va_K.moved hvm.symm hK1
        obtain ⟨hP, hD⟩ := va_join (wr := [(h, .inr (3, [.ref xprogramSteps, .ref xprogramLengths, .ref xlimits, .ref xfloors, .ref xvalues, .ref xacts, .ref xorder, .ref xdoneRow, .ref xrunning, .ref xbegunOfClass, .ref xbook, .ref xwaits, .int 0, .int 0, .int 0, .int 0, .int 0, .int 0])), (xprogramLengths, .inl (cI, 8, .inl (fun _ => 0))), (xprogramSteps, .inl (cI, 96, .inl (fun _ => 0)))]) (w1 := []) hP hD [] [0, 1, 2] rfl rfl (by decide) (by decide) hk1 hFc hP1 hD1
        generalize H1 = H at hP hS ⊢
        have hP : va_P D vwCl [(h, .inr (3, [.ref xprogramSteps, .ref xprogramLengths, .ref xlimits, .ref xfloors, .ref xvalues, .ref xacts, .ref xorder, .ref xdoneRow, .ref xrunning, .ref xbegunOfClass, .ref xbook, .ref xwaits, .int 0, .int 0, .int 0, .int 0, .int 0, .int 0])), (xprogramLengths, .inl (cI, 8, .inl (fun _ => 0))), (xprogramSteps, .inl (cI, 96, .inl (fun _ => 0)))] H := hP
        have hD : va_D A [(h, .inr (3, [.ref xprogramSteps, .ref xprogramLengths, .ref xlimits, .ref xfloors, .ref xvalues, .ref xacts, .ref xorder, .ref xdoneRow, .ref xrunning, .ref xbegunOfClass, .ref xbook, .ref xwaits, .int 0, .int 0, .int 0, .int 0, .int 0, .int 0])), (xprogramLengths, .inl (cI, 8, .inl (fun _ => 0))), (xprogramSteps, .inl (cI, 96, .inl (fun _ => 0)))] := hD
        refine lv_if_ne (tgt := 18) hx hb dX3_step_13 (by decide) (fun c4 => ?_) (fun c4 => ?_)
        · skip
          refine lv_aload_n hx hb dX3_step_18 rfl (lv_at hl 0 rfl) ?_
          refine va_get (D := D) (ci := 3) (v := .ref xprogramLengths) (C := RX3) (T := TX3) (N := 18) hx hb hts kin_X3_step_X3 hown hK hP 0 rfl rfl 1 (by decide) (hts _ kw_X3_step__fieldLink_RX3_13_ActHouse_programLengths_I_) (fun _ h9 => h9) rfl dX3_step_19 ?_
          refine lv_iload_n hx hb dX3_step_22 rfl (lv_at hl 1 rfl) ?_
          have hi23 : vp_in x 8 := (k_in (by omega) (by omega))
          refine va_iald hx hb hK hP 1 0 rfl rfl hi23 dX3_step_23 ?_
          refine lv_istore_n (lv' := [(3, .int 0), (0, .ref h), (1, .int x), (2, .int y)]) hx hb dX3_step_24 rfl hl (by decide) rfl (fun ls hl => ?_)
          refine lv_iload_n hx hb dX3_step_25 rfl (lv_at hl 0 rfl) ?_
          refine lv_bipush (v := 12) hx hb dX3_step_26 (by decide) ?_
          refine lv_icmp_lt (tgt := 33) hx hb dX3_step_28 (by decide) (fun c5 => ?_) (fun c5 => ?_)
          · skip
            refine lv_aload_n hx hb dX3_step_33 rfl (lv_at hl 1 rfl) ?_
            refine va_get (D := D) (ci := 3) (v := .ref xprogramSteps) (C := RX3) (T := TX3) (N := 18) hx hb hts kin_X3_step_X3 hown hK hP 0 rfl rfl 0 (by decide) (hts _ kw_X3_step__fieldLink_RX3_9_ActHouse_programSteps_I_) (fun _ h9 => h9) rfl dX3_step_34 ?_
            refine lv_iload_n hx hb dX3_step_37 rfl (lv_at hl 2 rfl) ?_
            refine lv_bipush (v := 12) hx hb dX3_step_38 (by decide) ?_
            refine lv_imul hx hb dX3_step_40 ?_
            refine lv_iload_n hx hb dX3_step_41 rfl (lv_at hl 0 rfl) ?_
            refine lv_iadd hx hb dX3_step_42 ?_
            refine lv_iload_n hx hb dX3_step_43 rfl (lv_at hl 3 rfl) ?_
            have hl12 : (12 : Int32).toInt = 12 := by decide
            have ef6 := k_mul (x := x) (y := 12) (N := 12) (by decide) (by omega) (by omega)
            have hl0 : (0 : Int32).toInt = 0 := by decide
            have ef7 := k_add (x := (x * 12)) (y := 0) (by omega) (by omega)
            have hi44 : vp_in ((x * 12) + 0) 96 := (k_in (by omega) (by omega))
            refine va_iast hx hb hK hP hD hS 2 0 rfl rfl hi44 dX3_step_44 (fun H locs hP hD hS => ?_)
            have hP : va_P D vwCl [(h, .inr (3, [.ref xprogramSteps, .ref xprogramLengths, .ref xlimits, .ref xfloors, .ref xvalues, .ref xacts, .ref xorder, .ref xdoneRow, .ref xrunning, .ref xbegunOfClass, .ref xbook, .ref xwaits, .int 0, .int 0, .int 0, .int 0, .int 0, .int 0])), (xprogramLengths, .inl (cI, 8, .inl (fun _ => 0))), (xprogramSteps, .inl (cI, 96, .inl (upd (fun _ => 0) ((x * 12) + 0).toNatClampNeg y)))] H := hP
            have hD : va_D A [(h, .inr (3, [.ref xprogramSteps, .ref xprogramLengths, .ref xlimits, .ref xfloors, .ref xvalues, .ref xacts, .ref xorder, .ref xdoneRow, .ref xrunning, .ref xbegunOfClass, .ref xbook, .ref xwaits, .int 0, .int 0, .int 0, .int 0, .int 0, .int 0])), (xprogramLengths, .inl (cI, 8, .inl (fun _ => 0))), (xprogramSteps, .inl (cI, 96, .inl (upd (fun _ => 0) ((x * 12) + 0).toNatClampNeg y)))] := hD
            refine lv_aload_n hx hb dX3_step_45 rfl (lv_at hl 1 rfl) ?_
            refine va_get (D := D) (ci := 3) (v := .ref xprogramLengths) (C := RX3) (T := TX3) (N := 18) hx hb hts kin_X3_step_X3 hown hK hP 0 rfl rfl 1 (by decide) (hts _ kw_X3_step__fieldLink_RX3_13_ActHouse_programLengths_I_) (fun _ h9 => h9) rfl dX3_step_46 ?_
            refine lv_iload_n hx hb dX3_step_49 rfl (lv_at hl 2 rfl) ?_
            refine lv_iload_n hx hb dX3_step_50 rfl (lv_at hl 0 rfl) ?_
            refine lv_iconst (v := 1) hx hb dX3_step_51 (by decide) ?_
            refine lv_iadd hx hb dX3_step_52 ?_
            refine W.eq (g2 := F0 m 53 ls [.int 1, .int x, .ref xprogramLengths]) (by first | rfl | (congr 2; decide)) ?_
            have hi53 : vp_in x 8 := (k_in (by omega) (by omega))
            refine va_iast hx hb hK hP hD hS 1 0 rfl rfl hi53 dX3_step_53 (fun H locs hP hD hS => ?_)
            have hP : va_P D vwCl [(h, .inr (3, [.ref xprogramSteps, .ref xprogramLengths, .ref xlimits, .ref xfloors, .ref xvalues, .ref xacts, .ref xorder, .ref xdoneRow, .ref xrunning, .ref xbegunOfClass, .ref xbook, .ref xwaits, .int 0, .int 0, .int 0, .int 0, .int 0, .int 0])), (xprogramLengths, .inl (cI, 8, .inl (upd (fun _ => 0) x.toNatClampNeg 1))), (xprogramSteps, .inl (cI, 96, .inl (upd (fun _ => 0) ((x * 12) + 0).toNatClampNeg y)))] H := hP
            have hD : va_D A [(h, .inr (3, [.ref xprogramSteps, .ref xprogramLengths, .ref xlimits, .ref xfloors, .ref xvalues, .ref xacts, .ref xorder, .ref xdoneRow, .ref xrunning, .ref xbegunOfClass, .ref xbook, .ref xwaits, .int 0, .int 0, .int 0, .int 0, .int 0, .int 0])), (xprogramLengths, .inl (cI, 8, .inl (upd (fun _ => 0) x.toNatClampNeg 1))), (xprogramSteps, .inl (cI, 96, .inl (upd (fun _ => 0) ((x * 12) + 0).toNatClampNeg y)))] := hD
            refine lv_iload_n hx hb dX3_step_54 rfl (lv_at hl 0 rfl) ?_
            refine lv_iconst (v := 1) hx hb dX3_step_55 (by decide) ?_
            refine lv_iadd hx hb dX3_step_56 ?_
            refine W.eq (g2 := F0 m 57 ls [.int 1]) (by first | rfl | (congr 2; decide)) ?_
            have hP := hP.sub (ws' := []) [] rfl
            have hD := hD.sub (ws' := []) [] (by decide) rfl
            have hK := hK.sub (tys' := [(cI, .int)]) [0] rfl
            refine W.widen (k := 0) (n := 0) (by decide) (by decide) ?_
            exact W.iret (v := 1) hx hb hr (fun t ht hW => ⟨⟨1, ([], [(cI, .int)]), rfl, Or.inl ⟨rfl, rfl, (by omega), (by omega), (by omega)⟩, ⟨by rw [ht]; exact hP, va_K.moved hW.alike hK, hD⟩⟩, hS.F ht⟩) hS.2.2 dX3_step_57
          · skip
            exact absurd c5 (by decide)
        · skip
          exact absurd c4 (by decide)
      · skip
        obtain ⟨hP1, hK1, hD1⟩ := hB
        rw [ht] at hP1
        have hK1 := va_K.moved hvm.symm hK1
        obtain ⟨hP, hD⟩ := va_join (wr := [(h, .inr (3, [.ref xprogramSteps, .ref xprogramLengths, .ref xlimits, .ref xfloors, .ref xvalues, .ref xacts, .ref xorder, .ref xdoneRow, .ref xrunning, .ref xbegunOfClass, .ref xbook, .ref xwaits, .int 0, .int 0, .int 0, .int 0, .int 0, .int 0])), (xprogramLengths, .inl (cI, 8, .inl (fun _ => 0))), (xprogramSteps, .inl (cI, 96, .inl (fun _ => 0)))]) (w1 := []) hP hD [] [0, 1, 2] rfl rfl (by decide) (by decide) hk1 hFc hP1 hD1
        generalize H1 = H at hP hS ⊢
        have hP : va_P D vwCl [(h, .inr (3, [.ref xprogramSteps, .ref xprogramLengths, .ref xlimits, .ref xfloors, .ref xvalues, .ref xacts, .ref xorder, .ref xdoneRow, .ref xrunning, .ref xbegunOfClass, .ref xbook, .ref xwaits, .int 0, .int 0, .int 0, .int 0, .int 0, .int 0])), (xprogramLengths, .inl (cI, 8, .inl (fun _ => 0))), (xprogramSteps, .inl (cI, 96, .inl (fun _ => 0)))] H := hP
        have hD : va_D A [(h, .inr (3, [.ref xprogramSteps, .ref xprogramLengths, .ref xlimits, .ref xfloors, .ref xvalues, .ref xacts, .ref xorder, .ref xdoneRow, .ref xrunning, .ref xbegunOfClass, .ref xbook, .ref xwaits, .int 0, .int 0, .int 0, .int 0, .int 0, .int 0])), (xprogramLengths, .inl (cI, 8, .inl (fun _ => 0))), (xprogramSteps, .inl (cI, 96, .inl (fun _ => 0)))] := hD
        refine lv_if_ne (tgt := 18) hx hb dX3_step_13 (by decide) (fun c8 => ?_) (fun c8 => ?_)
        · skip
          exact absurd c8 (by decide)
        · skip
          refine lv_iconst (v := (-1)) hx hb dX3_step_16 (by decide) ?_
          have hP := hP.sub (ws' := []) [] rfl
          have hD := hD.sub (ws' := []) [] (by decide) rfl
          have hK := hK.sub (tys' := [(cI, .int)]) [0] rfl
          refine W.widen (k := 0) (n := 0) (by decide) (by decide) ?_
          exact W.iret (v := (-1)) hx hb hr (fun t ht hW => ⟨⟨(-1), ([], [(cI, .int)]), rfl, Or.inr (⟨rfl, rfl, (by omega)⟩), ⟨by rw [ht]; exact hP, va_K.moved hW.alike hK, hD⟩⟩, hS.F ht⟩) hS.2.2 dX3_step_17
  · skip
    obtain ⟨hP1, hK1, hD1⟩ := hB
    rw [ht] at hP1
    have hK1 := va_K.moved hvm.symm hK1
    obtain ⟨hP, hD⟩ := va_join (wr := [(h, .inr (3, [.ref xprogramSteps, .ref xprogramLengths, .ref xlimits, .ref xfloors, .ref xvalues, .ref xacts, .ref xorder, .ref xdoneRow, .ref xrunning, .ref xbegunOfClass, .ref xbook, .ref xwaits, .int 0, .int 0, .int 0, .int 0, .int 0, .int 0])), (xprogramLengths, .inl (cI, 8, .inl (fun _ => 0))), (xprogramSteps, .inl (cI, 96, .inl (fun _ => 0)))]) (w1 := []) hP hD [] [0, 1, 2] rfl rfl (by decide) (by decide) hk1 hFc hP1 hD1
    generalize H1 = H at hP hS ⊢
    have hP : va_P D vwCl [(h, .inr (3, [.ref xprogramSteps, .ref xprogramLengths, .ref xlimits, .ref xfloors, .ref xvalues, .ref xacts, .ref xorder, .ref xdoneRow, .ref xrunning, .ref xbegunOfClass, .ref xbook, .ref xwaits, .int 0, .int 0, .int 0, .int 0, .int 0, .int 0])), (xprogramLengths, .inl (cI, 8, .inl (fun _ => 0))), (xprogramSteps, .inl (cI, 96, .inl (fun _ => 0)))] H := hP
    have hD : va_D A [(h, .inr (3, [.ref xprogramSteps, .ref xprogramLengths, .ref xlimits, .ref xfloors, .ref xvalues, .ref xacts, .ref xorder, .ref xdoneRow, .ref xrunning, .ref xbegunOfClass, .ref xbook, .ref xwaits, .int 0, .int 0, .int 0, .int 0, .int 0, .int 0])), (xprogramLengths, .inl (cI, 8, .inl (fun _ => 0))), (xprogramSteps, .inl (cI, 96, .inl (fun _ => 0)))] := hD
    refine lv_if_eq (tgt := 16) hx hb dX3_step_6 (by decide) (fun c9 => ?_) (fun c9 => ?_)
    · skip
      refine lv_iconst (v := (-1)) hx hb dX3_step_16 (by decide) ?_
      have hP := hP.sub (ws' := []) [] rfl
      have hD := hD.sub (ws' := []) [] (by decide) rfl
      have hK := hK.sub (tys' := [(cI, .int)]) [0] rfl
      refine W.widen (k := 0) (n := 0) (by decide) (by decide) ?_
      exact W.iret (v := (-1)) hx hb hr (fun t ht hW => ⟨⟨(-1), ([], [(cI, .int)]), rfl, Or.inr (⟨rfl, rfl, (by omega)⟩), ⟨by rw [ht]; exact hP, va_K.moved hW.alike hK, hD⟩⟩, hS.F ht⟩) hS.2.2 dX3_step_17
    · skip
      exact absurd c9 (by decide)
set_option maxRecDepth 100000 in
theorem kw_X3_limit__fieldLink_RX3_16_ActHouse_limits_I_ : (.fieldLink RX3 16 "ActHouse" "limits" "[I" : Cond) ∈ wsX3_limit := by decide +kernel
set_option maxRecDepth 100000 in
theorem kin_X3_limit_X3 : ∀ w ∈ u_ws RX3 TX3 18, w ∈ wsX3_limit := by decide +kernel
set_option maxHeartbeats 4000000 in
set_option maxRecDepth 100000 in
theorem c_X3_limit {l : Launch} {D : va_G} {sz : Nat} {h : Nat} {xprogramSteps : Nat} {xprogramLengths : Nat} {xlimits : Nat} {xfloors : Nat} {xvalues : Nat} {xacts : Nat} {xorder : Nat} {xdoneRow : Nat} {xrunning : Nat} {xbegunOfClass : Nat} {xbook : Nat} {xwaits : Nat} {x : Int32} {y : Int32} {f : Nat → Int32} {cI : ClassId}  : Met l yX3_limit wsX3_limit ({ frames := 1, cells := 0, slots := 0, locals := 21 }) (va_Pc [.ref h, .int x, .int y] (k_Pre D [(cI, .int)] [(h, .inr (3, [.ref xprogramSteps, .ref xprogramLengths, .ref xlimits, .ref xfloors, .ref xvalues, .ref xacts, .ref xorder, .ref xdoneRow, .ref xrunning, .ref xbegunOfClass, .ref xbook, .ref xwaits, .int 0, .int 0, .int 0, .int 0, .int 0, .int 0])), (xlimits, .inl (cI, 4, .inl f))] sz)) (va_Qi (fun (r : Int32) (u : va_W × List (ClassId × FieldType)) => (r = 1 ∧ u = ([], [(cI, .int)]) ∧ 0 ≤ x.toInt ∧ x.toInt < 4 ∧ 0 ≤ y.toInt ∧ y.toInt ≤ 9) ∨ (r = 0 ∧ u = ([], [(cI, .int)]) ∧ (x.toInt < 0 ∨ 4 ≤ x.toInt ∨ y.toInt < 0 ∨ 9 < y.toInt))) (k_B D (va_A [(h, .inr (3, [.ref xprogramSteps, .ref xprogramLengths, .ref xlimits, .ref xfloors, .ref xvalues, .ref xacts, .ref xorder, .ref xdoneRow, .ref xrunning, .ref xbegunOfClass, .ref xbook, .ref xwaits, .int 0, .int 0, .int 0, .int 0, .int 0, .int 0])), (xlimits, .inl (cI, 4, .inl f))] sz)) (va_A [(h, .inr (3, [.ref xprogramSteps, .ref xprogramLengths, .ref xlimits, .ref xfloors, .ref xvalues, .ref xacts, .ref xorder, .ref xdoneRow, .ref xrunning, .ref xbegunOfClass, .ref xbook, .ref xwaits, .int 0, .int 0, .int 0, .int 0, .int 0, .int 0])), (xlimits, .inl (cI, 4, .inl f))] sz)) 0 0 (va_A [(h, .inr (3, [.ref xprogramSteps, .ref xprogramLengths, .ref xlimits, .ref xfloors, .ref xvalues, .ref xacts, .ref xorder, .ref xdoneRow, .ref xrunning, .ref xbegunOfClass, .ref xbook, .ref xwaits, .int 0, .int 0, .int 0, .int 0, .int 0, .int 0])), (xlimits, .inl (cI, 4, .inl f))] sz) := by
  refine Met.ofW (cc := cX3_limit) (maxL := 3) (ret := (some .boolean)) (by decide) rfl ?_
  intro p e s m args below meth c s₁ B hml hv
  obtain ⟨rfl, hsz, hP, hK, hD0⟩ := hv
  have hx := B.exec
  have hb := B.bytes
  have hr := B.returns
  have hts := atoms_spec (ws := wsX3_limit) B.pre
  have hown : s.vm.findClass RX3 = some m.cls := findClass_of_methodNamed B.named
  have hlocks := B.notSynchronized
  subst hsz
  have hD := hD0.self (sz := s.heap.size)
  generalize hAe : va_A [(h, .inr (3, [.ref xprogramSteps, .ref xprogramLengths, .ref xlimits, .ref xfloors, .ref xvalues, .ref xacts, .ref xorder, .ref xdoneRow, .ref xrunning, .ref xbegunOfClass, .ref xbook, .ref xwaits, .int 0, .int 0, .int 0, .int 0, .int 0, .int 0])), (xlimits, .inl (cI, 4, .inl f))] s.heap.size = A at hD ⊢
  have hA : ∀ q : Nat, s.heap.size ≤ q → A q := fun q h => by rw [← hAe]; exact Or.inr h
  have hS : va_S A s.heap s.heap [] := va_S.rf
  have hl := lv_entry ([.ref h, .int x, .int y]) (n := 3) (Nat.le_of_ble_eq_true rfl)
  rw [lg_entry_eq]
  generalize (lg_sl ([.ref h, .int x, .int y]) ++ List.replicate (3 - (lg_sl ([.ref h, .int x, .int y])).length) Slot.unset).toArray = ls at hl ⊢
  have hl : lv_has ls 3 [(0, .ref h), (1, .int x), (2, .int y)] := hl
  refine lv_iload_n hx hb dX3_limit_0 rfl (lv_at hl 1 rfl) ?_
  refine lv_iconst (v := 4) hx hb dX3_limit_1 (by decide) ?_
  have hPc := hP.sub (ws' := []) [] rfl
  have hDc := hD.sub (ws' := []) [] (by decide) rfl
  have hKc := hK.sub (tys' := []) [] rfl
  have hFc := va_free (wc := []) hD hS hA [] rfl
  refine va_calli (va_runS (As := [.int x, .int 4]) (rest := []) ⟨hx, hb, hml, hown, hts⟩ (c_X3_isBelow (l := l) (D := D) (x := x) (y := 4) ) (va_cwS 2 hts gX3_limit_X3_isBelow rfl rfl rfl (by decide +kernel) ⟨Nat.le_of_ble_eq_true rfl, Nat.le_of_ble_eq_true rfl⟩) ⟨k_blind, fun U hU hW => ⟨rfl, k_pre hU hW hPc hKc hDc⟩⟩ rfl rfl hl.1 rfl (lv_room (Nat.le_of_ble_eq_true rfl)) dX3_limit_2 ⟨by decide, by decide⟩) hS (fun q _ h => hFc q h) hFc (fun r1 u t H1 locs ht hvm hw hB hz1 hk1 hS => ?_)
  refine W.widen (k := 0) (n := 0) (Nat.le_refl _) (Nat.le_refl _) ?_
  have hl4 : (4 : Int32).toInt = 4 := by decide
  rcases hw with ⟨rfl, rfl, ha_1, hb_1⟩ | ⟨rfl, rfl, ha_1⟩
  · skip
    obtain ⟨hP1, hK1, hD1⟩ := hB
    rw [ht] at hP1
    have hK1 := va_K.moved hvm.symm hK1
    obtain ⟨hP, hD⟩ := va_join (wr := [(h, .inr (3, [.ref xprogramSteps, .ref xprogramLengths, .ref xlimits, .ref xfloors, .ref xvalues, .ref xacts, .ref xorder, .ref xdoneRow, .ref xrunning, .ref xbegunOfClass, .ref xbook, .ref xwaits, .int 0, .int 0, .int 0, .int 0, .int 0, .int 0])), (xlimits, .inl (cI, 4, .inl f))]) (w1 := []) hP hD [] [0, 1] rfl rfl (by decide) (by decide) hk1 hFc hP1 hD1
    generalize H1 = H at hP hS ⊢
    have hP : va_P D vwCl [(h, .inr (3, [.ref xprogramSteps, .ref xprogramLengths, .ref xlimits, .ref xfloors, .ref xvalues, .ref xacts, .ref xorder, .ref xdoneRow, .ref xrunning, .ref xbegunOfClass, .ref xbook, .ref xwaits, .int 0, .int 0, .int 0, .int 0, .int 0, .int 0])), (xlimits, .inl (cI, 4, .inl f))] H := hP
    have hD : va_D A [(h, .inr (3, [.ref xprogramSteps, .ref xprogramLengths, .ref xlimits, .ref xfloors, .ref xvalues, .ref xacts, .ref xorder, .ref xdoneRow, .ref xrunning, .ref xbegunOfClass, .ref xbook, .ref xwaits, .int 0, .int 0, .int 0, .int 0, .int 0, .int 0])), (xlimits, .inl (cI, 4, .inl f))] := hD
    refine lv_if_eq (tgt := 18) hx hb dX3_limit_5 (by decide) (fun c2 => ?_) (fun c2 => ?_)
    · skip
      exact absurd c2 (by decide)
    · skip
      refine lv_iload_n hx hb dX3_limit_8 rfl (lv_at hl 2 rfl) ?_
      refine lv_if_lt (tgt := 18) hx hb dX3_limit_9 (by decide) (fun c3 => ?_) (fun c3 => ?_)
      · skip
        have c3 := k_lt c3
        have hl0 : (0 : Int32).toInt = 0 := by decide
        refine lv_iconst (v := 0) hx hb dX3_limit_18 (by decide) ?_
        have hP := hP.sub (ws' := []) [] rfl
        have hD := hD.sub (ws' := []) [] (by decide) rfl
        have hK := hK.sub (tys' := [(cI, .int)]) [0] rfl
        refine W.widen (k := 0) (n := 0) (by decide) (by decide) ?_
        exact W.zret (v := 0) hx hb hr (by decide) (fun t ht hW => ⟨⟨0, ([], [(cI, .int)]), rfl, Or.inr (⟨rfl, rfl, (by omega)⟩), ⟨by rw [ht]; exact hP, va_K.moved hW.alike hK, hD⟩⟩, hS.F ht⟩) hS.2.2 dX3_limit_19
      · skip
        have c3 := k_nlt c3
        have hl0 : (0 : Int32).toInt = 0 := by decide
        refine lv_iload_n hx hb dX3_limit_12 rfl (lv_at hl 2 rfl) ?_
        refine lv_bipush (v := 9) hx hb dX3_limit_13 (by decide) ?_
        refine lv_icmp_le (tgt := 20) hx hb dX3_limit_15 (by decide) (fun c4 => ?_) (fun c4 => ?_)
        · skip
          have c4 := k_le c4
          have hl9 : (9 : Int32).toInt = 9 := by decide
          refine lv_aload_n hx hb dX3_limit_20 rfl (lv_at hl 0 rfl) ?_
          refine va_get (D := D) (ci := 3) (v := .ref xlimits) (C := RX3) (T := TX3) (N := 18) hx hb hts kin_X3_limit_X3 hown hK hP 0 rfl rfl 2 (by decide) (hts _ kw_X3_limit__fieldLink_RX3_16_ActHouse_limits_I_) (fun _ h9 => h9) rfl dX3_limit_21 ?_
          refine lv_iload_n hx hb dX3_limit_24 rfl (lv_at hl 1 rfl) ?_
          refine lv_iload_n hx hb dX3_limit_25 rfl (lv_at hl 2 rfl) ?_
          have hi26 : vp_in x 4 := (k_in (by omega) (by omega))
          refine va_iast hx hb hK hP hD hS 1 0 rfl rfl hi26 dX3_limit_26 (fun H locs hP hD hS => ?_)
          have hP : va_P D vwCl [(h, .inr (3, [.ref xprogramSteps, .ref xprogramLengths, .ref xlimits, .ref xfloors, .ref xvalues, .ref xacts, .ref xorder, .ref xdoneRow, .ref xrunning, .ref xbegunOfClass, .ref xbook, .ref xwaits, .int 0, .int 0, .int 0, .int 0, .int 0, .int 0])), (xlimits, .inl (cI, 4, .inl (upd f x.toNatClampNeg y)))] H := hP
          have hD : va_D A [(h, .inr (3, [.ref xprogramSteps, .ref xprogramLengths, .ref xlimits, .ref xfloors, .ref xvalues, .ref xacts, .ref xorder, .ref xdoneRow, .ref xrunning, .ref xbegunOfClass, .ref xbook, .ref xwaits, .int 0, .int 0, .int 0, .int 0, .int 0, .int 0])), (xlimits, .inl (cI, 4, .inl (upd f x.toNatClampNeg y)))] := hD
          refine lv_iconst (v := 1) hx hb dX3_limit_27 (by decide) ?_
          have hP := hP.sub (ws' := []) [] rfl
          have hD := hD.sub (ws' := []) [] (by decide) rfl
          have hK := hK.sub (tys' := [(cI, .int)]) [0] rfl
          refine W.widen (k := 0) (n := 0) (by decide) (by decide) ?_
          exact W.zret (v := 1) hx hb hr (by decide) (fun t ht hW => ⟨⟨1, ([], [(cI, .int)]), rfl, Or.inl ⟨rfl, rfl, (by omega), (by omega), (by omega), (by omega)⟩, ⟨by rw [ht]; exact hP, va_K.moved hW.alike hK, hD⟩⟩, hS.F ht⟩) hS.2.2 dX3_limit_28
        · skip
          have c4 := k_nle c4
          have hl9 : (9 : Int32).toInt = 9 := by decide
          refine lv_iconst (v := 0) hx hb dX3_limit_18 (by decide) ?_
          have hP := hP.sub (ws' := []) [] rfl
          have hD := hD.sub (ws' := []) [] (by decide) rfl
          have hK := hK.sub (tys' := [(cI, .int)]) [0] rfl
          refine W.widen (k := 0) (n := 0) (by decide) (by decide) ?_
          exact W.zret (v := 0) hx hb hr (by decide) (fun t ht hW => ⟨⟨0, ([], [(cI, .int)]), rfl, Or.inr (⟨rfl, rfl, (by omega)⟩), ⟨by rw [ht]; exact hP, va_K.moved hW.alike hK, hD⟩⟩, hS.F ht⟩) hS.2.2 dX3_limit_19
  · skip
    obtain ⟨hP1, hK1, hD1⟩ := hB
    rw [ht] at hP1
    have hK1 := va_K.moved hvm.symm hK1
    obtain ⟨hP, hD⟩ := va_join (wr := [(h, .inr (3, [.ref xprogramSteps, .ref xprogramLengths, .ref xlimits, .ref xfloors, .ref xvalues, .ref xacts, .ref xorder, .ref xdoneRow, .ref xrunning, .ref xbegunOfClass, .ref xbook, .ref xwaits, .int 0, .int 0, .int 0, .int 0, .int 0, .int 0])), (xlimits, .inl (cI, 4, .inl f))]) (w1 := []) hP hD [] [0, 1] rfl rfl (by decide) (by decide) hk1 hFc hP1 hD1
    generalize H1 = H at hP hS ⊢
    have hP : va_P D vwCl [(h, .inr (3, [.ref xprogramSteps, .ref xprogramLengths, .ref xlimits, .ref xfloors, .ref xvalues, .ref xacts, .ref xorder, .ref xdoneRow, .ref xrunning, .ref xbegunOfClass, .ref xbook, .ref xwaits, .int 0, .int 0, .int 0, .int 0, .int 0, .int 0])), (xlimits, .inl (cI, 4, .inl f))] H := hP
    have hD : va_D A [(h, .inr (3, [.ref xprogramSteps, .ref xprogramLengths, .ref xlimits, .ref xfloors, .ref xvalues, .ref xacts, .ref xorder, .ref xdoneRow, .ref xrunning, .ref xbegunOfClass, .ref xbook, .ref xwaits, .int 0, .int 0, .int 0, .int 0, .int 0, .int 0])), (xlimits, .inl (cI, 4, .inl f))] := hD
    refine lv_if_eq (tgt := 18) hx hb dX3_limit_5 (by decide) (fun c5 => ?_) (fun c5 => ?_)
    · skip
      refine lv_iconst (v := 0) hx hb dX3_limit_18 (by decide) ?_
      have hP := hP.sub (ws' := []) [] rfl
      have hD := hD.sub (ws' := []) [] (by decide) rfl
      have hK := hK.sub (tys' := [(cI, .int)]) [0] rfl
      refine W.widen (k := 0) (n := 0) (by decide) (by decide) ?_
      exact W.zret (v := 0) hx hb hr (by decide) (fun t ht hW => ⟨⟨0, ([], [(cI, .int)]), rfl, Or.inr (⟨rfl, rfl, (by omega)⟩), ⟨by rw [ht]; exact hP, va_K.moved hW.alike hK, hD⟩⟩, hS.F ht⟩) hS.2.2 dX3_limit_19
    · skip
      exact absurd c5 (by decide)
set_option maxRecDepth 100000 in
theorem kw_X3_leastToCome__fieldLink_RX3_22_ActHouse_values_I_ : (.fieldLink RX3 22 "ActHouse" "values" "[I" : Cond) ∈ wsX3_leastToCome := by decide +kernel
set_option maxRecDepth 100000 in
theorem kin_X3_leastToCome_X3 : ∀ w ∈ u_ws RX3 TX3 18, w ∈ wsX3_leastToCome := by decide +kernel
set_option maxRecDepth 100000 in
theorem kw_X3_leastToCome__fieldLink_RX3_102_ActHouse_actCount_I_ : (.fieldLink RX3 102 "ActHouse" "actCount" "I" : Cond) ∈ wsX3_leastToCome := by decide +kernel
set_option maxHeartbeats 4000000 in
set_option maxRecDepth 100000 in
theorem c_X3_leastToCome {l : Launch} {D : va_G} {sz : Nat} {h : Nat} {xprogramSteps : Nat} {xprogramLengths : Nat} {xlimits : Nat} {xfloors : Nat} {xvalues : Nat} {xacts : Nat} {xorder : Nat} {xdoneRow : Nat} {xrunning : Nat} {xbegunOfClass : Nat} {xbook : Nat} {xwaits : Nat} {x : Int32} {cI : ClassId} (hx0 : 0 ≤ x.toInt) (hx1 : x.toInt < 8) : Met l yX3_leastToCome wsX3_leastToCome ({ frames := 0, cells := 0, slots := 0, locals := 0 }) (va_Pc [.ref h, .int x] (k_Pre D [(cI, .int)] [(h, .inr (3, [.ref xprogramSteps, .ref xprogramLengths, .ref xlimits, .ref xfloors, .ref xvalues, .ref xacts, .ref xorder, .ref xdoneRow, .ref xrunning, .ref xbegunOfClass, .ref xbook, .ref xwaits, .int 0, .int 0, .int 0, .int 0, .int 0, .int 0])), (xvalues, .inl (cI, 32, .inl (fun _ => 0)))] sz)) (va_Qi (fun (r : Int32) (u : va_W × List (ClassId × FieldType)) => (r = 0 ∧ u = ([(h, .inr (3, [.ref xprogramSteps, .ref xprogramLengths, .ref xlimits, .ref xfloors, .ref xvalues, .ref xacts, .ref xorder, .ref xdoneRow, .ref xrunning, .ref xbegunOfClass, .ref xbook, .ref xwaits, .int 0, .int 0, .int 0, .int 0, .int 0, .int 0])), (xvalues, .inl (cI, 32, .inl (fun _ => 0)))], [(cI, .int)]))) (k_B D (va_A [(h, .inr (3, [.ref xprogramSteps, .ref xprogramLengths, .ref xlimits, .ref xfloors, .ref xvalues, .ref xacts, .ref xorder, .ref xdoneRow, .ref xrunning, .ref xbegunOfClass, .ref xbook, .ref xwaits, .int 0, .int 0, .int 0, .int 0, .int 0, .int 0])), (xvalues, .inl (cI, 32, .inl (fun _ => 0)))] sz)) (va_A [(h, .inr (3, [.ref xprogramSteps, .ref xprogramLengths, .ref xlimits, .ref xfloors, .ref xvalues, .ref xacts, .ref xorder, .ref xdoneRow, .ref xrunning, .ref xbegunOfClass, .ref xbook, .ref xwaits, .int 0, .int 0, .int 0, .int 0, .int 0, .int 0])), (xvalues, .inl (cI, 32, .inl (fun _ => 0)))] sz)) 0 0 (va_A [(h, .inr (3, [.ref xprogramSteps, .ref xprogramLengths, .ref xlimits, .ref xfloors, .ref xvalues, .ref xacts, .ref xorder, .ref xdoneRow, .ref xrunning, .ref xbegunOfClass, .ref xbook, .ref xwaits, .int 0, .int 0, .int 0, .int 0, .int 0, .int 0])), (xvalues, .inl (cI, 32, .inl (fun _ => 0)))] sz) := by
  refine Met.ofW (cc := cX3_leastToCome) (maxL := 4) (ret := (some .int)) (by decide) rfl ?_
  intro p e s m args below meth c s₁ B hml hv
  obtain ⟨rfl, hsz, hP, hK, hD0⟩ := hv
  have hx := B.exec
  have hb := B.bytes
  have hr := B.returns
  have hts := atoms_spec (ws := wsX3_leastToCome) B.pre
  have hown : s.vm.findClass RX3 = some m.cls := findClass_of_methodNamed B.named
  have hlocks := B.notSynchronized
  subst hsz
  have hD := hD0.self (sz := s.heap.size)
  generalize hAe : va_A [(h, .inr (3, [.ref xprogramSteps, .ref xprogramLengths, .ref xlimits, .ref xfloors, .ref xvalues, .ref xacts, .ref xorder, .ref xdoneRow, .ref xrunning, .ref xbegunOfClass, .ref xbook, .ref xwaits, .int 0, .int 0, .int 0, .int 0, .int 0, .int 0])), (xvalues, .inl (cI, 32, .inl (fun _ => 0)))] s.heap.size = A at hD ⊢
  have hA : ∀ q : Nat, s.heap.size ≤ q → A q := fun q h => by rw [← hAe]; exact Or.inr h
  have hS : va_S A s.heap s.heap [] := va_S.rf
  have hl := lv_entry ([.ref h, .int x]) (n := 4) (Nat.le_of_ble_eq_true rfl)
  rw [lg_entry_eq]
  generalize (lg_sl ([.ref h, .int x]) ++ List.replicate (4 - (lg_sl ([.ref h, .int x])).length) Slot.unset).toArray = ls at hl ⊢
  have hl : lv_has ls 4 [(0, .ref h), (1, .int x)] := hl
  refine lv_aload_n hx hb dX3_leastToCome_0 rfl (lv_at hl 0 rfl) ?_
  refine va_get (D := D) (ci := 3) (v := .ref xvalues) (C := RX3) (T := TX3) (N := 18) hx hb hts kin_X3_leastToCome_X3 hown hK hP 0 rfl rfl 4 (by decide) (hts _ kw_X3_leastToCome__fieldLink_RX3_22_ActHouse_values_I_) (fun _ h9 => h9) rfl dX3_leastToCome_1 ?_
  refine lv_bipush (v := 24) hx hb dX3_leastToCome_4 (by decide) ?_
  refine lv_iload_n hx hb dX3_leastToCome_6 rfl (lv_at hl 1 rfl) ?_
  refine lv_iadd hx hb dX3_leastToCome_7 ?_
  have hl24 : (24 : Int32).toInt = 24 := by decide
  have ef1 := k_add (x := 24) (y := x) (by omega) (by omega)
  have hi8 : vp_in (24 + x) 32 := (k_in (by omega) (by omega))
  refine va_iald hx hb hK hP 1 0 rfl rfl hi8 dX3_leastToCome_8 ?_
  refine lv_istore_n (lv' := [(2, .int 0), (0, .ref h), (1, .int x)]) hx hb dX3_leastToCome_9 rfl hl (by decide) rfl (fun ls hl => ?_)
  refine lv_iconst (v := 0) hx hb dX3_leastToCome_10 (by decide) ?_
  refine lv_istore_n (lv' := [(3, .int 0), (2, .int 0), (0, .ref h), (1, .int x)]) hx hb dX3_leastToCome_11 rfl hl (by decide) rfl (fun ls hl => ?_)
  refine lv_iload_n hx hb dX3_leastToCome_12 rfl (lv_at hl 0 rfl) ?_
  refine lv_aload_n hx hb dX3_leastToCome_13 rfl (lv_at hl 2 rfl) ?_
  refine va_get (D := D) (ci := 3) (v := .int 0) (C := RX3) (T := TX3) (N := 18) hx hb hts kin_X3_leastToCome_X3 hown hK hP 0 rfl rfl 12 (by decide) (hts _ kw_X3_leastToCome__fieldLink_RX3_102_ActHouse_actCount_I_) (fun _ h9 => h9) rfl dX3_leastToCome_14 ?_
  refine lv_icmp_ge (tgt := 53) hx hb dX3_leastToCome_17 (by decide) (fun c2 => ?_) (fun c2 => ?_)
  · skip
    refine lv_iload_n hx hb dX3_leastToCome_53 rfl (lv_at hl 1 rfl) ?_
    have hP := hP.sub (ws' := [(h, .inr (3, [.ref xprogramSteps, .ref xprogramLengths, .ref xlimits, .ref xfloors, .ref xvalues, .ref xacts, .ref xorder, .ref xdoneRow, .ref xrunning, .ref xbegunOfClass, .ref xbook, .ref xwaits, .int 0, .int 0, .int 0, .int 0, .int 0, .int 0])), (xvalues, .inl (cI, 32, .inl (fun _ => 0)))]) [0, 1] rfl
    have hD := hD.sub (ws' := [(h, .inr (3, [.ref xprogramSteps, .ref xprogramLengths, .ref xlimits, .ref xfloors, .ref xvalues, .ref xacts, .ref xorder, .ref xdoneRow, .ref xrunning, .ref xbegunOfClass, .ref xbook, .ref xwaits, .int 0, .int 0, .int 0, .int 0, .int 0, .int 0])), (xvalues, .inl (cI, 32, .inl (fun _ => 0)))]) [0, 1] (by decide) rfl
    have hK := hK.sub (tys' := [(cI, .int)]) [0] rfl
    refine W.widen (k := 0) (n := 0) (by decide) (by decide) ?_
    exact W.iret (v := 0) hx hb hr (fun t ht hW => ⟨⟨0, ([(h, .inr (3, [.ref xprogramSteps, .ref xprogramLengths, .ref xlimits, .ref xfloors, .ref xvalues, .ref xacts, .ref xorder, .ref xdoneRow, .ref xrunning, .ref xbegunOfClass, .ref xbook, .ref xwaits, .int 0, .int 0, .int 0, .int 0, .int 0, .int 0])), (xvalues, .inl (cI, 32, .inl (fun _ => 0)))], [(cI, .int)]), rfl, ⟨rfl, rfl⟩, ⟨by rw [ht]; exact hP, va_K.moved hW.alike hK, hD⟩⟩, hS.F ht⟩) hS.2.2 dX3_leastToCome_54
  · skip
    exact absurd c2 (by decide)
set_option maxRecDepth 100000 in
theorem kw_X3_floor__fieldLink_RX3_19_ActHouse_floors_I_ : (.fieldLink RX3 19 "ActHouse" "floors" "[I" : Cond) ∈ wsX3_floor := by decide +kernel
set_option maxRecDepth 100000 in
theorem kin_X3_floor_X3 : ∀ w ∈ u_ws RX3 TX3 18, w ∈ wsX3_floor := by decide +kernel
set_option maxHeartbeats 4000000 in
set_option maxRecDepth 100000 in
theorem c_X3_floor {l : Launch} {D : va_G} {sz : Nat} {h : Nat} {xprogramSteps : Nat} {xprogramLengths : Nat} {xlimits : Nat} {xfloors : Nat} {xvalues : Nat} {xacts : Nat} {xorder : Nat} {xdoneRow : Nat} {xrunning : Nat} {xbegunOfClass : Nat} {xbook : Nat} {xwaits : Nat} {x : Int32} {y : Int32} {cI : ClassId}  : Met l yX3_floor wsX3_floor ({ frames := 1, cells := 0, slots := 0, locals := 23 }) (va_Pc [.ref h, .int x, .int y] (k_Pre D [(cI, .int)] [(h, .inr (3, [.ref xprogramSteps, .ref xprogramLengths, .ref xlimits, .ref xfloors, .ref xvalues, .ref xacts, .ref xorder, .ref xdoneRow, .ref xrunning, .ref xbegunOfClass, .ref xbook, .ref xwaits, .int 0, .int 0, .int 0, .int 0, .int 0, .int 0])), (xvalues, .inl (cI, 32, .inl (fun _ => 0))), (xfloors, .inl (cI, 8, .inl (fun _ => 0)))] sz)) (va_Qi (fun (r : Int32) (u : va_W × List (ClassId × FieldType)) => (r = 1 ∧ u = ([], [(cI, .int)]) ∧ 0 ≤ x.toInt ∧ x.toInt < 8 ∧ -1000 ≤ y.toInt ∧ y.toInt ≤ 0) ∨ (r = 0 ∧ u = ([], [(cI, .int)]) ∧ (x.toInt < 0 ∨ 8 ≤ x.toInt ∨ y.toInt < -1000 ∨ 0 < y.toInt))) (k_B D (va_A [(h, .inr (3, [.ref xprogramSteps, .ref xprogramLengths, .ref xlimits, .ref xfloors, .ref xvalues, .ref xacts, .ref xorder, .ref xdoneRow, .ref xrunning, .ref xbegunOfClass, .ref xbook, .ref xwaits, .int 0, .int 0, .int 0, .int 0, .int 0, .int 0])), (xvalues, .inl (cI, 32, .inl (fun _ => 0))), (xfloors, .inl (cI, 8, .inl (fun _ => 0)))] sz)) (va_A [(h, .inr (3, [.ref xprogramSteps, .ref xprogramLengths, .ref xlimits, .ref xfloors, .ref xvalues, .ref xacts, .ref xorder, .ref xdoneRow, .ref xrunning, .ref xbegunOfClass, .ref xbook, .ref xwaits, .int 0, .int 0, .int 0, .int 0, .int 0, .int 0])), (xvalues, .inl (cI, 32, .inl (fun _ => 0))), (xfloors, .inl (cI, 8, .inl (fun _ => 0)))] sz)) 0 0 (va_A [(h, .inr (3, [.ref xprogramSteps, .ref xprogramLengths, .ref xlimits, .ref xfloors, .ref xvalues, .ref xacts, .ref xorder, .ref xdoneRow, .ref xrunning, .ref xbegunOfClass, .ref xbook, .ref xwaits, .int 0, .int 0, .int 0, .int 0, .int 0, .int 0])), (xvalues, .inl (cI, 32, .inl (fun _ => 0))), (xfloors, .inl (cI, 8, .inl (fun _ => 0)))] sz) := by
  refine Met.ofW (cc := cX3_floor) (maxL := 3) (ret := (some .boolean)) (by decide) rfl ?_
  intro p e s m args below meth c s₁ B hml hv
  obtain ⟨rfl, hsz, hP, hK, hD0⟩ := hv
  have hx := B.exec
  have hb := B.bytes
  have hr := B.returns
  have hts := atoms_spec (ws := wsX3_floor) B.pre
  have hown : s.vm.findClass RX3 = some m.cls := findClass_of_methodNamed B.named
  have hlocks := B.notSynchronized
  subst hsz
  have hD := hD0.self (sz := s.heap.size)
  generalize hAe : va_A [(h, .inr (3, [.ref xprogramSteps, .ref xprogramLengths, .ref xlimits, .ref xfloors, .ref xvalues, .ref xacts, .ref xorder, .ref xdoneRow, .ref xrunning, .ref xbegunOfClass, .ref xbook, .ref xwaits, .int 0, .int 0, .int 0, .int 0, .int 0, .int 0])), (xvalues, .inl (cI, 32, .inl (fun _ => 0))), (xfloors, .inl (cI, 8, .inl (fun _ => 0)))] s.heap.size = A at hD ⊢
  have hA : ∀ q : Nat, s.heap.size ≤ q → A q := fun q h => by rw [← hAe]; exact Or.inr h
  have hS : va_S A s.heap s.heap [] := va_S.rf
  have hl := lv_entry ([.ref h, .int x, .int y]) (n := 3) (Nat.le_of_ble_eq_true rfl)
  rw [lg_entry_eq]
  generalize (lg_sl ([.ref h, .int x, .int y]) ++ List.replicate (3 - (lg_sl ([.ref h, .int x, .int y])).length) Slot.unset).toArray = ls at hl ⊢
  have hl : lv_has ls 3 [(0, .ref h), (1, .int x), (2, .int y)] := hl
  refine lv_iload_n hx hb dX3_floor_0 rfl (lv_at hl 1 rfl) ?_
  refine lv_bipush (v := 8) hx hb dX3_floor_1 (by decide) ?_
  have hPc := hP.sub (ws' := []) [] rfl
  have hDc := hD.sub (ws' := []) [] (by decide) rfl
  have hKc := hK.sub (tys' := []) [] rfl
  have hFc := va_free (wc := []) hD hS hA [] rfl
  refine va_calli (va_runS (As := [.int x, .int 8]) (rest := []) ⟨hx, hb, hml, hown, hts⟩ (c_X3_isBelow (l := l) (D := D) (x := x) (y := 8) ) (va_cwS 2 hts gX3_floor_X3_isBelow rfl rfl rfl (by decide +kernel) ⟨Nat.le_of_ble_eq_true rfl, Nat.le_of_ble_eq_true rfl⟩) ⟨k_blind, fun U hU hW => ⟨rfl, k_pre hU hW hPc hKc hDc⟩⟩ rfl rfl hl.1 rfl (lv_room (Nat.le_of_ble_eq_true rfl)) dX3_floor_3 ⟨by decide, by decide⟩) hS (fun q _ h => hFc q h) hFc (fun r1 u t H1 locs ht hvm hw hB hz1 hk1 hS => ?_)
  refine W.widen (k := 0) (n := 0) (Nat.le_refl _) (Nat.le_refl _) ?_
  have hl8 : (8 : Int32).toInt = 8 := by decide
  rcases hw with ⟨rfl, rfl, ha_1, hb_1⟩ | ⟨rfl, rfl, ha_1⟩
  · skip
    obtain ⟨hP1, hK1, hD1⟩ := hB
    rw [ht] at hP1
    have hK1 := va_K.moved hvm.symm hK1
    obtain ⟨hP, hD⟩ := va_join (wr := [(h, .inr (3, [.ref xprogramSteps, .ref xprogramLengths, .ref xlimits, .ref xfloors, .ref xvalues, .ref xacts, .ref xorder, .ref xdoneRow, .ref xrunning, .ref xbegunOfClass, .ref xbook, .ref xwaits, .int 0, .int 0, .int 0, .int 0, .int 0, .int 0])), (xvalues, .inl (cI, 32, .inl (fun _ => 0))), (xfloors, .inl (cI, 8, .inl (fun _ => 0)))]) (w1 := []) hP hD [] [0, 1, 2] rfl rfl (by decide) (by decide) hk1 hFc hP1 hD1
    generalize H1 = H at hP hS ⊢
    have hP : va_P D vwCl [(h, .inr (3, [.ref xprogramSteps, .ref xprogramLengths, .ref xlimits, .ref xfloors, .ref xvalues, .ref xacts, .ref xorder, .ref xdoneRow, .ref xrunning, .ref xbegunOfClass, .ref xbook, .ref xwaits, .int 0, .int 0, .int 0, .int 0, .int 0, .int 0])), (xvalues, .inl (cI, 32, .inl (fun _ => 0))), (xfloors, .inl (cI, 8, .inl (fun _ => 0)))] H := hP
    have hD : va_D A [(h, .inr (3, [.ref xprogramSteps, .ref xprogramLengths, .ref xlimits, .ref xfloors, .ref xvalues, .ref xacts, .ref xorder, .ref xdoneRow, .ref xrunning, .ref xbegunOfClass, .ref xbook, .ref xwaits, .int 0, .int 0, .int 0, .int 0, .int 0, .int 0])), (xvalues, .inl (cI, 32, .inl (fun _ => 0))), (xfloors, .inl (cI, 8, .inl (fun _ => 0)))] := hD
    refine lv_if_eq (tgt := 20) hx hb dX3_floor_6 (by decide) (fun c2 => ?_) (fun c2 => ?_)
    · skip
      exact absurd c2 (by decide)
    · skip
      refine lv_iload_n hx hb dX3_floor_9 rfl (lv_at hl 2 rfl) ?_
      refine lv_sipush (v := (-1000)) hx hb dX3_floor_10 (by decide) ?_
      refine lv_icmp_lt (tgt := 20) hx hb dX3_floor_13 (by decide) (fun c3 => ?_) (fun c3 => ?_)
      · skip
        have c3 := k_lt c3
        have hlm1000 : ((-1000) : Int32).toInt = -1000 := by decide
        refine lv_iconst (v := 0) hx hb dX3_floor_20 (by decide) ?_
        have hP := hP.sub (ws' := []) [] rfl
        have hD := hD.sub (ws' := []) [] (by decide) rfl
        have hK := hK.sub (tys' := [(cI, .int)]) [0] rfl
        refine W.widen (k := 0) (n := 0) (by decide) (by decide) ?_
        exact W.zret (v := 0) hx hb hr (by decide) (fun t ht hW => ⟨⟨0, ([], [(cI, .int)]), rfl, Or.inr (⟨rfl, rfl, (by omega)⟩), ⟨by rw [ht]; exact hP, va_K.moved hW.alike hK, hD⟩⟩, hS.F ht⟩) hS.2.2 dX3_floor_21
      · skip
        have c3 := k_nlt c3
        have hlm1000 : ((-1000) : Int32).toInt = -1000 := by decide
        refine lv_iload_n hx hb dX3_floor_16 rfl (lv_at hl 2 rfl) ?_
        refine lv_if_le (tgt := 22) hx hb dX3_floor_17 (by decide) (fun c4 => ?_) (fun c4 => ?_)
        · skip
          have c4 := k_le c4
          have hl0 : (0 : Int32).toInt = 0 := by decide
          refine lv_aload_n hx hb dX3_floor_22 rfl (lv_at hl 0 rfl) ?_
          refine lv_iload_n hx hb dX3_floor_23 rfl (lv_at hl 1 rfl) ?_
          have hPc := hP.sub (ws' := [(h, .inr (3, [.ref xprogramSteps, .ref xprogramLengths, .ref xlimits, .ref xfloors, .ref xvalues, .ref xacts, .ref xorder, .ref xdoneRow, .ref xrunning, .ref xbegunOfClass, .ref xbook, .ref xwaits, .int 0, .int 0, .int 0, .int 0, .int 0, .int 0])), (xvalues, .inl (cI, 32, .inl (fun _ => 0)))]) [0, 1] rfl
          have hDc := hD.sub (ws' := [(h, .inr (3, [.ref xprogramSteps, .ref xprogramLengths, .ref xlimits, .ref xfloors, .ref xvalues, .ref xacts, .ref xorder, .ref xdoneRow, .ref xrunning, .ref xbegunOfClass, .ref xbook, .ref xwaits, .int 0, .int 0, .int 0, .int 0, .int 0, .int 0])), (xvalues, .inl (cI, 32, .inl (fun _ => 0)))]) [0, 1] (by decide) rfl
          have hKc := hK.sub (tys' := [(cI, .int)]) [0] rfl
          have hFc := va_free (wc := [(h, .inr (3, [.ref xprogramSteps, .ref xprogramLengths, .ref xlimits, .ref xfloors, .ref xvalues, .ref xacts, .ref xorder, .ref xdoneRow, .ref xrunning, .ref xbegunOfClass, .ref xbook, .ref xwaits, .int 0, .int 0, .int 0, .int 0, .int 0, .int 0])), (xvalues, .inl (cI, 32, .inl (fun _ => 0)))]) hD hS hA [0, 1] rfl
          refine va_calli (va_runV (As := [.int x]) (rest := []) ⟨hx, hb, hml, hown, hts⟩ (c_X3_leastToCome (l := l) (D := D) (h := h) (xprogramSteps := xprogramSteps) (xprogramLengths := xprogramLengths) (xlimits := xlimits) (xfloors := xfloors) (xvalues := xvalues) (xacts := xacts) (xorder := xorder) (xdoneRow := xdoneRow) (xrunning := xrunning) (xbegunOfClass := xbegunOfClass) (xbook := xbook) (xwaits := xwaits) (x := x) (cI := cI) (by omega) (by omega)) (cwV 1 hts gX3_floor_X3_leastToCome rfl rfl rfl (by decide +kernel) ⟨Nat.le_of_ble_eq_true rfl, Nat.le_of_ble_eq_true rfl⟩) ⟨k_blind, va_recv hKc hPc (ci := 3) (q0 := 0) rfl rfl, fun U hU hW => ⟨rfl, k_pre hU hW hPc hKc hDc⟩⟩ rfl rfl hl.1 rfl (lv_room (Nat.le_of_ble_eq_true rfl)) dX3_floor_24 ⟨by decide, by decide⟩) hS (fun q _ h => hFc q h) hFc (fun r5 u t H1 locs ht hvm hw hB hz1 hk1 hS => ?_)
          refine W.widen (k := 0) (n := 0) (Nat.le_refl _) (Nat.le_refl _) ?_
          obtain ⟨rfl, rfl⟩ := hw
          obtain ⟨hP1, hK1, hD1⟩ := hB
          rw [ht] at hP1
          have hK1 := va_K.moved hvm.symm hK1
          obtain ⟨hP, hD⟩ := va_join (wr := [(xfloors, .inl (cI, 8, .inl (fun _ => 0)))]) (w1 := [(h, .inr (3, [.ref xprogramSteps, .ref xprogramLengths, .ref xlimits, .ref xfloors, .ref xvalues, .ref xacts, .ref xorder, .ref xdoneRow, .ref xrunning, .ref xbegunOfClass, .ref xbook, .ref xwaits, .int 0, .int 0, .int 0, .int 0, .int 0, .int 0])), (xvalues, .inl (cI, 32, .inl (fun _ => 0)))]) hP hD [0, 1] [2] rfl rfl (by decide) (by decide) hk1 hFc hP1 hD1
          generalize H1 = H at hP hS ⊢
          have hP : va_P D vwCl [(xfloors, .inl (cI, 8, .inl (fun _ => 0))), (h, .inr (3, [.ref xprogramSteps, .ref xprogramLengths, .ref xlimits, .ref xfloors, .ref xvalues, .ref xacts, .ref xorder, .ref xdoneRow, .ref xrunning, .ref xbegunOfClass, .ref xbook, .ref xwaits, .int 0, .int 0, .int 0, .int 0, .int 0, .int 0])), (xvalues, .inl (cI, 32, .inl (fun _ => 0)))] H := hP
          have hD : va_D A [(xfloors, .inl (cI, 8, .inl (fun _ => 0))), (h, .inr (3, [.ref xprogramSteps, .ref xprogramLengths, .ref xlimits, .ref xfloors, .ref xvalues, .ref xacts, .ref xorder, .ref xdoneRow, .ref xrunning, .ref xbegunOfClass, .ref xbook, .ref xwaits, .int 0, .int 0, .int 0, .int 0, .int 0, .int 0])), (xvalues, .inl (cI, 32, .inl (fun _ => 0)))] := hD
          refine lv_iload_n hx hb dX3_floor_27 rfl (lv_at hl 2 rfl) ?_
          refine lv_icmp_ge (tgt := 33) hx hb dX3_floor_28 (by decide) (fun c6 => ?_) (fun c6 => ?_)
          · skip
            have c6 := k_le c6
            have hl0 : (0 : Int32).toInt = 0 := by decide
            refine lv_aload_n hx hb dX3_floor_33 rfl (lv_at hl 0 rfl) ?_
            refine va_get (D := D) (ci := 3) (v := .ref xfloors) (C := RX3) (T := TX3) (N := 18) hx hb hts kin_X3_floor_X3 hown hK hP 1 rfl rfl 3 (by decide) (hts _ kw_X3_floor__fieldLink_RX3_19_ActHouse_floors_I_) (fun _ h9 => h9) rfl dX3_floor_34 ?_
            refine lv_iload_n hx hb dX3_floor_37 rfl (lv_at hl 1 rfl) ?_
            refine lv_iload_n hx hb dX3_floor_38 rfl (lv_at hl 2 rfl) ?_
            have hi39 : vp_in x 8 := (k_in (by omega) (by omega))
            refine va_iast hx hb hK hP hD hS 0 0 rfl rfl hi39 dX3_floor_39 (fun H locs hP hD hS => ?_)
            have hP : va_P D vwCl [(xfloors, .inl (cI, 8, .inl (upd (fun _ => 0) x.toNatClampNeg y))), (h, .inr (3, [.ref xprogramSteps, .ref xprogramLengths, .ref xlimits, .ref xfloors, .ref xvalues, .ref xacts, .ref xorder, .ref xdoneRow, .ref xrunning, .ref xbegunOfClass, .ref xbook, .ref xwaits, .int 0, .int 0, .int 0, .int 0, .int 0, .int 0])), (xvalues, .inl (cI, 32, .inl (fun _ => 0)))] H := hP
            have hD : va_D A [(xfloors, .inl (cI, 8, .inl (upd (fun _ => 0) x.toNatClampNeg y))), (h, .inr (3, [.ref xprogramSteps, .ref xprogramLengths, .ref xlimits, .ref xfloors, .ref xvalues, .ref xacts, .ref xorder, .ref xdoneRow, .ref xrunning, .ref xbegunOfClass, .ref xbook, .ref xwaits, .int 0, .int 0, .int 0, .int 0, .int 0, .int 0])), (xvalues, .inl (cI, 32, .inl (fun _ => 0)))] := hD
            refine lv_iconst (v := 1) hx hb dX3_floor_40 (by decide) ?_
            have hP := hP.sub (ws' := []) [] rfl
            have hD := hD.sub (ws' := []) [] (by decide) rfl
            have hK := hK.sub (tys' := [(cI, .int)]) [0] rfl
            refine W.widen (k := 0) (n := 0) (by decide) (by decide) ?_
            exact W.zret (v := 1) hx hb hr (by decide) (fun t ht hW => ⟨⟨1, ([], [(cI, .int)]), rfl, Or.inl ⟨rfl, rfl, (by omega), (by omega), (by omega), (by omega)⟩, ⟨by rw [ht]; exact hP, va_K.moved hW.alike hK, hD⟩⟩, hS.F ht⟩) hS.2.2 dX3_floor_41
          · skip
            have c6 := k_nle c6
            have hl0 : (0 : Int32).toInt = 0 := by decide
            refine lv_iconst (v := 0) hx hb dX3_floor_31 (by decide) ?_
            have hP := hP.sub (ws' := []) [] rfl
            have hD := hD.sub (ws' := []) [] (by decide) rfl
            have hK := hK.sub (tys' := [(cI, .int)]) [0] rfl
            refine W.widen (k := 0) (n := 0) (by decide) (by decide) ?_
            exact W.zret (v := 0) hx hb hr (by decide) (fun t ht hW => ⟨⟨0, ([], [(cI, .int)]), rfl, Or.inr (⟨rfl, rfl, (by omega)⟩), ⟨by rw [ht]; exact hP, va_K.moved hW.alike hK, hD⟩⟩, hS.F ht⟩) hS.2.2 dX3_floor_32
        · skip
          have c4 := k_nle c4
          have hl0 : (0 : Int32).toInt = 0 := by decide
          refine lv_iconst (v := 0) hx hb dX3_floor_20 (by decide) ?_
          have hP := hP.sub (ws' := []) [] rfl
          have hD := hD.sub (ws' := []) [] (by decide) rfl
          have hK := hK.sub (tys' := [(cI, .int)]) [0] rfl
          refine W.widen (k := 0) (n := 0) (by decide) (by decide) ?_
          exact W.zret (v := 0) hx hb hr (by decide) (fun t ht hW => ⟨⟨0, ([], [(cI, .int)]), rfl, Or.inr (⟨rfl, rfl, (by omega)⟩), ⟨by rw [ht]; exact hP, va_K.moved hW.alike hK, hD⟩⟩, hS.F ht⟩) hS.2.2 dX3_floor_21
  · skip
    obtain ⟨hP1, hK1, hD1⟩ := hB
    rw [ht] at hP1
    have hK1 := va_K.moved hvm.symm hK1
    obtain ⟨hP, hD⟩ := va_join (wr := [(h, .inr (3, [.ref xprogramSteps, .ref xprogramLengths, .ref xlimits, .ref xfloors, .ref xvalues, .ref xacts, .ref xorder, .ref xdoneRow, .ref xrunning, .ref xbegunOfClass, .ref xbook, .ref xwaits, .int 0, .int 0, .int 0, .int 0, .int 0, .int 0])), (xvalues, .inl (cI, 32, .inl (fun _ => 0))), (xfloors, .inl (cI, 8, .inl (fun _ => 0)))]) (w1 := []) hP hD [] [0, 1, 2] rfl rfl (by decide) (by decide) hk1 hFc hP1 hD1
    generalize H1 = H at hP hS ⊢
    have hP : va_P D vwCl [(h, .inr (3, [.ref xprogramSteps, .ref xprogramLengths, .ref xlimits, .ref xfloors, .ref xvalues, .ref xacts, .ref xorder, .ref xdoneRow, .ref xrunning, .ref xbegunOfClass, .ref xbook, .ref xwaits, .int 0, .int 0, .int 0, .int 0, .int 0, .int 0])), (xvalues, .inl (cI, 32, .inl (fun _ => 0))), (xfloors, .inl (cI, 8, .inl (fun _ => 0)))] H := hP
    have hD : va_D A [(h, .inr (3, [.ref xprogramSteps, .ref xprogramLengths, .ref xlimits, .ref xfloors, .ref xvalues, .ref xacts, .ref xorder, .ref xdoneRow, .ref xrunning, .ref xbegunOfClass, .ref xbook, .ref xwaits, .int 0, .int 0, .int 0, .int 0, .int 0, .int 0])), (xvalues, .inl (cI, 32, .inl (fun _ => 0))), (xfloors, .inl (cI, 8, .inl (fun _ => 0)))] := hD
    refine lv_if_eq (tgt := 20) hx hb dX3_floor_6 (by decide) (fun c7 => ?_) (fun c7 => ?_)
    · skip
      refine lv_iconst (v := 0) hx hb dX3_floor_20 (by decide) ?_
      have hP := hP.sub (ws' := []) [] rfl
      have hD := hD.sub (ws' := []) [] (by decide) rfl
      have hK := hK.sub (tys' := [(cI, .int)]) [0] rfl
      refine W.widen (k := 0) (n := 0) (by decide) (by decide) ?_
      exact W.zret (v := 0) hx hb hr (by decide) (fun t ht hW => ⟨⟨0, ([], [(cI, .int)]), rfl, Or.inr (⟨rfl, rfl, (by omega)⟩), ⟨by rw [ht]; exact hP, va_K.moved hW.alike hK, hD⟩⟩, hS.F ht⟩) hS.2.2 dX3_floor_21
    · skip
      exact absurd c7 (by decide)
set_option maxRecDepth 100000 in
theorem kw_X0_init__methodLink_RX0_3_objectInit : (.methodLink RX0 3 objectInit : Cond) ∈ wsX0_init := by decide +kernel
set_option maxRecDepth 100000 in
theorem kw_X0_init__instanceMethod_objectInit : (.instanceMethod objectInit : Cond) ∈ wsX0_init := by decide +kernel
set_option maxRecDepth 100000 in
theorem kw_X0_init__code_objectInit_0xb1_1_none : (.code objectInit ⟨#[0xb1]⟩ 1 none : Cond) ∈ wsX0_init := by decide +kernel
set_option maxRecDepth 100000 in
theorem kw_X0_init__arrayClass_int : (.arrayClass .int : Cond) ∈ wsX0_init := by decide +kernel
set_option maxRecDepth 100000 in
theorem kw_X0_init__fieldLink_RX0_9_ActHouse_Act_steps_I_ : (.fieldLink RX0 9 "ActHouse$Act" "steps" "[I" : Cond) ∈ wsX0_init := by decide +kernel
set_option maxRecDepth 100000 in
theorem kin_X0_init_X0 : ∀ w ∈ u_ws RX0 TX0 20, w ∈ wsX0_init := by decide +kernel
set_option maxRecDepth 100000 in
theorem kw_X0_init__fieldLink_RX0_15_ActHouse_Act_locks_I_ : (.fieldLink RX0 15 "ActHouse$Act" "locks" "[I" : Cond) ∈ wsX0_init := by decide +kernel
set_option maxRecDepth 100000 in
theorem kw_X0_init__fieldLink_RX0_18_ActHouse_Act_written_I_ : (.fieldLink RX0 18 "ActHouse$Act" "written" "[I" : Cond) ∈ wsX0_init := by decide +kernel
set_option maxRecDepth 100000 in
theorem kw_X0_init__fieldLink_RX0_21_ActHouse_Act_gives_I_ : (.fieldLink RX0 21 "ActHouse$Act" "gives" "[I" : Cond) ∈ wsX0_init := by decide +kernel
set_option maxRecDepth 100000 in
theorem kw_X0_init__fieldLink_RX0_24_ActHouse_Act_takes_I_ : (.fieldLink RX0 24 "ActHouse$Act" "takes" "[I" : Cond) ∈ wsX0_init := by decide +kernel
set_option maxRecDepth 100000 in
theorem kw_X0_init__fieldLink_RX0_27_ActHouse_Act_queue_I_ : (.fieldLink RX0 27 "ActHouse$Act" "queue" "[I" : Cond) ∈ wsX0_init := by decide +kernel
set_option maxRecDepth 100000 in
theorem kw_X0_init__fieldLink_RX0_30_ActHouse_Act_state_I_ : (.fieldLink RX0 30 "ActHouse$Act" "state" "I" : Cond) ∈ wsX0_init := by decide +kernel
set_option maxRecDepth 100000 in
theorem kw_X0_init__fieldLink_RX0_34_ActHouse_Act_heldTick_I_ : (.fieldLink RX0 34 "ActHouse$Act" "heldTick" "I" : Cond) ∈ wsX0_init := by decide +kernel
set_option maxRecDepth 100000 in
theorem kw_X0_init__fieldLink_RX0_37_ActHouse_Act_begunTick_I_ : (.fieldLink RX0 37 "ActHouse$Act" "begunTick" "I" : Cond) ∈ wsX0_init := by decide +kernel
set_option maxRecDepth 100000 in
theorem kw_X0_init__fieldLink_RX0_40_ActHouse_Act_doneTick_I_ : (.fieldLink RX0 40 "ActHouse$Act" "doneTick" "I" : Cond) ∈ wsX0_init := by decide +kernel
set_option maxRecDepth 100000 in
theorem kw_X0_init__fieldLink_RX0_43_ActHouse_Act_entry_I_ : (.fieldLink RX0 43 "ActHouse$Act" "entry" "I" : Cond) ∈ wsX0_init := by decide +kernel
set_option maxRecDepth 100000 in
theorem kw_X0_init__fieldLink_RX0_46_ActHouse_Act_program_I_ : (.fieldLink RX0 46 "ActHouse$Act" "program" "I" : Cond) ∈ wsX0_init := by decide +kernel
set_option maxRecDepth 100000 in
theorem kw_X0_init__fieldLink_RX0_49_ActHouse_Act_kind_I_ : (.fieldLink RX0 49 "ActHouse$Act" "kind" "I" : Cond) ∈ wsX0_init := by decide +kernel
set_option maxRecDepth 100000 in
theorem kw_X0_init__fieldLink_RX0_52_ActHouse_Act_rank_I_ : (.fieldLink RX0 52 "ActHouse$Act" "rank" "I" : Cond) ∈ wsX0_init := by decide +kernel
set_option maxRecDepth 100000 in
theorem kw_X0_init__fieldLink_RX0_55_ActHouse_Act_parent_I_ : (.fieldLink RX0 55 "ActHouse$Act" "parent" "I" : Cond) ∈ wsX0_init := by decide +kernel
set_option maxHeartbeats 4000000 in
set_option maxRecDepth 100000 in
theorem c_X0_init {l : Launch} {D : va_G} {sz : Nat} {h : Nat} {x : Int32} {y : Int32} {z : Int32} {w : Int32} {cI : ClassId}  : Met l yX0_init wsX0_init ({ frames := 1, cells := 6, slots := 88, locals := 12 }) (va_Pc [.ref h, .int x, .int y, .int z, .int w] (k_Pre D [(cI, .int)] [(h, .inr (0, [.int 0, .int 0, .int 0, .int 0, .null, .null, .null, .null, .null, .null, .int 0, .int 0, .int 0, .int 0, .int 0, .int 0, .int 0, .int 0, .int 0, .int 0]))] sz)) (va_Qv (fun (u : va_W × List (ClassId × FieldType)) => (∃ (bsteps : Nat) (blocks : Nat) (bwritten : Nat) (bgives : Nat) (btakes : Nat) (bqueue : Nat), u = ([(h, .inr (0, [.int x, .int y, .int z, .int w, .ref bsteps, .ref blocks, .ref bwritten, .ref bgives, .ref btakes, .ref bqueue, .int 0, .int 0, .int 0, .int 0, .int 0, .int (-1), .int (-1), .int (-1), .int (-1), .int 0])), (bsteps, .inl (cI, 12, .inl (fun _ => 0))), (blocks, .inl (cI, 24, .inl (fun _ => 0))), (bwritten, .inl (cI, 24, .inl (fun _ => 0))), (bgives, .inl (cI, 8, .inl (fun _ => 0))), (btakes, .inl (cI, 8, .inl (fun _ => 0))), (bqueue, .inl (cI, 12, .inl (fun _ => 0)))], [(cI, .int)]))) (k_B D (va_A [(h, .inr (0, [.int 0, .int 0, .int 0, .int 0, .null, .null, .null, .null, .null, .null, .int 0, .int 0, .int 0, .int 0, .int 0, .int 0, .int 0, .int 0, .int 0, .int 0]))] sz)) (va_A [(h, .inr (0, [.int 0, .int 0, .int 0, .int 0, .null, .null, .null, .null, .null, .null, .int 0, .int 0, .int 0, .int 0, .int 0, .int 0, .int 0, .int 0, .int 0, .int 0]))] sz)) 6 88 (va_A [(h, .inr (0, [.int 0, .int 0, .int 0, .int 0, .null, .null, .null, .null, .null, .null, .int 0, .int 0, .int 0, .int 0, .int 0, .int 0, .int 0, .int 0, .int 0, .int 0]))] sz) := by
  refine Met.ofW (cc := cX0_init) (maxL := 5) (ret := none) (by decide) rfl ?_
  intro p e s m args below meth c s₁ B hml hv
  obtain ⟨rfl, hsz, hP, hK, hD0⟩ := hv
  have hx := B.exec
  have hb := B.bytes
  have hr := B.returns
  have hts := atoms_spec (ws := wsX0_init) B.pre
  have hown : s.vm.findClass RX0 = some m.cls := findClass_of_methodNamed B.named
  have hlocks := B.notSynchronized
  have hin : meth.name = "<init>" := (name_of_methodNamed B.named B.method).1
  subst hsz
  have hD := hD0.self (sz := s.heap.size)
  generalize hAe : va_A [(h, .inr (0, [.int 0, .int 0, .int 0, .int 0, .null, .null, .null, .null, .null, .null, .int 0, .int 0, .int 0, .int 0, .int 0, .int 0, .int 0, .int 0, .int 0, .int 0]))] s.heap.size = A at hD ⊢
  have hA : ∀ q : Nat, s.heap.size ≤ q → A q := fun q h => by rw [← hAe]; exact Or.inr h
  have hS : va_S A s.heap s.heap [] := va_S.rf
  have hl := lv_entry ([.ref h, .int x, .int y, .int z, .int w]) (n := 5) (Nat.le_of_ble_eq_true rfl)
  rw [lg_entry_eq]
  generalize (lg_sl ([.ref h, .int x, .int y, .int z, .int w]) ++ List.replicate (5 - (lg_sl ([.ref h, .int x, .int y, .int z, .int w])).length) Slot.unset).toArray = ls at hl ⊢
  have hl : lv_has ls 5 [(0, .ref h), (1, .int x), (2, .int y), (3, .int z), (4, .int w)] := hl
  refine lv_aload_n hx hb dX0_init_0 rfl (lv_at hl 0 rfl) ?_
  refine W.objInit hx hb hown (hts _ kw_X0_init__methodLink_RX0_3_objectInit) (hts _ kw_X0_init__instanceMethod_objectInit) (hts _ kw_X0_init__code_objectInit_0xb1_1_none) rfl (by rw [hml]; exact hl.1) rfl dX0_init_1 (Nat.le_of_ble_eq_true rfl) (Nat.le_of_ble_eq_true rfl) ?_
  refine W.eq (g2 := F0 m 4 ls []) rfl ?_
  refine lv_aload_n hx hb dX0_init_4 rfl (lv_at hl 0 rfl) ?_
  refine lv_bipush (v := 12) hx hb dX0_init_5 (by decide) ?_
  refine k_newa (ty := .int) (N' := 12) (a0 := (12, .inl (fun _ => 0))) (atype := .int) hx hb (hts _ kw_X0_init__arrayClass_int) rfl hK 0 rfl (fun _ _ => rfl) hP hD hS hA (fun _ => rfl) (by decide) (by decide) (by decide) (by decide) (by decide) dX0_init_7 (fun q7 H hP hD hS => ?_)
  refine W.widen (k := 1) (n := 12) (by decide) (by decide) ?_
  have hP : va_P D vwCl [(h, .inr (0, [.int 0, .int 0, .int 0, .int 0, .null, .null, .null, .null, .null, .null, .int 0, .int 0, .int 0, .int 0, .int 0, .int 0, .int 0, .int 0, .int 0, .int 0])), (q7, .inl (cI, 12, .inl (fun _ => 0)))] H := hP
  have hD : va_D A [(h, .inr (0, [.int 0, .int 0, .int 0, .int 0, .null, .null, .null, .null, .null, .null, .int 0, .int 0, .int 0, .int 0, .int 0, .int 0, .int 0, .int 0, .int 0, .int 0])), (q7, .inl (cI, 12, .inl (fun _ => 0)))] := hD
  refine va_putF (D := D) (ci := 0) (v := .ref q7) (ty := .array .int) (C := RX0) (T := TX0) (N := 20) hx hb hts kin_X0_init_X0 tyX0 tyX0_ok nmX0 hown hK hP hD hS 0 rfl rfl 4 (by decide) (hts _ kw_X0_init__fieldLink_RX0_9_ActHouse_Act_steps_I_) (fun _ h9 => h9) rfl hin rfl (by decide +kernel) rfl rfl (Nat.le_of_ble_eq_true rfl) dX0_init_9 (fun H locs hP hD hS => ?_)
  have hP : va_P D vwCl [(h, .inr (0, [.int 0, .int 0, .int 0, .int 0, .ref q7, .null, .null, .null, .null, .null, .int 0, .int 0, .int 0, .int 0, .int 0, .int 0, .int 0, .int 0, .int 0, .int 0])), (q7, .inl (cI, 12, .inl (fun _ => 0)))] H := hP
  have hD : va_D A [(h, .inr (0, [.int 0, .int 0, .int 0, .int 0, .ref q7, .null, .null, .null, .null, .null, .int 0, .int 0, .int 0, .int 0, .int 0, .int 0, .int 0, .int 0, .int 0, .int 0])), (q7, .inl (cI, 12, .inl (fun _ => 0)))] := hD
  refine lv_aload_n hx hb dX0_init_12 rfl (lv_at hl 0 rfl) ?_
  refine lv_bipush (v := 24) hx hb dX0_init_13 (by decide) ?_
  refine k_newa (ty := .int) (N' := 24) (a0 := (24, .inl (fun _ => 0))) (atype := .int) hx hb (hts _ kw_X0_init__arrayClass_int) rfl hK 0 rfl (fun _ _ => rfl) hP hD hS hA (fun _ => rfl) (by decide) (by decide) (by decide) (by decide) (by decide) dX0_init_15 (fun q15 H hP hD hS => ?_)
  refine W.widen (k := 2) (n := 36) (by decide) (by decide) ?_
  have hP : va_P D vwCl [(h, .inr (0, [.int 0, .int 0, .int 0, .int 0, .ref q7, .null, .null, .null, .null, .null, .int 0, .int 0, .int 0, .int 0, .int 0, .int 0, .int 0, .int 0, .int 0, .int 0])), (q7, .inl (cI, 12, .inl (fun _ => 0))), (q15, .inl (cI, 24, .inl (fun _ => 0)))] H := hP
  have hD : va_D A [(h, .inr (0, [.int 0, .int 0, .int 0, .int 0, .ref q7, .null, .null, .null, .null, .null, .int 0, .int 0, .int 0, .int 0, .int 0, .int 0, .int 0, .int 0, .int 0, .int 0])), (q7, .inl (cI, 12, .inl (fun _ => 0))), (q15, .inl (cI, 24, .inl (fun _ => 0)))] := hD
  refine va_putF (D := D) (ci := 0) (v := .ref q15) (ty := .array .int) (C := RX0) (T := TX0) (N := 20) hx hb hts kin_X0_init_X0 tyX0 tyX0_ok nmX0 hown hK hP hD hS 0 rfl rfl 5 (by decide) (hts _ kw_X0_init__fieldLink_RX0_15_ActHouse_Act_locks_I_) (fun _ h9 => h9) rfl hin rfl (by decide +kernel) rfl rfl (Nat.le_of_ble_eq_true rfl) dX0_init_17 (fun H locs hP hD hS => ?_)
  have hP : va_P D vwCl [(h, .inr (0, [.int 0, .int 0, .int 0, .int 0, .ref q7, .ref q15, .null, .null, .null, .null, .int 0, .int 0, .int 0, .int 0, .int 0, .int 0, .int 0, .int 0, .int 0, .int 0])), (q7, .inl (cI, 12, .inl (fun _ => 0))), (q15, .inl (cI, 24, .inl (fun _ => 0)))] H := hP
  have hD : va_D A [(h, .inr (0, [.int 0, .int 0, .int 0, .int 0, .ref q7, .ref q15, .null, .null, .null, .null, .int 0, .int 0, .int 0, .int 0, .int 0, .int 0, .int 0, .int 0, .int 0, .int 0])), (q7, .inl (cI, 12, .inl (fun _ => 0))), (q15, .inl (cI, 24, .inl (fun _ => 0)))] := hD
  refine lv_aload_n hx hb dX0_init_20 rfl (lv_at hl 0 rfl) ?_
  refine lv_bipush (v := 24) hx hb dX0_init_21 (by decide) ?_
  refine k_newa (ty := .int) (N' := 24) (a0 := (24, .inl (fun _ => 0))) (atype := .int) hx hb (hts _ kw_X0_init__arrayClass_int) rfl hK 0 rfl (fun _ _ => rfl) hP hD hS hA (fun _ => rfl) (by decide) (by decide) (by decide) (by decide) (by decide) dX0_init_23 (fun q23 H hP hD hS => ?_)
  refine W.widen (k := 3) (n := 60) (by decide) (by decide) ?_
  have hP : va_P D vwCl [(h, .inr (0, [.int 0, .int 0, .int 0, .int 0, .ref q7, .ref q15, .null, .null, .null, .null, .int 0, .int 0, .int 0, .int 0, .int 0, .int 0, .int 0, .int 0, .int 0, .int 0])), (q7, .inl (cI, 12, .inl (fun _ => 0))), (q15, .inl (cI, 24, .inl (fun _ => 0))), (q23, .inl (cI, 24, .inl (fun _ => 0)))] H := hP
  have hD : va_D A [(h, .inr (0, [.int 0, .int 0, .int 0, .int 0, .ref q7, .ref q15, .null, .null, .null, .null, .int 0, .int 0, .int 0, .int 0, .int 0, .int 0, .int 0, .int 0, .int 0, .int 0])), (q7, .inl (cI, 12, .inl (fun _ => 0))), (q15, .inl (cI, 24, .inl (fun _ => 0))), (q23, .inl (cI, 24, .inl (fun _ => 0)))] := hD
  refine va_putF (D := D) (ci := 0) (v := .ref q23) (ty := .array .int) (C := RX0) (T := TX0) (N := 20) hx hb hts kin_X0_init_X0 tyX0 tyX0_ok nmX0 hown hK hP hD hS 0 rfl rfl 6 (by decide) (hts _ kw_X0_init__fieldLink_RX0_18_ActHouse_Act_written_I_) (fun _ h9 => h9) rfl hin rfl (by decide +kernel) rfl rfl (Nat.le_of_ble_eq_true rfl) dX0_init_25 (fun H locs hP hD hS => ?_)
  have hP : va_P D vwCl [(h, .inr (0, [.int 0, .int 0, .int 0, .int 0, .ref q7, .ref q15, .ref q23, .null, .null, .null, .int 0, .int 0, .int 0, .int 0, .int 0, .int 0, .int 0, .int 0, .int 0, .int 0])), (q7, .inl (cI, 12, .inl (fun _ => 0))), (q15, .inl (cI, 24, .inl (fun _ => 0))), (q23, .inl (cI, 24, .inl (fun _ => 0)))] H := hP
  have hD : va_D A [(h, .inr (0, [.int 0, .int 0, .int 0, .int 0, .ref q7, .ref q15, .ref q23, .null, .null, .null, .int 0, .int 0, .int 0, .int 0, .int 0, .int 0, .int 0, .int 0, .int 0, .int 0])), (q7, .inl (cI, 12, .inl (fun _ => 0))), (q15, .inl (cI, 24, .inl (fun _ => 0))), (q23, .inl (cI, 24, .inl (fun _ => 0)))] := hD
  refine lv_aload_n hx hb dX0_init_28 rfl (lv_at hl 0 rfl) ?_
  refine lv_bipush (v := 8) hx hb dX0_init_29 (by decide) ?_
  refine k_newa (ty := .int) (N' := 8) (a0 := (8, .inl (fun _ => 0))) (atype := .int) hx hb (hts _ kw_X0_init__arrayClass_int) rfl hK 0 rfl (fun _ _ => rfl) hP hD hS hA (fun _ => rfl) (by decide) (by decide) (by decide) (by decide) (by decide) dX0_init_31 (fun q31 H hP hD hS => ?_)
  refine W.widen (k := 4) (n := 68) (by decide) (by decide) ?_
  have hP : va_P D vwCl [(h, .inr (0, [.int 0, .int 0, .int 0, .int 0, .ref q7, .ref q15, .ref q23, .null, .null, .null, .int 0, .int 0, .int 0, .int 0, .int 0, .int 0, .int 0, .int 0, .int 0, .int 0])), (q7, .inl (cI, 12, .inl (fun _ => 0))), (q15, .inl (cI, 24, .inl (fun _ => 0))), (q23, .inl (cI, 24, .inl (fun _ => 0))), (q31, .inl (cI, 8, .inl (fun _ => 0)))] H := hP
  have hD : va_D A [(h, .inr (0, [.int 0, .int 0, .int 0, .int 0, .ref q7, .ref q15, .ref q23, .null, .null, .null, .int 0, .int 0, .int 0, .int 0, .int 0, .int 0, .int 0, .int 0, .int 0, .int 0])), (q7, .inl (cI, 12, .inl (fun _ => 0))), (q15, .inl (cI, 24, .inl (fun _ => 0))), (q23, .inl (cI, 24, .inl (fun _ => 0))), (q31, .inl (cI, 8, .inl (fun _ => 0)))] := hD
  refine va_putF (D := D) (ci := 0) (v := .ref q31) (ty := .array .int) (C := RX0) (T := TX0) (N := 20) hx hb hts kin_X0_init_X0 tyX0 tyX0_ok nmX0 hown hK hP hD hS 0 rfl rfl 7 (by decide) (hts _ kw_X0_init__fieldLink_RX0_21_ActHouse_Act_gives_I_) (fun _ h9 => h9) rfl hin rfl (by decide +kernel) rfl rfl (Nat.le_of_ble_eq_true rfl) dX0_init_33 (fun H locs hP hD hS => ?_)
  have hP : va_P D vwCl [(h, .inr (0, [.int 0, .int 0, .int 0, .int 0, .ref q7, .ref q15, .ref q23, .ref q31, .null, .null, .int 0, .int 0, .int 0, .int 0, .int 0, .int 0, .int 0, .int 0, .int 0, .int 0])), (q7, .inl (cI, 12, .inl (fun _ => 0))), (q15, .inl (cI, 24, .inl (fun _ => 0))), (q23, .inl (cI, 24, .inl (fun _ => 0))), (q31, .inl (cI, 8, .inl (fun _ => 0)))] H := hP
  have hD : va_D A [(h, .inr (0, [.int 0, .int 0, .int 0, .int 0, .ref q7, .ref q15, .ref q23, .ref q31, .null, .null, .int 0, .int 0, .int 0, .int 0, .int 0, .int 0, .int 0, .int 0, .int 0, .int 0])), (q7, .inl (cI, 12, .inl (fun _ => 0))), (q15, .inl (cI, 24, .inl (fun _ => 0))), (q23, .inl (cI, 24, .inl (fun _ => 0))), (q31, .inl (cI, 8, .inl (fun _ => 0)))] := hD
  refine lv_aload_n hx hb dX0_init_36 rfl (lv_at hl 0 rfl) ?_
  refine lv_bipush (v := 8) hx hb dX0_init_37 (by decide) ?_
  refine k_newa (ty := .int) (N' := 8) (a0 := (8, .inl (fun _ => 0))) (atype := .int) hx hb (hts _ kw_X0_init__arrayClass_int) rfl hK 0 rfl (fun _ _ => rfl) hP hD hS hA (fun _ => rfl) (by decide) (by decide) (by decide) (by decide) (by decide) dX0_init_39 (fun q39 H hP hD hS => ?_)
  refine W.widen (k := 5) (n := 76) (by decide) (by decide) ?_
  have hP : va_P D vwCl [(h, .inr (0, [.int 0, .int 0, .int 0, .int 0, .ref q7, .ref q15, .ref q23, .ref q31, .null, .null, .int 0, .int 0, .int 0, .int 0, .int 0, .int 0, .int 0, .int 0, .int 0, .int 0])), (q7, .inl (cI, 12, .inl (fun _ => 0))), (q15, .inl (cI, 24, .inl (fun _ => 0))), (q23, .inl (cI, 24, .inl (fun _ => 0))), (q31, .inl (cI, 8, .inl (fun _ => 0))), (q39, .inl (cI, 8, .inl (fun _ => 0)))] H := hP
  have hD : va_D A [(h, .inr (0, [.int 0, .int 0, .int 0, .int 0, .ref q7, .ref q15, .ref q23, .ref q31, .null, .null, .int 0, .int 0, .int 0, .int 0, .int 0, .int 0, .int 0, .int 0, .int 0, .int 0])), (q7, .inl (cI, 12, .inl (fun _ => 0))), (q15, .inl (cI, 24, .inl (fun _ => 0))), (q23, .inl (cI, 24, .inl (fun _ => 0))), (q31, .inl (cI, 8, .inl (fun _ => 0))), (q39, .inl (cI, 8, .inl (fun _ => 0)))] := hD
  refine va_putF (D := D) (ci := 0) (v := .ref q39) (ty := .array .int) (C := RX0) (T := TX0) (N := 20) hx hb hts kin_X0_init_X0 tyX0 tyX0_ok nmX0 hown hK hP hD hS 0 rfl rfl 8 (by decide) (hts _ kw_X0_init__fieldLink_RX0_24_ActHouse_Act_takes_I_) (fun _ h9 => h9) rfl hin rfl (by decide +kernel) rfl rfl (Nat.le_of_ble_eq_true rfl) dX0_init_41 (fun H locs hP hD hS => ?_)
  have hP : va_P D vwCl [(h, .inr (0, [.int 0, .int 0, .int 0, .int 0, .ref q7, .ref q15, .ref q23, .ref q31, .ref q39, .null, .int 0, .int 0, .int 0, .int 0, .int 0, .int 0, .int 0, .int 0, .int 0, .int 0])), (q7, .inl (cI, 12, .inl (fun _ => 0))), (q15, .inl (cI, 24, .inl (fun _ => 0))), (q23, .inl (cI, 24, .inl (fun _ => 0))), (q31, .inl (cI, 8, .inl (fun _ => 0))), (q39, .inl (cI, 8, .inl (fun _ => 0)))] H := hP
  have hD : va_D A [(h, .inr (0, [.int 0, .int 0, .int 0, .int 0, .ref q7, .ref q15, .ref q23, .ref q31, .ref q39, .null, .int 0, .int 0, .int 0, .int 0, .int 0, .int 0, .int 0, .int 0, .int 0, .int 0])), (q7, .inl (cI, 12, .inl (fun _ => 0))), (q15, .inl (cI, 24, .inl (fun _ => 0))), (q23, .inl (cI, 24, .inl (fun _ => 0))), (q31, .inl (cI, 8, .inl (fun _ => 0))), (q39, .inl (cI, 8, .inl (fun _ => 0)))] := hD
  refine lv_aload_n hx hb dX0_init_44 rfl (lv_at hl 0 rfl) ?_
  refine lv_bipush (v := 12) hx hb dX0_init_45 (by decide) ?_
  refine k_newa (ty := .int) (N' := 12) (a0 := (12, .inl (fun _ => 0))) (atype := .int) hx hb (hts _ kw_X0_init__arrayClass_int) rfl hK 0 rfl (fun _ _ => rfl) hP hD hS hA (fun _ => rfl) (by decide) (by decide) (by decide) (by decide) (by decide) dX0_init_47 (fun q47 H hP hD hS => ?_)
  refine W.widen (k := 6) (n := 88) (by decide) (by decide) ?_
  have hP : va_P D vwCl [(h, .inr (0, [.int 0, .int 0, .int 0, .int 0, .ref q7, .ref q15, .ref q23, .ref q31, .ref q39, .null, .int 0, .int 0, .int 0, .int 0, .int 0, .int 0, .int 0, .int 0, .int 0, .int 0])), (q7, .inl (cI, 12, .inl (fun _ => 0))), (q15, .inl (cI, 24, .inl (fun _ => 0))), (q23, .inl (cI, 24, .inl (fun _ => 0))), (q31, .inl (cI, 8, .inl (fun _ => 0))), (q39, .inl (cI, 8, .inl (fun _ => 0))), (q47, .inl (cI, 12, .inl (fun _ => 0)))] H := hP
  have hD : va_D A [(h, .inr (0, [.int 0, .int 0, .int 0, .int 0, .ref q7, .ref q15, .ref q23, .ref q31, .ref q39, .null, .int 0, .int 0, .int 0, .int 0, .int 0, .int 0, .int 0, .int 0, .int 0, .int 0])), (q7, .inl (cI, 12, .inl (fun _ => 0))), (q15, .inl (cI, 24, .inl (fun _ => 0))), (q23, .inl (cI, 24, .inl (fun _ => 0))), (q31, .inl (cI, 8, .inl (fun _ => 0))), (q39, .inl (cI, 8, .inl (fun _ => 0))), (q47, .inl (cI, 12, .inl (fun _ => 0)))] := hD
  refine va_putF (D := D) (ci := 0) (v := .ref q47) (ty := .array .int) (C := RX0) (T := TX0) (N := 20) hx hb hts kin_X0_init_X0 tyX0 tyX0_ok nmX0 hown hK hP hD hS 0 rfl rfl 9 (by decide) (hts _ kw_X0_init__fieldLink_RX0_27_ActHouse_Act_queue_I_) (fun _ h9 => h9) rfl hin rfl (by decide +kernel) rfl rfl (Nat.le_of_ble_eq_true rfl) dX0_init_49 (fun H locs hP hD hS => ?_)
  have hP : va_P D vwCl [(h, .inr (0, [.int 0, .int 0, .int 0, .int 0, .ref q7, .ref q15, .ref q23, .ref q31, .ref q39, .ref q47, .int 0, .int 0, .int 0, .int 0, .int 0, .int 0, .int 0, .int 0, .int 0, .int 0])), (q7, .inl (cI, 12, .inl (fun _ => 0))), (q15, .inl (cI, 24, .inl (fun _ => 0))), (q23, .inl (cI, 24, .inl (fun _ => 0))), (q31, .inl (cI, 8, .inl (fun _ => 0))), (q39, .inl (cI, 8, .inl (fun _ => 0))), (q47, .inl (cI, 12, .inl (fun _ => 0)))] H := hP
  have hD : va_D A [(h, .inr (0, [.int 0, .int 0, .int 0, .int 0, .ref q7, .ref q15, .ref q23, .ref q31, .ref q39, .ref q47, .int 0, .int 0, .int 0, .int 0, .int 0, .int 0, .int 0, .int 0, .int 0, .int 0])), (q7, .inl (cI, 12, .inl (fun _ => 0))), (q15, .inl (cI, 24, .inl (fun _ => 0))), (q23, .inl (cI, 24, .inl (fun _ => 0))), (q31, .inl (cI, 8, .inl (fun _ => 0))), (q39, .inl (cI, 8, .inl (fun _ => 0))), (q47, .inl (cI, 12, .inl (fun _ => 0)))] := hD
  refine lv_aload_n hx hb dX0_init_52 rfl (lv_at hl 0 rfl) ?_
  refine lv_iconst (v := 0) hx hb dX0_init_53 (by decide) ?_
  refine va_put (D := D) (ci := 0) (v := .int 0) (ty := .int) (C := RX0) (T := TX0) (N := 20) hx hb hts kin_X0_init_X0 tyX0 tyX0_ok nmX0 hown hK hP hD hS 0 rfl rfl 12 (by decide) (hts _ kw_X0_init__fieldLink_RX0_30_ActHouse_Act_state_I_) (fun _ h9 => h9) rfl (by decide +kernel) rfl rfl (Nat.le_of_ble_eq_true rfl) dX0_init_54 (fun H locs hP hD hS => ?_)
  have hP : va_P D vwCl [(h, .inr (0, [.int 0, .int 0, .int 0, .int 0, .ref q7, .ref q15, .ref q23, .ref q31, .ref q39, .ref q47, .int 0, .int 0, .int 0, .int 0, .int 0, .int 0, .int 0, .int 0, .int 0, .int 0])), (q7, .inl (cI, 12, .inl (fun _ => 0))), (q15, .inl (cI, 24, .inl (fun _ => 0))), (q23, .inl (cI, 24, .inl (fun _ => 0))), (q31, .inl (cI, 8, .inl (fun _ => 0))), (q39, .inl (cI, 8, .inl (fun _ => 0))), (q47, .inl (cI, 12, .inl (fun _ => 0)))] H := hP
  have hD : va_D A [(h, .inr (0, [.int 0, .int 0, .int 0, .int 0, .ref q7, .ref q15, .ref q23, .ref q31, .ref q39, .ref q47, .int 0, .int 0, .int 0, .int 0, .int 0, .int 0, .int 0, .int 0, .int 0, .int 0])), (q7, .inl (cI, 12, .inl (fun _ => 0))), (q15, .inl (cI, 24, .inl (fun _ => 0))), (q23, .inl (cI, 24, .inl (fun _ => 0))), (q31, .inl (cI, 8, .inl (fun _ => 0))), (q39, .inl (cI, 8, .inl (fun _ => 0))), (q47, .inl (cI, 12, .inl (fun _ => 0)))] := hD
  refine lv_aload_n hx hb dX0_init_57 rfl (lv_at hl 0 rfl) ?_
  refine lv_iconst (v := (-1)) hx hb dX0_init_58 (by decide) ?_
  refine va_put (D := D) (ci := 0) (v := .int (-1)) (ty := .int) (C := RX0) (T := TX0) (N := 20) hx hb hts kin_X0_init_X0 tyX0 tyX0_ok nmX0 hown hK hP hD hS 0 rfl rfl 15 (by decide) (hts _ kw_X0_init__fieldLink_RX0_34_ActHouse_Act_heldTick_I_) (fun _ h9 => h9) rfl (by decide +kernel) rfl rfl (Nat.le_of_ble_eq_true rfl) dX0_init_59 (fun H locs hP hD hS => ?_)
  have hP : va_P D vwCl [(h, .inr (0, [.int 0, .int 0, .int 0, .int 0, .ref q7, .ref q15, .ref q23, .ref q31, .ref q39, .ref q47, .int 0, .int 0, .int 0, .int 0, .int 0, .int (-1), .int 0, .int 0, .int 0, .int 0])), (q7, .inl (cI, 12, .inl (fun _ => 0))), (q15, .inl (cI, 24, .inl (fun _ => 0))), (q23, .inl (cI, 24, .inl (fun _ => 0))), (q31, .inl (cI, 8, .inl (fun _ => 0))), (q39, .inl (cI, 8, .inl (fun _ => 0))), (q47, .inl (cI, 12, .inl (fun _ => 0)))] H := hP
  have hD : va_D A [(h, .inr (0, [.int 0, .int 0, .int 0, .int 0, .ref q7, .ref q15, .ref q23, .ref q31, .ref q39, .ref q47, .int 0, .int 0, .int 0, .int 0, .int 0, .int (-1), .int 0, .int 0, .int 0, .int 0])), (q7, .inl (cI, 12, .inl (fun _ => 0))), (q15, .inl (cI, 24, .inl (fun _ => 0))), (q23, .inl (cI, 24, .inl (fun _ => 0))), (q31, .inl (cI, 8, .inl (fun _ => 0))), (q39, .inl (cI, 8, .inl (fun _ => 0))), (q47, .inl (cI, 12, .inl (fun _ => 0)))] := hD
  refine lv_aload_n hx hb dX0_init_62 rfl (lv_at hl 0 rfl) ?_
  refine lv_iconst (v := (-1)) hx hb dX0_init_63 (by decide) ?_
  refine va_put (D := D) (ci := 0) (v := .int (-1)) (ty := .int) (C := RX0) (T := TX0) (N := 20) hx hb hts kin_X0_init_X0 tyX0 tyX0_ok nmX0 hown hK hP hD hS 0 rfl rfl 16 (by decide) (hts _ kw_X0_init__fieldLink_RX0_37_ActHouse_Act_begunTick_I_) (fun _ h9 => h9) rfl (by decide +kernel) rfl rfl (Nat.le_of_ble_eq_true rfl) dX0_init_64 (fun H locs hP hD hS => ?_)
  have hP : va_P D vwCl [(h, .inr (0, [.int 0, .int 0, .int 0, .int 0, .ref q7, .ref q15, .ref q23, .ref q31, .ref q39, .ref q47, .int 0, .int 0, .int 0, .int 0, .int 0, .int (-1), .int (-1), .int 0, .int 0, .int 0])), (q7, .inl (cI, 12, .inl (fun _ => 0))), (q15, .inl (cI, 24, .inl (fun _ => 0))), (q23, .inl (cI, 24, .inl (fun _ => 0))), (q31, .inl (cI, 8, .inl (fun _ => 0))), (q39, .inl (cI, 8, .inl (fun _ => 0))), (q47, .inl (cI, 12, .inl (fun _ => 0)))] H := hP
  have hD : va_D A [(h, .inr (0, [.int 0, .int 0, .int 0, .int 0, .ref q7, .ref q15, .ref q23, .ref q31, .ref q39, .ref q47, .int 0, .int 0, .int 0, .int 0, .int 0, .int (-1), .int (-1), .int 0, .int 0, .int 0])), (q7, .inl (cI, 12, .inl (fun _ => 0))), (q15, .inl (cI, 24, .inl (fun _ => 0))), (q23, .inl (cI, 24, .inl (fun _ => 0))), (q31, .inl (cI, 8, .inl (fun _ => 0))), (q39, .inl (cI, 8, .inl (fun _ => 0))), (q47, .inl (cI, 12, .inl (fun _ => 0)))] := hD
  refine lv_aload_n hx hb dX0_init_67 rfl (lv_at hl 0 rfl) ?_
  refine lv_iconst (v := (-1)) hx hb dX0_init_68 (by decide) ?_
  refine va_put (D := D) (ci := 0) (v := .int (-1)) (ty := .int) (C := RX0) (T := TX0) (N := 20) hx hb hts kin_X0_init_X0 tyX0 tyX0_ok nmX0 hown hK hP hD hS 0 rfl rfl 17 (by decide) (hts _ kw_X0_init__fieldLink_RX0_40_ActHouse_Act_doneTick_I_) (fun _ h9 => h9) rfl (by decide +kernel) rfl rfl (Nat.le_of_ble_eq_true rfl) dX0_init_69 (fun H locs hP hD hS => ?_)
  have hP : va_P D vwCl [(h, .inr (0, [.int 0, .int 0, .int 0, .int 0, .ref q7, .ref q15, .ref q23, .ref q31, .ref q39, .ref q47, .int 0, .int 0, .int 0, .int 0, .int 0, .int (-1), .int (-1), .int (-1), .int 0, .int 0])), (q7, .inl (cI, 12, .inl (fun _ => 0))), (q15, .inl (cI, 24, .inl (fun _ => 0))), (q23, .inl (cI, 24, .inl (fun _ => 0))), (q31, .inl (cI, 8, .inl (fun _ => 0))), (q39, .inl (cI, 8, .inl (fun _ => 0))), (q47, .inl (cI, 12, .inl (fun _ => 0)))] H := hP
  have hD : va_D A [(h, .inr (0, [.int 0, .int 0, .int 0, .int 0, .ref q7, .ref q15, .ref q23, .ref q31, .ref q39, .ref q47, .int 0, .int 0, .int 0, .int 0, .int 0, .int (-1), .int (-1), .int (-1), .int 0, .int 0])), (q7, .inl (cI, 12, .inl (fun _ => 0))), (q15, .inl (cI, 24, .inl (fun _ => 0))), (q23, .inl (cI, 24, .inl (fun _ => 0))), (q31, .inl (cI, 8, .inl (fun _ => 0))), (q39, .inl (cI, 8, .inl (fun _ => 0))), (q47, .inl (cI, 12, .inl (fun _ => 0)))] := hD
  refine lv_aload_n hx hb dX0_init_72 rfl (lv_at hl 0 rfl) ?_
  refine lv_iconst (v := (-1)) hx hb dX0_init_73 (by decide) ?_
  refine va_put (D := D) (ci := 0) (v := .int (-1)) (ty := .int) (C := RX0) (T := TX0) (N := 20) hx hb hts kin_X0_init_X0 tyX0 tyX0_ok nmX0 hown hK hP hD hS 0 rfl rfl 18 (by decide) (hts _ kw_X0_init__fieldLink_RX0_43_ActHouse_Act_entry_I_) (fun _ h9 => h9) rfl (by decide +kernel) rfl rfl (Nat.le_of_ble_eq_true rfl) dX0_init_74 (fun H locs hP hD hS => ?_)
  have hP : va_P D vwCl [(h, .inr (0, [.int 0, .int 0, .int 0, .int 0, .ref q7, .ref q15, .ref q23, .ref q31, .ref q39, .ref q47, .int 0, .int 0, .int 0, .int 0, .int 0, .int (-1), .int (-1), .int (-1), .int (-1), .int 0])), (q7, .inl (cI, 12, .inl (fun _ => 0))), (q15, .inl (cI, 24, .inl (fun _ => 0))), (q23, .inl (cI, 24, .inl (fun _ => 0))), (q31, .inl (cI, 8, .inl (fun _ => 0))), (q39, .inl (cI, 8, .inl (fun _ => 0))), (q47, .inl (cI, 12, .inl (fun _ => 0)))] H := hP
  have hD : va_D A [(h, .inr (0, [.int 0, .int 0, .int 0, .int 0, .ref q7, .ref q15, .ref q23, .ref q31, .ref q39, .ref q47, .int 0, .int 0, .int 0, .int 0, .int 0, .int (-1), .int (-1), .int (-1), .int (-1), .int 0])), (q7, .inl (cI, 12, .inl (fun _ => 0))), (q15, .inl (cI, 24, .inl (fun _ => 0))), (q23, .inl (cI, 24, .inl (fun _ => 0))), (q31, .inl (cI, 8, .inl (fun _ => 0))), (q39, .inl (cI, 8, .inl (fun _ => 0))), (q47, .inl (cI, 12, .inl (fun _ => 0)))] := hD
  refine lv_aload_n hx hb dX0_init_77 rfl (lv_at hl 0 rfl) ?_
  refine lv_iload_n hx hb dX0_init_78 rfl (lv_at hl 1 rfl) ?_
  refine va_putF (D := D) (ci := 0) (v := .int x) (ty := .int) (C := RX0) (T := TX0) (N := 20) hx hb hts kin_X0_init_X0 tyX0 tyX0_ok nmX0 hown hK hP hD hS 0 rfl rfl 0 (by decide) (hts _ kw_X0_init__fieldLink_RX0_46_ActHouse_Act_program_I_) (fun _ h9 => h9) rfl hin rfl (by decide +kernel) rfl rfl (Nat.le_of_ble_eq_true rfl) dX0_init_79 (fun H locs hP hD hS => ?_)
  have hP : va_P D vwCl [(h, .inr (0, [.int x, .int 0, .int 0, .int 0, .ref q7, .ref q15, .ref q23, .ref q31, .ref q39, .ref q47, .int 0, .int 0, .int 0, .int 0, .int 0, .int (-1), .int (-1), .int (-1), .int (-1), .int 0])), (q7, .inl (cI, 12, .inl (fun _ => 0))), (q15, .inl (cI, 24, .inl (fun _ => 0))), (q23, .inl (cI, 24, .inl (fun _ => 0))), (q31, .inl (cI, 8, .inl (fun _ => 0))), (q39, .inl (cI, 8, .inl (fun _ => 0))), (q47, .inl (cI, 12, .inl (fun _ => 0)))] H := hP
  have hD : va_D A [(h, .inr (0, [.int x, .int 0, .int 0, .int 0, .ref q7, .ref q15, .ref q23, .ref q31, .ref q39, .ref q47, .int 0, .int 0, .int 0, .int 0, .int 0, .int (-1), .int (-1), .int (-1), .int (-1), .int 0])), (q7, .inl (cI, 12, .inl (fun _ => 0))), (q15, .inl (cI, 24, .inl (fun _ => 0))), (q23, .inl (cI, 24, .inl (fun _ => 0))), (q31, .inl (cI, 8, .inl (fun _ => 0))), (q39, .inl (cI, 8, .inl (fun _ => 0))), (q47, .inl (cI, 12, .inl (fun _ => 0)))] := hD
  refine lv_aload_n hx hb dX0_init_82 rfl (lv_at hl 0 rfl) ?_
  refine lv_iload_n hx hb dX0_init_83 rfl (lv_at hl 2 rfl) ?_
  refine va_putF (D := D) (ci := 0) (v := .int y) (ty := .int) (C := RX0) (T := TX0) (N := 20) hx hb hts kin_X0_init_X0 tyX0 tyX0_ok nmX0 hown hK hP hD hS 0 rfl rfl 1 (by decide) (hts _ kw_X0_init__fieldLink_RX0_49_ActHouse_Act_kind_I_) (fun _ h9 => h9) rfl hin rfl (by decide +kernel) rfl rfl (Nat.le_of_ble_eq_true rfl) dX0_init_84 (fun H locs hP hD hS => ?_)
  have hP : va_P D vwCl [(h, .inr (0, [.int x, .int y, .int 0, .int 0, .ref q7, .ref q15, .ref q23, .ref q31, .ref q39, .ref q47, .int 0, .int 0, .int 0, .int 0, .int 0, .int (-1), .int (-1), .int (-1), .int (-1), .int 0])), (q7, .inl (cI, 12, .inl (fun _ => 0))), (q15, .inl (cI, 24, .inl (fun _ => 0))), (q23, .inl (cI, 24, .inl (fun _ => 0))), (q31, .inl (cI, 8, .inl (fun _ => 0))), (q39, .inl (cI, 8, .inl (fun _ => 0))), (q47, .inl (cI, 12, .inl (fun _ => 0)))] H := hP
  have hD : va_D A [(h, .inr (0, [.int x, .int y, .int 0, .int 0, .ref q7, .ref q15, .ref q23, .ref q31, .ref q39, .ref q47, .int 0, .int 0, .int 0, .int 0, .int 0, .int (-1), .int (-1), .int (-1), .int (-1), .int 0])), (q7, .inl (cI, 12, .inl (fun _ => 0))), (q15, .inl (cI, 24, .inl (fun _ => 0))), (q23, .inl (cI, 24, .inl (fun _ => 0))), (q31, .inl (cI, 8, .inl (fun _ => 0))), (q39, .inl (cI, 8, .inl (fun _ => 0))), (q47, .inl (cI, 12, .inl (fun _ => 0)))] := hD
  refine lv_aload_n hx hb dX0_init_87 rfl (lv_at hl 0 rfl) ?_
  refine lv_iload_n hx hb dX0_init_88 rfl (lv_at hl 3 rfl) ?_
  refine va_putF (D := D) (ci := 0) (v := .int z) (ty := .int) (C := RX0) (T := TX0) (N := 20) hx hb hts kin_X0_init_X0 tyX0 tyX0_ok nmX0 hown hK hP hD hS 0 rfl rfl 2 (by decide) (hts _ kw_X0_init__fieldLink_RX0_52_ActHouse_Act_rank_I_) (fun _ h9 => h9) rfl hin rfl (by decide +kernel) rfl rfl (Nat.le_of_ble_eq_true rfl) dX0_init_89 (fun H locs hP hD hS => ?_)
  have hP : va_P D vwCl [(h, .inr (0, [.int x, .int y, .int z, .int 0, .ref q7, .ref q15, .ref q23, .ref q31, .ref q39, .ref q47, .int 0, .int 0, .int 0, .int 0, .int 0, .int (-1), .int (-1), .int (-1), .int (-1), .int 0])), (q7, .inl (cI, 12, .inl (fun _ => 0))), (q15, .inl (cI, 24, .inl (fun _ => 0))), (q23, .inl (cI, 24, .inl (fun _ => 0))), (q31, .inl (cI, 8, .inl (fun _ => 0))), (q39, .inl (cI, 8, .inl (fun _ => 0))), (q47, .inl (cI, 12, .inl (fun _ => 0)))] H := hP
  have hD : va_D A [(h, .inr (0, [.int x, .int y, .int z, .int 0, .ref q7, .ref q15, .ref q23, .ref q31, .ref q39, .ref q47, .int 0, .int 0, .int 0, .int 0, .int 0, .int (-1), .int (-1), .int (-1), .int (-1), .int 0])), (q7, .inl (cI, 12, .inl (fun _ => 0))), (q15, .inl (cI, 24, .inl (fun _ => 0))), (q23, .inl (cI, 24, .inl (fun _ => 0))), (q31, .inl (cI, 8, .inl (fun _ => 0))), (q39, .inl (cI, 8, .inl (fun _ => 0))), (q47, .inl (cI, 12, .inl (fun _ => 0)))] := hD
  refine lv_aload_n hx hb dX0_init_92 rfl (lv_at hl 0 rfl) ?_
  refine lv_iload hx hb dX0_init_93 (lv_at hl 4 rfl) ?_
  refine va_putF (D := D) (ci := 0) (v := .int w) (ty := .int) (C := RX0) (T := TX0) (N := 20) hx hb hts kin_X0_init_X0 tyX0 tyX0_ok nmX0 hown hK hP hD hS 0 rfl rfl 3 (by decide) (hts _ kw_X0_init__fieldLink_RX0_55_ActHouse_Act_parent_I_) (fun _ h9 => h9) rfl hin rfl (by decide +kernel) rfl rfl (Nat.le_of_ble_eq_true rfl) dX0_init_95 (fun H locs hP hD hS => ?_)
  have hP : va_P D vwCl [(h, .inr (0, [.int x, .int y, .int z, .int w, .ref q7, .ref q15, .ref q23, .ref q31, .ref q39, .ref q47, .int 0, .int 0, .int 0, .int 0, .int 0, .int (-1), .int (-1), .int (-1), .int (-1), .int 0])), (q7, .inl (cI, 12, .inl (fun _ => 0))), (q15, .inl (cI, 24, .inl (fun _ => 0))), (q23, .inl (cI, 24, .inl (fun _ => 0))), (q31, .inl (cI, 8, .inl (fun _ => 0))), (q39, .inl (cI, 8, .inl (fun _ => 0))), (q47, .inl (cI, 12, .inl (fun _ => 0)))] H := hP
  have hD : va_D A [(h, .inr (0, [.int x, .int y, .int z, .int w, .ref q7, .ref q15, .ref q23, .ref q31, .ref q39, .ref q47, .int 0, .int 0, .int 0, .int 0, .int 0, .int (-1), .int (-1), .int (-1), .int (-1), .int 0])), (q7, .inl (cI, 12, .inl (fun _ => 0))), (q15, .inl (cI, 24, .inl (fun _ => 0))), (q23, .inl (cI, 24, .inl (fun _ => 0))), (q31, .inl (cI, 8, .inl (fun _ => 0))), (q39, .inl (cI, 8, .inl (fun _ => 0))), (q47, .inl (cI, 12, .inl (fun _ => 0)))] := hD
  have hP := hP.sub (ws' := [(h, .inr (0, [.int x, .int y, .int z, .int w, .ref q7, .ref q15, .ref q23, .ref q31, .ref q39, .ref q47, .int 0, .int 0, .int 0, .int 0, .int 0, .int (-1), .int (-1), .int (-1), .int (-1), .int 0])), (q7, .inl (cI, 12, .inl (fun _ => 0))), (q15, .inl (cI, 24, .inl (fun _ => 0))), (q23, .inl (cI, 24, .inl (fun _ => 0))), (q31, .inl (cI, 8, .inl (fun _ => 0))), (q39, .inl (cI, 8, .inl (fun _ => 0))), (q47, .inl (cI, 12, .inl (fun _ => 0)))]) [0, 1, 2, 3, 4, 5, 6] rfl
  have hD := hD.sub (ws' := [(h, .inr (0, [.int x, .int y, .int z, .int w, .ref q7, .ref q15, .ref q23, .ref q31, .ref q39, .ref q47, .int 0, .int 0, .int 0, .int 0, .int 0, .int (-1), .int (-1), .int (-1), .int (-1), .int 0])), (q7, .inl (cI, 12, .inl (fun _ => 0))), (q15, .inl (cI, 24, .inl (fun _ => 0))), (q23, .inl (cI, 24, .inl (fun _ => 0))), (q31, .inl (cI, 8, .inl (fun _ => 0))), (q39, .inl (cI, 8, .inl (fun _ => 0))), (q47, .inl (cI, 12, .inl (fun _ => 0)))]) [0, 1, 2, 3, 4, 5, 6] (by decide) rfl
  have hK := hK.sub (tys' := [(cI, .int)]) [0] rfl
  refine W.widen (k := 6) (n := 88) (by decide) (by decide) ?_
  exact W.vret hx hb hr (fun t ht hW => ⟨⟨([(h, .inr (0, [.int x, .int y, .int z, .int w, .ref q7, .ref q15, .ref q23, .ref q31, .ref q39, .ref q47, .int 0, .int 0, .int 0, .int 0, .int 0, .int (-1), .int (-1), .int (-1), .int (-1), .int 0])), (q7, .inl (cI, 12, .inl (fun _ => 0))), (q15, .inl (cI, 24, .inl (fun _ => 0))), (q23, .inl (cI, 24, .inl (fun _ => 0))), (q31, .inl (cI, 8, .inl (fun _ => 0))), (q39, .inl (cI, 8, .inl (fun _ => 0))), (q47, .inl (cI, 12, .inl (fun _ => 0)))], [(cI, .int)]), rfl, ⟨q7, q15, q23, q31, q39, q47, rfl⟩, ⟨by rw [ht]; exact hP, va_K.moved hW.alike hK, hD⟩⟩, hS.F ht⟩) hS.2.2 dX0_init_98
