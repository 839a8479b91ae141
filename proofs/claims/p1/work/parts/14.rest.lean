set_option maxRecDepth 100000 in
theorem kw_X3_dropUndoneFromRow__fieldLink_RX3_154_ActHouse_doneCount_I_ : (.fieldLink RX3 154 "ActHouse" "doneCount" "I" : Cond) ∈ wsX3_dropUndoneFromRow := by decide +kernel
set_option maxRecDepth 100000 in
theorem kin_X3_dropUndoneFromRow_X3 : ∀ w ∈ u_ws RX3 TX3 18, w ∈ wsX3_dropUndoneFromRow := by decide +kernel
set_option maxHeartbeats 4000000 in
set_option maxRecDepth 100000 in
theorem c_X3_dropUndoneFromRow {l : Launch} {D : va_G} {sz : Nat} {h : Nat} {xprogramSteps : Nat} {xprogramLengths : Nat} {xlimits : Nat} {xfloors : Nat} {xvalues : Nat} {xacts : Nat} {xorder : Nat} {xdoneRow : Nat} {xrunning : Nat} {xbegunOfClass : Nat} {xbook : Nat} {xwaits : Nat} {fa : Int32}  : Met l yX3_dropUndoneFromRow wsX3_dropUndoneFromRow ({ frames := 0, cells := 0, slots := 0, locals := 0 }) (va_Pc [.ref h] (k_Pre D [] [(h, .inr (3, [.ref xprogramSteps, .ref xprogramLengths, .ref xlimits, .ref xfloors, .ref xvalues, .ref xacts, .ref xorder, .ref xdoneRow, .ref xrunning, .ref xbegunOfClass, .ref xbook, .ref xwaits, .int 0, .int 0, .int 0, .int 0, .int 0, .int fa]))] sz)) (va_Qv (fun (u : va_W × List (ClassId × FieldType)) => (u = ([(h, .inr (3, [.ref xprogramSteps, .ref xprogramLengths, .ref xlimits, .ref xfloors, .ref xvalues, .ref xacts, .ref xorder, .ref xdoneRow, .ref xrunning, .ref xbegunOfClass, .ref xbook, .ref xwaits, .int 0, .int 0, .int 0, .int 0, .int 0, .int fa]))], []))) (k_B D (va_A [(h, .inr (3, [.ref xprogramSteps, .ref xprogramLengths, .ref xlimits, .ref xfloors, .ref xvalues, .ref xacts, .ref xorder, .ref xdoneRow, .ref xrunning, .ref xbegunOfClass, .ref xbook, .ref xwaits, .int 0, .int 0, .int 0, .int 0, .int 0, .int fa]))] sz)) (va_A [(h, .inr (3, [.ref xprogramSteps, .ref xprogramLengths, .ref xlimits, .ref xfloors, .ref xvalues, .ref xacts, .ref xorder, .ref xdoneRow, .ref xrunning, .ref xbegunOfClass, .ref xbook, .ref xwaits, .int 0, .int 0, .int 0, .int 0, .int 0, .int fa]))] sz)) 0 0 (va_A [(h, .inr (3, [.ref xprogramSteps, .ref xprogramLengths, .ref xlimits, .ref xfloors, .ref xvalues, .ref xacts, .ref xorder, .ref xdoneRow, .ref xrunning, .ref xbegunOfClass, .ref xbook, .ref xwaits, .int 0, .int 0, .int 0, .int 0, .int 0, .int fa]))] sz) := by
  refine Met.ofW (cc := cX3_dropUndoneFromRow) (maxL := 3) (ret := none) (by decide) rfl ?_
  intro p e s m args below meth c s₁ B hml hv
  obtain ⟨rfl, hsz, hP, hK, hD0⟩ := hv
  have hx := B.exec
  have hb := B.bytes
  have hr := B.returns
  have hts := atoms_spec (ws := wsX3_dropUndoneFromRow) B.pre
  have hown : s.vm.findClass RX3 = some m.cls := findClass_of_methodNamed B.named
  have hlocks := B.notSynchronized
  subst hsz
  have hD := hD0.self (sz := s.heap.size)
  generalize hAe : va_A [(h, .inr (3, [.ref xprogramSteps, .ref xprogramLengths, .ref xlimits, .ref xfloors, .ref xvalues, .ref xacts, .ref xorder, .ref xdoneRow, .ref xrunning, .ref xbegunOfClass, .ref xbook, .ref xwaits, .int 0, .int 0, .int 0, .int 0, .int 0, .int fa]))] s.heap.size = A at hD ⊢
  have hA : ∀ q : Nat, s.heap.size ≤ q → A q := fun q h => by rw [← hAe]; exact Or.inr h
  have hS : va_S A s.heap s.heap [] := va_S.rf
  have hl := lv_entry ([.ref h]) (n := 3) (Nat.le_of_ble_eq_true rfl)
  rw [lg_entry_eq]
  generalize (lg_sl ([.ref h]) ++ List.replicate (3 - (lg_sl ([.ref h])).length) Slot.unset).toArray = ls at hl ⊢
  have hl : lv_has ls 3 [(0, .ref h)] := hl
  refine lv_iconst (v := 0) hx hb dX3_dropUndoneFromRow_0 (by decide) ?_
  refine lv_istore_n (lv' := [(1, .int 0), (0, .ref h)]) hx hb dX3_dropUndoneFromRow_1 rfl hl (by decide) rfl (fun ls hl => ?_)
  refine lv_iconst (v := 0) hx hb dX3_dropUndoneFromRow_2 (by decide) ?_
  refine lv_istore_n (lv' := [(2, .int 0), (1, .int 0), (0, .ref h)]) hx hb dX3_dropUndoneFromRow_3 rfl hl (by decide) rfl (fun ls hl => ?_)
  refine lv_iload_n hx hb dX3_dropUndoneFromRow_4 rfl (lv_at hl 0 rfl) ?_
  refine lv_aload_n hx hb dX3_dropUndoneFromRow_5 rfl (lv_at hl 2 rfl) ?_
  refine va_get (D := D) (ci := 3) (v := .int 0) (C := RX3) (T := TX3) (N := 18) hx hb hts kin_X3_dropUndoneFromRow_X3 hown hK hP 0 rfl rfl 13 (by decide) (hts _ kw_X3_dropUndoneFromRow__fieldLink_RX3_154_ActHouse_doneCount_I_) (fun _ h9 => h9) rfl dX3_dropUndoneFromRow_6 ?_
  refine lv_icmp_ge (tgt := 51) hx hb dX3_dropUndoneFromRow_9 (by decide) (fun c1 => ?_) (fun c1 => ?_)
  · skip
    refine lv_aload_n hx hb dX3_dropUndoneFromRow_51 rfl (lv_at hl 2 rfl) ?_
    refine lv_iload_n hx hb dX3_dropUndoneFromRow_52 rfl (lv_at hl 1 rfl) ?_
    refine va_put (D := D) (ci := 3) (v := .int 0) (ty := .int) (C := RX3) (T := TX3) (N := 18) hx hb hts kin_X3_dropUndoneFromRow_X3 tyX3 tyX3_ok nmX3 hown hK hP hD hS 0 rfl rfl 13 (by decide) (hts _ kw_X3_dropUndoneFromRow__fieldLink_RX3_154_ActHouse_doneCount_I_) (fun _ h9 => h9) rfl (by decide +kernel) rfl rfl (Nat.le_of_ble_eq_true rfl) dX3_dropUndoneFromRow_53 (fun H locs hP hD hS => ?_)
    have hP : va_P D vwCl [(h, .inr (3, [.ref xprogramSteps, .ref xprogramLengths, .ref xlimits, .ref xfloors, .ref xvalues, .ref xacts, .ref xorder, .ref xdoneRow, .ref xrunning, .ref xbegunOfClass, .ref xbook, .ref xwaits, .int 0, .int 0, .int 0, .int 0, .int 0, .int fa]))] H := hP
    have hD : va_D A [(h, .inr (3, [.ref xprogramSteps, .ref xprogramLengths, .ref xlimits, .ref xfloors, .ref xvalues, .ref xacts, .ref xorder, .ref xdoneRow, .ref xrunning, .ref xbegunOfClass, .ref xbook, .ref xwaits, .int 0, .int 0, .int 0, .int 0, .int 0, .int fa]))] := hD
    have hP := hP.sub (ws' := [(h, .inr (3, [.ref xprogramSteps, .ref xprogramLengths, .ref xlimits, .ref xfloors, .ref xvalues, .ref xacts, .ref xorder, .ref xdoneRow, .ref xrunning, .ref xbegunOfClass, .ref xbook, .ref xwaits, .int 0, .int 0, .int 0, .int 0, .int 0, .int fa]))]) [0] rfl
    have hD := hD.sub (ws' := [(h, .inr (3, [.ref xprogramSteps, .ref xprogramLengths, .ref xlimits, .ref xfloors, .ref xvalues, .ref xacts, .ref xorder, .ref xdoneRow, .ref xrunning, .ref xbegunOfClass, .ref xbook, .ref xwaits, .int 0, .int 0, .int 0, .int 0, .int 0, .int fa]))]) [0] (by decide) rfl
    have hK := hK.sub (tys' := []) [] rfl
    refine W.widen (k := 0) (n := 0) (by decide) (by decide) ?_
    exact W.vret hx hb hr (fun t ht hW => ⟨⟨([(h, .inr (3, [.ref xprogramSteps, .ref xprogramLengths, .ref xlimits, .ref xfloors, .ref xvalues, .ref xacts, .ref xorder, .ref xdoneRow, .ref xrunning, .ref xbegunOfClass, .ref xbook, .ref xwaits, .int 0, .int 0, .int 0, .int 0, .int 0, .int fa]))], []), rfl, rfl, ⟨by rw [ht]; exact hP, va_K.moved hW.alike hK, hD⟩⟩, hS.F ht⟩) hS.2.2 dX3_dropUndoneFromRow_56
  · skip
    exact absurd c1 (by decide)
set_option maxRecDepth 100000 in
theorem kw_X3_retellValues__fieldLink_RX3_22_ActHouse_values_I_ : (.fieldLink RX3 22 "ActHouse" "values" "[I" : Cond) ∈ wsX3_retellValues := by decide +kernel
set_option maxRecDepth 100000 in
theorem kin_X3_retellValues_X3 : ∀ w ∈ u_ws RX3 TX3 18, w ∈ wsX3_retellValues := by decide +kernel
set_option maxRecDepth 100000 in
theorem kw_X3_retellValues__fieldLink_RX3_154_ActHouse_doneCount_I_ : (.fieldLink RX3 154 "ActHouse" "doneCount" "I" : Cond) ∈ wsX3_retellValues := by decide +kernel
set_option maxHeartbeats 4000000 in
set_option maxRecDepth 100000 in
theorem c_X3_retellValues {l : Launch} {D : va_G} {sz : Nat} {h : Nat} {xprogramSteps : Nat} {xprogramLengths : Nat} {xlimits : Nat} {xfloors : Nat} {xvalues : Nat} {xacts : Nat} {xorder : Nat} {xdoneRow : Nat} {xrunning : Nat} {xbegunOfClass : Nat} {xbook : Nat} {xwaits : Nat} {fa : Int32} {fv : Nat → Int32} {cI : ClassId}  : Met l yX3_retellValues wsX3_retellValues ({ frames := 1, cells := 0, slots := 0, locals := 23 }) (va_Pc [.ref h] (k_Pre D [(cI, .int)] [(h, .inr (3, [.ref xprogramSteps, .ref xprogramLengths, .ref xlimits, .ref xfloors, .ref xvalues, .ref xacts, .ref xorder, .ref xdoneRow, .ref xrunning, .ref xbegunOfClass, .ref xbook, .ref xwaits, .int 0, .int 0, .int 0, .int 0, .int 0, .int fa])), (xvalues, .inl (cI, 32, .inl fv))] sz)) (va_Qv (fun (u : va_W × List (ClassId × FieldType)) => (u = ([], [(cI, .int)]))) (k_B D (va_A [(h, .inr (3, [.ref xprogramSteps, .ref xprogramLengths, .ref xlimits, .ref xfloors, .ref xvalues, .ref xacts, .ref xorder, .ref xdoneRow, .ref xrunning, .ref xbegunOfClass, .ref xbook, .ref xwaits, .int 0, .int 0, .int 0, .int 0, .int 0, .int fa])), (xvalues, .inl (cI, 32, .inl fv))] sz)) (va_A [(h, .inr (3, [.ref xprogramSteps, .ref xprogramLengths, .ref xlimits, .ref xfloors, .ref xvalues, .ref xacts, .ref xorder, .ref xdoneRow, .ref xrunning, .ref xbegunOfClass, .ref xbook, .ref xwaits, .int 0, .int 0, .int 0, .int 0, .int 0, .int fa])), (xvalues, .inl (cI, 32, .inl fv))] sz)) 0 0 (va_A [(h, .inr (3, [.ref xprogramSteps, .ref xprogramLengths, .ref xlimits, .ref xfloors, .ref xvalues, .ref xacts, .ref xorder, .ref xdoneRow, .ref xrunning, .ref xbegunOfClass, .ref xbook, .ref xwaits, .int 0, .int 0, .int 0, .int 0, .int 0, .int fa])), (xvalues, .inl (cI, 32, .inl fv))] sz) := by
  refine Met.ofW (cc := cX3_retellValues) (maxL := 2) (ret := none) (by decide) rfl ?_
  intro p e s m args below meth c s₁ B hml hv
  obtain ⟨rfl, hsz, hP, hK, hD0⟩ := hv
  have hx := B.exec
  have hb := B.bytes
  have hr := B.returns
  have hts := atoms_spec (ws := wsX3_retellValues) B.pre
  have hown : s.vm.findClass RX3 = some m.cls := findClass_of_methodNamed B.named
  have hlocks := B.notSynchronized
  subst hsz
  have hD := hD0.self (sz := s.heap.size)
  generalize hAe : va_A [(h, .inr (3, [.ref xprogramSteps, .ref xprogramLengths, .ref xlimits, .ref xfloors, .ref xvalues, .ref xacts, .ref xorder, .ref xdoneRow, .ref xrunning, .ref xbegunOfClass, .ref xbook, .ref xwaits, .int 0, .int 0, .int 0, .int 0, .int 0, .int fa])), (xvalues, .inl (cI, 32, .inl fv))] s.heap.size = A at hD ⊢
  have hA : ∀ q : Nat, s.heap.size ≤ q → A q := fun q h => by rw [← hAe]; exact Or.inr h
  have hS : va_S A s.heap s.heap [] := va_S.rf
  have hl := lv_entry ([.ref h]) (n := 2) (Nat.le_of_ble_eq_true rfl)
  rw [lg_entry_eq]
  generalize (lg_sl ([.ref h]) ++ List.replicate (2 - (lg_sl ([.ref h])).length) Slot.unset).toArray = ls at hl ⊢
  have hl : lv_has ls 2 [(0, .ref h)] := hl
  refine lv_aload_n hx hb dX3_retellValues_0 rfl (lv_at hl 0 rfl) ?_
  refine va_get (D := D) (ci := 3) (v := .ref xvalues) (C := RX3) (T := TX3) (N := 18) hx hb hts kin_X3_retellValues_X3 hown hK hP 0 rfl rfl 4 (by decide) (hts _ kw_X3_retellValues__fieldLink_RX3_22_ActHouse_values_I_) (fun _ h9 => h9) rfl dX3_retellValues_1 ?_
  refine lv_iconst (v := 0) hx hb dX3_retellValues_4 (by decide) ?_
  have hPc := hP.sub (ws' := [(xvalues, .inl (cI, 32, .inl fv))]) [1] rfl
  have hDc := hD.sub (ws' := [(xvalues, .inl (cI, 32, .inl fv))]) [1] (by decide) rfl
  have hKc := hK.sub (tys' := [(cI, .int)]) [0] rfl
  have hFc := va_free (wc := [(xvalues, .inl (cI, 32, .inl fv))]) hD hS hA [1] rfl
  refine va_callv (va_runS (As := [.ref xvalues, .int 0]) (rest := []) ⟨hx, hb, hml, hown, hts⟩ (c_J7_fill_53178 (l := l) (D := D) (a := xvalues) (v := 0) (n := 32) (f := fv) (cI := cI) (by omega)) (va_cwS 2 hts gX3_retellValues_J7_fill_53178 rfl rfl rfl (by decide +kernel) ⟨Nat.le_of_ble_eq_true rfl, Nat.le_of_ble_eq_true rfl⟩) ⟨k_blind, fun U hU hW => ⟨rfl, k_pre hU hW hPc hKc hDc⟩⟩ rfl rfl hl.1 rfl (lv_room (Nat.le_of_ble_eq_true rfl)) dX3_retellValues_5 ⟨by decide, by decide⟩) hS (fun q _ h => hFc q h) hFc (fun u t H1 locs ht hvm hw hB hz1 hk1 hS => ?_)
  refine W.widen (k := 0) (n := 0) (Nat.le_refl _) (Nat.le_refl _) ?_
  have hl0 : (0 : Int32).toInt = 0 := by decide
  obtain ⟨f2_1, rfl⟩ := hw
  obtain ⟨hP1, hK1, hD1⟩ := hB
  rw [ht] at hP1
  have hK1 := va_K.moved hvm.symm hK1
  obtain ⟨hP, hD⟩ := va_join (wr := [(h, .inr (3, [.ref xprogramSteps, .ref xprogramLengths, .ref xlimits, .ref xfloors, .ref xvalues, .ref xacts, .ref xorder, .ref xdoneRow, .ref xrunning, .ref xbegunOfClass, .ref xbook, .ref xwaits, .int 0, .int 0, .int 0, .int 0, .int 0, .int fa]))]) (w1 := [(xvalues, .inl (cI, 32, .inl f2_1))]) hP hD [1] [0] rfl rfl (by decide) (by decide) hk1 hFc hP1 hD1
  generalize H1 = H at hP hS ⊢
  have hP : va_P D vwCl [(h, .inr (3, [.ref xprogramSteps, .ref xprogramLengths, .ref xlimits, .ref xfloors, .ref xvalues, .ref xacts, .ref xorder, .ref xdoneRow, .ref xrunning, .ref xbegunOfClass, .ref xbook, .ref xwaits, .int 0, .int 0, .int 0, .int 0, .int 0, .int fa])), (xvalues, .inl (cI, 32, .inl f2_1))] H := hP
  have hD : va_D A [(h, .inr (3, [.ref xprogramSteps, .ref xprogramLengths, .ref xlimits, .ref xfloors, .ref xvalues, .ref xacts, .ref xorder, .ref xdoneRow, .ref xrunning, .ref xbegunOfClass, .ref xbook, .ref xwaits, .int 0, .int 0, .int 0, .int 0, .int 0, .int fa])), (xvalues, .inl (cI, 32, .inl f2_1))] := hD
  refine lv_iconst (v := 0) hx hb dX3_retellValues_8 (by decide) ?_
  refine lv_istore_n (lv' := [(1, .int 0), (0, .ref h)]) hx hb dX3_retellValues_9 rfl hl (by decide) rfl (fun ls hl => ?_)
  refine lv_iload_n hx hb dX3_retellValues_10 rfl (lv_at hl 0 rfl) ?_
  refine lv_aload_n hx hb dX3_retellValues_11 rfl (lv_at hl 1 rfl) ?_
  refine va_get (D := D) (ci := 3) (v := .int 0) (C := RX3) (T := TX3) (N := 18) hx hb hts kin_X3_retellValues_X3 hown hK hP 0 rfl rfl 13 (by decide) (hts _ kw_X3_retellValues__fieldLink_RX3_154_ActHouse_doneCount_I_) (fun _ h9 => h9) rfl dX3_retellValues_12 ?_
  refine lv_icmp_ge (tgt := 39) hx hb dX3_retellValues_15 (by decide) (fun c2 => ?_) (fun c2 => ?_)
  · skip
    have hP := hP.sub (ws' := []) [] rfl
    have hD := hD.sub (ws' := []) [] (by decide) rfl
    have hK := hK.sub (tys' := [(cI, .int)]) [0] rfl
    refine W.widen (k := 0) (n := 0) (by decide) (by decide) ?_
    exact W.vret hx hb hr (fun t ht hW => ⟨⟨([], [(cI, .int)]), rfl, rfl, ⟨by rw [ht]; exact hP, va_K.moved hW.alike hK, hD⟩⟩, hS.F ht⟩) hS.2.2 dX3_retellValues_39
  · skip
    exact absurd c2 (by decide)
set_option maxRecDepth 100000 in
theorem kw_X3_fall__fieldLink_RX3_46_ActHouse_book_LActHouse_LogBook_ : (.fieldLink RX3 46 "ActHouse" "book" "LActHouse$LogBook;" : Cond) ∈ wsX3_fall := by decide +kernel
set_option maxRecDepth 100000 in
theorem kin_X3_fall_X3 : ∀ w ∈ u_ws RX3 TX3 18, w ∈ wsX3_fall := by decide +kernel
set_option maxRecDepth 100000 in
theorem kw_X3_fall__fieldLink_RX3_86_ActHouse_LogBook_size_I_ : (.fieldLink RX3 86 "ActHouse$LogBook" "size" "I" : Cond) ∈ wsX3_fall := by decide +kernel
set_option maxRecDepth 100000 in
theorem kin_X3_fall_X1 : ∀ w ∈ u_ws RX1 TX1 3, w ∈ wsX3_fall := by decide +kernel
set_option maxRecDepth 100000 in
theorem kw_X3_fall__fieldLink_RX3_89_ActHouse_LogBook_kept_I_ : (.fieldLink RX3 89 "ActHouse$LogBook" "kept" "I" : Cond) ∈ wsX3_fall := by decide +kernel
set_option maxRecDepth 100000 in
theorem kw_X3_fall__fieldLink_RX3_99_ActHouse_falls_I_ : (.fieldLink RX3 99 "ActHouse" "falls" "I" : Cond) ∈ wsX3_fall := by decide +kernel
set_option maxRecDepth 100000 in
theorem kw_X3_fall__fieldLink_RX3_102_ActHouse_actCount_I_ : (.fieldLink RX3 102 "ActHouse" "actCount" "I" : Cond) ∈ wsX3_fall := by decide +kernel
set_option maxHeartbeats 4000000 in
set_option maxRecDepth 100000 in
theorem c_X3_fall {l : Launch} {D : va_G} {sz : Nat} {h : Nat} {xprogramSteps : Nat} {xprogramLengths : Nat} {xlimits : Nat} {xfloors : Nat} {xvalues : Nat} {xacts : Nat} {xorder : Nat} {xdoneRow : Nat} {xrunning : Nat} {xbegunOfClass : Nat} {xbook : Nat} {xwaits : Nat} {x : Int32} {en : Nat} {cI : ClassId}  : Met l yX3_fall wsX3_fall ({ frames := 2, cells := 0, slots := 0, locals := 44 }) (va_Pc [.ref h, .int x] (k_Pre D [(cI, .int)] [(h, .inr (3, [.ref xprogramSteps, .ref xprogramLengths, .ref xlimits, .ref xfloors, .ref xvalues, .ref xacts, .ref xorder, .ref xdoneRow, .ref xrunning, .ref xbegunOfClass, .ref xbook, .ref xwaits, .int 0, .int 0, .int 0, .int 0, .int 0, .int 0])), (xbook, .inr (1, [.ref en, .int 0, .int 0])), (xvalues, .inl (cI, 32, .inl (fun _ => 0)))] sz)) (va_Qi (fun (r : Int32) (u : va_W × List (ClassId × FieldType)) => (r = 0 ∧ u = ([], [(cI, .int)]) ∧ x.toInt = 0) ∨ (r = (-1) ∧ u = ([], [(cI, .int)]) ∧ (x.toInt < 0 ∨ 0 < x.toInt))) (k_B D (va_A [(h, .inr (3, [.ref xprogramSteps, .ref xprogramLengths, .ref xlimits, .ref xfloors, .ref xvalues, .ref xacts, .ref xorder, .ref xdoneRow, .ref xrunning, .ref xbegunOfClass, .ref xbook, .ref xwaits, .int 0, .int 0, .int 0, .int 0, .int 0, .int 0])), (xbook, .inr (1, [.ref en, .int 0, .int 0])), (xvalues, .inl (cI, 32, .inl (fun _ => 0)))] sz)) (va_A [(h, .inr (3, [.ref xprogramSteps, .ref xprogramLengths, .ref xlimits, .ref xfloors, .ref xvalues, .ref xacts, .ref xorder, .ref xdoneRow, .ref xrunning, .ref xbegunOfClass, .ref xbook, .ref xwaits, .int 0, .int 0, .int 0, .int 0, .int 0, .int 0])), (xbook, .inr (1, [.ref en, .int 0, .int 0])), (xvalues, .inl (cI, 32, .inl (fun _ => 0)))] sz)) 0 0 (va_A [(h, .inr (3, [.ref xprogramSteps, .ref xprogramLengths, .ref xlimits, .ref xfloors, .ref xvalues, .ref xacts, .ref xorder, .ref xdoneRow, .ref xrunning, .ref xbegunOfClass, .ref xbook, .ref xwaits, .int 0, .int 0, .int 0, .int 0, .int 0, .int 0])), (xbook, .inr (1, [.ref en, .int 0, .int 0])), (xvalues, .inl (cI, 32, .inl (fun _ => 0)))] sz) := by
  refine Met.ofW (cc := cX3_fall) (maxL := 4) (ret := (some .int)) (by decide) rfl ?_
  intro p e s m args below meth c s₁ B hml hv
  obtain ⟨rfl, hsz, hP, hK, hD0⟩ := hv
  have hx := B.exec
  have hb := B.bytes
  have hr := B.returns
  have hts := atoms_spec (ws := wsX3_fall) B.pre
  have hown : s.vm.findClass RX3 = some m.cls := findClass_of_methodNamed B.named
  have hlocks := B.notSynchronized
  subst hsz
  have hD := hD0.self (sz := s.heap.size)
  generalize hAe : va_A [(h, .inr (3, [.ref xprogramSteps, .ref xprogramLengths, .ref xlimits, .ref xfloors, .ref xvalues, .ref xacts, .ref xorder, .ref xdoneRow, .ref xrunning, .ref xbegunOfClass, .ref xbook, .ref xwaits, .int 0, .int 0, .int 0, .int 0, .int 0, .int 0])), (xbook, .inr (1, [.ref en, .int 0, .int 0])), (xvalues, .inl (cI, 32, .inl (fun _ => 0)))] s.heap.size = A at hD ⊢
  have hA : ∀ q : Nat, s.heap.size ≤ q → A q := fun q h => by rw [← hAe]; exact Or.inr h
  have hS : va_S A s.heap s.heap [] := va_S.rf
  have hl := lv_entry ([.ref h, .int x]) (n := 4) (Nat.le_of_ble_eq_true rfl)
  rw [lg_entry_eq]
  generalize (lg_sl ([.ref h, .int x]) ++ List.replicate (4 - (lg_sl ([.ref h, .int x])).length) Slot.unset).toArray = ls at hl ⊢
  have hl : lv_has ls 4 [(0, .ref h), (1, .int x)] := hl
  refine lv_iload_n hx hb dX3_fall_0 rfl (lv_at hl 1 rfl) ?_
  refine lv_if_lt (tgt := 23) hx hb dX3_fall_1 (by decide) (fun c1 => ?_) (fun c1 => ?_)
  · skip
    have c1 := k_lt c1
    have hl0 : (0 : Int32).toInt = 0 := by decide
    refine lv_iconst (v := (-1)) hx hb dX3_fall_23 (by decide) ?_
    have hP := hP.sub (ws' := []) [] rfl
    have hD := hD.sub (ws' := []) [] (by decide) rfl
    have hK := hK.sub (tys' := [(cI, .int)]) [0] rfl
    refine W.widen (k := 0) (n := 0) (by decide) (by decide) ?_
    exact W.iret (v := (-1)) hx hb hr (fun t ht hW => ⟨⟨(-1), ([], [(cI, .int)]), rfl, Or.inr (⟨rfl, rfl, (by omega)⟩), ⟨by rw [ht]; exact hP, va_K.moved hW.alike hK, hD⟩⟩, hS.F ht⟩) hS.2.2 dX3_fall_24
  · skip
    have c1 := k_nlt c1
    have hl0 : (0 : Int32).toInt = 0 := by decide
    refine lv_iload_n hx hb dX3_fall_4 rfl (lv_at hl 1 rfl) ?_
    refine lv_aload_n hx hb dX3_fall_5 rfl (lv_at hl 0 rfl) ?_
    refine va_get (D := D) (ci := 3) (v := .ref xbook) (C := RX3) (T := TX3) (N := 18) hx hb hts kin_X3_fall_X3 hown hK hP 0 rfl rfl 10 (by decide) (hts _ kw_X3_fall__fieldLink_RX3_46_ActHouse_book_LActHouse_LogBook_) (fun _ h9 => h9) rfl dX3_fall_6 ?_
    refine va_get (D := D) (ci := 1) (v := .int 0) (C := RX1) (T := TX1) (N := 3) hx hb hts kin_X3_fall_X1 hown hK hP 1 rfl rfl 1 (by decide) (hts _ kw_X3_fall__fieldLink_RX3_86_ActHouse_LogBook_size_I_) (fun _ h9 => h9) rfl dX3_fall_9 ?_
    refine lv_aload_n hx hb dX3_fall_12 rfl (lv_at hl 0 rfl) ?_
    refine va_get (D := D) (ci := 3) (v := .ref xbook) (C := RX3) (T := TX3) (N := 18) hx hb hts kin_X3_fall_X3 hown hK hP 0 rfl rfl 10 (by decide) (hts _ kw_X3_fall__fieldLink_RX3_46_ActHouse_book_LActHouse_LogBook_) (fun _ h9 => h9) rfl dX3_fall_13 ?_
    refine va_get (D := D) (ci := 1) (v := .int 0) (C := RX1) (T := TX1) (N := 3) hx hb hts kin_X3_fall_X1 hown hK hP 1 rfl rfl 2 (by decide) (hts _ kw_X3_fall__fieldLink_RX3_89_ActHouse_LogBook_kept_I_) (fun _ h9 => h9) rfl dX3_fall_16 ?_
    refine lv_isub hx hb dX3_fall_19 ?_
    refine W.eq (g2 := F0 m 20 ls [.int 0, .int x]) (by first | rfl | (congr 2; decide)) ?_
    refine lv_icmp_le (tgt := 25) hx hb dX3_fall_20 (by decide) (fun c2 => ?_) (fun c2 => ?_)
    · skip
      have c2 := k_le c2
      have hl0 : (0 : Int32).toInt = 0 := by decide
      obtain rfl := k_zero (x := x) (by omega)
      refine lv_aload_n hx hb dX3_fall_25 rfl (lv_at hl 0 rfl) ?_
      refine va_get (D := D) (ci := 3) (v := .ref xbook) (C := RX3) (T := TX3) (N := 18) hx hb hts kin_X3_fall_X3 hown hK hP 0 rfl rfl 10 (by decide) (hts _ kw_X3_fall__fieldLink_RX3_46_ActHouse_book_LActHouse_LogBook_) (fun _ h9 => h9) rfl dX3_fall_26 ?_
      refine lv_aload_n hx hb dX3_fall_29 rfl (lv_at hl 0 rfl) ?_
      refine va_get (D := D) (ci := 3) (v := .ref xbook) (C := RX3) (T := TX3) (N := 18) hx hb hts kin_X3_fall_X3 hown hK hP 0 rfl rfl 10 (by decide) (hts _ kw_X3_fall__fieldLink_RX3_46_ActHouse_book_LActHouse_LogBook_) (fun _ h9 => h9) rfl dX3_fall_30 ?_
      refine va_get (D := D) (ci := 1) (v := .int 0) (C := RX1) (T := TX1) (N := 3) hx hb hts kin_X3_fall_X1 hown hK hP 1 rfl rfl 2 (by decide) (hts _ kw_X3_fall__fieldLink_RX3_89_ActHouse_LogBook_kept_I_) (fun _ h9 => h9) rfl dX3_fall_33 ?_
      refine lv_iload_n hx hb dX3_fall_36 rfl (lv_at hl 1 rfl) ?_
      refine lv_iadd hx hb dX3_fall_37 ?_
      refine W.eq (g2 := F0 m 38 ls [.int 0, .ref xbook]) (by first | rfl | (congr 2; decide)) ?_
      have hPc := hP.sub (ws' := [(xbook, .inr (1, [.ref en, .int 0, .int 0]))]) [1] rfl
      have hDc := hD.sub (ws' := [(xbook, .inr (1, [.ref en, .int 0, .int 0]))]) [1] (by decide) rfl
      have hKc := hK.sub (tys' := []) [] rfl
      have hFc := va_free (wc := [(xbook, .inr (1, [.ref en, .int 0, .int 0]))]) hD hS hA [1] rfl
      refine va_callv (va_runV (As := [.int 0]) (rest := []) ⟨hx, hb, hml, hown, hts⟩ (c_X1_cut (l := l) (D := D) (h := xbook) (en := en) (z := 0) (k := 0) (x := 0) ) (cwV 1 hts gX3_fall_X1_cut rfl rfl rfl (by decide +kernel) ⟨Nat.le_of_ble_eq_true rfl, Nat.le_of_ble_eq_true rfl⟩) ⟨k_blind, va_recv hKc hPc (ci := 1) (q0 := 0) rfl rfl, fun U hU hW => ⟨rfl, k_pre hU hW hPc hKc hDc⟩⟩ rfl rfl hl.1 rfl (lv_room (Nat.le_of_ble_eq_true rfl)) dX3_fall_38 ⟨by decide, by decide⟩) hS (fun q _ h => hFc q h) hFc (fun u t H1 locs ht hvm hw hB hz1 hk1 hS => ?_)
      refine W.widen (k := 0) (n := 0) (Nat.le_refl _) (Nat.le_refl _) ?_
      have hl0 : (0 : Int32).toInt = 0 := by decide
      obtain ⟨z2_3, rfl⟩ := hw
      obtain ⟨hP1, hK1, hD1⟩ := hB
      rw [ht] at hP1
      have hK1 := va_K.moved hvm.symm hK1
      obtain ⟨hP, hD⟩ := va_join (wr := [(h, .inr (3, [.ref xprogramSteps, .ref xprogramLengths, .ref xlimits, .ref xfloors, .ref xvalues, .ref xacts, .ref xorder, .ref xdoneRow, .ref xrunning, .ref xbegunOfClass, .ref xbook, .ref xwaits, .int 0, .int 0, .int 0, .int 0, .int 0, .int 0])), (xvalues, .inl (cI, 32, .inl (fun _ => 0)))]) (w1 := [(xbook, .inr (1, [.ref en, .int z2_3, .int 0]))]) hP hD [1] [0, 2] rfl rfl (by decide) (by decide) hk1 hFc hP1 hD1
      generalize H1 = H at hP hS ⊢
      have hP : va_P D vwCl [(h, .inr (3, [.ref xprogramSteps, .ref xprogramLengths, .ref xlimits, .ref xfloors, .ref xvalues, .ref xacts, .ref xorder, .ref xdoneRow, .ref xrunning, .ref xbegunOfClass, .ref xbook, .ref xwaits, .int 0, .int 0, .int 0, .int 0, .int 0, .int 0])), (xvalues, .inl (cI, 32, .inl (fun _ => 0))), (xbook, .inr (1, [.ref en, .int z2_3, .int 0]))] H := hP
      have hD : va_D A [(h, .inr (3, [.ref xprogramSteps, .ref xprogramLengths, .ref xlimits, .ref xfloors, .ref xvalues, .ref xacts, .ref xorder, .ref xdoneRow, .ref xrunning, .ref xbegunOfClass, .ref xbook, .ref xwaits, .int 0, .int 0, .int 0, .int 0, .int 0, .int 0])), (xvalues, .inl (cI, 32, .inl (fun _ => 0))), (xbook, .inr (1, [.ref en, .int z2_3, .int 0]))] := hD
      refine lv_aload_n hx hb dX3_fall_41 rfl (lv_at hl 0 rfl) ?_
      refine va_get (D := D) (ci := 3) (v := .ref xbook) (C := RX3) (T := TX3) (N := 18) hx hb hts kin_X3_fall_X3 hown hK hP 0 rfl rfl 10 (by decide) (hts _ kw_X3_fall__fieldLink_RX3_46_ActHouse_book_LActHouse_LogBook_) (fun _ h9 => h9) rfl dX3_fall_42 ?_
      have hPc := hP.sub (ws' := [(xbook, .inr (1, [.ref en, .int z2_3, .int 0]))]) [2] rfl
      have hDc := hD.sub (ws' := [(xbook, .inr (1, [.ref en, .int z2_3, .int 0]))]) [2] (by decide) rfl
      have hKc := hK.sub (tys' := []) [] rfl
      have hFc := va_free (wc := [(xbook, .inr (1, [.ref en, .int z2_3, .int 0]))]) hD hS hA [2] rfl
      refine va_callv (va_runV (As := []) (rest := []) ⟨hx, hb, hml, hown, hts⟩ (c_X1_keepAll (l := l) (D := D) (h := xbook) (en := en) (z := z2_3) (k := 0) ) (cwV 0 hts gX3_fall_X1_keepAll rfl rfl rfl (by decide +kernel) ⟨Nat.le_of_ble_eq_true rfl, Nat.le_of_ble_eq_true rfl⟩) ⟨k_blind, va_recv hKc hPc (ci := 1) (q0 := 0) rfl rfl, fun U hU hW => ⟨rfl, k_pre hU hW hPc hKc hDc⟩⟩ rfl rfl hl.1 rfl (lv_room (Nat.le_of_ble_eq_true rfl)) dX3_fall_45 ⟨by decide, by decide⟩) hS (fun q _ h => hFc q h) hFc (fun u t H1 locs ht hvm hw hB hz1 hk1 hS => ?_)
      refine W.widen (k := 0) (n := 0) (Nat.le_refl _) (Nat.le_refl _) ?_
      obtain ⟨rfl⟩ := hw
      obtain ⟨hP1, hK1, hD1⟩ := hB
      rw [ht] at hP1
      have hK1 := va_K.moved hvm.symm hK1
      obtain ⟨hP, hD⟩ := va_join (wr := [(h, .inr (3, [.ref xprogramSteps, .ref xprogramLengths, .ref xlimits, .ref xfloors, .ref xvalues, .ref xacts, .ref xorder, .ref xdoneRow, .ref xrunning, .ref xbegunOfClass, .ref xbook, .ref xwaits, .int 0, .int 0, .int 0, .int 0, .int 0, .int 0])), (xvalues, .inl (cI, 32, .inl (fun _ => 0)))]) (w1 := [(xbook, .inr (1, [.ref en, .int z2_3, .int z2_3]))]) hP hD [2] [0, 1] rfl rfl (by decide) (by decide) hk1 hFc hP1 hD1
      generalize H1 = H at hP hS ⊢
      have hP : va_P D vwCl [(h, .inr (3, [.ref xprogramSteps, .ref xprogramLengths, .ref xlimits, .ref xfloors, .ref xvalues, .ref xacts, .ref xorder, .ref xdoneRow, .ref xrunning, .ref xbegunOfClass, .ref xbook, .ref xwaits, .int 0, .int 0, .int 0, .int 0, .int 0, .int 0])), (xvalues, .inl (cI, 32, .inl (fun _ => 0))), (xbook, .inr (1, [.ref en, .int z2_3, .int z2_3]))] H := hP
      have hD : va_D A [(h, .inr (3, [.ref xprogramSteps, .ref xprogramLengths, .ref xlimits, .ref xfloors, .ref xvalues, .ref xacts, .ref xorder, .ref xdoneRow, .ref xrunning, .ref xbegunOfClass, .ref xbook, .ref xwaits, .int 0, .int 0, .int 0, .int 0, .int 0, .int 0])), (xvalues, .inl (cI, 32, .inl (fun _ => 0))), (xbook, .inr (1, [.ref en, .int z2_3, .int z2_3]))] := hD
      refine lv_aload_n hx hb dX3_fall_48 rfl (lv_at hl 0 rfl) ?_
      refine lv_dup hx hb dX3_fall_49 rfl ?_
      refine va_get (D := D) (ci := 3) (v := .int 0) (C := RX3) (T := TX3) (N := 18) hx hb hts kin_X3_fall_X3 hown hK hP 0 rfl rfl 17 (by decide) (hts _ kw_X3_fall__fieldLink_RX3_99_ActHouse_falls_I_) (fun _ h9 => h9) rfl dX3_fall_50 ?_
      refine lv_iconst (v := 1) hx hb dX3_fall_53 (by decide) ?_
      refine lv_iadd hx hb dX3_fall_54 ?_
      refine W.eq (g2 := F0 m 55 ls [.int 1, .ref h]) (by first | rfl | (congr 2; decide)) ?_
      refine va_put (D := D) (ci := 3) (v := .int 1) (ty := .int) (C := RX3) (T := TX3) (N := 18) hx hb hts kin_X3_fall_X3 tyX3 tyX3_ok nmX3 hown hK hP hD hS 0 rfl rfl 17 (by decide) (hts _ kw_X3_fall__fieldLink_RX3_99_ActHouse_falls_I_) (fun _ h9 => h9) rfl (by decide +kernel) rfl rfl (Nat.le_of_ble_eq_true rfl) dX3_fall_55 (fun H locs hP hD hS => ?_)
      have hP : va_P D vwCl [(h, .inr (3, [.ref xprogramSteps, .ref xprogramLengths, .ref xlimits, .ref xfloors, .ref xvalues, .ref xacts, .ref xorder, .ref xdoneRow, .ref xrunning, .ref xbegunOfClass, .ref xbook, .ref xwaits, .int 0, .int 0, .int 0, .int 0, .int 0, .int 1])), (xvalues, .inl (cI, 32, .inl (fun _ => 0))), (xbook, .inr (1, [.ref en, .int z2_3, .int z2_3]))] H := hP
      have hD : va_D A [(h, .inr (3, [.ref xprogramSteps, .ref xprogramLengths, .ref xlimits, .ref xfloors, .ref xvalues, .ref xacts, .ref xorder, .ref xdoneRow, .ref xrunning, .ref xbegunOfClass, .ref xbook, .ref xwaits, .int 0, .int 0, .int 0, .int 0, .int 0, .int 1])), (xvalues, .inl (cI, 32, .inl (fun _ => 0))), (xbook, .inr (1, [.ref en, .int z2_3, .int z2_3]))] := hD
      refine lv_iconst (v := 0) hx hb dX3_fall_58 (by decide) ?_
      refine lv_istore_n (lv' := [(2, .int 0), (0, .ref h), (1, .int 0)]) hx hb dX3_fall_59 rfl hl (by decide) rfl (fun ls hl => ?_)
      refine lv_aload_n hx hb dX3_fall_60 rfl (lv_at hl 1 rfl) ?_
      refine va_get (D := D) (ci := 3) (v := .int 0) (C := RX3) (T := TX3) (N := 18) hx hb hts kin_X3_fall_X3 hown hK hP 0 rfl rfl 12 (by decide) (hts _ kw_X3_fall__fieldLink_RX3_102_ActHouse_actCount_I_) (fun _ h9 => h9) rfl dX3_fall_61 ?_
      refine lv_iconst (v := 1) hx hb dX3_fall_64 (by decide) ?_
      refine lv_isub hx hb dX3_fall_65 ?_
      refine W.eq (g2 := F0 m 66 ls [.int (-1)]) (by first | rfl | (congr 2; decide)) ?_
      refine lv_istore_n (lv' := [(3, .int (-1)), (2, .int 0), (0, .ref h), (1, .int 0)]) hx hb dX3_fall_66 rfl hl (by decide) rfl (fun ls hl => ?_)
      refine lv_iload_n hx hb dX3_fall_67 rfl (lv_at hl 0 rfl) ?_
      refine lv_if_lt (tgt := 93) hx hb dX3_fall_68 (by decide) (fun c5 => ?_) (fun c5 => ?_)
      · skip
        refine lv_aload_n hx hb dX3_fall_93 rfl (lv_at hl 2 rfl) ?_
        have hPc := hP.sub (ws' := [(h, .inr (3, [.ref xprogramSteps, .ref xprogramLengths, .ref xlimits, .ref xfloors, .ref xvalues, .ref xacts, .ref xorder, .ref xdoneRow, .ref xrunning, .ref xbegunOfClass, .ref xbook, .ref xwaits, .int 0, .int 0, .int 0, .int 0, .int 0, .int 1]))]) [0] rfl
        have hDc := hD.sub (ws' := [(h, .inr (3, [.ref xprogramSteps, .ref xprogramLengths, .ref xlimits, .ref xfloors, .ref xvalues, .ref xacts, .ref xorder, .ref xdoneRow, .ref xrunning, .ref xbegunOfClass, .ref xbook, .ref xwaits, .int 0, .int 0, .int 0, .int 0, .int 0, .int 1]))]) [0] (by decide) rfl
        have hKc := hK.sub (tys' := []) [] rfl
        have hFc := va_free (wc := [(h, .inr (3, [.ref xprogramSteps, .ref xprogramLengths, .ref xlimits, .ref xfloors, .ref xvalues, .ref xacts, .ref xorder, .ref xdoneRow, .ref xrunning, .ref xbegunOfClass, .ref xbook, .ref xwaits, .int 0, .int 0, .int 0, .int 0, .int 0, .int 1]))]) hD hS hA [0] rfl
        refine va_callv (va_runV (As := []) (rest := []) ⟨hx, hb, hml, hown, hts⟩ (c_X3_dropUndoneFromRow (l := l) (D := D) (h := h) (xprogramSteps := xprogramSteps) (xprogramLengths := xprogramLengths) (xlimits := xlimits) (xfloors := xfloors) (xvalues := xvalues) (xacts := xacts) (xorder := xorder) (xdoneRow := xdoneRow) (xrunning := xrunning) (xbegunOfClass := xbegunOfClass) (xbook := xbook) (xwaits := xwaits) (fa := 1) ) (cwV 0 hts gX3_fall_X3_dropUndoneFromRow rfl rfl rfl (by decide +kernel) ⟨Nat.le_of_ble_eq_true rfl, Nat.le_of_ble_eq_true rfl⟩) ⟨k_blind, va_recv hKc hPc (ci := 3) (q0 := 0) rfl rfl, fun U hU hW => ⟨rfl, k_pre hU hW hPc hKc hDc⟩⟩ rfl rfl hl.1 rfl (lv_room (Nat.le_of_ble_eq_true rfl)) dX3_fall_94 ⟨by decide, by decide⟩) hS (fun q _ h => hFc q h) hFc (fun u t H1 locs ht hvm hw hB hz1 hk1 hS => ?_)
        refine W.widen (k := 0) (n := 0) (Nat.le_refl _) (Nat.le_refl _) ?_
        obtain ⟨rfl⟩ := hw
        obtain ⟨hP1, hK1, hD1⟩ := hB
        rw [ht] at hP1
        have hK1 := va_K.moved hvm.symm hK1
        obtain ⟨hP, hD⟩ := va_join (wr := [(xvalues, .inl (cI, 32, .inl (fun _ => 0))), (xbook, .inr (1, [.ref en, .int z2_3, .int z2_3]))]) (w1 := [(h, .inr (3, [.ref xprogramSteps, .ref xprogramLengths, .ref xlimits, .ref xfloors, .ref xvalues, .ref xacts, .ref xorder, .ref xdoneRow, .ref xrunning, .ref xbegunOfClass, .ref xbook, .ref xwaits, .int 0, .int 0, .int 0, .int 0, .int 0, .int 1]))]) hP hD [0] [1, 2] rfl rfl (by decide) (by decide) hk1 hFc hP1 hD1
        generalize H1 = H at hP hS ⊢
        have hP : va_P D vwCl [(xvalues, .inl (cI, 32, .inl (fun _ => 0))), (xbook, .inr (1, [.ref en, .int z2_3, .int z2_3])), (h, .inr (3, [.ref xprogramSteps, .ref xprogramLengths, .ref xlimits, .ref xfloors, .ref xvalues, .ref xacts, .ref xorder, .ref xdoneRow, .ref xrunning, .ref xbegunOfClass, .ref xbook, .ref xwaits, .int 0, .int 0, .int 0, .int 0, .int 0, .int 1]))] H := hP
        have hD : va_D A [(xvalues, .inl (cI, 32, .inl (fun _ => 0))), (xbook, .inr (1, [.ref en, .int z2_3, .int z2_3])), (h, .inr (3, [.ref xprogramSteps, .ref xprogramLengths, .ref xlimits, .ref xfloors, .ref xvalues, .ref xacts, .ref xorder, .ref xdoneRow, .ref xrunning, .ref xbegunOfClass, .ref xbook, .ref xwaits, .int 0, .int 0, .int 0, .int 0, .int 0, .int 1]))] := hD
        refine lv_aload_n hx hb dX3_fall_97 rfl (lv_at hl 2 rfl) ?_
        have hPc := hP.sub (ws' := [(h, .inr (3, [.ref xprogramSteps, .ref xprogramLengths, .ref xlimits, .ref xfloors, .ref xvalues, .ref xacts, .ref xorder, .ref xdoneRow, .ref xrunning, .ref xbegunOfClass, .ref xbook, .ref xwaits, .int 0, .int 0, .int 0, .int 0, .int 0, .int 1])), (xvalues, .inl (cI, 32, .inl (fun _ => 0)))]) [2, 0] rfl
        have hDc := hD.sub (ws' := [(h, .inr (3, [.ref xprogramSteps, .ref xprogramLengths, .ref xlimits, .ref xfloors, .ref xvalues, .ref xacts, .ref xorder, .ref xdoneRow, .ref xrunning, .ref xbegunOfClass, .ref xbook, .ref xwaits, .int 0, .int 0, .int 0, .int 0, .int 0, .int 1])), (xvalues, .inl (cI, 32, .inl (fun _ => 0)))]) [2, 0] (by decide) rfl
        have hKc := hK.sub (tys' := [(cI, .int)]) [0] rfl
        have hFc := va_free (wc := [(h, .inr (3, [.ref xprogramSteps, .ref xprogramLengths, .ref xlimits, .ref xfloors, .ref xvalues, .ref xacts, .ref xorder, .ref xdoneRow, .ref xrunning, .ref xbegunOfClass, .ref xbook, .ref xwaits, .int 0, .int 0, .int 0, .int 0, .int 0, .int 1])), (xvalues, .inl (cI, 32, .inl (fun _ => 0)))]) hD hS hA [2, 0] rfl
        refine va_callv (va_runV (As := []) (rest := []) ⟨hx, hb, hml, hown, hts⟩ (c_X3_retellValues (l := l) (D := D) (h := h) (xprogramSteps := xprogramSteps) (xprogramLengths := xprogramLengths) (xlimits := xlimits) (xfloors := xfloors) (xvalues := xvalues) (xacts := xacts) (xorder := xorder) (xdoneRow := xdoneRow) (xrunning := xrunning) (xbegunOfClass := xbegunOfClass) (xbook := xbook) (xwaits := xwaits) (fa := 1) (fv := (fun _ => 0)) (cI := cI) ) (cwV 0 hts gX3_fall_X3_retellValues rfl rfl rfl (by decide +kernel) ⟨Nat.le_of_ble_eq_true rfl, Nat.le_of_ble_eq_true rfl⟩) ⟨k_blind, va_recv hKc hPc (ci := 3) (q0 := 0) rfl rfl, fun U hU hW => ⟨rfl, k_pre hU hW hPc hKc hDc⟩⟩ rfl rfl hl.1 rfl (lv_room (Nat.le_of_ble_eq_true rfl)) dX3_fall_98 ⟨by decide, by decide⟩) hS (fun q _ h => hFc q h) hFc (fun u t H1 locs ht hvm hw hB hz1 hk1 hS => ?_)
        refine W.widen (k := 0) (n := 0) (Nat.le_refl _) (Nat.le_refl _) ?_
        obtain ⟨rfl⟩ := hw
        obtain ⟨hP1, hK1, hD1⟩ := hB
        rw [ht] at hP1
        have hK1 := va_K.moved hvm.symm hK1
        obtain ⟨hP, hD⟩ := va_join (wr := [(xbook, .inr (1, [.ref en, .int z2_3, .int z2_3]))]) (w1 := []) hP hD [2, 0] [1] rfl rfl (by decide) (by decide) hk1 hFc hP1 hD1
        generalize H1 = H at hP hS ⊢
        have hP : va_P D vwCl [(xbook, .inr (1, [.ref en, .int z2_3, .int z2_3]))] H := hP
        have hD : va_D A [(xbook, .inr (1, [.ref en, .int z2_3, .int z2_3]))] := hD
        refine lv_iload_n hx hb dX3_fall_101 rfl (lv_at hl 1 rfl) ?_
        have hP := hP.sub (ws' := []) [] rfl
        have hD := hD.sub (ws' := []) [] (by decide) rfl
        have hK := hK.sub (tys' := [(cI, .int)]) [0] rfl
        refine W.widen (k := 0) (n := 0) (by decide) (by decide) ?_
        exact W.iret (v := 0) hx hb hr (fun t ht hW => ⟨⟨0, ([], [(cI, .int)]), rfl, Or.inl ⟨rfl, rfl, (by decide)⟩, ⟨by rw [ht]; exact hP, va_K.moved hW.alike hK, hD⟩⟩, hS.F ht⟩) hS.2.2 dX3_fall_102
      · skip
        exact absurd c5 (by decide)
    · skip
      have c2 := k_nle c2
      have hl0 : (0 : Int32).toInt = 0 := by decide
      refine lv_iconst (v := (-1)) hx hb dX3_fall_23 (by decide) ?_
      have hP := hP.sub (ws' := []) [] rfl
      have hD := hD.sub (ws' := []) [] (by decide) rfl
      have hK := hK.sub (tys' := [(cI, .int)]) [0] rfl
      refine W.widen (k := 0) (n := 0) (by decide) (by decide) ?_
      exact W.iret (v := (-1)) hx hb hr (fun t ht hW => ⟨⟨(-1), ([], [(cI, .int)]), rfl, Or.inr (⟨rfl, rfl, (by omega)⟩), ⟨by rw [ht]; exact hP, va_K.moved hW.alike hK, hD⟩⟩, hS.F ht⟩) hS.2.2 dX3_fall_24
set_option maxRecDepth 100000 in
theorem kw_X3_told__fieldLink_RX3_102_ActHouse_actCount_I_ : (.fieldLink RX3 102 "ActHouse" "actCount" "I" : Cond) ∈ wsX3_told := by decide +kernel
set_option maxRecDepth 100000 in
theorem kin_X3_told_X3 : ∀ w ∈ u_ws RX3 TX3 18, w ∈ wsX3_told := by decide +kernel
set_option maxHeartbeats 4000000 in
set_option maxRecDepth 100000 in
theorem c_X3_told {l : Launch} {D : va_G} {sz : Nat} {h : Nat} {xprogramSteps : Nat} {xprogramLengths : Nat} {xlimits : Nat} {xfloors : Nat} {xvalues : Nat} {xacts : Nat} {xorder : Nat} {xdoneRow : Nat} {xrunning : Nat} {xbegunOfClass : Nat} {xbook : Nat} {xwaits : Nat} {x : Int32} {y : Int32}  : Met l yX3_told wsX3_told ({ frames := 1, cells := 0, slots := 0, locals := 21 }) (va_Pc [.ref h, .int x, .int y] (k_Pre D [] [(h, .inr (3, [.ref xprogramSteps, .ref xprogramLengths, .ref xlimits, .ref xfloors, .ref xvalues, .ref xacts, .ref xorder, .ref xdoneRow, .ref xrunning, .ref xbegunOfClass, .ref xbook, .ref xwaits, .int 0, .int 0, .int 0, .int 0, .int 0, .int 0]))] sz)) (va_Qi (fun (r : Int32) (u : va_W × List (ClassId × FieldType)) => (r = (-1) ∧ u = ([], []))) (k_B D (va_A [(h, .inr (3, [.ref xprogramSteps, .ref xprogramLengths, .ref xlimits, .ref xfloors, .ref xvalues, .ref xacts, .ref xorder, .ref xdoneRow, .ref xrunning, .ref xbegunOfClass, .ref xbook, .ref xwaits, .int 0, .int 0, .int 0, .int 0, .int 0, .int 0]))] sz)) (va_A [(h, .inr (3, [.ref xprogramSteps, .ref xprogramLengths, .ref xlimits, .ref xfloors, .ref xvalues, .ref xacts, .ref xorder, .ref xdoneRow, .ref xrunning, .ref xbegunOfClass, .ref xbook, .ref xwaits, .int 0, .int 0, .int 0, .int 0, .int 0, .int 0]))] sz)) 0 0 (va_A [(h, .inr (3, [.ref xprogramSteps, .ref xprogramLengths, .ref xlimits, .ref xfloors, .ref xvalues, .ref xacts, .ref xorder, .ref xdoneRow, .ref xrunning, .ref xbegunOfClass, .ref xbook, .ref xwaits, .int 0, .int 0, .int 0, .int 0, .int 0, .int 0]))] sz) := by
  refine Met.ofW (cc := cX3_told) (maxL := 5) (ret := (some .int)) (by decide) rfl ?_
  intro p e s m args below meth c s₁ B hml hv
  obtain ⟨rfl, hsz, hP, hK, hD0⟩ := hv
  have hx := B.exec
  have hb := B.bytes
  have hr := B.returns
  have hts := atoms_spec (ws := wsX3_told) B.pre
  have hown : s.vm.findClass RX3 = some m.cls := findClass_of_methodNamed B.named
  have hlocks := B.notSynchronized
  subst hsz
  have hD := hD0.self (sz := s.heap.size)
  generalize hAe : va_A [(h, .inr (3, [.ref xprogramSteps, .ref xprogramLengths, .ref xlimits, .ref xfloors, .ref xvalues, .ref xacts, .ref xorder, .ref xdoneRow, .ref xrunning, .ref xbegunOfClass, .ref xbook, .ref xwaits, .int 0, .int 0, .int 0, .int 0, .int 0, .int 0]))] s.heap.size = A at hD ⊢
  have hA : ∀ q : Nat, s.heap.size ≤ q → A q := fun q h => by rw [← hAe]; exact Or.inr h
  have hS : va_S A s.heap s.heap [] := va_S.rf
  have hl := lv_entry ([.ref h, .int x, .int y]) (n := 5) (Nat.le_of_ble_eq_true rfl)
  rw [lg_entry_eq]
  generalize (lg_sl ([.ref h, .int x, .int y]) ++ List.replicate (5 - (lg_sl ([.ref h, .int x, .int y])).length) Slot.unset).toArray = ls at hl ⊢
  have hl : lv_has ls 5 [(0, .ref h), (1, .int x), (2, .int y)] := hl
  refine lv_iload_n hx hb dX3_told_0 rfl (lv_at hl 1 rfl) ?_
  refine lv_aload_n hx hb dX3_told_1 rfl (lv_at hl 0 rfl) ?_
  refine va_get (D := D) (ci := 3) (v := .int 0) (C := RX3) (T := TX3) (N := 18) hx hb hts kin_X3_told_X3 hown hK hP 0 rfl rfl 12 (by decide) (hts _ kw_X3_told__fieldLink_RX3_102_ActHouse_actCount_I_) (fun _ h9 => h9) rfl dX3_told_2 ?_
  have hPc := hP.sub (ws' := []) [] rfl
  have hDc := hD.sub (ws' := []) [] (by decide) rfl
  have hKc := hK.sub (tys' := []) [] rfl
  have hFc := va_free (wc := []) hD hS hA [] rfl
  refine va_calli (va_runS (As := [.int x, .int 0]) (rest := []) ⟨hx, hb, hml, hown, hts⟩ (c_X3_isBelow (l := l) (D := D) (x := x) (y := 0) ) (va_cwS 2 hts gX3_told_X3_isBelow rfl rfl rfl (by decide +kernel) ⟨Nat.le_of_ble_eq_true rfl, Nat.le_of_ble_eq_true rfl⟩) ⟨k_blind, fun U hU hW => ⟨rfl, k_pre hU hW hPc hKc hDc⟩⟩ rfl rfl hl.1 rfl (lv_room (Nat.le_of_ble_eq_true rfl)) dX3_told_5 ⟨by decide, by decide⟩) hS (fun q _ h => hFc q h) hFc (fun r1 u t H1 locs ht hvm hw hB hz1 hk1 hS => ?_)
  refine W.widen (k := 0) (n := 0) (Nat.le_refl _) (Nat.le_refl _) ?_
  have hl0 : (0 : Int32).toInt = 0 := by decide
  rcases hw with ⟨rfl, rfl, ha_1, hb_1⟩ | ⟨rfl, rfl, ha_1⟩
  · skip
    obtain ⟨hP1, hK1, hD1⟩ := hB
    rw [ht] at hP1
    have hK1 := va_K.moved hvm.symm hK1
    obtain ⟨hP, hD⟩ := va_join (wr := [(h, .inr (3, [.ref xprogramSteps, .ref xprogramLengths, .ref xlimits, .ref xfloors, .ref xvalues, .ref xacts, .ref xorder, .ref xdoneRow, .ref xrunning, .ref xbegunOfClass, .ref xbook, .ref xwaits, .int 0, .int 0, .int 0, .int 0, .int 0, .int 0]))]) (w1 := []) hP hD [] [0] rfl rfl (by decide) (by decide) hk1 hFc hP1 hD1
    generalize H1 = H at hP hS ⊢
    have hP : va_P D vwCl [(h, .inr (3, [.ref xprogramSteps, .ref xprogramLengths, .ref xlimits, .ref xfloors, .ref xvalues, .ref xacts, .ref xorder, .ref xdoneRow, .ref xrunning, .ref xbegunOfClass, .ref xbook, .ref xwaits, .int 0, .int 0, .int 0, .int 0, .int 0, .int 0]))] H := hP
    have hD : va_D A [(h, .inr (3, [.ref xprogramSteps, .ref xprogramLengths, .ref xlimits, .ref xfloors, .ref xvalues, .ref xacts, .ref xorder, .ref xdoneRow, .ref xrunning, .ref xbegunOfClass, .ref xbook, .ref xwaits, .int 0, .int 0, .int 0, .int 0, .int 0, .int 0]))] := hD
    refine lv_if_ne (tgt := 13) hx hb dX3_told_8 (by decide) (fun c2 => ?_) (fun c2 => ?_)
    · skip
      exfalso; omega
    · skip
      exact absurd c2 (by decide)
  · skip
    obtain ⟨hP1, hK1, hD1⟩ := hB
    rw [ht] at hP1
    have hK1 := va_K.moved hvm.symm hK1
    obtain ⟨hP, hD⟩ := va_join (wr := [(h, .inr (3, [.ref xprogramSteps, .ref xprogramLengths, .ref xlimits, .ref xfloors, .ref xvalues, .ref xacts, .ref xorder, .ref xdoneRow, .ref xrunning, .ref xbegunOfClass, .ref xbook, .ref xwaits, .int 0, .int 0, .int 0, .int 0, .int 0, .int 0]))]) (w1 := []) hP hD [] [0] rfl rfl (by decide) (by decide) hk1 hFc hP1 hD1
    generalize H1 = H at hP hS ⊢
    have hP : va_P D vwCl [(h, .inr (3, [.ref xprogramSteps, .ref xprogramLengths, .ref xlimits, .ref xfloors, .ref xvalues, .ref xacts, .ref xorder, .ref xdoneRow, .ref xrunning, .ref xbegunOfClass, .ref xbook, .ref xwaits, .int 0, .int 0, .int 0, .int 0, .int 0, .int 0]))] H := hP
    have hD : va_D A [(h, .inr (3, [.ref xprogramSteps, .ref xprogramLengths, .ref xlimits, .ref xfloors, .ref xvalues, .ref xacts, .ref xorder, .ref xdoneRow, .ref xrunning, .ref xbegunOfClass, .ref xbook, .ref xwaits, .int 0, .int 0, .int 0, .int 0, .int 0, .int 0]))] := hD
    refine lv_if_ne (tgt := 13) hx hb dX3_told_8 (by decide) (fun c3 => ?_) (fun c3 => ?_)
    · skip
      exact absurd c3 (by decide)
    · skip
      refine lv_iconst (v := (-1)) hx hb dX3_told_11 (by decide) ?_
      have hP := hP.sub (ws' := []) [] rfl
      have hD := hD.sub (ws' := []) [] (by decide) rfl
      have hK := hK.sub (tys' := []) [] rfl
      refine W.widen (k := 0) (n := 0) (by decide) (by decide) ?_
      exact W.iret (v := (-1)) hx hb hr (fun t ht hW => ⟨⟨(-1), ([], []), rfl, ⟨rfl, rfl⟩, ⟨by rw [ht]; exact hP, va_K.moved hW.alike hK, hD⟩⟩, hS.F ht⟩) hS.2.2 dX3_told_12
set_option maxRecDepth 100000 in
theorem kw_X3_register__fieldLink_RX3_102_ActHouse_actCount_I_ : (.fieldLink RX3 102 "ActHouse" "actCount" "I" : Cond) ∈ wsX3_register := by decide +kernel
set_option maxRecDepth 100000 in
theorem kin_X3_register_X3 : ∀ w ∈ u_ws RX3 TX3 18, w ∈ wsX3_register := by decide +kernel
set_option maxRecDepth 100000 in
theorem kw_X3_register__constant_RX3_147_2147483648_ : (.constant RX3 147 (-2147483648) : Cond) ∈ wsX3_register := by decide +kernel
set_option maxHeartbeats 4000000 in
set_option maxRecDepth 100000 in
theorem c_X3_register {l : Launch} {D : va_G} {sz : Nat} {h : Nat} {xprogramSteps : Nat} {xprogramLengths : Nat} {xlimits : Nat} {xfloors : Nat} {xvalues : Nat} {xacts : Nat} {xorder : Nat} {xdoneRow : Nat} {xrunning : Nat} {xbegunOfClass : Nat} {xbook : Nat} {xwaits : Nat} {x : Int32}  : Met l yX3_register wsX3_register ({ frames := 1, cells := 0, slots := 0, locals := 21 }) (va_Pc [.ref h, .int x] (k_Pre D [] [(h, .inr (3, [.ref xprogramSteps, .ref xprogramLengths, .ref xlimits, .ref xfloors, .ref xvalues, .ref xacts, .ref xorder, .ref xdoneRow, .ref xrunning, .ref xbegunOfClass, .ref xbook, .ref xwaits, .int 0, .int 0, .int 0, .int 0, .int 0, .int 0]))] sz)) (va_Qi (fun (r : Int32) (u : va_W × List (ClassId × FieldType)) => (r = (-2147483648) ∧ u = ([], []))) (k_B D (va_A [(h, .inr (3, [.ref xprogramSteps, .ref xprogramLengths, .ref xlimits, .ref xfloors, .ref xvalues, .ref xacts, .ref xorder, .ref xdoneRow, .ref xrunning, .ref xbegunOfClass, .ref xbook, .ref xwaits, .int 0, .int 0, .int 0, .int 0, .int 0, .int 0]))] sz)) (va_A [(h, .inr (3, [.ref xprogramSteps, .ref xprogramLengths, .ref xlimits, .ref xfloors, .ref xvalues, .ref xacts, .ref xorder, .ref xdoneRow, .ref xrunning, .ref xbegunOfClass, .ref xbook, .ref xwaits, .int 0, .int 0, .int 0, .int 0, .int 0, .int 0]))] sz)) 0 0 (va_A [(h, .inr (3, [.ref xprogramSteps, .ref xprogramLengths, .ref xlimits, .ref xfloors, .ref xvalues, .ref xacts, .ref xorder, .ref xdoneRow, .ref xrunning, .ref xbegunOfClass, .ref xbook, .ref xwaits, .int 0, .int 0, .int 0, .int 0, .int 0, .int 0]))] sz) := by
  refine Met.ofW (cc := cX3_register) (maxL := 2) (ret := (some .int)) (by decide) rfl ?_
  intro p e s m args below meth c s₁ B hml hv
  obtain ⟨rfl, hsz, hP, hK, hD0⟩ := hv
  have hx := B.exec
  have hb := B.bytes
  have hr := B.returns
  have hts := atoms_spec (ws := wsX3_register) B.pre
  have hown : s.vm.findClass RX3 = some m.cls := findClass_of_methodNamed B.named
  have hlocks := B.notSynchronized
  subst hsz
  have hD := hD0.self (sz := s.heap.size)
  generalize hAe : va_A [(h, .inr (3, [.ref xprogramSteps, .ref xprogramLengths, .ref xlimits, .ref xfloors, .ref xvalues, .ref xacts, .ref xorder, .ref xdoneRow, .ref xrunning, .ref xbegunOfClass, .ref xbook, .ref xwaits, .int 0, .int 0, .int 0, .int 0, .int 0, .int 0]))] s.heap.size = A at hD ⊢
  have hA : ∀ q : Nat, s.heap.size ≤ q → A q := fun q h => by rw [← hAe]; exact Or.inr h
  have hS : va_S A s.heap s.heap [] := va_S.rf
  have hl := lv_entry ([.ref h, .int x]) (n := 2) (Nat.le_of_ble_eq_true rfl)
  rw [lg_entry_eq]
  generalize (lg_sl ([.ref h, .int x]) ++ List.replicate (2 - (lg_sl ([.ref h, .int x])).length) Slot.unset).toArray = ls at hl ⊢
  have hl : lv_has ls 2 [(0, .ref h), (1, .int x)] := hl
  refine lv_iload_n hx hb dX3_register_0 rfl (lv_at hl 1 rfl) ?_
  refine lv_aload_n hx hb dX3_register_1 rfl (lv_at hl 0 rfl) ?_
  refine va_get (D := D) (ci := 3) (v := .int 0) (C := RX3) (T := TX3) (N := 18) hx hb hts kin_X3_register_X3 hown hK hP 0 rfl rfl 12 (by decide) (hts _ kw_X3_register__fieldLink_RX3_102_ActHouse_actCount_I_) (fun _ h9 => h9) rfl dX3_register_2 ?_
  have hPc := hP.sub (ws' := []) [] rfl
  have hDc := hD.sub (ws' := []) [] (by decide) rfl
  have hKc := hK.sub (tys' := []) [] rfl
  have hFc := va_free (wc := []) hD hS hA [] rfl
  refine va_calli (va_runS (As := [.int x, .int 0]) (rest := []) ⟨hx, hb, hml, hown, hts⟩ (c_X3_isBelow (l := l) (D := D) (x := x) (y := 0) ) (va_cwS 2 hts gX3_register_X3_isBelow rfl rfl rfl (by decide +kernel) ⟨Nat.le_of_ble_eq_true rfl, Nat.le_of_ble_eq_true rfl⟩) ⟨k_blind, fun U hU hW => ⟨rfl, k_pre hU hW hPc hKc hDc⟩⟩ rfl rfl hl.1 rfl (lv_room (Nat.le_of_ble_eq_true rfl)) dX3_register_5 ⟨by decide, by decide⟩) hS (fun q _ h => hFc q h) hFc (fun r1 u t H1 locs ht hvm hw hB hz1 hk1 hS => ?_)
  refine W.widen (k := 0) (n := 0) (Nat.le_refl _) (Nat.le_refl _) ?_
  have hl0 : (0 : Int32).toInt = 0 := by decide
  rcases hw with ⟨rfl, rfl, ha_1, hb_1⟩ | ⟨rfl, rfl, ha_1⟩
  · skip
    obtain ⟨hP1, hK1, hD1⟩ := hB
    rw [ht] at hP1
    have hK1 := va_K.moved hvm.symm hK1
    obtain ⟨hP, hD⟩ := va_join (wr := [(h, .inr (3, [.ref xprogramSteps, .ref xprogramLengths, .ref xlimits, .ref xfloors, .ref xvalues, .ref xacts, .ref xorder, .ref xdoneRow, .ref xrunning, .ref xbegunOfClass, .ref xbook, .ref xwaits, .int 0, .int 0, .int 0, .int 0, .int 0, .int 0]))]) (w1 := []) hP hD [] [0] rfl rfl (by decide) (by decide) hk1 hFc hP1 hD1
    generalize H1 = H at hP hS ⊢
    have hP : va_P D vwCl [(h, .inr (3, [.ref xprogramSteps, .ref xprogramLengths, .ref xlimits, .ref xfloors, .ref xvalues, .ref xacts, .ref xorder, .ref xdoneRow, .ref xrunning, .ref xbegunOfClass, .ref xbook, .ref xwaits, .int 0, .int 0, .int 0, .int 0, .int 0, .int 0]))] H := hP
    have hD : va_D A [(h, .inr (3, [.ref xprogramSteps, .ref xprogramLengths, .ref xlimits, .ref xfloors, .ref xvalues, .ref xacts, .ref xorder, .ref xdoneRow, .ref xrunning, .ref xbegunOfClass, .ref xbook, .ref xwaits, .int 0, .int 0, .int 0, .int 0, .int 0, .int 0]))] := hD
    refine lv_if_eq (tgt := 24) hx hb dX3_register_8 (by decide) (fun c2 => ?_) (fun c2 => ?_)
    · skip
      exact absurd c2 (by decide)
    · skip
      exfalso; omega
  · skip
    obtain ⟨hP1, hK1, hD1⟩ := hB
    rw [ht] at hP1
    have hK1 := va_K.moved hvm.symm hK1
    obtain ⟨hP, hD⟩ := va_join (wr := [(h, .inr (3, [.ref xprogramSteps, .ref xprogramLengths, .ref xlimits, .ref xfloors, .ref xvalues, .ref xacts, .ref xorder, .ref xdoneRow, .ref xrunning, .ref xbegunOfClass, .ref xbook, .ref xwaits, .int 0, .int 0, .int 0, .int 0, .int 0, .int 0]))]) (w1 := []) hP hD [] [0] rfl rfl (by decide) (by decide) hk1 hFc hP1 hD1
    generalize H1 = H at hP hS ⊢
    have hP : va_P D vwCl [(h, .inr (3, [.ref xprogramSteps, .ref xprogramLengths, .ref xlimits, .ref xfloors, .ref xvalues, .ref xacts, .ref xorder, .ref xdoneRow, .ref xrunning, .ref xbegunOfClass, .ref xbook, .ref xwaits, .int 0, .int 0, .int 0, .int 0, .int 0, .int 0]))] H := hP
    have hD : va_D A [(h, .inr (3, [.ref xprogramSteps, .ref xprogramLengths, .ref xlimits, .ref xfloors, .ref xvalues, .ref xacts, .ref xorder, .ref xdoneRow, .ref xrunning, .ref xbegunOfClass, .ref xbook, .ref xwaits, .int 0, .int 0, .int 0, .int 0, .int 0, .int 0]))] := hD
    refine lv_if_eq (tgt := 24) hx hb dX3_register_8 (by decide) (fun c3 => ?_) (fun c3 => ?_)
    · skip
      refine lv_ldc (v := (-2147483648)) hx hb hown (hts _ kw_X3_register__constant_RX3_147_2147483648_) dX3_register_24 ?_
      have hP := hP.sub (ws' := []) [] rfl
      have hD := hD.sub (ws' := []) [] (by decide) rfl
      have hK := hK.sub (tys' := []) [] rfl
      refine W.widen (k := 0) (n := 0) (by decide) (by decide) ?_
      exact W.iret (v := (-2147483648)) hx hb hr (fun t ht hW => ⟨⟨(-2147483648), ([], []), rfl, ⟨rfl, rfl⟩, ⟨by rw [ht]; exact hP, va_K.moved hW.alike hK, hD⟩⟩, hS.F ht⟩) hS.2.2 dX3_register_26
    · skip
      exact absurd c3 (by decide)
set_option maxRecDepth 100000 in
theorem kw_X3_holds__fieldLink_RX3_102_ActHouse_actCount_I_ : (.fieldLink RX3 102 "ActHouse" "actCount" "I" : Cond) ∈ wsX3_holds := by decide +kernel
set_option maxRecDepth 100000 in
theorem kin_X3_holds_X3 : ∀ w ∈ u_ws RX3 TX3 18, w ∈ wsX3_holds := by decide +kernel
set_option maxHeartbeats 4000000 in
set_option maxRecDepth 100000 in
theorem c_X3_holds {l : Launch} {D : va_G} {sz : Nat} {h : Nat} {xprogramSteps : Nat} {xprogramLengths : Nat} {xlimits : Nat} {xfloors : Nat} {xvalues : Nat} {xacts : Nat} {xorder : Nat} {xdoneRow : Nat} {xrunning : Nat} {xbegunOfClass : Nat} {xbook : Nat} {xwaits : Nat} {x : Int32} {y : Int32}  : Met l yX3_holds wsX3_holds ({ frames := 1, cells := 0, slots := 0, locals := 21 }) (va_Pc [.ref h, .int x, .int y] (k_Pre D [] [(h, .inr (3, [.ref xprogramSteps, .ref xprogramLengths, .ref xlimits, .ref xfloors, .ref xvalues, .ref xacts, .ref xorder, .ref xdoneRow, .ref xrunning, .ref xbegunOfClass, .ref xbook, .ref xwaits, .int 0, .int 0, .int 0, .int 0, .int 0, .int 0]))] sz)) (va_Qi (fun (r : Int32) (u : va_W × List (ClassId × FieldType)) => (r = (-1) ∧ u = ([], []))) (k_B D (va_A [(h, .inr (3, [.ref xprogramSteps, .ref xprogramLengths, .ref xlimits, .ref xfloors, .ref xvalues, .ref xacts, .ref xorder, .ref xdoneRow, .ref xrunning, .ref xbegunOfClass, .ref xbook, .ref xwaits, .int 0, .int 0, .int 0, .int 0, .int 0, .int 0]))] sz)) (va_A [(h, .inr (3, [.ref xprogramSteps, .ref xprogramLengths, .ref xlimits, .ref xfloors, .ref xvalues, .ref xacts, .ref xorder, .ref xdoneRow, .ref xrunning, .ref xbegunOfClass, .ref xbook, .ref xwaits, .int 0, .int 0, .int 0, .int 0, .int 0, .int 0]))] sz)) 0 0 (va_A [(h, .inr (3, [.ref xprogramSteps, .ref xprogramLengths, .ref xlimits, .ref xfloors, .ref xvalues, .ref xacts, .ref xorder, .ref xdoneRow, .ref xrunning, .ref xbegunOfClass, .ref xbook, .ref xwaits, .int 0, .int 0, .int 0, .int 0, .int 0, .int 0]))] sz) := by
  refine Met.ofW (cc := cX3_holds) (maxL := 3) (ret := (some .int)) (by decide) rfl ?_
  intro p e s m args below meth c s₁ B hml hv
  obtain ⟨rfl, hsz, hP, hK, hD0⟩ := hv
  have hx := B.exec
  have hb := B.bytes
  have hr := B.returns
  have hts := atoms_spec (ws := wsX3_holds) B.pre
  have hown : s.vm.findClass RX3 = some m.cls := findClass_of_methodNamed B.named
  have hlocks := B.notSynchronized
  subst hsz
  have hD := hD0.self (sz := s.heap.size)
  generalize hAe : va_A [(h, .inr (3, [.ref xprogramSteps, .ref xprogramLengths, .ref xlimits, .ref xfloors, .ref xvalues, .ref xacts, .ref xorder, .ref xdoneRow, .ref xrunning, .ref xbegunOfClass, .ref xbook, .ref xwaits, .int 0, .int 0, .int 0, .int 0, .int 0, .int 0]))] s.heap.size = A at hD ⊢
  have hA : ∀ q : Nat, s.heap.size ≤ q → A q := fun q h => by rw [← hAe]; exact Or.inr h
  have hS : va_S A s.heap s.heap [] := va_S.rf
  have hl := lv_entry ([.ref h, .int x, .int y]) (n := 3) (Nat.le_of_ble_eq_true rfl)
  rw [lg_entry_eq]
  generalize (lg_sl ([.ref h, .int x, .int y]) ++ List.replicate (3 - (lg_sl ([.ref h, .int x, .int y])).length) Slot.unset).toArray = ls at hl ⊢
  have hl : lv_has ls 3 [(0, .ref h), (1, .int x), (2, .int y)] := hl
  refine lv_iload_n hx hb dX3_holds_0 rfl (lv_at hl 1 rfl) ?_
  refine lv_aload_n hx hb dX3_holds_1 rfl (lv_at hl 0 rfl) ?_
  refine va_get (D := D) (ci := 3) (v := .int 0) (C := RX3) (T := TX3) (N := 18) hx hb hts kin_X3_holds_X3 hown hK hP 0 rfl rfl 12 (by decide) (hts _ kw_X3_holds__fieldLink_RX3_102_ActHouse_actCount_I_) (fun _ h9 => h9) rfl dX3_holds_2 ?_
  have hPc := hP.sub (ws' := []) [] rfl
  have hDc := hD.sub (ws' := []) [] (by decide) rfl
  have hKc := hK.sub (tys' := []) [] rfl
  have hFc := va_free (wc := []) hD hS hA [] rfl
  refine va_calli (va_runS (As := [.int x, .int 0]) (rest := []) ⟨hx, hb, hml, hown, hts⟩ (c_X3_isBelow (l := l) (D := D) (x := x) (y := 0) ) (va_cwS 2 hts gX3_holds_X3_isBelow rfl rfl rfl (by decide +kernel) ⟨Nat.le_of_ble_eq_true rfl, Nat.le_of_ble_eq_true rfl⟩) ⟨k_blind, fun U hU hW => ⟨rfl, k_pre hU hW hPc hKc hDc⟩⟩ rfl rfl hl.1 rfl (lv_room (Nat.le_of_ble_eq_true rfl)) dX3_holds_5 ⟨by decide, by decide⟩) hS (fun q _ h => hFc q h) hFc (fun r1 u t H1 locs ht hvm hw hB hz1 hk1 hS => ?_)
  refine W.widen (k := 0) (n := 0) (Nat.le_refl _) (Nat.le_refl _) ?_
  have hl0 : (0 : Int32).toInt = 0 := by decide
  rcases hw with ⟨rfl, rfl, ha_1, hb_1⟩ | ⟨rfl, rfl, ha_1⟩
  · skip
    obtain ⟨hP1, hK1, hD1⟩ := hB
    rw [ht] at hP1
    have hK1 := va_K.moved hvm.symm hK1
    obtain ⟨hP, hD⟩ := va_join (wr := [(h, .inr (3, [.ref xprogramSteps, .ref xprogramLengths, .ref xlimits, .ref xfloors, .ref xvalues, .ref xacts, .ref xorder, .ref xdoneRow, .ref xrunning, .ref xbegunOfClass, .ref xbook, .ref xwaits, .int 0, .int 0, .int 0, .int 0, .int 0, .int 0]))]) (w1 := []) hP hD [] [0] rfl rfl (by decide) (by decide) hk1 hFc hP1 hD1
    generalize H1 = H at hP hS ⊢
    have hP : va_P D vwCl [(h, .inr (3, [.ref xprogramSteps, .ref xprogramLengths, .ref xlimits, .ref xfloors, .ref xvalues, .ref xacts, .ref xorder, .ref xdoneRow, .ref xrunning, .ref xbegunOfClass, .ref xbook, .ref xwaits, .int 0, .int 0, .int 0, .int 0, .int 0, .int 0]))] H := hP
    have hD : va_D A [(h, .inr (3, [.ref xprogramSteps, .ref xprogramLengths, .ref xlimits, .ref xfloors, .ref xvalues, .ref xacts, .ref xorder, .ref xdoneRow, .ref xrunning, .ref xbegunOfClass, .ref xbook, .ref xwaits, .int 0, .int 0, .int 0, .int 0, .int 0, .int 0]))] := hD
    refine lv_if_eq (tgt := 20) hx hb dX3_holds_8 (by decide) (fun c2 => ?_) (fun c2 => ?_)
    · skip
      exact absurd c2 (by decide)
    · skip
      exfalso; omega
  · skip
    obtain ⟨hP1, hK1, hD1⟩ := hB
    rw [ht] at hP1
    have hK1 := va_K.moved hvm.symm hK1
    obtain ⟨hP, hD⟩ := va_join (wr := [(h, .inr (3, [.ref xprogramSteps, .ref xprogramLengths, .ref xlimits, .ref xfloors, .ref xvalues, .ref xacts, .ref xorder, .ref xdoneRow, .ref xrunning, .ref xbegunOfClass, .ref xbook, .ref xwaits, .int 0, .int 0, .int 0, .int 0, .int 0, .int 0]))]) (w1 := []) hP hD [] [0] rfl rfl (by decide) (by decide) hk1 hFc hP1 hD1
    generalize H1 = H at hP hS ⊢
    have hP : va_P D vwCl [(h, .inr (3, [.ref xprogramSteps, .ref xprogramLengths, .ref xlimits, .ref xfloors, .ref xvalues, .ref xacts, .ref xorder, .ref xdoneRow, .ref xrunning, .ref xbegunOfClass, .ref xbook, .ref xwaits, .int 0, .int 0, .int 0, .int 0, .int 0, .int 0]))] H := hP
    have hD : va_D A [(h, .inr (3, [.ref xprogramSteps, .ref xprogramLengths, .ref xlimits, .ref xfloors, .ref xvalues, .ref xacts, .ref xorder, .ref xdoneRow, .ref xrunning, .ref xbegunOfClass, .ref xbook, .ref xwaits, .int 0, .int 0, .int 0, .int 0, .int 0, .int 0]))] := hD
    refine lv_if_eq (tgt := 20) hx hb dX3_holds_8 (by decide) (fun c3 => ?_) (fun c3 => ?_)
    · skip
      refine lv_iconst (v := (-1)) hx hb dX3_holds_20 (by decide) ?_
      have hP := hP.sub (ws' := []) [] rfl
      have hD := hD.sub (ws' := []) [] (by decide) rfl
      have hK := hK.sub (tys' := []) [] rfl
      refine W.widen (k := 0) (n := 0) (by decide) (by decide) ?_
      exact W.iret (v := (-1)) hx hb hr (fun t ht hW => ⟨⟨(-1), ([], []), rfl, ⟨rfl, rfl⟩, ⟨by rw [ht]; exact hP, va_K.moved hW.alike hK, hD⟩⟩, hS.F ht⟩) hS.2.2 dX3_holds_21
    · skip
      exact absurd c3 (by decide)
set_option maxRecDepth 100000 in
theorem kw_X3_value__constant_RX3_147_2147483648_ : (.constant RX3 147 (-2147483648) : Cond) ∈ wsX3_value := by decide +kernel
set_option maxRecDepth 100000 in
theorem kw_X3_value__fieldLink_RX3_79_ActHouse_now_I_ : (.fieldLink RX3 79 "ActHouse" "now" "I" : Cond) ∈ wsX3_value := by decide +kernel
set_option maxRecDepth 100000 in
theorem kin_X3_value_X3 : ∀ w ∈ u_ws RX3 TX3 18, w ∈ wsX3_value := by decide +kernel
set_option maxRecDepth 100000 in
theorem kw_X3_value__fieldLink_RX3_22_ActHouse_values_I_ : (.fieldLink RX3 22 "ActHouse" "values" "[I" : Cond) ∈ wsX3_value := by decide +kernel
set_option maxHeartbeats 4000000 in
set_option maxRecDepth 100000 in
theorem c_X3_value {l : Launch} {D : va_G} {sz : Nat} {h : Nat} {xprogramSteps : Nat} {xprogramLengths : Nat} {xlimits : Nat} {xfloors : Nat} {xvalues : Nat} {xacts : Nat} {xorder : Nat} {xdoneRow : Nat} {xrunning : Nat} {xbegunOfClass : Nat} {xbook : Nat} {xwaits : Nat} {x : Int32} {y : Int32} {cI : ClassId}  : Met l yX3_value wsX3_value ({ frames := 1, cells := 0, slots := 0, locals := 21 }) (va_Pc [.ref h, .int x, .int y] (k_Pre D [(cI, .int)] [(h, .inr (3, [.ref xprogramSteps, .ref xprogramLengths, .ref xlimits, .ref xfloors, .ref xvalues, .ref xacts, .ref xorder, .ref xdoneRow, .ref xrunning, .ref xbegunOfClass, .ref xbook, .ref xwaits, .int 0, .int 0, .int 0, .int 0, .int 0, .int 0])), (xvalues, .inl (cI, 32, .inl (fun _ => 0)))] sz)) (va_Qi (fun (r : Int32) (u : va_W × List (ClassId × FieldType)) => (r = 0 ∧ u = ([], [(cI, .int)]) ∧ 0 ≤ x.toInt ∧ x.toInt < 32 ∧ y.toInt = 0) ∨ (r = (-2147483648) ∧ u = ([], [(cI, .int)]) ∧ (x.toInt < 0 ∨ 32 ≤ x.toInt ∨ y.toInt < 0 ∨ 0 < y.toInt))) (k_B D (va_A [(h, .inr (3, [.ref xprogramSteps, .ref xprogramLengths, .ref xlimits, .ref xfloors, .ref xvalues, .ref xacts, .ref xorder, .ref xdoneRow, .ref xrunning, .ref xbegunOfClass, .ref xbook, .ref xwaits, .int 0, .int 0, .int 0, .int 0, .int 0, .int 0])), (xvalues, .inl (cI, 32, .inl (fun _ => 0)))] sz)) (va_A [(h, .inr (3, [.ref xprogramSteps, .ref xprogramLengths, .ref xlimits, .ref xfloors, .ref xvalues, .ref xacts, .ref xorder, .ref xdoneRow, .ref xrunning, .ref xbegunOfClass, .ref xbook, .ref xwaits, .int 0, .int 0, .int 0, .int 0, .int 0, .int 0])), (xvalues, .inl (cI, 32, .inl (fun _ => 0)))] sz)) 0 0 (va_A [(h, .inr (3, [.ref xprogramSteps, .ref xprogramLengths, .ref xlimits, .ref xfloors, .ref xvalues, .ref xacts, .ref xorder, .ref xdoneRow, .ref xrunning, .ref xbegunOfClass, .ref xbook, .ref xwaits, .int 0, .int 0, .int 0, .int 0, .int 0, .int 0])), (xvalues, .inl (cI, 32, .inl (fun _ => 0)))] sz) := by
  refine Met.ofW (cc := cX3_value) (maxL := 6) (ret := (some .int)) (by decide) rfl ?_
  intro p e s m args below meth c s₁ B hml hv
  obtain ⟨rfl, hsz, hP, hK, hD0⟩ := hv
  have hx := B.exec
  have hb := B.bytes
  have hr := B.returns
  have hts := atoms_spec (ws := wsX3_value) B.pre
  have hown : s.vm.findClass RX3 = some m.cls := findClass_of_methodNamed B.named
  have hlocks := B.notSynchronized
  subst hsz
  have hD := hD0.self (sz := s.heap.size)
  generalize hAe : va_A [(h, .inr (3, [.ref xprogramSteps, .ref xprogramLengths, .ref xlimits, .ref xfloors, .ref xvalues, .ref xacts, .ref xorder, .ref xdoneRow, .ref xrunning, .ref xbegunOfClass, .ref xbook, .ref xwaits, .int 0, .int 0, .int 0, .int 0, .int 0, .int 0])), (xvalues, .inl (cI, 32, .inl (fun _ => 0)))] s.heap.size = A at hD ⊢
  have hA : ∀ q : Nat, s.heap.size ≤ q → A q := fun q h => by rw [← hAe]; exact Or.inr h
  have hS : va_S A s.heap s.heap [] := va_S.rf
  have hl := lv_entry ([.ref h, .int x, .int y]) (n := 6) (Nat.le_of_ble_eq_true rfl)
  rw [lg_entry_eq]
  generalize (lg_sl ([.ref h, .int x, .int y]) ++ List.replicate (6 - (lg_sl ([.ref h, .int x, .int y])).length) Slot.unset).toArray = ls at hl ⊢
  have hl : lv_has ls 6 [(0, .ref h), (1, .int x), (2, .int y)] := hl
  refine lv_iload_n hx hb dX3_value_0 rfl (lv_at hl 1 rfl) ?_
  refine lv_bipush (v := 32) hx hb dX3_value_1 (by decide) ?_
  have hPc := hP.sub (ws' := []) [] rfl
  have hDc := hD.sub (ws' := []) [] (by decide) rfl
  have hKc := hK.sub (tys' := []) [] rfl
  have hFc := va_free (wc := []) hD hS hA [] rfl
  refine va_calli (va_runS (As := [.int x, .int 32]) (rest := []) ⟨hx, hb, hml, hown, hts⟩ (c_X3_isBelow (l := l) (D := D) (x := x) (y := 32) ) (va_cwS 2 hts gX3_value_X3_isBelow rfl rfl rfl (by decide +kernel) ⟨Nat.le_of_ble_eq_true rfl, Nat.le_of_ble_eq_true rfl⟩) ⟨k_blind, fun U hU hW => ⟨rfl, k_pre hU hW hPc hKc hDc⟩⟩ rfl rfl hl.1 rfl (lv_room (Nat.le_of_ble_eq_true rfl)) dX3_value_3 ⟨by decide, by decide⟩) hS (fun q _ h => hFc q h) hFc (fun r1 u t H1 locs ht hvm hw hB hz1 hk1 hS => ?_)
  refine W.widen (k := 0) (n := 0) (Nat.le_refl _) (Nat.le_refl _) ?_
  have hl32 : (32 : Int32).toInt = 32 := by decide
  rcases hw with ⟨rfl, rfl, ha_1, hb_1⟩ | ⟨rfl, rfl, ha_1⟩
  · skip
    obtain ⟨hP1, hK1, hD1⟩ := hB
    rw [ht] at hP1
    have hK1 := va_K.moved hvm.symm hK1
    obtain ⟨hP, hD⟩ := va_join (wr := [(h, .inr (3, [.ref xprogramSteps, .ref xprogramLengths, .ref xlimits, .ref xfloors, .ref xvalues, .ref xacts, .ref xorder, .ref xdoneRow, .ref xrunning, .ref xbegunOfClass, .ref xbook, .ref xwaits, .int 0, .int 0, .int 0, .int 0, .int 0, .int 0])), (xvalues, .inl (cI, 32, .inl (fun _ => 0)))]) (w1 := []) hP hD [] [0, 1] rfl rfl (by decide) (by decide) hk1 hFc hP1 hD1
    generalize H1 = H at hP hS ⊢
    have hP : va_P D vwCl [(h, .inr (3, [.ref xprogramSteps, .ref xprogramLengths, .ref xlimits, .ref xfloors, .ref xvalues, .ref xacts, .ref xorder, .ref xdoneRow, .ref xrunning, .ref xbegunOfClass, .ref xbook, .ref xwaits, .int 0, .int 0, .int 0, .int 0, .int 0, .int 0])), (xvalues, .inl (cI, 32, .inl (fun _ => 0)))] H := hP
    have hD : va_D A [(h, .inr (3, [.ref xprogramSteps, .ref xprogramLengths, .ref xlimits, .ref xfloors, .ref xvalues, .ref xacts, .ref xorder, .ref xdoneRow, .ref xrunning, .ref xbegunOfClass, .ref xbook, .ref xwaits, .int 0, .int 0, .int 0, .int 0, .int 0, .int 0])), (xvalues, .inl (cI, 32, .inl (fun _ => 0)))] := hD
    refine lv_if_eq (tgt := 21) hx hb dX3_value_6 (by decide) (fun c2 => ?_) (fun c2 => ?_)
    · skip
      exact absurd c2 (by decide)
    · skip
      refine lv_iload_n hx hb dX3_value_9 rfl (lv_at hl 2 rfl) ?_
      refine lv_if_lt (tgt := 21) hx hb dX3_value_10 (by decide) (fun c3 => ?_) (fun c3 => ?_)
      · skip
        have c3 := k_lt c3
        have hl0 : (0 : Int32).toInt = 0 := by decide
        refine lv_ldc (v := (-2147483648)) hx hb hown (hts _ kw_X3_value__constant_RX3_147_2147483648_) dX3_value_21 ?_
        have hP := hP.sub (ws' := []) [] rfl
        have hD := hD.sub (ws' := []) [] (by decide) rfl
        have hK := hK.sub (tys' := [(cI, .int)]) [0] rfl
        refine W.widen (k := 0) (n := 0) (by decide) (by decide) ?_
        exact W.iret (v := (-2147483648)) hx hb hr (fun t ht hW => ⟨⟨(-2147483648), ([], [(cI, .int)]), rfl, Or.inr (⟨rfl, rfl, (by omega)⟩), ⟨by rw [ht]; exact hP, va_K.moved hW.alike hK, hD⟩⟩, hS.F ht⟩) hS.2.2 dX3_value_23
      · skip
        have c3 := k_nlt c3
        have hl0 : (0 : Int32).toInt = 0 := by decide
        refine lv_iload_n hx hb dX3_value_13 rfl (lv_at hl 2 rfl) ?_
        refine lv_aload_n hx hb dX3_value_14 rfl (lv_at hl 0 rfl) ?_
        refine va_get (D := D) (ci := 3) (v := .int 0) (C := RX3) (T := TX3) (N := 18) hx hb hts kin_X3_value_X3 hown hK hP 0 rfl rfl 15 (by decide) (hts _ kw_X3_value__fieldLink_RX3_79_ActHouse_now_I_) (fun _ h9 => h9) rfl dX3_value_15 ?_
        refine lv_icmp_le (tgt := 24) hx hb dX3_value_18 (by decide) (fun c4 => ?_) (fun c4 => ?_)
        · skip
          have c4 := k_le c4
          have hl0 : (0 : Int32).toInt = 0 := by decide
          refine lv_iload_n hx hb dX3_value_24 rfl (lv_at hl 2 rfl) ?_
          refine lv_aload_n hx hb dX3_value_25 rfl (lv_at hl 0 rfl) ?_
          refine va_get (D := D) (ci := 3) (v := .int 0) (C := RX3) (T := TX3) (N := 18) hx hb hts kin_X3_value_X3 hown hK hP 0 rfl rfl 15 (by decide) (hts _ kw_X3_value__fieldLink_RX3_79_ActHouse_now_I_) (fun _ h9 => h9) rfl dX3_value_26 ?_
          refine lv_icmp_ne (tgt := 39) hx hb dX3_value_29 (by decide) (fun c5 => ?_) (fun c5 => ?_)
          · skip
            have c5 := k_ne c5
            have hl0 : (0 : Int32).toInt = 0 := by decide
            exfalso; omega
          · skip
            have c5 := k_eq c5
            have hl0 : (0 : Int32).toInt = 0 := by decide
            refine lv_aload_n hx hb dX3_value_32 rfl (lv_at hl 0 rfl) ?_
            refine va_get (D := D) (ci := 3) (v := .ref xvalues) (C := RX3) (T := TX3) (N := 18) hx hb hts kin_X3_value_X3 hown hK hP 0 rfl rfl 4 (by decide) (hts _ kw_X3_value__fieldLink_RX3_22_ActHouse_values_I_) (fun _ h9 => h9) rfl dX3_value_33 ?_
            refine lv_iload_n hx hb dX3_value_36 rfl (lv_at hl 1 rfl) ?_
            have hi37 : vp_in x 32 := (k_in (by omega) (by omega))
            refine va_iald hx hb hK hP 1 0 rfl rfl hi37 dX3_value_37 ?_
            have hP := hP.sub (ws' := []) [] rfl
            have hD := hD.sub (ws' := []) [] (by decide) rfl
            have hK := hK.sub (tys' := [(cI, .int)]) [0] rfl
            refine W.widen (k := 0) (n := 0) (by decide) (by decide) ?_
            exact W.iret (v := 0) hx hb hr (fun t ht hW => ⟨⟨0, ([], [(cI, .int)]), rfl, Or.inl ⟨rfl, rfl, (by omega), (by omega), (by omega)⟩, ⟨by rw [ht]; exact hP, va_K.moved hW.alike hK, hD⟩⟩, hS.F ht⟩) hS.2.2 dX3_value_38
        · skip
          have c4 := k_nle c4
          have hl0 : (0 : Int32).toInt = 0 := by decide
          refine lv_ldc (v := (-2147483648)) hx hb hown (hts _ kw_X3_value__constant_RX3_147_2147483648_) dX3_value_21 ?_
          have hP := hP.sub (ws' := []) [] rfl
          have hD := hD.sub (ws' := []) [] (by decide) rfl
          have hK := hK.sub (tys' := [(cI, .int)]) [0] rfl
          refine W.widen (k := 0) (n := 0) (by decide) (by decide) ?_
          exact W.iret (v := (-2147483648)) hx hb hr (fun t ht hW => ⟨⟨(-2147483648), ([], [(cI, .int)]), rfl, Or.inr (⟨rfl, rfl, (by omega)⟩), ⟨by rw [ht]; exact hP, va_K.moved hW.alike hK, hD⟩⟩, hS.F ht⟩) hS.2.2 dX3_value_23
  · skip
    obtain ⟨hP1, hK1, hD1⟩ := hB
    rw [ht] at hP1
    have hK1 := va_K.moved hvm.symm hK1
    obtain ⟨hP, hD⟩ := va_join (wr := [(h, .inr (3, [.ref xprogramSteps, .ref xprogramLengths, .ref xlimits, .ref xfloors, .ref xvalues, .ref xacts, .ref xorder, .ref xdoneRow, .ref xrunning, .ref xbegunOfClass, .ref xbook, .ref xwaits, .int 0, .int 0, .int 0, .int 0, .int 0, .int 0])), (xvalues, .inl (cI, 32, .inl (fun _ => 0)))]) (w1 := []) hP hD [] [0, 1] rfl rfl (by decide) (by decide) hk1 hFc hP1 hD1
    generalize H1 = H at hP hS ⊢
    have hP : va_P D vwCl [(h, .inr (3, [.ref xprogramSteps, .ref xprogramLengths, .ref xlimits, .ref xfloors, .ref xvalues, .ref xacts, .ref xorder, .ref xdoneRow, .ref xrunning, .ref xbegunOfClass, .ref xbook, .ref xwaits, .int 0, .int 0, .int 0, .int 0, .int 0, .int 0])), (xvalues, .inl (cI, 32, .inl (fun _ => 0)))] H := hP
    have hD : va_D A [(h, .inr (3, [.ref xprogramSteps, .ref xprogramLengths, .ref xlimits, .ref xfloors, .ref xvalues, .ref xacts, .ref xorder, .ref xdoneRow, .ref xrunning, .ref xbegunOfClass, .ref xbook, .ref xwaits, .int 0, .int 0, .int 0, .int 0, .int 0, .int 0])), (xvalues, .inl (cI, 32, .inl (fun _ => 0)))] := hD
    refine lv_if_eq (tgt := 21) hx hb dX3_value_6 (by decide) (fun c6 => ?_) (fun c6 => ?_)
    · skip
      refine lv_ldc (v := (-2147483648)) hx hb hown (hts _ kw_X3_value__constant_RX3_147_2147483648_) dX3_value_21 ?_
      have hP := hP.sub (ws' := []) [] rfl
      have hD := hD.sub (ws' := []) [] (by decide) rfl
      have hK := hK.sub (tys' := [(cI, .int)]) [0] rfl
      refine W.widen (k := 0) (n := 0) (by decide) (by decide) ?_
      exact W.iret (v := (-2147483648)) hx hb hr (fun t ht hW => ⟨⟨(-2147483648), ([], [(cI, .int)]), rfl, Or.inr (⟨rfl, rfl, (by omega)⟩), ⟨by rw [ht]; exact hP, va_K.moved hW.alike hK, hD⟩⟩, hS.F ht⟩) hS.2.2 dX3_value_23
    · skip
      exact absurd c6 (by decide)
set_option maxRecDepth 100000 in
theorem kw_X3_done__fieldLink_RX3_154_ActHouse_doneCount_I_ : (.fieldLink RX3 154 "ActHouse" "doneCount" "I" : Cond) ∈ wsX3_done := by decide +kernel
set_option maxRecDepth 100000 in
theorem kin_X3_done_X3 : ∀ w ∈ u_ws RX3 TX3 18, w ∈ wsX3_done := by decide +kernel
set_option maxHeartbeats 4000000 in
set_option maxRecDepth 100000 in
theorem c_X3_done {l : Launch} {D : va_G} {sz : Nat} {h : Nat} {xprogramSteps : Nat} {xprogramLengths : Nat} {xlimits : Nat} {xfloors : Nat} {xvalues : Nat} {xacts : Nat} {xorder : Nat} {xdoneRow : Nat} {xrunning : Nat} {xbegunOfClass : Nat} {xbook : Nat} {xwaits : Nat} {x : Int32}  : Met l yX3_done wsX3_done ({ frames := 1, cells := 0, slots := 0, locals := 21 }) (va_Pc [.ref h, .int x] (k_Pre D [] [(h, .inr (3, [.ref xprogramSteps, .ref xprogramLengths, .ref xlimits, .ref xfloors, .ref xvalues, .ref xacts, .ref xorder, .ref xdoneRow, .ref xrunning, .ref xbegunOfClass, .ref xbook, .ref xwaits, .int 0, .int 0, .int 0, .int 0, .int 0, .int 0]))] sz)) (va_Qi (fun (r : Int32) (u : va_W × List (ClassId × FieldType)) => (r = (-1) ∧ u = ([], []))) (k_B D (va_A [(h, .inr (3, [.ref xprogramSteps, .ref xprogramLengths, .ref xlimits, .ref xfloors, .ref xvalues, .ref xacts, .ref xorder, .ref xdoneRow, .ref xrunning, .ref xbegunOfClass, .ref xbook, .ref xwaits, .int 0, .int 0, .int 0, .int 0, .int 0, .int 0]))] sz)) (va_A [(h, .inr (3, [.ref xprogramSteps, .ref xprogramLengths, .ref xlimits, .ref xfloors, .ref xvalues, .ref xacts, .ref xorder, .ref xdoneRow, .ref xrunning, .ref xbegunOfClass, .ref xbook, .ref xwaits, .int 0, .int 0, .int 0, .int 0, .int 0, .int 0]))] sz)) 0 0 (va_A [(h, .inr (3, [.ref xprogramSteps, .ref xprogramLengths, .ref xlimits, .ref xfloors, .ref xvalues, .ref xacts, .ref xorder, .ref xdoneRow, .ref xrunning, .ref xbegunOfClass, .ref xbook, .ref xwaits, .int 0, .int 0, .int 0, .int 0, .int 0, .int 0]))] sz) := by
  refine Met.ofW (cc := cX3_done) (maxL := 2) (ret := (some .int)) (by decide) rfl ?_
  intro p e s m args below meth c s₁ B hml hv
  obtain ⟨rfl, hsz, hP, hK, hD0⟩ := hv
  have hx := B.exec
  have hb := B.bytes
  have hr := B.returns
  have hts := atoms_spec (ws := wsX3_done) B.pre
  have hown : s.vm.findClass RX3 = some m.cls := findClass_of_methodNamed B.named
  have hlocks := B.notSynchronized
  subst hsz
  have hD := hD0.self (sz := s.heap.size)
  generalize hAe : va_A [(h, .inr (3, [.ref xprogramSteps, .ref xprogramLengths, .ref xlimits, .ref xfloors, .ref xvalues, .ref xacts, .ref xorder, .ref xdoneRow, .ref xrunning, .ref xbegunOfClass, .ref xbook, .ref xwaits, .int 0, .int 0, .int 0, .int 0, .int 0, .int 0]))] s.heap.size = A at hD ⊢
  have hA : ∀ q : Nat, s.heap.size ≤ q → A q := fun q h => by rw [← hAe]; exact Or.inr h
  have hS : va_S A s.heap s.heap [] := va_S.rf
  have hl := lv_entry ([.ref h, .int x]) (n := 2) (Nat.le_of_ble_eq_true rfl)
  rw [lg_entry_eq]
  generalize (lg_sl ([.ref h, .int x]) ++ List.replicate (2 - (lg_sl ([.ref h, .int x])).length) Slot.unset).toArray = ls at hl ⊢
  have hl : lv_has ls 2 [(0, .ref h), (1, .int x)] := hl
  refine lv_iload_n hx hb dX3_done_0 rfl (lv_at hl 1 rfl) ?_
  refine lv_aload_n hx hb dX3_done_1 rfl (lv_at hl 0 rfl) ?_
  refine va_get (D := D) (ci := 3) (v := .int 0) (C := RX3) (T := TX3) (N := 18) hx hb hts kin_X3_done_X3 hown hK hP 0 rfl rfl 13 (by decide) (hts _ kw_X3_done__fieldLink_RX3_154_ActHouse_doneCount_I_) (fun _ h9 => h9) rfl dX3_done_2 ?_
  have hPc := hP.sub (ws' := []) [] rfl
  have hDc := hD.sub (ws' := []) [] (by decide) rfl
  have hKc := hK.sub (tys' := []) [] rfl
  have hFc := va_free (wc := []) hD hS hA [] rfl
  refine va_calli (va_runS (As := [.int x, .int 0]) (rest := []) ⟨hx, hb, hml, hown, hts⟩ (c_X3_isBelow (l := l) (D := D) (x := x) (y := 0) ) (va_cwS 2 hts gX3_done_X3_isBelow rfl rfl rfl (by decide +kernel) ⟨Nat.le_of_ble_eq_true rfl, Nat.le_of_ble_eq_true rfl⟩) ⟨k_blind, fun U hU hW => ⟨rfl, k_pre hU hW hPc hKc hDc⟩⟩ rfl rfl hl.1 rfl (lv_room (Nat.le_of_ble_eq_true rfl)) dX3_done_5 ⟨by decide, by decide⟩) hS (fun q _ h => hFc q h) hFc (fun r1 u t H1 locs ht hvm hw hB hz1 hk1 hS => ?_)
  refine W.widen (k := 0) (n := 0) (Nat.le_refl _) (Nat.le_refl _) ?_
  have hl0 : (0 : Int32).toInt = 0 := by decide
  rcases hw with ⟨rfl, rfl, ha_1, hb_1⟩ | ⟨rfl, rfl, ha_1⟩
  · skip
    obtain ⟨hP1, hK1, hD1⟩ := hB
    rw [ht] at hP1
    have hK1 := va_K.moved hvm.symm hK1
    obtain ⟨hP, hD⟩ := va_join (wr := [(h, .inr (3, [.ref xprogramSteps, .ref xprogramLengths, .ref xlimits, .ref xfloors, .ref xvalues, .ref xacts, .ref xorder, .ref xdoneRow, .ref xrunning, .ref xbegunOfClass, .ref xbook, .ref xwaits, .int 0, .int 0, .int 0, .int 0, .int 0, .int 0]))]) (w1 := []) hP hD [] [0] rfl rfl (by decide) (by decide) hk1 hFc hP1 hD1
    generalize H1 = H at hP hS ⊢
    have hP : va_P D vwCl [(h, .inr (3, [.ref xprogramSteps, .ref xprogramLengths, .ref xlimits, .ref xfloors, .ref xvalues, .ref xacts, .ref xorder, .ref xdoneRow, .ref xrunning, .ref xbegunOfClass, .ref xbook, .ref xwaits, .int 0, .int 0, .int 0, .int 0, .int 0, .int 0]))] H := hP
    have hD : va_D A [(h, .inr (3, [.ref xprogramSteps, .ref xprogramLengths, .ref xlimits, .ref xfloors, .ref xvalues, .ref xacts, .ref xorder, .ref xdoneRow, .ref xrunning, .ref xbegunOfClass, .ref xbook, .ref xwaits, .int 0, .int 0, .int 0, .int 0, .int 0, .int 0]))] := hD
    refine lv_if_eq (tgt := 20) hx hb dX3_done_8 (by decide) (fun c2 => ?_) (fun c2 => ?_)
    · skip
      exact absurd c2 (by decide)
    · skip
      exfalso; omega
  · skip
    obtain ⟨hP1, hK1, hD1⟩ := hB
    rw [ht] at hP1
    have hK1 := va_K.moved hvm.symm hK1
    obtain ⟨hP, hD⟩ := va_join (wr := [(h, .inr (3, [.ref xprogramSteps, .ref xprogramLengths, .ref xlimits, .ref xfloors, .ref xvalues, .ref xacts, .ref xorder, .ref xdoneRow, .ref xrunning, .ref xbegunOfClass, .ref xbook, .ref xwaits, .int 0, .int 0, .int 0, .int 0, .int 0, .int 0]))]) (w1 := []) hP hD [] [0] rfl rfl (by decide) (by decide) hk1 hFc hP1 hD1
    generalize H1 = H at hP hS ⊢
    have hP : va_P D vwCl [(h, .inr (3, [.ref xprogramSteps, .ref xprogramLengths, .ref xlimits, .ref xfloors, .ref xvalues, .ref xacts, .ref xorder, .ref xdoneRow, .ref xrunning, .ref xbegunOfClass, .ref xbook, .ref xwaits, .int 0, .int 0, .int 0, .int 0, .int 0, .int 0]))] H := hP
    have hD : va_D A [(h, .inr (3, [.ref xprogramSteps, .ref xprogramLengths, .ref xlimits, .ref xfloors, .ref xvalues, .ref xacts, .ref xorder, .ref xdoneRow, .ref xrunning, .ref xbegunOfClass, .ref xbook, .ref xwaits, .int 0, .int 0, .int 0, .int 0, .int 0, .int 0]))] := hD
    refine lv_if_eq (tgt := 20) hx hb dX3_done_8 (by decide) (fun c3 => ?_) (fun c3 => ?_)
    · skip
      refine lv_iconst (v := (-1)) hx hb dX3_done_20 (by decide) ?_
      have hP := hP.sub (ws' := []) [] rfl
      have hD := hD.sub (ws' := []) [] (by decide) rfl
      have hK := hK.sub (tys' := []) [] rfl
      refine W.widen (k := 0) (n := 0) (by decide) (by decide) ?_
      exact W.iret (v := (-1)) hx hb hr (fun t ht hW => ⟨⟨(-1), ([], []), rfl, ⟨rfl, rfl⟩, ⟨by rw [ht]; exact hP, va_K.moved hW.alike hK, hD⟩⟩, hS.F ht⟩) hS.2.2 dX3_done_21
    · skip
      exact absurd c3 (by decide)
set_option maxRecDepth 100000 in
theorem kw_X3_log__fieldLink_RX3_46_ActHouse_book_LActHouse_LogBook_ : (.fieldLink RX3 46 "ActHouse" "book" "LActHouse$LogBook;" : Cond) ∈ wsX3_log := by decide +kernel
set_option maxRecDepth 100000 in
theorem kin_X3_log_X3 : ∀ w ∈ u_ws RX3 TX3 18, w ∈ wsX3_log := by decide +kernel
set_option maxHeartbeats 4000000 in
set_option maxRecDepth 100000 in
theorem c_X3_log {l : Launch} {D : va_G} {sz : Nat} {h : Nat} {xprogramSteps : Nat} {xprogramLengths : Nat} {xlimits : Nat} {xfloors : Nat} {xvalues : Nat} {xacts : Nat} {xorder : Nat} {xdoneRow : Nat} {xrunning : Nat} {xbegunOfClass : Nat} {xbook : Nat} {xwaits : Nat} {x : Int32} {y : Int32} {en : Nat}  : Met l yX3_log wsX3_log ({ frames := 1, cells := 0, slots := 0, locals := 23 }) (va_Pc [.ref h, .int x, .int y] (k_Pre D [] [(h, .inr (3, [.ref xprogramSteps, .ref xprogramLengths, .ref xlimits, .ref xfloors, .ref xvalues, .ref xacts, .ref xorder, .ref xdoneRow, .ref xrunning, .ref xbegunOfClass, .ref xbook, .ref xwaits, .int 0, .int 0, .int 0, .int 0, .int 0, .int 0])), (xbook, .inr (1, [.ref en, .int 0, .int 0]))] sz)) (va_Qi (fun (r : Int32) (u : va_W × List (ClassId × FieldType)) => (r = (-1) ∧ u = ([], []))) (k_B D (va_A [(h, .inr (3, [.ref xprogramSteps, .ref xprogramLengths, .ref xlimits, .ref xfloors, .ref xvalues, .ref xacts, .ref xorder, .ref xdoneRow, .ref xrunning, .ref xbegunOfClass, .ref xbook, .ref xwaits, .int 0, .int 0, .int 0, .int 0, .int 0, .int 0])), (xbook, .inr (1, [.ref en, .int 0, .int 0]))] sz)) (va_A [(h, .inr (3, [.ref xprogramSteps, .ref xprogramLengths, .ref xlimits, .ref xfloors, .ref xvalues, .ref xacts, .ref xorder, .ref xdoneRow, .ref xrunning, .ref xbegunOfClass, .ref xbook, .ref xwaits, .int 0, .int 0, .int 0, .int 0, .int 0, .int 0])), (xbook, .inr (1, [.ref en, .int 0, .int 0]))] sz)) 0 0 (va_A [(h, .inr (3, [.ref xprogramSteps, .ref xprogramLengths, .ref xlimits, .ref xfloors, .ref xvalues, .ref xacts, .ref xorder, .ref xdoneRow, .ref xrunning, .ref xbegunOfClass, .ref xbook, .ref xwaits, .int 0, .int 0, .int 0, .int 0, .int 0, .int 0])), (xbook, .inr (1, [.ref en, .int 0, .int 0]))] sz) := by
  refine Met.ofW (cc := cX3_log) (maxL := 3) (ret := (some .int)) (by decide) rfl ?_
  intro p e s m args below meth c s₁ B hml hv
  obtain ⟨rfl, hsz, hP, hK, hD0⟩ := hv
  have hx := B.exec
  have hb := B.bytes
  have hr := B.returns
  have hts := atoms_spec (ws := wsX3_log) B.pre
  have hown : s.vm.findClass RX3 = some m.cls := findClass_of_methodNamed B.named
  have hlocks := B.notSynchronized
  subst hsz
  have hD := hD0.self (sz := s.heap.size)
  generalize hAe : va_A [(h, .inr (3, [.ref xprogramSteps, .ref xprogramLengths, .ref xlimits, .ref xfloors, .ref xvalues, .ref xacts, .ref xorder, .ref xdoneRow, .ref xrunning, .ref xbegunOfClass, .ref xbook, .ref xwaits, .int 0, .int 0, .int 0, .int 0, .int 0, .int 0])), (xbook, .inr (1, [.ref en, .int 0, .int 0]))] s.heap.size = A at hD ⊢
  have hA : ∀ q : Nat, s.heap.size ≤ q → A q := fun q h => by rw [← hAe]; exact Or.inr h
  have hS : va_S A s.heap s.heap [] := va_S.rf
  have hl := lv_entry ([.ref h, .int x, .int y]) (n := 3) (Nat.le_of_ble_eq_true rfl)
  rw [lg_entry_eq]
  generalize (lg_sl ([.ref h, .int x, .int y]) ++ List.replicate (3 - (lg_sl ([.ref h, .int x, .int y])).length) Slot.unset).toArray = ls at hl ⊢
  have hl : lv_has ls 3 [(0, .ref h), (1, .int x), (2, .int y)] := hl
  refine lv_aload_n hx hb dX3_log_0 rfl (lv_at hl 0 rfl) ?_
  refine va_get (D := D) (ci := 3) (v := .ref xbook) (C := RX3) (T := TX3) (N := 18) hx hb hts kin_X3_log_X3 hown hK hP 0 rfl rfl 10 (by decide) (hts _ kw_X3_log__fieldLink_RX3_46_ActHouse_book_LActHouse_LogBook_) (fun _ h9 => h9) rfl dX3_log_1 ?_
  refine lv_iload_n hx hb dX3_log_4 rfl (lv_at hl 1 rfl) ?_
  refine lv_iload_n hx hb dX3_log_5 rfl (lv_at hl 2 rfl) ?_
  have hPc := hP.sub (ws' := [(xbook, .inr (1, [.ref en, .int 0, .int 0]))]) [1] rfl
  have hDc := hD.sub (ws' := [(xbook, .inr (1, [.ref en, .int 0, .int 0]))]) [1] (by decide) rfl
  have hKc := hK.sub (tys' := []) [] rfl
  have hFc := va_free (wc := [(xbook, .inr (1, [.ref en, .int 0, .int 0]))]) hD hS hA [1] rfl
  refine va_calli (va_runV (As := [.int x, .int y]) (rest := []) ⟨hx, hb, hml, hown, hts⟩ (c_X1_tell (l := l) (D := D) (h := xbook) (en := en) (k := 0) (x := x) (y := y) ) (cwV 2 hts gX3_log_X1_tell rfl rfl rfl (by decide +kernel) ⟨Nat.le_of_ble_eq_true rfl, Nat.le_of_ble_eq_true rfl⟩) ⟨k_blind, va_recv hKc hPc (ci := 1) (q0 := 0) rfl rfl, fun U hU hW => ⟨rfl, k_pre hU hW hPc hKc hDc⟩⟩ rfl rfl hl.1 rfl (lv_room (Nat.le_of_ble_eq_true rfl)) dX3_log_6 ⟨by decide, by decide⟩) hS (fun q _ h => hFc q h) hFc (fun r1 u t H1 locs ht hvm hw hB hz1 hk1 hS => ?_)
  refine W.widen (k := 0) (n := 0) (Nat.le_refl _) (Nat.le_refl _) ?_
  obtain ⟨rfl, rfl⟩ := hw
  obtain ⟨hP1, hK1, hD1⟩ := hB
  rw [ht] at hP1
  have hK1 := va_K.moved hvm.symm hK1
  obtain ⟨hP, hD⟩ := va_join (wr := [(h, .inr (3, [.ref xprogramSteps, .ref xprogramLengths, .ref xlimits, .ref xfloors, .ref xvalues, .ref xacts, .ref xorder, .ref xdoneRow, .ref xrunning, .ref xbegunOfClass, .ref xbook, .ref xwaits, .int 0, .int 0, .int 0, .int 0, .int 0, .int 0]))]) (w1 := []) hP hD [1] [0] rfl rfl (by decide) (by decide) hk1 hFc hP1 hD1
  generalize H1 = H at hP hS ⊢
  have hP : va_P D vwCl [(h, .inr (3, [.ref xprogramSteps, .ref xprogramLengths, .ref xlimits, .ref xfloors, .ref xvalues, .ref xacts, .ref xorder, .ref xdoneRow, .ref xrunning, .ref xbegunOfClass, .ref xbook, .ref xwaits, .int 0, .int 0, .int 0, .int 0, .int 0, .int 0]))] H := hP
  have hD : va_D A [(h, .inr (3, [.ref xprogramSteps, .ref xprogramLengths, .ref xlimits, .ref xfloors, .ref xvalues, .ref xacts, .ref xorder, .ref xdoneRow, .ref xrunning, .ref xbegunOfClass, .ref xbook, .ref xwaits, .int 0, .int 0, .int 0, .int 0, .int 0, .int 0]))] := hD
  have hP := hP.sub (ws' := []) [] rfl
  have hD := hD.sub (ws' := []) [] (by decide) rfl
  have hK := hK.sub (tys' := []) [] rfl
  refine W.widen (k := 0) (n := 0) (by decide) (by decide) ?_
  exact W.iret (v := (-1)) hx hb hr (fun t ht hW => ⟨⟨(-1), ([], []), rfl, ⟨rfl, rfl⟩, ⟨by rw [ht]; exact hP, va_K.moved hW.alike hK, hD⟩⟩, hS.F ht⟩) hS.2.2 dX3_log_9
set_option maxRecDepth 100000 in
theorem kw_X3_countState__fieldLink_RX3_102_ActHouse_actCount_I_ : (.fieldLink RX3 102 "ActHouse" "actCount" "I" : Cond) ∈ wsX3_countState := by decide +kernel
set_option maxRecDepth 100000 in
theorem kin_X3_countState_X3 : ∀ w ∈ u_ws RX3 TX3 18, w ∈ wsX3_countState := by decide +kernel
set_option maxHeartbeats 4000000 in
set_option maxRecDepth 100000 in
theorem c_X3_countState {l : Launch} {D : va_G} {sz : Nat} {h : Nat} {xprogramSteps : Nat} {xprogramLengths : Nat} {xlimits : Nat} {xfloors : Nat} {xvalues : Nat} {xacts : Nat} {xorder : Nat} {xdoneRow : Nat} {xrunning : Nat} {xbegunOfClass : Nat} {xbook : Nat} {xwaits : Nat} {x : Int32}  : Met l yX3_countState wsX3_countState ({ frames := 0, cells := 0, slots := 0, locals := 0 }) (va_Pc [.ref h, .int x] (k_Pre D [] [(h, .inr (3, [.ref xprogramSteps, .ref xprogramLengths, .ref xlimits, .ref xfloors, .ref xvalues, .ref xacts, .ref xorder, .ref xdoneRow, .ref xrunning, .ref xbegunOfClass, .ref xbook, .ref xwaits, .int 0, .int 0, .int 0, .int 0, .int 0, .int 0]))] sz)) (va_Qi (fun (r : Int32) (u : va_W × List (ClassId × FieldType)) => (r = 0 ∧ u = ([], []))) (k_B D (va_A [(h, .inr (3, [.ref xprogramSteps, .ref xprogramLengths, .ref xlimits, .ref xfloors, .ref xvalues, .ref xacts, .ref xorder, .ref xdoneRow, .ref xrunning, .ref xbegunOfClass, .ref xbook, .ref xwaits, .int 0, .int 0, .int 0, .int 0, .int 0, .int 0]))] sz)) (va_A [(h, .inr (3, [.ref xprogramSteps, .ref xprogramLengths, .ref xlimits, .ref xfloors, .ref xvalues, .ref xacts, .ref xorder, .ref xdoneRow, .ref xrunning, .ref xbegunOfClass, .ref xbook, .ref xwaits, .int 0, .int 0, .int 0, .int 0, .int 0, .int 0]))] sz)) 0 0 (va_A [(h, .inr (3, [.ref xprogramSteps, .ref xprogramLengths, .ref xlimits, .ref xfloors, .ref xvalues, .ref xacts, .ref xorder, .ref xdoneRow, .ref xrunning, .ref xbegunOfClass, .ref xbook, .ref xwaits, .int 0, .int 0, .int 0, .int 0, .int 0, .int 0]))] sz) := by
  refine Met.ofW (cc := cX3_countState) (maxL := 4) (ret := (some .int)) (by decide) rfl ?_
  intro p e s m args below meth c s₁ B hml hv
  obtain ⟨rfl, hsz, hP, hK, hD0⟩ := hv
  have hx := B.exec
  have hb := B.bytes
  have hr := B.returns
  have hts := atoms_spec (ws := wsX3_countState) B.pre
  have hown : s.vm.findClass RX3 = some m.cls := findClass_of_methodNamed B.named
  have hlocks := B.notSynchronized
  subst hsz
  have hD := hD0.self (sz := s.heap.size)
  generalize hAe : va_A [(h, .inr (3, [.ref xprogramSteps, .ref xprogramLengths, .ref xlimits, .ref xfloors, .ref xvalues, .ref xacts, .ref xorder, .ref xdoneRow, .ref xrunning, .ref xbegunOfClass, .ref xbook, .ref xwaits, .int 0, .int 0, .int 0, .int 0, .int 0, .int 0]))] s.heap.size = A at hD ⊢
  have hA : ∀ q : Nat, s.heap.size ≤ q → A q := fun q h => by rw [← hAe]; exact Or.inr h
  have hS : va_S A s.heap s.heap [] := va_S.rf
  have hl := lv_entry ([.ref h, .int x]) (n := 4) (Nat.le_of_ble_eq_true rfl)
  rw [lg_entry_eq]
  generalize (lg_sl ([.ref h, .int x]) ++ List.replicate (4 - (lg_sl ([.ref h, .int x])).length) Slot.unset).toArray = ls at hl ⊢
  have hl : lv_has ls 4 [(0, .ref h), (1, .int x)] := hl
  refine lv_iconst (v := 0) hx hb dX3_countState_0 (by decide) ?_
  refine lv_istore_n (lv' := [(2, .int 0), (0, .ref h), (1, .int x)]) hx hb dX3_countState_1 rfl hl (by decide) rfl (fun ls hl => ?_)
  refine lv_iconst (v := 0) hx hb dX3_countState_2 (by decide) ?_
  refine lv_istore_n (lv' := [(3, .int 0), (2, .int 0), (0, .ref h), (1, .int x)]) hx hb dX3_countState_3 rfl hl (by decide) rfl (fun ls hl => ?_)
  refine lv_iload_n hx hb dX3_countState_4 rfl (lv_at hl 0 rfl) ?_
  refine lv_aload_n hx hb dX3_countState_5 rfl (lv_at hl 2 rfl) ?_
  refine va_get (D := D) (ci := 3) (v := .int 0) (C := RX3) (T := TX3) (N := 18) hx hb hts kin_X3_countState_X3 hown hK hP 0 rfl rfl 12 (by decide) (hts _ kw_X3_countState__fieldLink_RX3_102_ActHouse_actCount_I_) (fun _ h9 => h9) rfl dX3_countState_6 ?_
  refine lv_icmp_ge (tgt := 34) hx hb dX3_countState_9 (by decide) (fun c1 => ?_) (fun c1 => ?_)
  · skip
    refine lv_iload_n hx hb dX3_countState_34 rfl (lv_at hl 1 rfl) ?_
    have hP := hP.sub (ws' := []) [] rfl
    have hD := hD.sub (ws' := []) [] (by decide) rfl
    have hK := hK.sub (tys' := []) [] rfl
    refine W.widen (k := 0) (n := 0) (by decide) (by decide) ?_
    exact W.iret (v := 0) hx hb hr (fun t ht hW => ⟨⟨0, ([], []), rfl, ⟨rfl, rfl⟩, ⟨by rw [ht]; exact hP, va_K.moved hW.alike hK, hD⟩⟩, hS.F ht⟩) hS.2.2 dX3_countState_35
  · skip
    exact absurd c1 (by decide)
set_option maxRecDepth 100000 in
theorem kw_X3_count__fieldLink_RX3_79_ActHouse_now_I_ : (.fieldLink RX3 79 "ActHouse" "now" "I" : Cond) ∈ wsX3_count := by decide +kernel
set_option maxRecDepth 100000 in
theorem kin_X3_count_X3 : ∀ w ∈ u_ws RX3 TX3 18, w ∈ wsX3_count := by decide +kernel
set_option maxRecDepth 100000 in
theorem kw_X3_count__fieldLink_RX3_102_ActHouse_actCount_I_ : (.fieldLink RX3 102 "ActHouse" "actCount" "I" : Cond) ∈ wsX3_count := by decide +kernel
set_option maxRecDepth 100000 in
theorem kw_X3_count__fieldLink_RX3_46_ActHouse_book_LActHouse_LogBook_ : (.fieldLink RX3 46 "ActHouse" "book" "LActHouse$LogBook;" : Cond) ∈ wsX3_count := by decide +kernel
set_option maxRecDepth 100000 in
theorem kw_X3_count__fieldLink_RX3_86_ActHouse_LogBook_size_I_ : (.fieldLink RX3 86 "ActHouse$LogBook" "size" "I" : Cond) ∈ wsX3_count := by decide +kernel
set_option maxRecDepth 100000 in
theorem kin_X3_count_X1 : ∀ w ∈ u_ws RX1 TX1 3, w ∈ wsX3_count := by decide +kernel
set_option maxRecDepth 100000 in
theorem kw_X3_count__fieldLink_RX3_89_ActHouse_LogBook_kept_I_ : (.fieldLink RX3 89 "ActHouse$LogBook" "kept" "I" : Cond) ∈ wsX3_count := by decide +kernel
set_option maxRecDepth 100000 in
theorem kw_X3_count__fieldLink_RX3_154_ActHouse_doneCount_I_ : (.fieldLink RX3 154 "ActHouse" "doneCount" "I" : Cond) ∈ wsX3_count := by decide +kernel
set_option maxRecDepth 100000 in
theorem kw_X3_count__fieldLink_RX3_167_ActHouse_rings_I_ : (.fieldLink RX3 167 "ActHouse" "rings" "I" : Cond) ∈ wsX3_count := by decide +kernel
set_option maxRecDepth 100000 in
theorem kw_X3_count__fieldLink_RX3_99_ActHouse_falls_I_ : (.fieldLink RX3 99 "ActHouse" "falls" "I" : Cond) ∈ wsX3_count := by decide +kernel
set_option maxHeartbeats 4000000 in
set_option maxRecDepth 100000 in
theorem c_X3_count {l : Launch} {D : va_G} {sz : Nat} {h : Nat} {xprogramSteps : Nat} {xprogramLengths : Nat} {xlimits : Nat} {xfloors : Nat} {xvalues : Nat} {xacts : Nat} {xorder : Nat} {xdoneRow : Nat} {xrunning : Nat} {xbegunOfClass : Nat} {xbook : Nat} {xwaits : Nat} {x : Int32} {en : Nat}  : Met l yX3_count wsX3_count ({ frames := 1, cells := 0, slots := 0, locals := 23 }) (va_Pc [.ref h, .int x] (k_Pre D [] [(h, .inr (3, [.ref xprogramSteps, .ref xprogramLengths, .ref xlimits, .ref xfloors, .ref xvalues, .ref xacts, .ref xorder, .ref xdoneRow, .ref xrunning, .ref xbegunOfClass, .ref xbook, .ref xwaits, .int 0, .int 0, .int 0, .int 0, .int 0, .int 0])), (xbook, .inr (1, [.ref en, .int 0, .int 0]))] sz)) (va_Qi (fun (r : Int32) (u : va_W × List (ClassId × FieldType)) => (r = 0 ∧ u = ([], []) ∧ 0 ≤ x.toInt ∧ x.toInt ≤ 8) ∨ (r = (-1) ∧ u = ([], []) ∧ (x.toInt < 0 ∨ 8 < x.toInt))) (k_B D (va_A [(h, .inr (3, [.ref xprogramSteps, .ref xprogramLengths, .ref xlimits, .ref xfloors, .ref xvalues, .ref xacts, .ref xorder, .ref xdoneRow, .ref xrunning, .ref xbegunOfClass, .ref xbook, .ref xwaits, .int 0, .int 0, .int 0, .int 0, .int 0, .int 0])), (xbook, .inr (1, [.ref en, .int 0, .int 0]))] sz)) (va_A [(h, .inr (3, [.ref xprogramSteps, .ref xprogramLengths, .ref xlimits, .ref xfloors, .ref xvalues, .ref xacts, .ref xorder, .ref xdoneRow, .ref xrunning, .ref xbegunOfClass, .ref xbook, .ref xwaits, .int 0, .int 0, .int 0, .int 0, .int 0, .int 0])), (xbook, .inr (1, [.ref en, .int 0, .int 0]))] sz)) 0 0 (va_A [(h, .inr (3, [.ref xprogramSteps, .ref xprogramLengths, .ref xlimits, .ref xfloors, .ref xvalues, .ref xacts, .ref xorder, .ref xdoneRow, .ref xrunning, .ref xbegunOfClass, .ref xbook, .ref xwaits, .int 0, .int 0, .int 0, .int 0, .int 0, .int 0])), (xbook, .inr (1, [.ref en, .int 0, .int 0]))] sz) := by
  refine Met.ofW (cc := cX3_count) (maxL := 2) (ret := (some .int)) (by decide) rfl ?_
  intro p e s m args below meth c s₁ B hml hv
  obtain ⟨rfl, hsz, hP, hK, hD0⟩ := hv
  have hx := B.exec
  have hb := B.bytes
  have hr := B.returns
  have hts := atoms_spec (ws := wsX3_count) B.pre
  have hown : s.vm.findClass RX3 = some m.cls := findClass_of_methodNamed B.named
  have hlocks := B.notSynchronized
  subst hsz
  have hD := hD0.self (sz := s.heap.size)
  generalize hAe : va_A [(h, .inr (3, [.ref xprogramSteps, .ref xprogramLengths, .ref xlimits, .ref xfloors, .ref xvalues, .ref xacts, .ref xorder, .ref xdoneRow, .ref xrunning, .ref xbegunOfClass, .ref xbook, .ref xwaits, .int 0, .int 0, .int 0, .int 0, .int 0, .int 0])), (xbook, .inr (1, [.ref en, .int 0, .int 0]))] s.heap.size = A at hD ⊢
  have hA : ∀ q : Nat, s.heap.size ≤ q → A q := fun q h => by rw [← hAe]; exact Or.inr h
  have hS : va_S A s.heap s.heap [] := va_S.rf
  have hl := lv_entry ([.ref h, .int x]) (n := 2) (Nat.le_of_ble_eq_true rfl)
  rw [lg_entry_eq]
  generalize (lg_sl ([.ref h, .int x]) ++ List.replicate (2 - (lg_sl ([.ref h, .int x])).length) Slot.unset).toArray = ls at hl ⊢
  have hl : lv_has ls 2 [(0, .ref h), (1, .int x)] := hl
  refine lv_iload_n hx hb dX3_count_0 rfl (lv_at hl 1 rfl) ?_
  by_cases hs1 : x.toInt < 0 ∨ 8 < x.toInt
  · skip
    refine lv_tableOut (tgt := 105) hx hb dX3_count_1 hs1 (by decide) ?_
    refine lv_iconst (v := (-1)) hx hb dX3_count_105 (by decide) ?_
    have hP := hP.sub (ws' := []) [] rfl
    have hD := hD.sub (ws' := []) [] (by decide) rfl
    have hK := hK.sub (tys' := []) [] rfl
    refine W.widen (k := 0) (n := 0) (by decide) (by decide) ?_
    exact W.iret (v := (-1)) hx hb hr (fun t ht hW => ⟨⟨(-1), ([], []), rfl, Or.inr (⟨rfl, rfl, (by omega)⟩), ⟨by rw [ht]; exact hP, va_K.moved hW.alike hK, hD⟩⟩, hS.F ht⟩) hS.2.2 dX3_count_106
  · skip
    have hs1 : x.toInt = 0 ∨ x.toInt = 1 ∨ x.toInt = 2 ∨ x.toInt = 3 ∨ x.toInt = 4 ∨ x.toInt = 5 ∨ x.toInt = 6 ∨ x.toInt = 7 ∨ x.toInt = 8 := by omega
    rcases hs1 with hs1 | hs1 | hs1 | hs1 | hs1 | hs1 | hs1 | hs1 | hs1
    · skip
      refine lv_tableIn (off := 51) (tgt := 52) hx hb dX3_count_1 (by omega) (by omega) (by rw [hs1]; rfl) (by decide) ?_
      refine lv_aload_n hx hb dX3_count_52 rfl (lv_at hl 0 rfl) ?_
      refine va_get (D := D) (ci := 3) (v := .int 0) (C := RX3) (T := TX3) (N := 18) hx hb hts kin_X3_count_X3 hown hK hP 0 rfl rfl 15 (by decide) (hts _ kw_X3_count__fieldLink_RX3_79_ActHouse_now_I_) (fun _ h9 => h9) rfl dX3_count_53 ?_
      have hP := hP.sub (ws' := []) [] rfl
      have hD := hD.sub (ws' := []) [] (by decide) rfl
      have hK := hK.sub (tys' := []) [] rfl
      refine W.widen (k := 0) (n := 0) (by decide) (by decide) ?_
      exact W.iret (v := 0) hx hb hr (fun t ht hW => ⟨⟨0, ([], []), rfl, Or.inl ⟨rfl, rfl, (by omega), (by omega)⟩, ⟨by rw [ht]; exact hP, va_K.moved hW.alike hK, hD⟩⟩, hS.F ht⟩) hS.2.2 dX3_count_56
    · skip
      refine lv_tableIn (off := 56) (tgt := 57) hx hb dX3_count_1 (by omega) (by omega) (by rw [hs1]; rfl) (by decide) ?_
      refine lv_aload_n hx hb dX3_count_57 rfl (lv_at hl 0 rfl) ?_
      refine va_get (D := D) (ci := 3) (v := .int 0) (C := RX3) (T := TX3) (N := 18) hx hb hts kin_X3_count_X3 hown hK hP 0 rfl rfl 12 (by decide) (hts _ kw_X3_count__fieldLink_RX3_102_ActHouse_actCount_I_) (fun _ h9 => h9) rfl dX3_count_58 ?_
      have hP := hP.sub (ws' := []) [] rfl
      have hD := hD.sub (ws' := []) [] (by decide) rfl
      have hK := hK.sub (tys' := []) [] rfl
      refine W.widen (k := 0) (n := 0) (by decide) (by decide) ?_
      exact W.iret (v := 0) hx hb hr (fun t ht hW => ⟨⟨0, ([], []), rfl, Or.inl ⟨rfl, rfl, (by omega), (by omega)⟩, ⟨by rw [ht]; exact hP, va_K.moved hW.alike hK, hD⟩⟩, hS.F ht⟩) hS.2.2 dX3_count_61
    · skip
      refine lv_tableIn (off := 61) (tgt := 62) hx hb dX3_count_1 (by omega) (by omega) (by rw [hs1]; rfl) (by decide) ?_
      refine lv_aload_n hx hb dX3_count_62 rfl (lv_at hl 0 rfl) ?_
      refine va_get (D := D) (ci := 3) (v := .ref xbook) (C := RX3) (T := TX3) (N := 18) hx hb hts kin_X3_count_X3 hown hK hP 0 rfl rfl 10 (by decide) (hts _ kw_X3_count__fieldLink_RX3_46_ActHouse_book_LActHouse_LogBook_) (fun _ h9 => h9) rfl dX3_count_63 ?_
      refine va_get (D := D) (ci := 1) (v := .int 0) (C := RX1) (T := TX1) (N := 3) hx hb hts kin_X3_count_X1 hown hK hP 1 rfl rfl 1 (by decide) (hts _ kw_X3_count__fieldLink_RX3_86_ActHouse_LogBook_size_I_) (fun _ h9 => h9) rfl dX3_count_66 ?_
      have hP := hP.sub (ws' := []) [] rfl
      have hD := hD.sub (ws' := []) [] (by decide) rfl
      have hK := hK.sub (tys' := []) [] rfl
      refine W.widen (k := 0) (n := 0) (by decide) (by decide) ?_
      exact W.iret (v := 0) hx hb hr (fun t ht hW => ⟨⟨0, ([], []), rfl, Or.inl ⟨rfl, rfl, (by omega), (by omega)⟩, ⟨by rw [ht]; exact hP, va_K.moved hW.alike hK, hD⟩⟩, hS.F ht⟩) hS.2.2 dX3_count_69
    · skip
      refine lv_tableIn (off := 69) (tgt := 70) hx hb dX3_count_1 (by omega) (by omega) (by rw [hs1]; rfl) (by decide) ?_
      refine lv_aload_n hx hb dX3_count_70 rfl (lv_at hl 0 rfl) ?_
      refine va_get (D := D) (ci := 3) (v := .ref xbook) (C := RX3) (T := TX3) (N := 18) hx hb hts kin_X3_count_X3 hown hK hP 0 rfl rfl 10 (by decide) (hts _ kw_X3_count__fieldLink_RX3_46_ActHouse_book_LActHouse_LogBook_) (fun _ h9 => h9) rfl dX3_count_71 ?_
      refine va_get (D := D) (ci := 1) (v := .int 0) (C := RX1) (T := TX1) (N := 3) hx hb hts kin_X3_count_X1 hown hK hP 1 rfl rfl 2 (by decide) (hts _ kw_X3_count__fieldLink_RX3_89_ActHouse_LogBook_kept_I_) (fun _ h9 => h9) rfl dX3_count_74 ?_
      have hP := hP.sub (ws' := []) [] rfl
      have hD := hD.sub (ws' := []) [] (by decide) rfl
      have hK := hK.sub (tys' := []) [] rfl
      refine W.widen (k := 0) (n := 0) (by decide) (by decide) ?_
      exact W.iret (v := 0) hx hb hr (fun t ht hW => ⟨⟨0, ([], []), rfl, Or.inl ⟨rfl, rfl, (by omega), (by omega)⟩, ⟨by rw [ht]; exact hP, va_K.moved hW.alike hK, hD⟩⟩, hS.F ht⟩) hS.2.2 dX3_count_77
    · skip
      refine lv_tableIn (off := 77) (tgt := 78) hx hb dX3_count_1 (by omega) (by omega) (by rw [hs1]; rfl) (by decide) ?_
      refine lv_aload_n hx hb dX3_count_78 rfl (lv_at hl 0 rfl) ?_
      refine lv_iconst (v := 0) hx hb dX3_count_79 (by decide) ?_
      have hPc := hP.sub (ws' := [(h, .inr (3, [.ref xprogramSteps, .ref xprogramLengths, .ref xlimits, .ref xfloors, .ref xvalues, .ref xacts, .ref xorder, .ref xdoneRow, .ref xrunning, .ref xbegunOfClass, .ref xbook, .ref xwaits, .int 0, .int 0, .int 0, .int 0, .int 0, .int 0]))]) [0] rfl
      have hDc := hD.sub (ws' := [(h, .inr (3, [.ref xprogramSteps, .ref xprogramLengths, .ref xlimits, .ref xfloors, .ref xvalues, .ref xacts, .ref xorder, .ref xdoneRow, .ref xrunning, .ref xbegunOfClass, .ref xbook, .ref xwaits, .int 0, .int 0, .int 0, .int 0, .int 0, .int 0]))]) [0] (by decide) rfl
      have hKc := hK.sub (tys' := []) [] rfl
      have hFc := va_free (wc := [(h, .inr (3, [.ref xprogramSteps, .ref xprogramLengths, .ref xlimits, .ref xfloors, .ref xvalues, .ref xacts, .ref xorder, .ref xdoneRow, .ref xrunning, .ref xbegunOfClass, .ref xbook, .ref xwaits, .int 0, .int 0, .int 0, .int 0, .int 0, .int 0]))]) hD hS hA [0] rfl
      refine va_calli (va_runV (As := [.int 0]) (rest := []) ⟨hx, hb, hml, hown, hts⟩ (c_X3_countState (l := l) (D := D) (h := h) (xprogramSteps := xprogramSteps) (xprogramLengths := xprogramLengths) (xlimits := xlimits) (xfloors := xfloors) (xvalues := xvalues) (xacts := xacts) (xorder := xorder) (xdoneRow := xdoneRow) (xrunning := xrunning) (xbegunOfClass := xbegunOfClass) (xbook := xbook) (xwaits := xwaits) (x := 0) ) (cwV 1 hts gX3_count_X3_countState rfl rfl rfl (by decide +kernel) ⟨Nat.le_of_ble_eq_true rfl, Nat.le_of_ble_eq_true rfl⟩) ⟨k_blind, va_recv hKc hPc (ci := 3) (q0 := 0) rfl rfl, fun U hU hW => ⟨rfl, k_pre hU hW hPc hKc hDc⟩⟩ rfl rfl hl.1 rfl (lv_room (Nat.le_of_ble_eq_true rfl)) dX3_count_80 ⟨by decide, by decide⟩) hS (fun q _ h => hFc q h) hFc (fun r2 u t H1 locs ht hvm hw hB hz1 hk1 hS => ?_)
      refine W.widen (k := 0) (n := 0) (Nat.le_refl _) (Nat.le_refl _) ?_
      have hl0 : (0 : Int32).toInt = 0 := by decide
      obtain ⟨rfl, rfl⟩ := hw
      obtain ⟨hP1, hK1, hD1⟩ := hB
      rw [ht] at hP1
      have hK1 := va_K.moved hvm.symm hK1
      obtain ⟨hP, hD⟩ := va_join (wr := [(xbook, .inr (1, [.ref en, .int 0, .int 0]))]) (w1 := []) hP hD [0] [1] rfl rfl (by decide) (by decide) hk1 hFc hP1 hD1
      generalize H1 = H at hP hS ⊢
      have hP : va_P D vwCl [(xbook, .inr (1, [.ref en, .int 0, .int 0]))] H := hP
      have hD : va_D A [(xbook, .inr (1, [.ref en, .int 0, .int 0]))] := hD
      have hP := hP.sub (ws' := []) [] rfl
      have hD := hD.sub (ws' := []) [] (by decide) rfl
      have hK := hK.sub (tys' := []) [] rfl
      refine W.widen (k := 0) (n := 0) (by decide) (by decide) ?_
      exact W.iret (v := 0) hx hb hr (fun t ht hW => ⟨⟨0, ([], []), rfl, Or.inl ⟨rfl, rfl, (by omega), (by omega)⟩, ⟨by rw [ht]; exact hP, va_K.moved hW.alike hK, hD⟩⟩, hS.F ht⟩) hS.2.2 dX3_count_83
    · skip
      refine lv_tableIn (off := 83) (tgt := 84) hx hb dX3_count_1 (by omega) (by omega) (by rw [hs1]; rfl) (by decide) ?_
      refine lv_aload_n hx hb dX3_count_84 rfl (lv_at hl 0 rfl) ?_
      refine lv_iconst (v := 1) hx hb dX3_count_85 (by decide) ?_
      have hPc := hP.sub (ws' := [(h, .inr (3, [.ref xprogramSteps, .ref xprogramLengths, .ref xlimits, .ref xfloors, .ref xvalues, .ref xacts, .ref xorder, .ref xdoneRow, .ref xrunning, .ref xbegunOfClass, .ref xbook, .ref xwaits, .int 0, .int 0, .int 0, .int 0, .int 0, .int 0]))]) [0] rfl
      have hDc := hD.sub (ws' := [(h, .inr (3, [.ref xprogramSteps, .ref xprogramLengths, .ref xlimits, .ref xfloors, .ref xvalues, .ref xacts, .ref xorder, .ref xdoneRow, .ref xrunning, .ref xbegunOfClass, .ref xbook, .ref xwaits, .int 0, .int 0, .int 0, .int 0, .int 0, .int 0]))]) [0] (by decide) rfl
      have hKc := hK.sub (tys' := []) [] rfl
      have hFc := va_free (wc := [(h, .inr (3, [.ref xprogramSteps, .ref xprogramLengths, .ref xlimits, .ref xfloors, .ref xvalues, .ref xacts, .ref xorder, .ref xdoneRow, .ref xrunning, .ref xbegunOfClass, .ref xbook, .ref xwaits, .int 0, .int 0, .int 0, .int 0, .int 0, .int 0]))]) hD hS hA [0] rfl
      refine va_calli (va_runV (As := [.int 1]) (rest := []) ⟨hx, hb, hml, hown, hts⟩ (c_X3_countState (l := l) (D := D) (h := h) (xprogramSteps := xprogramSteps) (xprogramLengths := xprogramLengths) (xlimits := xlimits) (xfloors := xfloors) (xvalues := xvalues) (xacts := xacts) (xorder := xorder) (xdoneRow := xdoneRow) (xrunning := xrunning) (xbegunOfClass := xbegunOfClass) (xbook := xbook) (xwaits := xwaits) (x := 1) ) (cwV 1 hts gX3_count_X3_countState rfl rfl rfl (by decide +kernel) ⟨Nat.le_of_ble_eq_true rfl, Nat.le_of_ble_eq_true rfl⟩) ⟨k_blind, va_recv hKc hPc (ci := 3) (q0 := 0) rfl rfl, fun U hU hW => ⟨rfl, k_pre hU hW hPc hKc hDc⟩⟩ rfl rfl hl.1 rfl (lv_room (Nat.le_of_ble_eq_true rfl)) dX3_count_86 ⟨by decide, by decide⟩) hS (fun q _ h => hFc q h) hFc (fun r3 u t H1 locs ht hvm hw hB hz1 hk1 hS => ?_)
      refine W.widen (k := 0) (n := 0) (Nat.le_refl _) (Nat.le_refl _) ?_
      have hl1 : (1 : Int32).toInt = 1 := by decide
      obtain ⟨rfl, rfl⟩ := hw
      obtain ⟨hP1, hK1, hD1⟩ := hB
      rw [ht] at hP1
      have hK1 := va_K.moved hvm.symm hK1
      obtain ⟨hP, hD⟩ := va_join (wr := [(xbook, .inr (1, [.ref en, .int 0, .int 0]))]) (w1 := []) hP hD [0] [1] rfl rfl (by decide) (by decide) hk1 hFc hP1 hD1
      generalize H1 = H at hP hS ⊢
      have hP : va_P D vwCl [(xbook, .inr (1, [.ref en, .int 0, .int 0]))] H := hP
      have hD : va_D A [(xbook, .inr (1, [.ref en, .int 0, .int 0]))] := hD
      have hP := hP.sub (ws' := []) [] rfl
      have hD := hD.sub (ws' := []) [] (by decide) rfl
      have hK := hK.sub (tys' := []) [] rfl
      refine W.widen (k := 0) (n := 0) (by decide) (by decide) ?_
      exact W.iret (v := 0) hx hb hr (fun t ht hW => ⟨⟨0, ([], []), rfl, Or.inl ⟨rfl, rfl, (by omega), (by omega)⟩, ⟨by rw [ht]; exact hP, va_K.moved hW.alike hK, hD⟩⟩, hS.F ht⟩) hS.2.2 dX3_count_89
    · skip
      refine lv_tableIn (off := 89) (tgt := 90) hx hb dX3_count_1 (by omega) (by omega) (by rw [hs1]; rfl) (by decide) ?_
      refine lv_aload_n hx hb dX3_count_90 rfl (lv_at hl 0 rfl) ?_
      refine va_get (D := D) (ci := 3) (v := .int 0) (C := RX3) (T := TX3) (N := 18) hx hb hts kin_X3_count_X3 hown hK hP 0 rfl rfl 13 (by decide) (hts _ kw_X3_count__fieldLink_RX3_154_ActHouse_doneCount_I_) (fun _ h9 => h9) rfl dX3_count_91 ?_
      have hP := hP.sub (ws' := []) [] rfl
      have hD := hD.sub (ws' := []) [] (by decide) rfl
      have hK := hK.sub (tys' := []) [] rfl
      refine W.widen (k := 0) (n := 0) (by decide) (by decide) ?_
      exact W.iret (v := 0) hx hb hr (fun t ht hW => ⟨⟨0, ([], []), rfl, Or.inl ⟨rfl, rfl, (by omega), (by omega)⟩, ⟨by rw [ht]; exact hP, va_K.moved hW.alike hK, hD⟩⟩, hS.F ht⟩) hS.2.2 dX3_count_94
    · skip
      refine lv_tableIn (off := 94) (tgt := 95) hx hb dX3_count_1 (by omega) (by omega) (by rw [hs1]; rfl) (by decide) ?_
      refine lv_aload_n hx hb dX3_count_95 rfl (lv_at hl 0 rfl) ?_
      refine va_get (D := D) (ci := 3) (v := .int 0) (C := RX3) (T := TX3) (N := 18) hx hb hts kin_X3_count_X3 hown hK hP 0 rfl rfl 16 (by decide) (hts _ kw_X3_count__fieldLink_RX3_167_ActHouse_rings_I_) (fun _ h9 => h9) rfl dX3_count_96 ?_
      have hP := hP.sub (ws' := []) [] rfl
      have hD := hD.sub (ws' := []) [] (by decide) rfl
      have hK := hK.sub (tys' := []) [] rfl
      refine W.widen (k := 0) (n := 0) (by decide) (by decide) ?_
      exact W.iret (v := 0) hx hb hr (fun t ht hW => ⟨⟨0, ([], []), rfl, Or.inl ⟨rfl, rfl, (by omega), (by omega)⟩, ⟨by rw [ht]; exact hP, va_K.moved hW.alike hK, hD⟩⟩, hS.F ht⟩) hS.2.2 dX3_count_99
    · skip
      refine lv_tableIn (off := 99) (tgt := 100) hx hb dX3_count_1 (by omega) (by omega) (by rw [hs1]; rfl) (by decide) ?_
      refine lv_aload_n hx hb dX3_count_100 rfl (lv_at hl 0 rfl) ?_
      refine va_get (D := D) (ci := 3) (v := .int 0) (C := RX3) (T := TX3) (N := 18) hx hb hts kin_X3_count_X3 hown hK hP 0 rfl rfl 17 (by decide) (hts _ kw_X3_count__fieldLink_RX3_99_ActHouse_falls_I_) (fun _ h9 => h9) rfl dX3_count_101 ?_
      have hP := hP.sub (ws' := []) [] rfl
      have hD := hD.sub (ws' := []) [] (by decide) rfl
      have hK := hK.sub (tys' := []) [] rfl
      refine W.widen (k := 0) (n := 0) (by decide) (by decide) ?_
      exact W.iret (v := 0) hx hb hr (fun t ht hW => ⟨⟨0, ([], []), rfl, Or.inl ⟨rfl, rfl, (by omega), (by omega)⟩, ⟨by rw [ht]; exact hP, va_K.moved hW.alike hK, hD⟩⟩, hS.F ht⟩) hS.2.2 dX3_count_104
