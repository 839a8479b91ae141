set_option maxRecDepth 100000 in
theorem kw_X3_admit__fieldLink_RX3_102_ActHouse_actCount_I_ : (.fieldLink RX3 102 "ActHouse" "actCount" "I" : Cond) ∈ wsX3_admit := by decide +kernel
set_option maxRecDepth 100000 in
theorem kin_X3_admit_X3 : ∀ w ∈ u_ws RX3 TX3 18, w ∈ wsX3_admit := by decide +kernel
set_option maxRecDepth 100000 in
theorem kw_X3_admit__fieldLink_RX3_27_ActHouse_acts_LActHouse_Act_ : (.fieldLink RX3 27 "ActHouse" "acts" "[LActHouse$Act;" : Cond) ∈ wsX3_admit := by decide +kernel
set_option maxRecDepth 100000 in
theorem kin_X3_admit_X0 : ∀ w ∈ u_ws RX0 TX0 20, w ∈ wsX3_admit := by decide +kernel
set_option maxRecDepth 100000 in
theorem kw_X3_admit__classLink_RX3_25_RX0 : (.classLink RX3 25 RX0 : Cond) ∈ wsX3_admit := by decide +kernel
set_option maxRecDepth 100000 in
theorem kw_X3_admit__instantiable_RX0_20 : (.instantiable RX0 20 : Cond) ∈ wsX3_admit := by decide +kernel
set_option maxRecDepth 100000 in
theorem kw_X3_admit__initialized_RX0 : (.initialized RX0 : Cond) ∈ wsX3_admit := by decide +kernel
set_option maxRecDepth 100000 in
theorem kw_X3_admit__methodLink_RX3_176_yX0_init : (.methodLink RX3 176 yX0_init : Cond) ∈ wsX3_admit := by decide +kernel
set_option maxRecDepth 100000 in
theorem kw_X3_admit__instanceMethod_yX0_init : (.instanceMethod yX0_init : Cond) ∈ wsX3_admit := by decide +kernel
set_option maxRecDepth 100000 in
theorem kw_X3_admit__fieldLink_RX3_31_ActHouse_order_I_ : (.fieldLink RX3 31 "ActHouse" "order" "[I" : Cond) ∈ wsX3_admit := by decide +kernel
set_option maxHeartbeats 4000000 in
set_option maxRecDepth 100000 in
theorem c_X3_admit {l : Launch} {D : va_G} {sz : Nat} {h : Nat} {xprogramSteps : Nat} {xprogramLengths : Nat} {xlimits : Nat} {xfloors : Nat} {xvalues : Nat} {xacts : Nat} {xorder : Nat} {xdoneRow : Nat} {xrunning : Nat} {xbegunOfClass : Nat} {xbook : Nat} {xwaits : Nat} {x : Int32} {y : Int32} {z : Int32} {w : Int32} {cI : ClassId} {cO : ClassId}  : Met l yX3_admit wsX3_admit ({ frames := 2, cells := 7, slots := 108, locals := 36 }) (va_Pc [.ref h, .int x, .int y, .int z, .int w] (k_Pre D [(cI, .int), (cO, .object RX0)] [(h, .inr (3, [.ref xprogramSteps, .ref xprogramLengths, .ref xlimits, .ref xfloors, .ref xvalues, .ref xacts, .ref xorder, .ref xdoneRow, .ref xrunning, .ref xbegunOfClass, .ref xbook, .ref xwaits, .int 0, .int 0, .int 0, .int 0, .int 0, .int 0])), (xacts, .inl (cO, 80, .inr (.inr (.inr (.inr (fun _ => none)))))), (xorder, .inl (cI, 80, .inl (fun _ => 0)))] sz)) (va_Qi (fun (r : Int32) (u : va_W × List (ClassId × FieldType)) => (r = 0 ∧ u = ([], [(cI, .int), (cO, .object RX0)]))) (k_B D (va_A [(h, .inr (3, [.ref xprogramSteps, .ref xprogramLengths, .ref xlimits, .ref xfloors, .ref xvalues, .ref xacts, .ref xorder, .ref xdoneRow, .ref xrunning, .ref xbegunOfClass, .ref xbook, .ref xwaits, .int 0, .int 0, .int 0, .int 0, .int 0, .int 0])), (xacts, .inl (cO, 80, .inr (.inr (.inr (.inr (fun _ => none)))))), (xorder, .inl (cI, 80, .inl (fun _ => 0)))] sz)) (va_A [(h, .inr (3, [.ref xprogramSteps, .ref xprogramLengths, .ref xlimits, .ref xfloors, .ref xvalues, .ref xacts, .ref xorder, .ref xdoneRow, .ref xrunning, .ref xbegunOfClass, .ref xbook, .ref xwaits, .int 0, .int 0, .int 0, .int 0, .int 0, .int 0])), (xacts, .inl (cO, 80, .inr (.inr (.inr (.inr (fun _ => none)))))), (xorder, .inl (cI, 80, .inl (fun _ => 0)))] sz)) 7 108 (va_A [(h, .inr (3, [.ref xprogramSteps, .ref xprogramLengths, .ref xlimits, .ref xfloors, .ref xvalues, .ref xacts, .ref xorder, .ref xdoneRow, .ref xrunning, .ref xbegunOfClass, .ref xbook, .ref xwaits, .int 0, .int 0, .int 0, .int 0, .int 0, .int 0])), (xacts, .inl (cO, 80, .inr (.inr (.inr (.inr (fun _ => none)))))), (xorder, .inl (cI, 80, .inl (fun _ => 0)))] sz) := by
  refine Met.ofW (cc := cX3_admit) (maxL := 7) (ret := (some .int)) (by decide) rfl ?_
  intro p e s m args below meth c s₁ B hml hv
  obtain ⟨rfl, hsz, hP, hK, hD0⟩ := hv
  have hx := B.exec
  have hb := B.bytes
  have hr := B.returns
  have hts := atoms_spec (ws := wsX3_admit) B.pre
  have hown : s.vm.findClass RX3 = some m.cls := findClass_of_methodNamed B.named
  have hlocks := B.notSynchronized
  subst hsz
  have hD := hD0.self (sz := s.heap.size)
  generalize hAe : va_A [(h, .inr (3, [.ref xprogramSteps, .ref xprogramLengths, .ref xlimits, .ref xfloors, .ref xvalues, .ref xacts, .ref xorder, .ref xdoneRow, .ref xrunning, .ref xbegunOfClass, .ref xbook, .ref xwaits, .int 0, .int 0, .int 0, .int 0, .int 0, .int 0])), (xacts, .inl (cO, 80, .inr (.inr (.inr (.inr (fun _ => none)))))), (xorder, .inl (cI, 80, .inl (fun _ => 0)))] s.heap.size = A at hD ⊢
  have hA : ∀ q : Nat, s.heap.size ≤ q → A q := fun q h => by rw [← hAe]; exact Or.inr h
  have hS : va_S A s.heap s.heap [] := va_S.rf
  have hl := lv_entry ([.ref h, .int x, .int y, .int z, .int w]) (n := 7) (Nat.le_of_ble_eq_true rfl)
  rw [lg_entry_eq]
  generalize (lg_sl ([.ref h, .int x, .int y, .int z, .int w]) ++ List.replicate (7 - (lg_sl ([.ref h, .int x, .int y, .int z, .int w])).length) Slot.unset).toArray = ls at hl ⊢
  have hl : lv_has ls 7 [(0, .ref h), (1, .int x), (2, .int y), (3, .int z), (4, .int w)] := hl
  refine lv_aload_n hx hb dX3_admit_0 rfl (lv_at hl 0 rfl) ?_
  refine va_get (D := D) (ci := 3) (v := .int 0) (C := RX3) (T := TX3) (N := 18) hx hb hts kin_X3_admit_X3 hown hK hP 0 rfl rfl 12 (by decide) (hts _ kw_X3_admit__fieldLink_RX3_102_ActHouse_actCount_I_) (fun _ h9 => h9) rfl dX3_admit_1 ?_
  refine lv_bipush (v := 80) hx hb dX3_admit_4 (by decide) ?_
  refine lv_icmp_lt (tgt := 11) hx hb dX3_admit_6 (by decide) (fun c1 => ?_) (fun c1 => ?_)
  · skip
    refine lv_aload_n hx hb dX3_admit_11 rfl (lv_at hl 0 rfl) ?_
    refine va_get (D := D) (ci := 3) (v := .int 0) (C := RX3) (T := TX3) (N := 18) hx hb hts kin_X3_admit_X3 hown hK hP 0 rfl rfl 12 (by decide) (hts _ kw_X3_admit__fieldLink_RX3_102_ActHouse_actCount_I_) (fun _ h9 => h9) rfl dX3_admit_12 ?_
    refine lv_istore (lv' := [(5, .int 0), (0, .ref h), (1, .int x), (2, .int y), (3, .int z), (4, .int w)]) hx hb dX3_admit_15 hl (by decide) rfl (fun ls hl => ?_)
    refine lv_aload_n hx hb dX3_admit_17 rfl (lv_at hl 1 rfl) ?_
    refine va_get (D := D) (ci := 3) (v := .ref xacts) (C := RX3) (T := TX3) (N := 18) hx hb hts kin_X3_admit_X3 hown hK hP 0 rfl rfl 5 (by decide) (hts _ kw_X3_admit__fieldLink_RX3_27_ActHouse_acts_LActHouse_Act_) (fun _ h9 => h9) rfl dX3_admit_18 ?_
    refine lv_iload hx hb dX3_admit_21 (lv_at hl 0 rfl) ?_
    refine va_new (ci := 0) (fs := [.int 0, .int 0, .int 0, .int 0, .null, .null, .null, .null, .null, .null, .int 0, .int 0, .int 0, .int 0, .int 0, .int 0, .int 0, .int 0, .int 0, .int 0]) (C := RX0) (T := TX0) (N := 20) hx hb hts kin_X3_admit_X0 tyX0 tyX0_ok hown (hts _ kw_X3_admit__classLink_RX3_25_RX0) (hts _ kw_X3_admit__instantiable_RX0_20) (hts _ kw_X3_admit__initialized_RX0) hK hP hD hS hA rfl (fun j hj => by revert j; decide) (by decide) (by decide) dX3_admit_23 (fun q23 H hP hD hS => ?_)
    refine W.widen (k := 1) (n := 20) (by decide) (by decide) ?_
    have hP : va_P D vwCl [(h, .inr (3, [.ref xprogramSteps, .ref xprogramLengths, .ref xlimits, .ref xfloors, .ref xvalues, .ref xacts, .ref xorder, .ref xdoneRow, .ref xrunning, .ref xbegunOfClass, .ref xbook, .ref xwaits, .int 0, .int 0, .int 0, .int 0, .int 0, .int 0])), (xacts, .inl (cO, 80, .inr (.inr (.inr (.inr (fun _ => none)))))), (xorder, .inl (cI, 80, .inl (fun _ => 0))), (q23, .inr (0, [.int 0, .int 0, .int 0, .int 0, .null, .null, .null, .null, .null, .null, .int 0, .int 0, .int 0, .int 0, .int 0, .int 0, .int 0, .int 0, .int 0, .int 0]))] H := hP
    have hD : va_D A [(h, .inr (3, [.ref xprogramSteps, .ref xprogramLengths, .ref xlimits, .ref xfloors, .ref xvalues, .ref xacts, .ref xorder, .ref xdoneRow, .ref xrunning, .ref xbegunOfClass, .ref xbook, .ref xwaits, .int 0, .int 0, .int 0, .int 0, .int 0, .int 0])), (xacts, .inl (cO, 80, .inr (.inr (.inr (.inr (fun _ => none)))))), (xorder, .inl (cI, 80, .inl (fun _ => 0))), (q23, .inr (0, [.int 0, .int 0, .int 0, .int 0, .null, .null, .null, .null, .null, .null, .int 0, .int 0, .int 0, .int 0, .int 0, .int 0, .int 0, .int 0, .int 0, .int 0]))] := hD
    refine lv_dup hx hb dX3_admit_26 rfl ?_
    refine lv_iload_n hx hb dX3_admit_27 rfl (lv_at hl 2 rfl) ?_
    refine lv_iload_n hx hb dX3_admit_28 rfl (lv_at hl 3 rfl) ?_
    refine lv_iload_n hx hb dX3_admit_29 rfl (lv_at hl 4 rfl) ?_
    refine lv_iload hx hb dX3_admit_30 (lv_at hl 5 rfl) ?_
    have hPc := hP.sub (ws' := [(q23, .inr (0, [.int 0, .int 0, .int 0, .int 0, .null, .null, .null, .null, .null, .null, .int 0, .int 0, .int 0, .int 0, .int 0, .int 0, .int 0, .int 0, .int 0, .int 0]))]) [3] rfl
    have hDc := hD.sub (ws' := [(q23, .inr (0, [.int 0, .int 0, .int 0, .int 0, .null, .null, .null, .null, .null, .null, .int 0, .int 0, .int 0, .int 0, .int 0, .int 0, .int 0, .int 0, .int 0, .int 0]))]) [3] (by decide) rfl
    have hKc := hK.sub (tys' := [(cI, .int)]) [0] rfl
    have hFc := va_free (wc := [(q23, .inr (0, [.int 0, .int 0, .int 0, .int 0, .null, .null, .null, .null, .null, .null, .int 0, .int 0, .int 0, .int 0, .int 0, .int 0, .int 0, .int 0, .int 0, .int 0]))]) hD hS hA [3] rfl
    refine va_callv (va_runI (As := [.int x, .int y, .int z, .int w]) (rest := [.ref q23, .int 0, .ref xacts]) ⟨hx, hb, hml, hown, hts⟩ (c_X0_init (l := l) (D := D) (h := q23) (x := x) (y := y) (z := z) (w := w) (cI := cI) ) (cwI 4 hts gX3_admit_X0_init rfl rfl rfl (hts _ kw_X3_admit__initialized_RX0) (hts _ kw_X3_admit__methodLink_RX3_176_yX0_init) (hts _ kw_X3_admit__instanceMethod_yX0_init) rfl (by decide +kernel) ⟨Nat.le_of_ble_eq_true rfl, Nat.le_of_ble_eq_true rfl⟩) ⟨k_blind, fun U hU hW => ⟨rfl, k_pre hU hW hPc hKc hDc⟩⟩ rfl rfl hl.1 rfl (lv_room (Nat.le_of_ble_eq_true rfl)) dX3_admit_32 ⟨by decide, by decide⟩) hS (fun q _ h => hFc q h) hFc (fun u t H1 locs ht hvm hw hB hz1 hk1 hS => ?_)
    refine W.widen (k := 7) (n := 108) (by decide) (by decide) ?_
    obtain ⟨bsteps_2, blocks_2, bwritten_2, bgives_2, btakes_2, bqueue_2, rfl⟩ := hw
    obtain ⟨hP1, hK1, hD1⟩ := hB
    rw [ht] at hP1
    have hK1 := va_K.moved hvm.symm hK1
    obtain ⟨hP, hD⟩ := va_join (wr := [(h, .inr (3, [.ref xprogramSteps, .ref xprogramLengths, .ref xlimits, .ref xfloors, .ref xvalues, .ref xacts, .ref xorder, .ref xdoneRow, .ref xrunning, .ref xbegunOfClass, .ref xbook, .ref xwaits, .int 0, .int 0, .int 0, .int 0, .int 0, .int 0])), (xacts, .inl (cO, 80, .inr (.inr (.inr (.inr (fun _ => none)))))), (xorder, .inl (cI, 80, .inl (fun _ => 0)))]) (w1 := [(q23, .inr (0, [.int x, .int y, .int z, .int w, .ref bsteps_2, .ref blocks_2, .ref bwritten_2, .ref bgives_2, .ref btakes_2, .ref bqueue_2, .int 0, .int 0, .int 0, .int 0, .int 0, .int (-1), .int (-1), .int (-1), .int (-1), .int 0])), (bsteps_2, .inl (cI, 12, .inl (fun _ => 0))), (blocks_2, .inl (cI, 24, .inl (fun _ => 0))), (bwritten_2, .inl (cI, 24, .inl (fun _ => 0))), (bgives_2, .inl (cI, 8, .inl (fun _ => 0))), (btakes_2, .inl (cI, 8, .inl (fun _ => 0))), (bqueue_2, .inl (cI, 12, .inl (fun _ => 0)))]) hP hD [3] [0, 1, 2] rfl rfl (by decide) (by decide) hk1 hFc hP1 hD1
    generalize H1 = H at hP hS ⊢
    have hP : va_P D vwCl [(h, .inr (3, [.ref xprogramSteps, .ref xprogramLengths, .ref xlimits, .ref xfloors, .ref xvalues, .ref xacts, .ref xorder, .ref xdoneRow, .ref xrunning, .ref xbegunOfClass, .ref xbook, .ref xwaits, .int 0, .int 0, .int 0, .int 0, .int 0, .int 0])), (xacts, .inl (cO, 80, .inr (.inr (.inr (.inr (fun _ => none)))))), (xorder, .inl (cI, 80, .inl (fun _ => 0))), (q23, .inr (0, [.int x, .int y, .int z, .int w, .ref bsteps_2, .ref blocks_2, .ref bwritten_2, .ref bgives_2, .ref btakes_2, .ref bqueue_2, .int 0, .int 0, .int 0, .int 0, .int 0, .int (-1), .int (-1), .int (-1), .int (-1), .int 0])), (bsteps_2, .inl (cI, 12, .inl (fun _ => 0))), (blocks_2, .inl (cI, 24, .inl (fun _ => 0))), (bwritten_2, .inl (cI, 24, .inl (fun _ => 0))), (bgives_2, .inl (cI, 8, .inl (fun _ => 0))), (btakes_2, .inl (cI, 8, .inl (fun _ => 0))), (bqueue_2, .inl (cI, 12, .inl (fun _ => 0)))] H := hP
    have hD : va_D A [(h, .inr (3, [.ref xprogramSteps, .ref xprogramLengths, .ref xlimits, .ref xfloors, .ref xvalues, .ref xacts, .ref xorder, .ref xdoneRow, .ref xrunning, .ref xbegunOfClass, .ref xbook, .ref xwaits, .int 0, .int 0, .int 0, .int 0, .int 0, .int 0])), (xacts, .inl (cO, 80, .inr (.inr (.inr (.inr (fun _ => none)))))), (xorder, .inl (cI, 80, .inl (fun _ => 0))), (q23, .inr (0, [.int x, .int y, .int z, .int w, .ref bsteps_2, .ref blocks_2, .ref bwritten_2, .ref bgives_2, .ref btakes_2, .ref bqueue_2, .int 0, .int 0, .int 0, .int 0, .int 0, .int (-1), .int (-1), .int (-1), .int (-1), .int 0])), (bsteps_2, .inl (cI, 12, .inl (fun _ => 0))), (blocks_2, .inl (cI, 24, .inl (fun _ => 0))), (bwritten_2, .inl (cI, 24, .inl (fun _ => 0))), (bgives_2, .inl (cI, 8, .inl (fun _ => 0))), (btakes_2, .inl (cI, 8, .inl (fun _ => 0))), (bqueue_2, .inl (cI, 12, .inl (fun _ => 0)))] := hD
    have hi35 : vp_in 0 80 := (k_in (by decide) (by decide))
    refine va_astq hx hb hK hP hD hS 1 1 3 0 rfl rfl rfl rfl hi35 dX3_admit_35 (fun H locs hP hD hS => ?_)
    have hP : va_P D vwCl [(h, .inr (3, [.ref xprogramSteps, .ref xprogramLengths, .ref xlimits, .ref xfloors, .ref xvalues, .ref xacts, .ref xorder, .ref xdoneRow, .ref xrunning, .ref xbegunOfClass, .ref xbook, .ref xwaits, .int 0, .int 0, .int 0, .int 0, .int 0, .int 0])), (xacts, .inl (cO, 80, .inr (.inr (.inr (.inr (va_up (fun _ => none) (0 : Int32).toNatClampNeg (some q23))))))), (xorder, .inl (cI, 80, .inl (fun _ => 0))), (q23, .inr (0, [.int x, .int y, .int z, .int w, .ref bsteps_2, .ref blocks_2, .ref bwritten_2, .ref bgives_2, .ref btakes_2, .ref bqueue_2, .int 0, .int 0, .int 0, .int 0, .int 0, .int (-1), .int (-1), .int (-1), .int (-1), .int 0])), (bsteps_2, .inl (cI, 12, .inl (fun _ => 0))), (blocks_2, .inl (cI, 24, .inl (fun _ => 0))), (bwritten_2, .inl (cI, 24, .inl (fun _ => 0))), (bgives_2, .inl (cI, 8, .inl (fun _ => 0))), (btakes_2, .inl (cI, 8, .inl (fun _ => 0))), (bqueue_2, .inl (cI, 12, .inl (fun _ => 0)))] H := hP
    have hD : va_D A [(h, .inr (3, [.ref xprogramSteps, .ref xprogramLengths, .ref xlimits, .ref xfloors, .ref xvalues, .ref xacts, .ref xorder, .ref xdoneRow, .ref xrunning, .ref xbegunOfClass, .ref xbook, .ref xwaits, .int 0, .int 0, .int 0, .int 0, .int 0, .int 0])), (xacts, .inl (cO, 80, .inr (.inr (.inr (.inr (va_up (fun _ => none) (0 : Int32).toNatClampNeg (some q23))))))), (xorder, .inl (cI, 80, .inl (fun _ => 0))), (q23, .inr (0, [.int x, .int y, .int z, .int w, .ref bsteps_2, .ref blocks_2, .ref bwritten_2, .ref bgives_2, .ref btakes_2, .ref bqueue_2, .int 0, .int 0, .int 0, .int 0, .int 0, .int (-1), .int (-1), .int (-1), .int (-1), .int 0])), (bsteps_2, .inl (cI, 12, .inl (fun _ => 0))), (blocks_2, .inl (cI, 24, .inl (fun _ => 0))), (bwritten_2, .inl (cI, 24, .inl (fun _ => 0))), (bgives_2, .inl (cI, 8, .inl (fun _ => 0))), (btakes_2, .inl (cI, 8, .inl (fun _ => 0))), (bqueue_2, .inl (cI, 12, .inl (fun _ => 0)))] := hD
    refine lv_iload hx hb dX3_admit_36 (lv_at hl 0 rfl) ?_
    refine lv_istore (lv' := [(6, .int 0), (5, .int 0), (0, .ref h), (1, .int x), (2, .int y), (3, .int z), (4, .int w)]) hx hb dX3_admit_38 hl (by decide) rfl (fun ls hl => ?_)
    refine lv_iload hx hb dX3_admit_40 (lv_at hl 0 rfl) ?_
    refine lv_if_le (tgt := 88) hx hb dX3_admit_42 (by decide) (fun c3 => ?_) (fun c3 => ?_)
    · skip
      refine lv_aload_n hx hb dX3_admit_88 rfl (lv_at hl 2 rfl) ?_
      refine va_get (D := D) (ci := 3) (v := .ref xorder) (C := RX3) (T := TX3) (N := 18) hx hb hts kin_X3_admit_X3 hown hK hP 0 rfl rfl 6 (by decide) (hts _ kw_X3_admit__fieldLink_RX3_31_ActHouse_order_I_) (fun _ h9 => h9) rfl dX3_admit_89 ?_
      refine lv_iload hx hb dX3_admit_92 (lv_at hl 0 rfl) ?_
      refine lv_iload hx hb dX3_admit_94 (lv_at hl 1 rfl) ?_
      have hi96 : vp_in 0 80 := (k_in (by decide) (by decide))
      refine va_iast hx hb hK hP hD hS 2 0 rfl rfl hi96 dX3_admit_96 (fun H locs hP hD hS => ?_)
      have hP : va_P D vwCl [(h, .inr (3, [.ref xprogramSteps, .ref xprogramLengths, .ref xlimits, .ref xfloors, .ref xvalues, .ref xacts, .ref xorder, .ref xdoneRow, .ref xrunning, .ref xbegunOfClass, .ref xbook, .ref xwaits, .int 0, .int 0, .int 0, .int 0, .int 0, .int 0])), (xacts, .inl (cO, 80, .inr (.inr (.inr (.inr (va_up (fun _ => none) (0 : Int32).toNatClampNeg (some q23))))))), (xorder, .inl (cI, 80, .inl (upd (fun _ => 0) (0 : Int32).toNatClampNeg 0))), (q23, .inr (0, [.int x, .int y, .int z, .int w, .ref bsteps_2, .ref blocks_2, .ref bwritten_2, .ref bgives_2, .ref btakes_2, .ref bqueue_2, .int 0, .int 0, .int 0, .int 0, .int 0, .int (-1), .int (-1), .int (-1), .int (-1), .int 0])), (bsteps_2, .inl (cI, 12, .inl (fun _ => 0))), (blocks_2, .inl (cI, 24, .inl (fun _ => 0))), (bwritten_2, .inl (cI, 24, .inl (fun _ => 0))), (bgives_2, .inl (cI, 8, .inl (fun _ => 0))), (btakes_2, .inl (cI, 8, .inl (fun _ => 0))), (bqueue_2, .inl (cI, 12, .inl (fun _ => 0)))] H := hP
      have hD : va_D A [(h, .inr (3, [.ref xprogramSteps, .ref xprogramLengths, .ref xlimits, .ref xfloors, .ref xvalues, .ref xacts, .ref xorder, .ref xdoneRow, .ref xrunning, .ref xbegunOfClass, .ref xbook, .ref xwaits, .int 0, .int 0, .int 0, .int 0, .int 0, .int 0])), (xacts, .inl (cO, 80, .inr (.inr (.inr (.inr (va_up (fun _ => none) (0 : Int32).toNatClampNeg (some q23))))))), (xorder, .inl (cI, 80, .inl (upd (fun _ => 0) (0 : Int32).toNatClampNeg 0))), (q23, .inr (0, [.int x, .int y, .int z, .int w, .ref bsteps_2, .ref blocks_2, .ref bwritten_2, .ref bgives_2, .ref btakes_2, .ref bqueue_2, .int 0, .int 0, .int 0, .int 0, .int 0, .int (-1), .int (-1), .int (-1), .int (-1), .int 0])), (bsteps_2, .inl (cI, 12, .inl (fun _ => 0))), (blocks_2, .inl (cI, 24, .inl (fun _ => 0))), (bwritten_2, .inl (cI, 24, .inl (fun _ => 0))), (bgives_2, .inl (cI, 8, .inl (fun _ => 0))), (btakes_2, .inl (cI, 8, .inl (fun _ => 0))), (bqueue_2, .inl (cI, 12, .inl (fun _ => 0)))] := hD
      refine lv_aload_n hx hb dX3_admit_97 rfl (lv_at hl 2 rfl) ?_
      refine lv_dup hx hb dX3_admit_98 rfl ?_
      refine va_get (D := D) (ci := 3) (v := .int 0) (C := RX3) (T := TX3) (N := 18) hx hb hts kin_X3_admit_X3 hown hK hP 0 rfl rfl 12 (by decide) (hts _ kw_X3_admit__fieldLink_RX3_102_ActHouse_actCount_I_) (fun _ h9 => h9) rfl dX3_admit_99 ?_
      refine lv_iconst (v := 1) hx hb dX3_admit_102 (by decide) ?_
      refine lv_iadd hx hb dX3_admit_103 ?_
      refine W.eq (g2 := F0 m 104 ls [.int 1, .ref h]) (by first | rfl | (congr 2; decide)) ?_
      refine va_put (D := D) (ci := 3) (v := .int 1) (ty := .int) (C := RX3) (T := TX3) (N := 18) hx hb hts kin_X3_admit_X3 tyX3 tyX3_ok nmX3 hown hK hP hD hS 0 rfl rfl 12 (by decide) (hts _ kw_X3_admit__fieldLink_RX3_102_ActHouse_actCount_I_) (fun _ h9 => h9) rfl (by decide +kernel) rfl rfl (Nat.le_of_ble_eq_true rfl) dX3_admit_104 (fun H locs hP hD hS => ?_)
      have hP : va_P D vwCl [(h, .inr (3, [.ref xprogramSteps, .ref xprogramLengths, .ref xlimits, .ref xfloors, .ref xvalues, .ref xacts, .ref xorder, .ref xdoneRow, .ref xrunning, .ref xbegunOfClass, .ref xbook, .ref xwaits, .int 1, .int 0, .int 0, .int 0, .int 0, .int 0])), (xacts, .inl (cO, 80, .inr (.inr (.inr (.inr (va_up (fun _ => none) (0 : Int32).toNatClampNeg (some q23))))))), (xorder, .inl (cI, 80, .inl (upd (fun _ => 0) (0 : Int32).toNatClampNeg 0))), (q23, .inr (0, [.int x, .int y, .int z, .int w, .ref bsteps_2, .ref blocks_2, .ref bwritten_2, .ref bgives_2, .ref btakes_2, .ref bqueue_2, .int 0, .int 0, .int 0, .int 0, .int 0, .int (-1), .int (-1), .int (-1), .int (-1), .int 0])), (bsteps_2, .inl (cI, 12, .inl (fun _ => 0))), (blocks_2, .inl (cI, 24, .inl (fun _ => 0))), (bwritten_2, .inl (cI, 24, .inl (fun _ => 0))), (bgives_2, .inl (cI, 8, .inl (fun _ => 0))), (btakes_2, .inl (cI, 8, .inl (fun _ => 0))), (bqueue_2, .inl (cI, 12, .inl (fun _ => 0)))] H := hP
      have hD : va_D A [(h, .inr (3, [.ref xprogramSteps, .ref xprogramLengths, .ref xlimits, .ref xfloors, .ref xvalues, .ref xacts, .ref xorder, .ref xdoneRow, .ref xrunning, .ref xbegunOfClass, .ref xbook, .ref xwaits, .int 1, .int 0, .int 0, .int 0, .int 0, .int 0])), (xacts, .inl (cO, 80, .inr (.inr (.inr (.inr (va_up (fun _ => none) (0 : Int32).toNatClampNeg (some q23))))))), (xorder, .inl (cI, 80, .inl (upd (fun _ => 0) (0 : Int32).toNatClampNeg 0))), (q23, .inr (0, [.int x, .int y, .int z, .int w, .ref bsteps_2, .ref blocks_2, .ref bwritten_2, .ref bgives_2, .ref btakes_2, .ref bqueue_2, .int 0, .int 0, .int 0, .int 0, .int 0, .int (-1), .int (-1), .int (-1), .int (-1), .int 0])), (bsteps_2, .inl (cI, 12, .inl (fun _ => 0))), (blocks_2, .inl (cI, 24, .inl (fun _ => 0))), (bwritten_2, .inl (cI, 24, .inl (fun _ => 0))), (bgives_2, .inl (cI, 8, .inl (fun _ => 0))), (btakes_2, .inl (cI, 8, .inl (fun _ => 0))), (bqueue_2, .inl (cI, 12, .inl (fun _ => 0)))] := hD
      refine lv_iload hx hb dX3_admit_107 (lv_at hl 1 rfl) ?_
      have hP := hP.sub (ws' := []) [] rfl
      have hD := hD.sub (ws' := []) [] (by decide) rfl
      have hK := hK.sub (tys' := [(cI, .int), (cO, .object RX0)]) [0, 1] rfl
      refine W.widen (k := 7) (n := 108) (by decide) (by decide) ?_
      exact W.iret (v := 0) hx hb hr (fun t ht hW => ⟨⟨0, ([], [(cI, .int), (cO, .object RX0)]), rfl, ⟨rfl, rfl⟩, ⟨by rw [ht]; exact hP, va_K.moved hW.alike hK, hD⟩⟩, hS.F ht⟩) hS.2.2 dX3_admit_109
    · skip
      exact absurd c3 (by decide)
  · skip
    exact absurd c1 (by decide)
set_option maxHeartbeats 4000000 in
set_option maxRecDepth 100000 in
theorem c_X3_act {l : Launch} {D : va_G} {sz : Nat} {h : Nat} {xprogramSteps : Nat} {xprogramLengths : Nat} {xlimits : Nat} {xfloors : Nat} {xvalues : Nat} {xacts : Nat} {xorder : Nat} {xdoneRow : Nat} {xrunning : Nat} {xbegunOfClass : Nat} {xbook : Nat} {xwaits : Nat} {x : Int32} {y : Int32} {z : Int32} {cI : ClassId} {cO : ClassId}  : Met l yX3_act wsX3_act ({ frames := 3, cells := 7, slots := 108, locals := 62 }) (va_Pc [.ref h, .int x, .int y, .int z] (k_Pre D [(cI, .int), (cO, .object RX0)] [(h, .inr (3, [.ref xprogramSteps, .ref xprogramLengths, .ref xlimits, .ref xfloors, .ref xvalues, .ref xacts, .ref xorder, .ref xdoneRow, .ref xrunning, .ref xbegunOfClass, .ref xbook, .ref xwaits, .int 0, .int 0, .int 0, .int 0, .int 0, .int 0])), (xacts, .inl (cO, 80, .inr (.inr (.inr (.inr (fun _ => none)))))), (xorder, .inl (cI, 80, .inl (fun _ => 0)))] sz)) (va_Qi (fun (r : Int32) (u : va_W × List (ClassId × FieldType)) => (r = 0 ∧ u = ([], [(cI, .int), (cO, .object RX0)]) ∧ 0 ≤ x.toInt ∧ x.toInt < 8 ∧ 0 ≤ y.toInt ∧ y.toInt < 4 ∧ 0 ≤ z.toInt ∧ z.toInt < 10) ∨ (r = (-1) ∧ u = ([], [(cI, .int), (cO, .object RX0)]) ∧ (x.toInt < 0 ∨ 8 ≤ x.toInt ∨ y.toInt < 0 ∨ 4 ≤ y.toInt ∨ z.toInt < 0 ∨ 10 ≤ z.toInt))) (k_B D (va_A [(h, .inr (3, [.ref xprogramSteps, .ref xprogramLengths, .ref xlimits, .ref xfloors, .ref xvalues, .ref xacts, .ref xorder, .ref xdoneRow, .ref xrunning, .ref xbegunOfClass, .ref xbook, .ref xwaits, .int 0, .int 0, .int 0, .int 0, .int 0, .int 0])), (xacts, .inl (cO, 80, .inr (.inr (.inr (.inr (fun _ => none)))))), (xorder, .inl (cI, 80, .inl (fun _ => 0)))] sz)) (va_A [(h, .inr (3, [.ref xprogramSteps, .ref xprogramLengths, .ref xlimits, .ref xfloors, .ref xvalues, .ref xacts, .ref xorder, .ref xdoneRow, .ref xrunning, .ref xbegunOfClass, .ref xbook, .ref xwaits, .int 0, .int 0, .int 0, .int 0, .int 0, .int 0])), (xacts, .inl (cO, 80, .inr (.inr (.inr (.inr (fun _ => none)))))), (xorder, .inl (cI, 80, .inl (fun _ => 0)))] sz)) 7 108 (va_A [(h, .inr (3, [.ref xprogramSteps, .ref xprogramLengths, .ref xlimits, .ref xfloors, .ref xvalues, .ref xacts, .ref xorder, .ref xdoneRow, .ref xrunning, .ref xbegunOfClass, .ref xbook, .ref xwaits, .int 0, .int 0, .int 0, .int 0, .int 0, .int 0])), (xacts, .inl (cO, 80, .inr (.inr (.inr (.inr (fun _ => none)))))), (xorder, .inl (cI, 80, .inl (fun _ => 0)))] sz) := by
  refine Met.ofW (cc := cX3_act) (maxL := 4) (ret := (some .int)) (by decide) rfl ?_
  intro p e s m args below meth c s₁ B hml hv
  obtain ⟨rfl, hsz, hP, hK, hD0⟩ := hv
  have hx := B.exec
  have hb := B.bytes
  have hr := B.returns
  have hts := atoms_spec (ws := wsX3_act) B.pre
  have hown : s.vm.findClass RX3 = some m.cls := findClass_of_methodNamed B.named
  have hlocks := B.notSynchronized
  subst hsz
  have hD := hD0.self (sz := s.heap.size)
  generalize hAe : va_A [(h, .inr (3, [.ref xprogramSteps, .ref xprogramLengths, .ref xlimits, .ref xfloors, .ref xvalues, .ref xacts, .ref xorder, .ref xdoneRow, .ref xrunning, .ref xbegunOfClass, .ref xbook, .ref xwaits, .int 0, .int 0, .int 0, .int 0, .int 0, .int 0])), (xacts, .inl (cO, 80, .inr (.inr (.inr (.inr (fun _ => none)))))), (xorder, .inl (cI, 80, .inl (fun _ => 0)))] s.heap.size = A at hD ⊢
  have hA : ∀ q : Nat, s.heap.size ≤ q → A q := fun q h => by rw [← hAe]; exact Or.inr h
  have hS : va_S A s.heap s.heap [] := va_S.rf
  have hl := lv_entry ([.ref h, .int x, .int y, .int z]) (n := 4) (Nat.le_of_ble_eq_true rfl)
  rw [lg_entry_eq]
  generalize (lg_sl ([.ref h, .int x, .int y, .int z]) ++ List.replicate (4 - (lg_sl ([.ref h, .int x, .int y, .int z])).length) Slot.unset).toArray = ls at hl ⊢
  have hl : lv_has ls 4 [(0, .ref h), (1, .int x), (2, .int y), (3, .int z)] := hl
  refine lv_iload_n hx hb dX3_act_0 rfl (lv_at hl 1 rfl) ?_
  refine lv_bipush (v := 8) hx hb dX3_act_1 (by decide) ?_
  have hPc := hP.sub (ws' := []) [] rfl
  have hDc := hD.sub (ws' := []) [] (by decide) rfl
  have hKc := hK.sub (tys' := []) [] rfl
  have hFc := va_free (wc := []) hD hS hA [] rfl
  refine va_calli (va_runS (As := [.int x, .int 8]) (rest := []) ⟨hx, hb, hml, hown, hts⟩ (c_X3_isBelow (l := l) (D := D) (x := x) (y := 8) ) (va_cwS 2 hts gX3_act_X3_isBelow rfl rfl rfl (by decide +kernel) ⟨Nat.le_of_ble_eq_true rfl, Nat.le_of_ble_eq_true rfl⟩) ⟨k_blind, fun U hU hW => ⟨rfl, k_pre hU hW hPc hKc hDc⟩⟩ rfl rfl hl.1 rfl (lv_room (Nat.le_of_ble_eq_true rfl)) dX3_act_3 ⟨by decide, by decide⟩) hS (fun q _ h => hFc q h) hFc (fun r1 u t H1 locs ht hvm hw hB hz1 hk1 hS => ?_)
  refine W.widen (k := 0) (n := 0) (Nat.le_refl _) (Nat.le_refl _) ?_
  have hl8 : (8 : Int32).toInt = 8 := by decide
  rcases hw with ⟨rfl, rfl, ha_1, hb_1⟩ | ⟨rfl, rfl, ha_1⟩
  · skip
    obtain ⟨hP1, hK1, hD1⟩ := hB
    rw [ht] at hP1
    have hK1 := va_K.moved hvm.symm hK1
    obtain ⟨hP, hD⟩ := va_join (wr := [(h, .inr (3, [.ref xprogramSteps, .ref xprogramLengths, .ref xlimits, .ref xfloors, .ref xvalues, .ref xacts, .ref xorder, .ref xdoneRow, .ref xrunning, .ref xbegunOfClass, .ref xbook, .ref xwaits, .int 0, .int 0, .int 0, .int 0, .int 0, .int 0])), (xacts, .inl (cO, 80, .inr (.inr (.inr (.inr (fun _ => none)))))), (xorder, .inl (cI, 80, .inl (fun _ => 0)))]) (w1 := []) hP hD [] [0, 1, 2] rfl rfl (by decide) (by decide) hk1 hFc hP1 hD1
    generalize H1 = H at hP hS ⊢
    have hP : va_P D vwCl [(h, .inr (3, [.ref xprogramSteps, .ref xprogramLengths, .ref xlimits, .ref xfloors, .ref xvalues, .ref xacts, .ref xorder, .ref xdoneRow, .ref xrunning, .ref xbegunOfClass, .ref xbook, .ref xwaits, .int 0, .int 0, .int 0, .int 0, .int 0, .int 0])), (xacts, .inl (cO, 80, .inr (.inr (.inr (.inr (fun _ => none)))))), (xorder, .inl (cI, 80, .inl (fun _ => 0)))] H := hP
    have hD : va_D A [(h, .inr (3, [.ref xprogramSteps, .ref xprogramLengths, .ref xlimits, .ref xfloors, .ref xvalues, .ref xacts, .ref xorder, .ref xdoneRow, .ref xrunning, .ref xbegunOfClass, .ref xbook, .ref xwaits, .int 0, .int 0, .int 0, .int 0, .int 0, .int 0])), (xacts, .inl (cO, 80, .inr (.inr (.inr (.inr (fun _ => none)))))), (xorder, .inl (cI, 80, .inl (fun _ => 0)))] := hD
    refine lv_if_eq (tgt := 26) hx hb dX3_act_6 (by decide) (fun c2 => ?_) (fun c2 => ?_)
    · skip
      exact absurd c2 (by decide)
    · skip
      refine lv_iload_n hx hb dX3_act_9 rfl (lv_at hl 2 rfl) ?_
      refine lv_iconst (v := 4) hx hb dX3_act_10 (by decide) ?_
      have hPc := hP.sub (ws' := []) [] rfl
      have hDc := hD.sub (ws' := []) [] (by decide) rfl
      have hKc := hK.sub (tys' := []) [] rfl
      have hFc := va_free (wc := []) hD hS hA [] rfl
      refine va_calli (va_runS (As := [.int y, .int 4]) (rest := []) ⟨hx, hb, hml, hown, hts⟩ (c_X3_isBelow (l := l) (D := D) (x := y) (y := 4) ) (va_cwS 2 hts gX3_act_X3_isBelow rfl rfl rfl (by decide +kernel) ⟨Nat.le_of_ble_eq_true rfl, Nat.le_of_ble_eq_true rfl⟩) ⟨k_blind, fun U hU hW => ⟨rfl, k_pre hU hW hPc hKc hDc⟩⟩ rfl rfl hl.1 rfl (lv_room (Nat.le_of_ble_eq_true rfl)) dX3_act_11 ⟨by decide, by decide⟩) hS (fun q _ h => hFc q h) hFc (fun r3 u t H1 locs ht hvm hw hB hz1 hk1 hS => ?_)
      refine W.widen (k := 0) (n := 0) (Nat.le_refl _) (Nat.le_refl _) ?_
      have hl4 : (4 : Int32).toInt = 4 := by decide
      rcases hw with ⟨rfl, rfl, ha_3, hb_3⟩ | ⟨rfl, rfl, ha_3⟩
      · skip
        obtain ⟨hP1, hK1, hD1⟩ := hB
        rw [ht] at hP1
        have hK1 := va_K.moved hvm.symm hK1
        obtain ⟨hP, hD⟩ := va_join (wr := [(h, .inr (3, [.ref xprogramSteps, .ref xprogramLengths, .ref xlimits, .ref xfloors, .ref xvalues, .ref xacts, .ref xorder, .ref xdoneRow, .ref xrunning, .ref xbegunOfClass, .ref xbook, .ref xwaits, .int 0, .int 0, .int 0, .int 0, .int 0, .int 0])), (xacts, .inl (cO, 80, .inr (.inr (.inr (.inr (fun _ => none)))))), (xorder, .inl (cI, 80, .inl (fun _ => 0)))]) (w1 := []) hP hD [] [0, 1, 2] rfl rfl (by decide) (by decide) hk1 hFc hP1 hD1
        generalize H1 = H at hP hS ⊢
        have hP : va_P D vwCl [(h, .inr (3, [.ref xprogramSteps, .ref xprogramLengths, .ref xlimits, .ref xfloors, .ref xvalues, .ref xacts, .ref xorder, .ref xdoneRow, .ref xrunning, .ref xbegunOfClass, .ref xbook, .ref xwaits, .int 0, .int 0, .int 0, .int 0, .int 0, .int 0])), (xacts, .inl (cO, 80, .inr (.inr (.inr (.inr (fun _ => none)))))), (xorder, .inl (cI, 80, .inl (fun _ => 0)))] H := hP
        have hD : va_D A [(h, .inr (3, [.ref xprogramSteps, .ref xprogramLengths, .ref xlimits, .ref xfloors, .ref xvalues, .ref xacts, .ref xorder, .ref xdoneRow, .ref xrunning, .ref xbegunOfClass, .ref xbook, .ref xwaits, .int 0, .int 0, .int 0, .int 0, .int 0, .int 0])), (xacts, .inl (cO, 80, .inr (.inr (.inr (.inr (fun _ => none)))))), (xorder, .inl (cI, 80, .inl (fun _ => 0)))] := hD
        refine lv_if_eq (tgt := 26) hx hb dX3_act_14 (by decide) (fun c4 => ?_) (fun c4 => ?_)
        · skip
          exact absurd c4 (by decide)
        · skip
          refine lv_iload_n hx hb dX3_act_17 rfl (lv_at hl 3 rfl) ?_
          refine lv_bipush (v := 10) hx hb dX3_act_18 (by decide) ?_
          have hPc := hP.sub (ws' := []) [] rfl
          have hDc := hD.sub (ws' := []) [] (by decide) rfl
          have hKc := hK.sub (tys' := []) [] rfl
          have hFc := va_free (wc := []) hD hS hA [] rfl
          refine va_calli (va_runS (As := [.int z, .int 10]) (rest := []) ⟨hx, hb, hml, hown, hts⟩ (c_X3_isBelow (l := l) (D := D) (x := z) (y := 10) ) (va_cwS 2 hts gX3_act_X3_isBelow rfl rfl rfl (by decide +kernel) ⟨Nat.le_of_ble_eq_true rfl, Nat.le_of_ble_eq_true rfl⟩) ⟨k_blind, fun U hU hW => ⟨rfl, k_pre hU hW hPc hKc hDc⟩⟩ rfl rfl hl.1 rfl (lv_room (Nat.le_of_ble_eq_true rfl)) dX3_act_20 ⟨by decide, by decide⟩) hS (fun q _ h => hFc q h) hFc (fun r5 u t H1 locs ht hvm hw hB hz1 hk1 hS => ?_)
          refine W.widen (k := 0) (n := 0) (Nat.le_refl _) (Nat.le_refl _) ?_
          have hl10 : (10 : Int32).toInt = 10 := by decide
          rcases hw with ⟨rfl, rfl, ha_5, hb_5⟩ | ⟨rfl, rfl, ha_5⟩
          · skip
            obtain ⟨hP1, hK1, hD1⟩ := hB
            rw [ht] at hP1
            have hK1 := va_K.moved hvm.symm hK1
            obtain ⟨hP, hD⟩ := va_join (wr := [(h, .inr (3, [.ref xprogramSteps, .ref xprogramLengths, .ref xlimits, .ref xfloors, .ref xvalues, .ref xacts, .ref xorder, .ref xdoneRow, .ref xrunning, .ref xbegunOfClass, .ref xbook, .ref xwaits, .int 0, .int 0, .int 0, .int 0, .int 0, .int 0])), (xacts, .inl (cO, 80, .inr (.inr (.inr (.inr (fun _ => none)))))), (xorder, .inl (cI, 80, .inl (fun _ => 0)))]) (w1 := []) hP hD [] [0, 1, 2] rfl rfl (by decide) (by decide) hk1 hFc hP1 hD1
            generalize H1 = H at hP hS ⊢
            have hP : va_P D vwCl [(h, .inr (3, [.ref xprogramSteps, .ref xprogramLengths, .ref xlimits, .ref xfloors, .ref xvalues, .ref xacts, .ref xorder, .ref xdoneRow, .ref xrunning, .ref xbegunOfClass, .ref xbook, .ref xwaits, .int 0, .int 0, .int 0, .int 0, .int 0, .int 0])), (xacts, .inl (cO, 80, .inr (.inr (.inr (.inr (fun _ => none)))))), (xorder, .inl (cI, 80, .inl (fun _ => 0)))] H := hP
            have hD : va_D A [(h, .inr (3, [.ref xprogramSteps, .ref xprogramLengths, .ref xlimits, .ref xfloors, .ref xvalues, .ref xacts, .ref xorder, .ref xdoneRow, .ref xrunning, .ref xbegunOfClass, .ref xbook, .ref xwaits, .int 0, .int 0, .int 0, .int 0, .int 0, .int 0])), (xacts, .inl (cO, 80, .inr (.inr (.inr (.inr (fun _ => none)))))), (xorder, .inl (cI, 80, .inl (fun _ => 0)))] := hD
            refine lv_if_ne (tgt := 28) hx hb dX3_act_23 (by decide) (fun c6 => ?_) (fun c6 => ?_)
            · skip
              refine lv_aload_n hx hb dX3_act_28 rfl (lv_at hl 0 rfl) ?_
              refine lv_iload_n hx hb dX3_act_29 rfl (lv_at hl 1 rfl) ?_
              refine lv_iload_n hx hb dX3_act_30 rfl (lv_at hl 2 rfl) ?_
              refine lv_iload_n hx hb dX3_act_31 rfl (lv_at hl 3 rfl) ?_
              refine lv_iconst (v := (-1)) hx hb dX3_act_32 (by decide) ?_
              have hPc := hP.sub (ws' := [(h, .inr (3, [.ref xprogramSteps, .ref xprogramLengths, .ref xlimits, .ref xfloors, .ref xvalues, .ref xacts, .ref xorder, .ref xdoneRow, .ref xrunning, .ref xbegunOfClass, .ref xbook, .ref xwaits, .int 0, .int 0, .int 0, .int 0, .int 0, .int 0])), (xacts, .inl (cO, 80, .inr (.inr (.inr (.inr (fun _ => none)))))), (xorder, .inl (cI, 80, .inl (fun _ => 0)))]) [0, 1, 2] rfl
              have hDc := hD.sub (ws' := [(h, .inr (3, [.ref xprogramSteps, .ref xprogramLengths, .ref xlimits, .ref xfloors, .ref xvalues, .ref xacts, .ref xorder, .ref xdoneRow, .ref xrunning, .ref xbegunOfClass, .ref xbook, .ref xwaits, .int 0, .int 0, .int 0, .int 0, .int 0, .int 0])), (xacts, .inl (cO, 80, .inr (.inr (.inr (.inr (fun _ => none)))))), (xorder, .inl (cI, 80, .inl (fun _ => 0)))]) [0, 1, 2] (by decide) rfl
              have hKc := hK.sub (tys' := [(cI, .int), (cO, .object RX0)]) [0, 1] rfl
              have hFc := va_free (wc := [(h, .inr (3, [.ref xprogramSteps, .ref xprogramLengths, .ref xlimits, .ref xfloors, .ref xvalues, .ref xacts, .ref xorder, .ref xdoneRow, .ref xrunning, .ref xbegunOfClass, .ref xbook, .ref xwaits, .int 0, .int 0, .int 0, .int 0, .int 0, .int 0])), (xacts, .inl (cO, 80, .inr (.inr (.inr (.inr (fun _ => none)))))), (xorder, .inl (cI, 80, .inl (fun _ => 0)))]) hD hS hA [0, 1, 2] rfl
              refine va_calli (va_runV (As := [.int x, .int y, .int z, .int (-1)]) (rest := []) ⟨hx, hb, hml, hown, hts⟩ (c_X3_admit (l := l) (D := D) (h := h) (xprogramSteps := xprogramSteps) (xprogramLengths := xprogramLengths) (xlimits := xlimits) (xfloors := xfloors) (xvalues := xvalues) (xacts := xacts) (xorder := xorder) (xdoneRow := xdoneRow) (xrunning := xrunning) (xbegunOfClass := xbegunOfClass) (xbook := xbook) (xwaits := xwaits) (x := x) (y := y) (z := z) (w := (-1)) (cI := cI) (cO := cO) ) (cwV 4 hts gX3_act_X3_admit rfl rfl rfl (by decide +kernel) ⟨Nat.le_of_ble_eq_true rfl, Nat.le_of_ble_eq_true rfl⟩) ⟨k_blind, va_recv hKc hPc (ci := 3) (q0 := 0) rfl rfl, fun U hU hW => ⟨rfl, k_pre hU hW hPc hKc hDc⟩⟩ rfl rfl hl.1 rfl (lv_room (Nat.le_of_ble_eq_true rfl)) dX3_act_33 ⟨by decide, by decide⟩) hS (fun q _ h => hFc q h) hFc (fun r7 u t H1 locs ht hvm hw hB hz1 hk1 hS => ?_)
              refine W.widen (k := 7) (n := 108) (by decide) (by decide) ?_
              have hlm1 : ((-1) : Int32).toInt = -1 := by decide
              obtain ⟨rfl, rfl⟩ := hw
              obtain ⟨hP1, hK1, hD1⟩ := hB
              rw [ht] at hP1
              have hK1 := va_K.moved hvm.symm hK1
              obtain ⟨hP, hD⟩ := va_join (wr := []) (w1 := []) hP hD [0, 1, 2] [] rfl rfl (by decide) (by decide) hk1 hFc hP1 hD1
              generalize H1 = H at hP hS ⊢
              have hP : va_P D vwCl [] H := hP
              have hD : va_D A [] := hD
              have hP := hP.sub (ws' := []) [] rfl
              have hD := hD.sub (ws' := []) [] (by decide) rfl
              have hK := hK.sub (tys' := [(cI, .int), (cO, .object RX0)]) [0, 1] rfl
              refine W.widen (k := 7) (n := 108) (by decide) (by decide) ?_
              exact W.iret (v := 0) hx hb hr (fun t ht hW => ⟨⟨0, ([], [(cI, .int), (cO, .object RX0)]), rfl, Or.inl ⟨rfl, rfl, (by omega), (by omega), (by omega), (by omega), (by omega), (by omega)⟩, ⟨by rw [ht]; exact hP, va_K.moved hW.alike hK, hD⟩⟩, hS.F ht⟩) hS.2.2 dX3_act_36
            · skip
              exact absurd c6 (by decide)
          · skip
            obtain ⟨hP1, hK1, hD1⟩ := hB
            rw [ht] at hP1
            have hK1 := va_K.moved hvm.symm hK1
            obtain ⟨hP, hD⟩ := va_join (wr := [(h, .inr (3, [.ref xprogramSteps, .ref xprogramLengths, .ref xlimits, .ref xfloors, .ref xvalues, .ref xacts, .ref xorder, .ref xdoneRow, .ref xrunning, .ref xbegunOfClass, .ref xbook, .ref xwaits, .int 0, .int 0, .int 0, .int 0, .int 0, .int 0])), (xacts, .inl (cO, 80, .inr (.inr (.inr (.inr (fun _ => none)))))), (xorder, .inl (cI, 80, .inl (fun _ => 0)))]) (w1 := []) hP hD [] [0, 1, 2] rfl rfl (by decide) (by decide) hk1 hFc hP1 hD1
            generalize H1 = H at hP hS ⊢
            have hP : va_P D vwCl [(h, .inr (3, [.ref xprogramSteps, .ref xprogramLengths, .ref xlimits, .ref xfloors, .ref xvalues, .ref xacts, .ref xorder, .ref xdoneRow, .ref xrunning, .ref xbegunOfClass, .ref xbook, .ref xwaits, .int 0, .int 0, .int 0, .int 0, .int 0, .int 0])), (xacts, .inl (cO, 80, .inr (.inr (.inr (.inr (fun _ => none)))))), (xorder, .inl (cI, 80, .inl (fun _ => 0)))] H := hP
            have hD : va_D A [(h, .inr (3, [.ref xprogramSteps, .ref xprogramLengths, .ref xlimits, .ref xfloors, .ref xvalues, .ref xacts, .ref xorder, .ref xdoneRow, .ref xrunning, .ref xbegunOfClass, .ref xbook, .ref xwaits, .int 0, .int 0, .int 0, .int 0, .int 0, .int 0])), (xacts, .inl (cO, 80, .inr (.inr (.inr (.inr (fun _ => none)))))), (xorder, .inl (cI, 80, .inl (fun _ => 0)))] := hD
            refine lv_if_ne (tgt := 28) hx hb dX3_act_23 (by decide) (fun c8 => ?_) (fun c8 => ?_)
            · skip
              exact absurd c8 (by decide)
            · skip
              refine lv_iconst (v := (-1)) hx hb dX3_act_26 (by decide) ?_
              have hP := hP.sub (ws' := []) [] rfl
              have hD := hD.sub (ws' := []) [] (by decide) rfl
              have hK := hK.sub (tys' := [(cI, .int), (cO, .object RX0)]) [0, 1] rfl
              refine W.widen (k := 7) (n := 108) (by decide) (by decide) ?_
              exact W.iret (v := (-1)) hx hb hr (fun t ht hW => ⟨⟨(-1), ([], [(cI, .int), (cO, .object RX0)]), rfl, Or.inr (⟨rfl, rfl, (by omega)⟩), ⟨by rw [ht]; exact hP, va_K.moved hW.alike hK, hD⟩⟩, hS.F ht⟩) hS.2.2 dX3_act_27
      · skip
        obtain ⟨hP1, hK1, hD1⟩ := hB
        rw [ht] at hP1
        have hK1 := va_K.moved hvm.symm hK1
        obtain ⟨hP, hD⟩ := va_join (wr := [(h, .inr (3, [.ref xprogramSteps, .ref xprogramLengths, .ref xlimits, .ref xfloors, .ref xvalues, .ref xacts, .ref xorder, .ref xdoneRow, .ref xrunning, .ref xbegunOfClass, .ref xbook, .ref xwaits, .int 0, .int 0, .int 0, .int 0, .int 0, .int 0])), (xacts, .inl (cO, 80, .inr (.inr (.inr (.inr (fun _ => none)))))), (xorder, .inl (cI, 80, .inl (fun _ => 0)))]) (w1 := []) hP hD [] [0, 1, 2] rfl rfl (by decide) (by decide) hk1 hFc hP1 hD1
        generalize H1 = H at hP hS ⊢
        have hP : va_P D vwCl [(h, .inr (3, [.ref xprogramSteps, .ref xprogramLengths, .ref xlimits, .ref xfloors, .ref xvalues, .ref xacts, .ref xorder, .ref xdoneRow, .ref xrunning, .ref xbegunOfClass, .ref xbook, .ref xwaits, .int 0, .int 0, .int 0, .int 0, .int 0, .int 0])), (xacts, .inl (cO, 80, .inr (.inr (.inr (.inr (fun _ => none)))))), (xorder, .inl (cI, 80, .inl (fun _ => 0)))] H := hP
        have hD : va_D A [(h, .inr (3, [.ref xprogramSteps, .ref xprogramLengths, .ref xlimits, .ref xfloors, .ref xvalues, .ref xacts, .ref xorder, .ref xdoneRow, .ref xrunning, .ref xbegunOfClass, .ref xbook, .ref xwaits, .int 0, .int 0, .int 0, .int 0, .int 0, .int 0])), (xacts, .inl (cO, 80, .inr (.inr (.inr (.inr (fun _ => none)))))), (xorder, .inl (cI, 80, .inl (fun _ => 0)))] := hD
        refine lv_if_eq (tgt := 26) hx hb dX3_act_14 (by decide) (fun c9 => ?_) (fun c9 => ?_)
        · skip
          refine lv_iconst (v := (-1)) hx hb dX3_act_26 (by decide) ?_
          have hP := hP.sub (ws' := []) [] rfl
          have hD := hD.sub (ws' := []) [] (by decide) rfl
          have hK := hK.sub (tys' := [(cI, .int), (cO, .object RX0)]) [0, 1] rfl
          refine W.widen (k := 7) (n := 108) (by decide) (by decide) ?_
          exact W.iret (v := (-1)) hx hb hr (fun t ht hW => ⟨⟨(-1), ([], [(cI, .int), (cO, .object RX0)]), rfl, Or.inr (⟨rfl, rfl, (by omega)⟩), ⟨by rw [ht]; exact hP, va_K.moved hW.alike hK, hD⟩⟩, hS.F ht⟩) hS.2.2 dX3_act_27
        · skip
          exact absurd c9 (by decide)
  · skip
    obtain ⟨hP1, hK1, hD1⟩ := hB
    rw [ht] at hP1
    have hK1 := va_K.moved hvm.symm hK1
    obtain ⟨hP, hD⟩ := va_join (wr := [(h, .inr (3, [.ref xprogramSteps, .ref xprogramLengths, .ref xlimits, .ref xfloors, .ref xvalues, .ref xacts, .ref xorder, .ref xdoneRow, .ref xrunning, .ref xbegunOfClass, .ref xbook, .ref xwaits, .int 0, .int 0, .int 0, .int 0, .int 0, .int 0])), (xacts, .inl (cO, 80, .inr (.inr (.inr (.inr (fun _ => none)))))), (xorder, .inl (cI, 80, .inl (fun _ => 0)))]) (w1 := []) hP hD [] [0, 1, 2] rfl rfl (by decide) (by decide) hk1 hFc hP1 hD1
    generalize H1 = H at hP hS ⊢
    have hP : va_P D vwCl [(h, .inr (3, [.ref xprogramSteps, .ref xprogramLengths, .ref xlimits, .ref xfloors, .ref xvalues, .ref xacts, .ref xorder, .ref xdoneRow, .ref xrunning, .ref xbegunOfClass, .ref xbook, .ref xwaits, .int 0, .int 0, .int 0, .int 0, .int 0, .int 0])), (xacts, .inl (cO, 80, .inr (.inr (.inr (.inr (fun _ => none)))))), (xorder, .inl (cI, 80, .inl (fun _ => 0)))] H := hP
    have hD : va_D A [(h, .inr (3, [.ref xprogramSteps, .ref xprogramLengths, .ref xlimits, .ref xfloors, .ref xvalues, .ref xacts, .ref xorder, .ref xdoneRow, .ref xrunning, .ref xbegunOfClass, .ref xbook, .ref xwaits, .int 0, .int 0, .int 0, .int 0, .int 0, .int 0])), (xacts, .inl (cO, 80, .inr (.inr (.inr (.inr (fun _ => none)))))), (xorder, .inl (cI, 80, .inl (fun _ => 0)))] := hD
    refine lv_if_eq (tgt := 26) hx hb dX3_act_6 (by decide) (fun c10 => ?_) (fun c10 => ?_)
    · skip
      refine lv_iconst (v := (-1)) hx hb dX3_act_26 (by decide) ?_
      have hP := hP.sub (ws' := []) [] rfl
      have hD := hD.sub (ws' := []) [] (by decide) rfl
      have hK := hK.sub (tys' := [(cI, .int), (cO, .object RX0)]) [0, 1] rfl
      refine W.widen (k := 7) (n := 108) (by decide) (by decide) ?_
      exact W.iret (v := (-1)) hx hb hr (fun t ht hW => ⟨⟨(-1), ([], [(cI, .int), (cO, .object RX0)]), rfl, Or.inr (⟨rfl, rfl, (by omega)⟩), ⟨by rw [ht]; exact hP, va_K.moved hW.alike hK, hD⟩⟩, hS.F ht⟩) hS.2.2 dX3_act_27
    · skip
      exact absurd c10 (by decide)
set_option maxRecDepth 100000 in
theorem kw_X3_gatherRunning__fieldLink_RX3_194_ActHouse_runningCount_I_ : (.fieldLink RX3 194 "ActHouse" "runningCount" "I" : Cond) ∈ wsX3_gatherRunning := by decide +kernel
set_option maxRecDepth 100000 in
theorem kin_X3_gatherRunning_X3 : ∀ w ∈ u_ws RX3 TX3 18, w ∈ wsX3_gatherRunning := by decide +kernel
set_option maxRecDepth 100000 in
theorem kw_X3_gatherRunning__fieldLink_RX3_102_ActHouse_actCount_I_ : (.fieldLink RX3 102 "ActHouse" "actCount" "I" : Cond) ∈ wsX3_gatherRunning := by decide +kernel
set_option maxHeartbeats 4000000 in
set_option maxRecDepth 100000 in
theorem c_X3_gatherRunning {l : Launch} {D : va_G} {sz : Nat} {h : Nat} {xprogramSteps : Nat} {xprogramLengths : Nat} {xlimits : Nat} {xfloors : Nat} {xvalues : Nat} {xacts : Nat} {xorder : Nat} {xdoneRow : Nat} {xrunning : Nat} {xbegunOfClass : Nat} {xbook : Nat} {xwaits : Nat} {nw : Int32}  : Met l yX3_gatherRunning wsX3_gatherRunning ({ frames := 0, cells := 0, slots := 0, locals := 0 }) (va_Pc [.ref h] (k_Pre D [] [(h, .inr (3, [.ref xprogramSteps, .ref xprogramLengths, .ref xlimits, .ref xfloors, .ref xvalues, .ref xacts, .ref xorder, .ref xdoneRow, .ref xrunning, .ref xbegunOfClass, .ref xbook, .ref xwaits, .int 0, .int 0, .int 0, .int nw, .int 0, .int 0]))] sz)) (va_Qv (fun (u : va_W × List (ClassId × FieldType)) => (u = ([(h, .inr (3, [.ref xprogramSteps, .ref xprogramLengths, .ref xlimits, .ref xfloors, .ref xvalues, .ref xacts, .ref xorder, .ref xdoneRow, .ref xrunning, .ref xbegunOfClass, .ref xbook, .ref xwaits, .int 0, .int 0, .int 0, .int nw, .int 0, .int 0]))], []))) (k_B D (va_A [(h, .inr (3, [.ref xprogramSteps, .ref xprogramLengths, .ref xlimits, .ref xfloors, .ref xvalues, .ref xacts, .ref xorder, .ref xdoneRow, .ref xrunning, .ref xbegunOfClass, .ref xbook, .ref xwaits, .int 0, .int 0, .int 0, .int nw, .int 0, .int 0]))] sz)) (va_A [(h, .inr (3, [.ref xprogramSteps, .ref xprogramLengths, .ref xlimits, .ref xfloors, .ref xvalues, .ref xacts, .ref xorder, .ref xdoneRow, .ref xrunning, .ref xbegunOfClass, .ref xbook, .ref xwaits, .int 0, .int 0, .int 0, .int nw, .int 0, .int 0]))] sz)) 0 0 (va_A [(h, .inr (3, [.ref xprogramSteps, .ref xprogramLengths, .ref xlimits, .ref xfloors, .ref xvalues, .ref xacts, .ref xorder, .ref xdoneRow, .ref xrunning, .ref xbegunOfClass, .ref xbook, .ref xwaits, .int 0, .int 0, .int 0, .int nw, .int 0, .int 0]))] sz) := by
  refine Met.ofW (cc := cX3_gatherRunning) (maxL := 2) (ret := none) (by decide) rfl ?_
  intro p e s m args below meth c s₁ B hml hv
  obtain ⟨rfl, hsz, hP, hK, hD0⟩ := hv
  have hx := B.exec
  have hb := B.bytes
  have hr := B.returns
  have hts := atoms_spec (ws := wsX3_gatherRunning) B.pre
  have hown : s.vm.findClass RX3 = some m.cls := findClass_of_methodNamed B.named
  have hlocks := B.notSynchronized
  subst hsz
  have hD := hD0.self (sz := s.heap.size)
  generalize hAe : va_A [(h, .inr (3, [.ref xprogramSteps, .ref xprogramLengths, .ref xlimits, .ref xfloors, .ref xvalues, .ref xacts, .ref xorder, .ref xdoneRow, .ref xrunning, .ref xbegunOfClass, .ref xbook, .ref xwaits, .int 0, .int 0, .int 0, .int nw, .int 0, .int 0]))] s.heap.size = A at hD ⊢
  have hA : ∀ q : Nat, s.heap.size ≤ q → A q := fun q h => by rw [← hAe]; exact Or.inr h
  have hS : va_S A s.heap s.heap [] := va_S.rf
  have hl := lv_entry ([.ref h]) (n := 2) (Nat.le_of_ble_eq_true rfl)
  rw [lg_entry_eq]
  generalize (lg_sl ([.ref h]) ++ List.replicate (2 - (lg_sl ([.ref h])).length) Slot.unset).toArray = ls at hl ⊢
  have hl : lv_has ls 2 [(0, .ref h)] := hl
  refine lv_aload_n hx hb dX3_gatherRunning_0 rfl (lv_at hl 0 rfl) ?_
  refine lv_iconst (v := 0) hx hb dX3_gatherRunning_1 (by decide) ?_
  refine va_put (D := D) (ci := 3) (v := .int 0) (ty := .int) (C := RX3) (T := TX3) (N := 18) hx hb hts kin_X3_gatherRunning_X3 tyX3 tyX3_ok nmX3 hown hK hP hD hS 0 rfl rfl 14 (by decide) (hts _ kw_X3_gatherRunning__fieldLink_RX3_194_ActHouse_runningCount_I_) (fun _ h9 => h9) rfl (by decide +kernel) rfl rfl (Nat.le_of_ble_eq_true rfl) dX3_gatherRunning_2 (fun H locs hP hD hS => ?_)
  have hP : va_P D vwCl [(h, .inr (3, [.ref xprogramSteps, .ref xprogramLengths, .ref xlimits, .ref xfloors, .ref xvalues, .ref xacts, .ref xorder, .ref xdoneRow, .ref xrunning, .ref xbegunOfClass, .ref xbook, .ref xwaits, .int 0, .int 0, .int 0, .int nw, .int 0, .int 0]))] H := hP
  have hD : va_D A [(h, .inr (3, [.ref xprogramSteps, .ref xprogramLengths, .ref xlimits, .ref xfloors, .ref xvalues, .ref xacts, .ref xorder, .ref xdoneRow, .ref xrunning, .ref xbegunOfClass, .ref xbook, .ref xwaits, .int 0, .int 0, .int 0, .int nw, .int 0, .int 0]))] := hD
  refine lv_iconst (v := 0) hx hb dX3_gatherRunning_5 (by decide) ?_
  refine lv_istore_n (lv' := [(1, .int 0), (0, .ref h)]) hx hb dX3_gatherRunning_6 rfl hl (by decide) rfl (fun ls hl => ?_)
  refine lv_iload_n hx hb dX3_gatherRunning_7 rfl (lv_at hl 0 rfl) ?_
  refine lv_aload_n hx hb dX3_gatherRunning_8 rfl (lv_at hl 1 rfl) ?_
  refine va_get (D := D) (ci := 3) (v := .int 0) (C := RX3) (T := TX3) (N := 18) hx hb hts kin_X3_gatherRunning_X3 hown hK hP 0 rfl rfl 12 (by decide) (hts _ kw_X3_gatherRunning__fieldLink_RX3_102_ActHouse_actCount_I_) (fun _ h9 => h9) rfl dX3_gatherRunning_9 ?_
  refine lv_icmp_ge (tgt := 73) hx hb dX3_gatherRunning_12 (by decide) (fun c1 => ?_) (fun c1 => ?_)
  · skip
    have hP := hP.sub (ws' := [(h, .inr (3, [.ref xprogramSteps, .ref xprogramLengths, .ref xlimits, .ref xfloors, .ref xvalues, .ref xacts, .ref xorder, .ref xdoneRow, .ref xrunning, .ref xbegunOfClass, .ref xbook, .ref xwaits, .int 0, .int 0, .int 0, .int nw, .int 0, .int 0]))]) [0] rfl
    have hD := hD.sub (ws' := [(h, .inr (3, [.ref xprogramSteps, .ref xprogramLengths, .ref xlimits, .ref xfloors, .ref xvalues, .ref xacts, .ref xorder, .ref xdoneRow, .ref xrunning, .ref xbegunOfClass, .ref xbook, .ref xwaits, .int 0, .int 0, .int 0, .int nw, .int 0, .int 0]))]) [0] (by decide) rfl
    have hK := hK.sub (tys' := []) [] rfl
    refine W.widen (k := 0) (n := 0) (by decide) (by decide) ?_
    exact W.vret hx hb hr (fun t ht hW => ⟨⟨([(h, .inr (3, [.ref xprogramSteps, .ref xprogramLengths, .ref xlimits, .ref xfloors, .ref xvalues, .ref xacts, .ref xorder, .ref xdoneRow, .ref xrunning, .ref xbegunOfClass, .ref xbook, .ref xwaits, .int 0, .int 0, .int 0, .int nw, .int 0, .int 0]))], []), rfl, rfl, ⟨by rw [ht]; exact hP, va_K.moved hW.alike hK, hD⟩⟩, hS.F ht⟩) hS.2.2 dX3_gatherRunning_73
  · skip
    exact absurd c1 (by decide)
set_option maxRecDepth 100000 in
theorem kw_X3_stepBegun__fieldLink_RX3_194_ActHouse_runningCount_I_ : (.fieldLink RX3 194 "ActHouse" "runningCount" "I" : Cond) ∈ wsX3_stepBegun := by decide +kernel
set_option maxRecDepth 100000 in
theorem kin_X3_stepBegun_X3 : ∀ w ∈ u_ws RX3 TX3 18, w ∈ wsX3_stepBegun := by decide +kernel
set_option maxHeartbeats 4000000 in
set_option maxRecDepth 100000 in
theorem c_X3_stepBegun {l : Launch} {D : va_G} {sz : Nat} {h : Nat} {xprogramSteps : Nat} {xprogramLengths : Nat} {xlimits : Nat} {xfloors : Nat} {xvalues : Nat} {xacts : Nat} {xorder : Nat} {xdoneRow : Nat} {xrunning : Nat} {xbegunOfClass : Nat} {xbook : Nat} {xwaits : Nat} {nw : Int32}  : Met l yX3_stepBegun wsX3_stepBegun ({ frames := 1, cells := 0, slots := 0, locals := 21 }) (va_Pc [.ref h] (k_Pre D [] [(h, .inr (3, [.ref xprogramSteps, .ref xprogramLengths, .ref xlimits, .ref xfloors, .ref xvalues, .ref xacts, .ref xorder, .ref xdoneRow, .ref xrunning, .ref xbegunOfClass, .ref xbook, .ref xwaits, .int 0, .int 0, .int 0, .int nw, .int 0, .int 0]))] sz)) (va_Qv (fun (u : va_W × List (ClassId × FieldType)) => (u = ([(h, .inr (3, [.ref xprogramSteps, .ref xprogramLengths, .ref xlimits, .ref xfloors, .ref xvalues, .ref xacts, .ref xorder, .ref xdoneRow, .ref xrunning, .ref xbegunOfClass, .ref xbook, .ref xwaits, .int 0, .int 0, .int 0, .int nw, .int 0, .int 0]))], []))) (k_B D (va_A [(h, .inr (3, [.ref xprogramSteps, .ref xprogramLengths, .ref xlimits, .ref xfloors, .ref xvalues, .ref xacts, .ref xorder, .ref xdoneRow, .ref xrunning, .ref xbegunOfClass, .ref xbook, .ref xwaits, .int 0, .int 0, .int 0, .int nw, .int 0, .int 0]))] sz)) (va_A [(h, .inr (3, [.ref xprogramSteps, .ref xprogramLengths, .ref xlimits, .ref xfloors, .ref xvalues, .ref xacts, .ref xorder, .ref xdoneRow, .ref xrunning, .ref xbegunOfClass, .ref xbook, .ref xwaits, .int 0, .int 0, .int 0, .int nw, .int 0, .int 0]))] sz)) 0 0 (va_A [(h, .inr (3, [.ref xprogramSteps, .ref xprogramLengths, .ref xlimits, .ref xfloors, .ref xvalues, .ref xacts, .ref xorder, .ref xdoneRow, .ref xrunning, .ref xbegunOfClass, .ref xbook, .ref xwaits, .int 0, .int 0, .int 0, .int nw, .int 0, .int 0]))] sz) := by
  refine Met.ofW (cc := cX3_stepBegun) (maxL := 2) (ret := none) (by decide) rfl ?_
  intro p e s m args below meth c s₁ B hml hv
  obtain ⟨rfl, hsz, hP, hK, hD0⟩ := hv
  have hx := B.exec
  have hb := B.bytes
  have hr := B.returns
  have hts := atoms_spec (ws := wsX3_stepBegun) B.pre
  have hown : s.vm.findClass RX3 = some m.cls := findClass_of_methodNamed B.named
  have hlocks := B.notSynchronized
  subst hsz
  have hD := hD0.self (sz := s.heap.size)
  generalize hAe : va_A [(h, .inr (3, [.ref xprogramSteps, .ref xprogramLengths, .ref xlimits, .ref xfloors, .ref xvalues, .ref xacts, .ref xorder, .ref xdoneRow, .ref xrunning, .ref xbegunOfClass, .ref xbook, .ref xwaits, .int 0, .int 0, .int 0, .int nw, .int 0, .int 0]))] s.heap.size = A at hD ⊢
  have hA : ∀ q : Nat, s.heap.size ≤ q → A q := fun q h => by rw [← hAe]; exact Or.inr h
  have hS : va_S A s.heap s.heap [] := va_S.rf
  have hl := lv_entry ([.ref h]) (n := 2) (Nat.le_of_ble_eq_true rfl)
  rw [lg_entry_eq]
  generalize (lg_sl ([.ref h]) ++ List.replicate (2 - (lg_sl ([.ref h])).length) Slot.unset).toArray = ls at hl ⊢
  have hl : lv_has ls 2 [(0, .ref h)] := hl
  refine lv_aload_n hx hb dX3_stepBegun_0 rfl (lv_at hl 0 rfl) ?_
  have hPc := hP.sub (ws' := [(h, .inr (3, [.ref xprogramSteps, .ref xprogramLengths, .ref xlimits, .ref xfloors, .ref xvalues, .ref xacts, .ref xorder, .ref xdoneRow, .ref xrunning, .ref xbegunOfClass, .ref xbook, .ref xwaits, .int 0, .int 0, .int 0, .int nw, .int 0, .int 0]))]) [0] rfl
  have hDc := hD.sub (ws' := [(h, .inr (3, [.ref xprogramSteps, .ref xprogramLengths, .ref xlimits, .ref xfloors, .ref xvalues, .ref xacts, .ref xorder, .ref xdoneRow, .ref xrunning, .ref xbegunOfClass, .ref xbook, .ref xwaits, .int 0, .int 0, .int 0, .int nw, .int 0, .int 0]))]) [0] (by decide) rfl
  have hKc := hK.sub (tys' := []) [] rfl
  have hFc := va_free (wc := [(h, .inr (3, [.ref xprogramSteps, .ref xprogramLengths, .ref xlimits, .ref xfloors, .ref xvalues, .ref xacts, .ref xorder, .ref xdoneRow, .ref xrunning, .ref xbegunOfClass, .ref xbook, .ref xwaits, .int 0, .int 0, .int 0, .int nw, .int 0, .int 0]))]) hD hS hA [0] rfl
  refine va_callv (va_runV (As := []) (rest := []) ⟨hx, hb, hml, hown, hts⟩ (c_X3_gatherRunning (l := l) (D := D) (h := h) (xprogramSteps := xprogramSteps) (xprogramLengths := xprogramLengths) (xlimits := xlimits) (xfloors := xfloors) (xvalues := xvalues) (xacts := xacts) (xorder := xorder) (xdoneRow := xdoneRow) (xrunning := xrunning) (xbegunOfClass := xbegunOfClass) (xbook := xbook) (xwaits := xwaits) (nw := nw) ) (cwV 0 hts gX3_stepBegun_X3_gatherRunning rfl rfl rfl (by decide +kernel) ⟨Nat.le_of_ble_eq_true rfl, Nat.le_of_ble_eq_true rfl⟩) ⟨k_blind, va_recv hKc hPc (ci := 3) (q0 := 0) rfl rfl, fun U hU hW => ⟨rfl, k_pre hU hW hPc hKc hDc⟩⟩ rfl rfl hl.1 rfl (lv_room (Nat.le_of_ble_eq_true rfl)) dX3_stepBegun_1 ⟨by decide, by decide⟩) hS (fun q _ h => hFc q h) hFc (fun u t H1 locs ht hvm hw hB hz1 hk1 hS => ?_)
  refine W.widen (k := 0) (n := 0) (Nat.le_refl _) (Nat.le_refl _) ?_
  obtain ⟨rfl⟩ := hw
  obtain ⟨hP1, hK1, hD1⟩ := hB
  rw [ht] at hP1
  have hK1 := va_K.moved hvm.symm hK1
  obtain ⟨hP, hD⟩ := va_join (wr := []) (w1 := [(h, .inr (3, [.ref xprogramSteps, .ref xprogramLengths, .ref xlimits, .ref xfloors, .ref xvalues, .ref xacts, .ref xorder, .ref xdoneRow, .ref xrunning, .ref xbegunOfClass, .ref xbook, .ref xwaits, .int 0, .int 0, .int 0, .int nw, .int 0, .int 0]))]) hP hD [0] [] rfl rfl (by decide) (by decide) hk1 hFc hP1 hD1
  generalize H1 = H at hP hS ⊢
  have hP : va_P D vwCl [(h, .inr (3, [.ref xprogramSteps, .ref xprogramLengths, .ref xlimits, .ref xfloors, .ref xvalues, .ref xacts, .ref xorder, .ref xdoneRow, .ref xrunning, .ref xbegunOfClass, .ref xbook, .ref xwaits, .int 0, .int 0, .int 0, .int nw, .int 0, .int 0]))] H := hP
  have hD : va_D A [(h, .inr (3, [.ref xprogramSteps, .ref xprogramLengths, .ref xlimits, .ref xfloors, .ref xvalues, .ref xacts, .ref xorder, .ref xdoneRow, .ref xrunning, .ref xbegunOfClass, .ref xbook, .ref xwaits, .int 0, .int 0, .int 0, .int nw, .int 0, .int 0]))] := hD
  refine lv_iconst (v := 0) hx hb dX3_stepBegun_4 (by decide) ?_
  refine lv_istore_n (lv' := [(1, .int 0), (0, .ref h)]) hx hb dX3_stepBegun_5 rfl hl (by decide) rfl (fun ls hl => ?_)
  refine lv_iload_n hx hb dX3_stepBegun_6 rfl (lv_at hl 0 rfl) ?_
  refine lv_aload_n hx hb dX3_stepBegun_7 rfl (lv_at hl 1 rfl) ?_
  refine va_get (D := D) (ci := 3) (v := .int 0) (C := RX3) (T := TX3) (N := 18) hx hb hts kin_X3_stepBegun_X3 hown hK hP 0 rfl rfl 14 (by decide) (hts _ kw_X3_stepBegun__fieldLink_RX3_194_ActHouse_runningCount_I_) (fun _ h9 => h9) rfl dX3_stepBegun_8 ?_
  refine lv_icmp_ge (tgt := 30) hx hb dX3_stepBegun_11 (by decide) (fun c2 => ?_) (fun c2 => ?_)
  · skip
    have hP := hP.sub (ws' := [(h, .inr (3, [.ref xprogramSteps, .ref xprogramLengths, .ref xlimits, .ref xfloors, .ref xvalues, .ref xacts, .ref xorder, .ref xdoneRow, .ref xrunning, .ref xbegunOfClass, .ref xbook, .ref xwaits, .int 0, .int 0, .int 0, .int nw, .int 0, .int 0]))]) [0] rfl
    have hD := hD.sub (ws' := [(h, .inr (3, [.ref xprogramSteps, .ref xprogramLengths, .ref xlimits, .ref xfloors, .ref xvalues, .ref xacts, .ref xorder, .ref xdoneRow, .ref xrunning, .ref xbegunOfClass, .ref xbook, .ref xwaits, .int 0, .int 0, .int 0, .int nw, .int 0, .int 0]))]) [0] (by decide) rfl
    have hK := hK.sub (tys' := []) [] rfl
    refine W.widen (k := 0) (n := 0) (by decide) (by decide) ?_
    exact W.vret hx hb hr (fun t ht hW => ⟨⟨([(h, .inr (3, [.ref xprogramSteps, .ref xprogramLengths, .ref xlimits, .ref xfloors, .ref xvalues, .ref xacts, .ref xorder, .ref xdoneRow, .ref xrunning, .ref xbegunOfClass, .ref xbook, .ref xwaits, .int 0, .int 0, .int 0, .int nw, .int 0, .int 0]))], []), rfl, rfl, ⟨by rw [ht]; exact hP, va_K.moved hW.alike hK, hD⟩⟩, hS.F ht⟩) hS.2.2 dX3_stepBegun_30
  · skip
    exact absurd c2 (by decide)
set_option maxRecDepth 100000 in
theorem kw_X2_clear__methodLink_RX2_18_Lib_Math_min_name : (.methodLink RX2 18 Lib.Math.min.name : Cond) ∈ wsX2_clear := by decide +kernel
set_option maxRecDepth 100000 in
theorem kw_X2_clear__static_Lib_Math_min_name : (.static Lib.Math.min.name : Cond) ∈ wsX2_clear := by decide +kernel
set_option maxRecDepth 100000 in
theorem kw_X2_clear__initialized_java_lang_Math_ : (.initialized "java/lang/Math" : Cond) ∈ wsX2_clear := by decide +kernel
set_option maxRecDepth 100000 in
theorem kw_X2_clear__code_Lib_Math_min_name_Lib_Math_min_code_2_some_int_ : (.code Lib.Math.min.name Lib.Math.min.code 2 (some .int) : Cond) ∈ wsX2_clear := by decide +kernel
set_option maxRecDepth 100000 in
theorem kw_X2_clear__fieldLink_RX2_24_ActHouse_Waits_many_I_ : (.fieldLink RX2 24 "ActHouse$Waits" "many" "I" : Cond) ∈ wsX2_clear := by decide +kernel
set_option maxRecDepth 100000 in
theorem kin_X2_clear_X2 : ∀ w ∈ u_ws RX2 TX2 3, w ∈ wsX2_clear := by decide +kernel
set_option maxRecDepth 100000 in
theorem kw_X2_clear__fieldLink_RX2_9_ActHouse_Waits_direct_J_ : (.fieldLink RX2 9 "ActHouse$Waits" "direct" "[J" : Cond) ∈ wsX2_clear := by decide +kernel
set_option maxHeartbeats 4000000 in
set_option maxRecDepth 100000 in
theorem c_X2_clear {l : Launch} {D : va_G} {sz : Nat} {wt : Nat} {dr : Nat} {rc : Nat} {fj : Nat → Int64} {cJ : ClassId}  : Met l yX2_clear wsX2_clear ({ frames := 1, cells := 0, slots := 0, locals := 24 }) (va_Pc [.ref wt, .int 0] (k_Pre D [(cJ, .long)] [(wt, .inr (2, [.ref dr, .ref rc, .int 0])), (dr, .inl (cJ, 36, .inr (.inl fj)))] sz)) (va_Qv (fun (u : va_W × List (ClassId × FieldType)) => (∃ (fk : Nat → Int64), u = ([(wt, .inr (2, [.ref dr, .ref rc, .int 0])), (dr, .inl (cJ, 36, .inr (.inl fk)))], [(cJ, .long)]))) (k_B D (va_A [(wt, .inr (2, [.ref dr, .ref rc, .int 0])), (dr, .inl (cJ, 36, .inr (.inl fj)))] sz)) (va_A [(wt, .inr (2, [.ref dr, .ref rc, .int 0])), (dr, .inl (cJ, 36, .inr (.inl fj)))] sz)) 0 0 (va_A [(wt, .inr (2, [.ref dr, .ref rc, .int 0])), (dr, .inl (cJ, 36, .inr (.inl fj)))] sz) := by
  refine Met.ofW (cc := cX2_clear) (maxL := 2) (ret := none) (by decide) rfl ?_
  intro p e s m args below meth c s₁ B hml hv
  obtain ⟨rfl, hsz, hP, hK, hD0⟩ := hv
  have hx := B.exec
  have hb := B.bytes
  have hr := B.returns
  have hts := atoms_spec (ws := wsX2_clear) B.pre
  have hown : s.vm.findClass RX2 = some m.cls := findClass_of_methodNamed B.named
  have hlocks := B.notSynchronized
  subst hsz
  have hD := hD0.self (sz := s.heap.size)
  generalize hAe : va_A [(wt, .inr (2, [.ref dr, .ref rc, .int 0])), (dr, .inl (cJ, 36, .inr (.inl fj)))] s.heap.size = A at hD ⊢
  have hA : ∀ q : Nat, s.heap.size ≤ q → A q := fun q h => by rw [← hAe]; exact Or.inr h
  have hS : va_S A s.heap s.heap [] := va_S.rf
  have hl := lv_entry ([.ref wt, .int 0]) (n := 2) (Nat.le_of_ble_eq_true rfl)
  rw [lg_entry_eq]
  generalize (lg_sl ([.ref wt, .int 0]) ++ List.replicate (2 - (lg_sl ([.ref wt, .int 0])).length) Slot.unset).toArray = ls at hl ⊢
  have hl : lv_has ls 2 [(0, .ref wt), (1, .int 0)] := hl
  refine lv_aload_n hx hb dX2_clear_0 rfl (lv_at hl 0 rfl) ?_
  refine lv_iload_n hx hb dX2_clear_1 rfl (lv_at hl 1 rfl) ?_
  refine lv_bipush (v := 36) hx hb dX2_clear_2 (by decide) ?_
  refine va_mmin hx hb (by rw [hml]; exact hl.1.symm) hown (hts _ kw_X2_clear__methodLink_RX2_18_Lib_Math_min_name) (hts _ kw_X2_clear__static_Lib_Math_min_name) (hts _ kw_X2_clear__initialized_java_lang_Math_) (hts _ kw_X2_clear__code_Lib_Math_min_name_Lib_Math_min_code_2_some_int_) (Nat.le_of_ble_eq_true rfl) (Nat.le_of_ble_eq_true rfl) (by decide) (by decide) dX2_clear_4 ?_
  refine W.eq (g2 := F0 m 7 ls [.int 0, .ref wt]) (by first | rfl | (congr 2; decide)) ?_
  refine va_put (D := D) (ci := 2) (v := .int 0) (ty := .int) (C := RX2) (T := TX2) (N := 3) hx hb hts kin_X2_clear_X2 tyX2 tyX2_ok nmX2 hown hK hP hD hS 0 rfl rfl 2 (by decide) (hts _ kw_X2_clear__fieldLink_RX2_24_ActHouse_Waits_many_I_) (fun _ h9 => h9) rfl (by decide +kernel) rfl rfl (Nat.le_of_ble_eq_true rfl) dX2_clear_7 (fun H locs hP hD hS => ?_)
  have hP : va_P D vwCl [(wt, .inr (2, [.ref dr, .ref rc, .int 0])), (dr, .inl (cJ, 36, .inr (.inl fj)))] H := hP
  have hD : va_D A [(wt, .inr (2, [.ref dr, .ref rc, .int 0])), (dr, .inl (cJ, 36, .inr (.inl fj)))] := hD
  refine lv_aload_n hx hb dX2_clear_10 rfl (lv_at hl 0 rfl) ?_
  refine va_get (D := D) (ci := 2) (v := .ref dr) (C := RX2) (T := TX2) (N := 3) hx hb hts kin_X2_clear_X2 hown hK hP 0 rfl rfl 0 (by decide) (hts _ kw_X2_clear__fieldLink_RX2_9_ActHouse_Waits_direct_J_) (fun _ h9 => h9) rfl dX2_clear_11 ?_
  refine lv_lconst (v := 0) hx hb dX2_clear_14 (by decide) ?_
  have hPc := hP.sub (ws' := [(dr, .inl (cJ, 36, .inr (.inl fj)))]) [1] rfl
  have hDc := hD.sub (ws' := [(dr, .inl (cJ, 36, .inr (.inl fj)))]) [1] (by decide) rfl
  have hKc := hK.sub (tys' := [(cJ, .long)]) [0] rfl
  have hFc := va_free (wc := [(dr, .inl (cJ, 36, .inr (.inl fj)))]) hD hS hA [1] rfl
  refine va_callv (va_runS (As := [.ref dr, .long 0]) (rest := []) ⟨hx, hb, hml, hown, hts⟩ (c_J7_fill_d0a16 (l := l) (D := D) (a := dr) (v := 0) (n := 36) (f := fj) (cJ := cJ) (by omega)) (va_cwS 2 hts gX2_clear_J7_fill_d0a16 rfl rfl rfl (by decide +kernel) ⟨Nat.le_of_ble_eq_true rfl, Nat.le_of_ble_eq_true rfl⟩) ⟨k_blind, fun U hU hW => ⟨rfl, k_pre hU hW hPc hKc hDc⟩⟩ rfl rfl hl.1 rfl (lv_room (Nat.le_of_ble_eq_true rfl)) dX2_clear_15 ⟨by decide, by decide⟩) hS (fun q _ h => hFc q h) hFc (fun u t H1 locs ht hvm hw hB hz1 hk1 hS => ?_)
  refine W.widen (k := 0) (n := 0) (Nat.le_refl _) (Nat.le_refl _) ?_
  obtain ⟨f2_1, rfl⟩ := hw
  obtain ⟨hP1, hK1, hD1⟩ := hB
  rw [ht] at hP1
  have hK1 := va_K.moved hvm.symm hK1
  obtain ⟨hP, hD⟩ := va_join (wr := [(wt, .inr (2, [.ref dr, .ref rc, .int 0]))]) (w1 := [(dr, .inl (cJ, 36, .inr (.inl f2_1)))]) hP hD [1] [0] rfl rfl (by decide) (by decide) hk1 hFc hP1 hD1
  generalize H1 = H at hP hS ⊢
  have hP : va_P D vwCl [(wt, .inr (2, [.ref dr, .ref rc, .int 0])), (dr, .inl (cJ, 36, .inr (.inl f2_1)))] H := hP
  have hD : va_D A [(wt, .inr (2, [.ref dr, .ref rc, .int 0])), (dr, .inl (cJ, 36, .inr (.inl f2_1)))] := hD
  have hP := hP.sub (ws' := [(wt, .inr (2, [.ref dr, .ref rc, .int 0])), (dr, .inl (cJ, 36, .inr (.inl f2_1)))]) [0, 1] rfl
  have hD := hD.sub (ws' := [(wt, .inr (2, [.ref dr, .ref rc, .int 0])), (dr, .inl (cJ, 36, .inr (.inl f2_1)))]) [0, 1] (by decide) rfl
  have hK := hK.sub (tys' := [(cJ, .long)]) [0] rfl
  refine W.widen (k := 0) (n := 0) (by decide) (by decide) ?_
  exact W.vret hx hb hr (fun t ht hW => ⟨⟨([(wt, .inr (2, [.ref dr, .ref rc, .int 0])), (dr, .inl (cJ, 36, .inr (.inl f2_1)))], [(cJ, .long)]), rfl, ⟨f2_1, rfl⟩, ⟨by rw [ht]; exact hP, va_K.moved hW.alike hK, hD⟩⟩, hS.F ht⟩) hS.2.2 dX2_clear_18
set_option maxRecDepth 100000 in
theorem kw_X3_drawWaits__fieldLink_RX3_53_ActHouse_waits_LActHouse_Waits_ : (.fieldLink RX3 53 "ActHouse" "waits" "LActHouse$Waits;" : Cond) ∈ wsX3_drawWaits := by decide +kernel
set_option maxRecDepth 100000 in
theorem kin_X3_drawWaits_X3 : ∀ w ∈ u_ws RX3 TX3 18, w ∈ wsX3_drawWaits := by decide +kernel
set_option maxRecDepth 100000 in
theorem kw_X3_drawWaits__fieldLink_RX3_194_ActHouse_runningCount_I_ : (.fieldLink RX3 194 "ActHouse" "runningCount" "I" : Cond) ∈ wsX3_drawWaits := by decide +kernel
set_option maxHeartbeats 4000000 in
set_option maxRecDepth 100000 in
theorem c_X3_drawWaits {l : Launch} {D : va_G} {sz : Nat} {h : Nat} {xprogramSteps : Nat} {xprogramLengths : Nat} {xlimits : Nat} {xfloors : Nat} {xvalues : Nat} {xacts : Nat} {xorder : Nat} {xdoneRow : Nat} {xrunning : Nat} {xbegunOfClass : Nat} {xbook : Nat} {xwaits : Nat} {nw : Int32} {dr : Nat} {rc : Nat} {fj : Nat → Int64} {cJ : ClassId}  : Met l yX3_drawWaits wsX3_drawWaits ({ frames := 2, cells := 0, slots := 0, locals := 45 }) (va_Pc [.ref h] (k_Pre D [(cJ, .long)] [(h, .inr (3, [.ref xprogramSteps, .ref xprogramLengths, .ref xlimits, .ref xfloors, .ref xvalues, .ref xacts, .ref xorder, .ref xdoneRow, .ref xrunning, .ref xbegunOfClass, .ref xbook, .ref xwaits, .int 0, .int 0, .int 0, .int nw, .int 0, .int 0])), (xwaits, .inr (2, [.ref dr, .ref rc, .int 0])), (dr, .inl (cJ, 36, .inr (.inl fj)))] sz)) (va_Qi (fun (r : Int32) (u : va_W × List (ClassId × FieldType)) => (∃ (fk : Nat → Int64), r = 0 ∧ u = ([(h, .inr (3, [.ref xprogramSteps, .ref xprogramLengths, .ref xlimits, .ref xfloors, .ref xvalues, .ref xacts, .ref xorder, .ref xdoneRow, .ref xrunning, .ref xbegunOfClass, .ref xbook, .ref xwaits, .int 0, .int 0, .int 0, .int nw, .int 0, .int 0])), (xwaits, .inr (2, [.ref dr, .ref rc, .int 0])), (dr, .inl (cJ, 36, .inr (.inl fk)))], [(cJ, .long)]))) (k_B D (va_A [(h, .inr (3, [.ref xprogramSteps, .ref xprogramLengths, .ref xlimits, .ref xfloors, .ref xvalues, .ref xacts, .ref xorder, .ref xdoneRow, .ref xrunning, .ref xbegunOfClass, .ref xbook, .ref xwaits, .int 0, .int 0, .int 0, .int nw, .int 0, .int 0])), (xwaits, .inr (2, [.ref dr, .ref rc, .int 0])), (dr, .inl (cJ, 36, .inr (.inl fj)))] sz)) (va_A [(h, .inr (3, [.ref xprogramSteps, .ref xprogramLengths, .ref xlimits, .ref xfloors, .ref xvalues, .ref xacts, .ref xorder, .ref xdoneRow, .ref xrunning, .ref xbegunOfClass, .ref xbook, .ref xwaits, .int 0, .int 0, .int 0, .int nw, .int 0, .int 0])), (xwaits, .inr (2, [.ref dr, .ref rc, .int 0])), (dr, .inl (cJ, 36, .inr (.inl fj)))] sz)) 0 0 (va_A [(h, .inr (3, [.ref xprogramSteps, .ref xprogramLengths, .ref xlimits, .ref xfloors, .ref xvalues, .ref xacts, .ref xorder, .ref xdoneRow, .ref xrunning, .ref xbegunOfClass, .ref xbook, .ref xwaits, .int 0, .int 0, .int 0, .int nw, .int 0, .int 0])), (xwaits, .inr (2, [.ref dr, .ref rc, .int 0])), (dr, .inl (cJ, 36, .inr (.inl fj)))] sz) := by
  refine Met.ofW (cc := cX3_drawWaits) (maxL := 5) (ret := (some .boolean)) (by decide) rfl ?_
  intro p e s m args below meth c s₁ B hml hv
  obtain ⟨rfl, hsz, hP, hK, hD0⟩ := hv
  have hx := B.exec
  have hb := B.bytes
  have hr := B.returns
  have hts := atoms_spec (ws := wsX3_drawWaits) B.pre
  have hown : s.vm.findClass RX3 = some m.cls := findClass_of_methodNamed B.named
  have hlocks := B.notSynchronized
  subst hsz
  have hD := hD0.self (sz := s.heap.size)
  generalize hAe : va_A [(h, .inr (3, [.ref xprogramSteps, .ref xprogramLengths, .ref xlimits, .ref xfloors, .ref xvalues, .ref xacts, .ref xorder, .ref xdoneRow, .ref xrunning, .ref xbegunOfClass, .ref xbook, .ref xwaits, .int 0, .int 0, .int 0, .int nw, .int 0, .int 0])), (xwaits, .inr (2, [.ref dr, .ref rc, .int 0])), (dr, .inl (cJ, 36, .inr (.inl fj)))] s.heap.size = A at hD ⊢
  have hA : ∀ q : Nat, s.heap.size ≤ q → A q := fun q h => by rw [← hAe]; exact Or.inr h
  have hS : va_S A s.heap s.heap [] := va_S.rf
  have hl := lv_entry ([.ref h]) (n := 5) (Nat.le_of_ble_eq_true rfl)
  rw [lg_entry_eq]
  generalize (lg_sl ([.ref h]) ++ List.replicate (5 - (lg_sl ([.ref h])).length) Slot.unset).toArray = ls at hl ⊢
  have hl : lv_has ls 5 [(0, .ref h)] := hl
  refine lv_aload_n hx hb dX3_drawWaits_0 rfl (lv_at hl 0 rfl) ?_
  refine va_get (D := D) (ci := 3) (v := .ref xwaits) (C := RX3) (T := TX3) (N := 18) hx hb hts kin_X3_drawWaits_X3 hown hK hP 0 rfl rfl 11 (by decide) (hts _ kw_X3_drawWaits__fieldLink_RX3_53_ActHouse_waits_LActHouse_Waits_) (fun _ h9 => h9) rfl dX3_drawWaits_1 ?_
  refine lv_aload_n hx hb dX3_drawWaits_4 rfl (lv_at hl 0 rfl) ?_
  refine va_get (D := D) (ci := 3) (v := .int 0) (C := RX3) (T := TX3) (N := 18) hx hb hts kin_X3_drawWaits_X3 hown hK hP 0 rfl rfl 14 (by decide) (hts _ kw_X3_drawWaits__fieldLink_RX3_194_ActHouse_runningCount_I_) (fun _ h9 => h9) rfl dX3_drawWaits_5 ?_
  have hPc := hP.sub (ws' := [(xwaits, .inr (2, [.ref dr, .ref rc, .int 0])), (dr, .inl (cJ, 36, .inr (.inl fj)))]) [1, 2] rfl
  have hDc := hD.sub (ws' := [(xwaits, .inr (2, [.ref dr, .ref rc, .int 0])), (dr, .inl (cJ, 36, .inr (.inl fj)))]) [1, 2] (by decide) rfl
  have hKc := hK.sub (tys' := [(cJ, .long)]) [0] rfl
  have hFc := va_free (wc := [(xwaits, .inr (2, [.ref dr, .ref rc, .int 0])), (dr, .inl (cJ, 36, .inr (.inl fj)))]) hD hS hA [1, 2] rfl
  refine va_callv (va_runV (As := [.int 0]) (rest := []) ⟨hx, hb, hml, hown, hts⟩ (c_X2_clear (l := l) (D := D) (wt := xwaits) (dr := dr) (rc := rc) (fj := fj) (cJ := cJ) ) (cwV 1 hts gX3_drawWaits_X2_clear rfl rfl rfl (by decide +kernel) ⟨Nat.le_of_ble_eq_true rfl, Nat.le_of_ble_eq_true rfl⟩) ⟨k_blind, va_recv hKc hPc (ci := 2) (q0 := 0) rfl rfl, fun U hU hW => ⟨rfl, k_pre hU hW hPc hKc hDc⟩⟩ rfl rfl hl.1 rfl (lv_room (Nat.le_of_ble_eq_true rfl)) dX3_drawWaits_8 ⟨by decide, by decide⟩) hS (fun q _ h => hFc q h) hFc (fun u t H1 locs ht hvm hw hB hz1 hk1 hS => ?_)
  refine W.widen (k := 0) (n := 0) (Nat.le_refl _) (Nat.le_refl _) ?_
  have hl0 : (0 : Int32).toInt = 0 := by decide
  obtain ⟨fk_1, rfl⟩ := hw
  obtain ⟨hP1, hK1, hD1⟩ := hB
  rw [ht] at hP1
  have hK1 := va_K.moved hvm.symm hK1
  obtain ⟨hP, hD⟩ := va_join (wr := [(h, .inr (3, [.ref xprogramSteps, .ref xprogramLengths, .ref xlimits, .ref xfloors, .ref xvalues, .ref xacts, .ref xorder, .ref xdoneRow, .ref xrunning, .ref xbegunOfClass, .ref xbook, .ref xwaits, .int 0, .int 0, .int 0, .int nw, .int 0, .int 0]))]) (w1 := [(xwaits, .inr (2, [.ref dr, .ref rc, .int 0])), (dr, .inl (cJ, 36, .inr (.inl fk_1)))]) hP hD [1, 2] [0] rfl rfl (by decide) (by decide) hk1 hFc hP1 hD1
  generalize H1 = H at hP hS ⊢
  have hP : va_P D vwCl [(h, .inr (3, [.ref xprogramSteps, .ref xprogramLengths, .ref xlimits, .ref xfloors, .ref xvalues, .ref xacts, .ref xorder, .ref xdoneRow, .ref xrunning, .ref xbegunOfClass, .ref xbook, .ref xwaits, .int 0, .int 0, .int 0, .int nw, .int 0, .int 0])), (xwaits, .inr (2, [.ref dr, .ref rc, .int 0])), (dr, .inl (cJ, 36, .inr (.inl fk_1)))] H := hP
  have hD : va_D A [(h, .inr (3, [.ref xprogramSteps, .ref xprogramLengths, .ref xlimits, .ref xfloors, .ref xvalues, .ref xacts, .ref xorder, .ref xdoneRow, .ref xrunning, .ref xbegunOfClass, .ref xbook, .ref xwaits, .int 0, .int 0, .int 0, .int nw, .int 0, .int 0])), (xwaits, .inr (2, [.ref dr, .ref rc, .int 0])), (dr, .inl (cJ, 36, .inr (.inl fk_1)))] := hD
  refine lv_iconst (v := 0) hx hb dX3_drawWaits_11 (by decide) ?_
  refine lv_istore_n (lv' := [(1, .int 0), (0, .ref h)]) hx hb dX3_drawWaits_12 rfl hl (by decide) rfl (fun ls hl => ?_)
  refine lv_iconst (v := 0) hx hb dX3_drawWaits_13 (by decide) ?_
  refine lv_istore_n (lv' := [(2, .int 0), (1, .int 0), (0, .ref h)]) hx hb dX3_drawWaits_14 rfl hl (by decide) rfl (fun ls hl => ?_)
  refine lv_iload_n hx hb dX3_drawWaits_15 rfl (lv_at hl 0 rfl) ?_
  refine lv_aload_n hx hb dX3_drawWaits_16 rfl (lv_at hl 2 rfl) ?_
  refine va_get (D := D) (ci := 3) (v := .int 0) (C := RX3) (T := TX3) (N := 18) hx hb hts kin_X3_drawWaits_X3 hown hK hP 0 rfl rfl 14 (by decide) (hts _ kw_X3_drawWaits__fieldLink_RX3_194_ActHouse_runningCount_I_) (fun _ h9 => h9) rfl dX3_drawWaits_17 ?_
  refine lv_icmp_ge (tgt := 148) hx hb dX3_drawWaits_20 (by decide) (fun c2 => ?_) (fun c2 => ?_)
  · skip
    refine lv_iload_n hx hb dX3_drawWaits_148 rfl (lv_at hl 1 rfl) ?_
    have hP := hP.sub (ws' := [(h, .inr (3, [.ref xprogramSteps, .ref xprogramLengths, .ref xlimits, .ref xfloors, .ref xvalues, .ref xacts, .ref xorder, .ref xdoneRow, .ref xrunning, .ref xbegunOfClass, .ref xbook, .ref xwaits, .int 0, .int 0, .int 0, .int nw, .int 0, .int 0])), (xwaits, .inr (2, [.ref dr, .ref rc, .int 0])), (dr, .inl (cJ, 36, .inr (.inl fk_1)))]) [0, 1, 2] rfl
    have hD := hD.sub (ws' := [(h, .inr (3, [.ref xprogramSteps, .ref xprogramLengths, .ref xlimits, .ref xfloors, .ref xvalues, .ref xacts, .ref xorder, .ref xdoneRow, .ref xrunning, .ref xbegunOfClass, .ref xbook, .ref xwaits, .int 0, .int 0, .int 0, .int nw, .int 0, .int 0])), (xwaits, .inr (2, [.ref dr, .ref rc, .int 0])), (dr, .inl (cJ, 36, .inr (.inl fk_1)))]) [0, 1, 2] (by decide) rfl
    have hK := hK.sub (tys' := [(cJ, .long)]) [0] rfl
    refine W.widen (k := 0) (n := 0) (by decide) (by decide) ?_
    exact W.zret (v := 0) hx hb hr (by decide) (fun t ht hW => ⟨⟨0, ([(h, .inr (3, [.ref xprogramSteps, .ref xprogramLengths, .ref xlimits, .ref xfloors, .ref xvalues, .ref xacts, .ref xorder, .ref xdoneRow, .ref xrunning, .ref xbegunOfClass, .ref xbook, .ref xwaits, .int 0, .int 0, .int 0, .int nw, .int 0, .int 0])), (xwaits, .inr (2, [.ref dr, .ref rc, .int 0])), (dr, .inl (cJ, 36, .inr (.inl fk_1)))], [(cJ, .long)]), rfl, ⟨fk_1, rfl, rfl⟩, ⟨by rw [ht]; exact hP, va_K.moved hW.alike hK, hD⟩⟩, hS.F ht⟩) hS.2.2 dX3_drawWaits_149
  · skip
    exact absurd c2 (by decide)
set_option maxHeartbeats 4000000 in
set_option maxRecDepth 100000 in
theorem c_X3_breakRings {l : Launch} {D : va_G} {sz : Nat} {h : Nat} {xprogramSteps : Nat} {xprogramLengths : Nat} {xlimits : Nat} {xfloors : Nat} {xvalues : Nat} {xacts : Nat} {xorder : Nat} {xdoneRow : Nat} {xrunning : Nat} {xbegunOfClass : Nat} {xbook : Nat} {xwaits : Nat} {nw : Int32} {dr : Nat} {rc : Nat} {fj : Nat → Int64} {cJ : ClassId}  : Met l yX3_breakRings wsX3_breakRings ({ frames := 3, cells := 0, slots := 0, locals := 69 }) (va_Pc [.ref h] (k_Pre D [(cJ, .long)] [(h, .inr (3, [.ref xprogramSteps, .ref xprogramLengths, .ref xlimits, .ref xfloors, .ref xvalues, .ref xacts, .ref xorder, .ref xdoneRow, .ref xrunning, .ref xbegunOfClass, .ref xbook, .ref xwaits, .int 0, .int 0, .int 0, .int nw, .int 0, .int 0])), (xwaits, .inr (2, [.ref dr, .ref rc, .int 0])), (dr, .inl (cJ, 36, .inr (.inl fj)))] sz)) (va_Qv (fun (u : va_W × List (ClassId × FieldType)) => (∃ (fk : Nat → Int64), u = ([(h, .inr (3, [.ref xprogramSteps, .ref xprogramLengths, .ref xlimits, .ref xfloors, .ref xvalues, .ref xacts, .ref xorder, .ref xdoneRow, .ref xrunning, .ref xbegunOfClass, .ref xbook, .ref xwaits, .int 0, .int 0, .int 0, .int nw, .int 0, .int 0])), (xwaits, .inr (2, [.ref dr, .ref rc, .int 0])), (dr, .inl (cJ, 36, .inr (.inl fk)))], [(cJ, .long)]))) (k_B D (va_A [(h, .inr (3, [.ref xprogramSteps, .ref xprogramLengths, .ref xlimits, .ref xfloors, .ref xvalues, .ref xacts, .ref xorder, .ref xdoneRow, .ref xrunning, .ref xbegunOfClass, .ref xbook, .ref xwaits, .int 0, .int 0, .int 0, .int nw, .int 0, .int 0])), (xwaits, .inr (2, [.ref dr, .ref rc, .int 0])), (dr, .inl (cJ, 36, .inr (.inl fj)))] sz)) (va_A [(h, .inr (3, [.ref xprogramSteps, .ref xprogramLengths, .ref xlimits, .ref xfloors, .ref xvalues, .ref xacts, .ref xorder, .ref xdoneRow, .ref xrunning, .ref xbegunOfClass, .ref xbook, .ref xwaits, .int 0, .int 0, .int 0, .int nw, .int 0, .int 0])), (xwaits, .inr (2, [.ref dr, .ref rc, .int 0])), (dr, .inl (cJ, 36, .inr (.inl fj)))] sz)) 0 0 (va_A [(h, .inr (3, [.ref xprogramSteps, .ref xprogramLengths, .ref xlimits, .ref xfloors, .ref xvalues, .ref xacts, .ref xorder, .ref xdoneRow, .ref xrunning, .ref xbegunOfClass, .ref xbook, .ref xwaits, .int 0, .int 0, .int 0, .int nw, .int 0, .int 0])), (xwaits, .inr (2, [.ref dr, .ref rc, .int 0])), (dr, .inl (cJ, 36, .inr (.inl fj)))] sz) := by
  refine Met.ofW (cc := cX3_breakRings) (maxL := 3) (ret := none) (by decide) rfl ?_
  intro p e s m args below meth c s₁ B hml hv
  obtain ⟨rfl, hsz, hP, hK, hD0⟩ := hv
  have hx := B.exec
  have hb := B.bytes
  have hr := B.returns
  have hts := atoms_spec (ws := wsX3_breakRings) B.pre
  have hown : s.vm.findClass RX3 = some m.cls := findClass_of_methodNamed B.named
  have hlocks := B.notSynchronized
  subst hsz
  have hD := hD0.self (sz := s.heap.size)
  generalize hAe : va_A [(h, .inr (3, [.ref xprogramSteps, .ref xprogramLengths, .ref xlimits, .ref xfloors, .ref xvalues, .ref xacts, .ref xorder, .ref xdoneRow, .ref xrunning, .ref xbegunOfClass, .ref xbook, .ref xwaits, .int 0, .int 0, .int 0, .int nw, .int 0, .int 0])), (xwaits, .inr (2, [.ref dr, .ref rc, .int 0])), (dr, .inl (cJ, 36, .inr (.inl fj)))] s.heap.size = A at hD ⊢
  have hA : ∀ q : Nat, s.heap.size ≤ q → A q := fun q h => by rw [← hAe]; exact Or.inr h
  have hS : va_S A s.heap s.heap [] := va_S.rf
  have hl := lv_entry ([.ref h]) (n := 3) (Nat.le_of_ble_eq_true rfl)
  rw [lg_entry_eq]
  generalize (lg_sl ([.ref h]) ++ List.replicate (3 - (lg_sl ([.ref h])).length) Slot.unset).toArray = ls at hl ⊢
  have hl : lv_has ls 3 [(0, .ref h)] := hl
  refine lv_aload_n hx hb dX3_breakRings_0 rfl (lv_at hl 0 rfl) ?_
  have hPc := hP.sub (ws' := [(h, .inr (3, [.ref xprogramSteps, .ref xprogramLengths, .ref xlimits, .ref xfloors, .ref xvalues, .ref xacts, .ref xorder, .ref xdoneRow, .ref xrunning, .ref xbegunOfClass, .ref xbook, .ref xwaits, .int 0, .int 0, .int 0, .int nw, .int 0, .int 0])), (xwaits, .inr (2, [.ref dr, .ref rc, .int 0])), (dr, .inl (cJ, 36, .inr (.inl fj)))]) [0, 1, 2] rfl
  have hDc := hD.sub (ws' := [(h, .inr (3, [.ref xprogramSteps, .ref xprogramLengths, .ref xlimits, .ref xfloors, .ref xvalues, .ref xacts, .ref xorder, .ref xdoneRow, .ref xrunning, .ref xbegunOfClass, .ref xbook, .ref xwaits, .int 0, .int 0, .int 0, .int nw, .int 0, .int 0])), (xwaits, .inr (2, [.ref dr, .ref rc, .int 0])), (dr, .inl (cJ, 36, .inr (.inl fj)))]) [0, 1, 2] (by decide) rfl
  have hKc := hK.sub (tys' := [(cJ, .long)]) [0] rfl
  have hFc := va_free (wc := [(h, .inr (3, [.ref xprogramSteps, .ref xprogramLengths, .ref xlimits, .ref xfloors, .ref xvalues, .ref xacts, .ref xorder, .ref xdoneRow, .ref xrunning, .ref xbegunOfClass, .ref xbook, .ref xwaits, .int 0, .int 0, .int 0, .int nw, .int 0, .int 0])), (xwaits, .inr (2, [.ref dr, .ref rc, .int 0])), (dr, .inl (cJ, 36, .inr (.inl fj)))]) hD hS hA [0, 1, 2] rfl
  refine va_calli (va_runV (As := []) (rest := []) ⟨hx, hb, hml, hown, hts⟩ (c_X3_drawWaits (l := l) (D := D) (h := h) (xprogramSteps := xprogramSteps) (xprogramLengths := xprogramLengths) (xlimits := xlimits) (xfloors := xfloors) (xvalues := xvalues) (xacts := xacts) (xorder := xorder) (xdoneRow := xdoneRow) (xrunning := xrunning) (xbegunOfClass := xbegunOfClass) (xbook := xbook) (xwaits := xwaits) (nw := nw) (dr := dr) (rc := rc) (fj := fj) (cJ := cJ) ) (cwV 0 hts gX3_breakRings_X3_drawWaits rfl rfl rfl (by decide +kernel) ⟨Nat.le_of_ble_eq_true rfl, Nat.le_of_ble_eq_true rfl⟩) ⟨k_blind, va_recv hKc hPc (ci := 3) (q0 := 0) rfl rfl, fun U hU hW => ⟨rfl, k_pre hU hW hPc hKc hDc⟩⟩ rfl rfl hl.1 rfl (lv_room (Nat.le_of_ble_eq_true rfl)) dX3_breakRings_1 ⟨by decide, by decide⟩) hS (fun q _ h => hFc q h) hFc (fun r1 u t H1 locs ht hvm hw hB hz1 hk1 hS => ?_)
  refine W.widen (k := 0) (n := 0) (Nat.le_refl _) (Nat.le_refl _) ?_
  obtain ⟨fk_1, rfl, rfl⟩ := hw
  obtain ⟨hP1, hK1, hD1⟩ := hB
  rw [ht] at hP1
  have hK1 := va_K.moved hvm.symm hK1
  obtain ⟨hP, hD⟩ := va_join (wr := []) (w1 := [(h, .inr (3, [.ref xprogramSteps, .ref xprogramLengths, .ref xlimits, .ref xfloors, .ref xvalues, .ref xacts, .ref xorder, .ref xdoneRow, .ref xrunning, .ref xbegunOfClass, .ref xbook, .ref xwaits, .int 0, .int 0, .int 0, .int nw, .int 0, .int 0])), (xwaits, .inr (2, [.ref dr, .ref rc, .int 0])), (dr, .inl (cJ, 36, .inr (.inl fk_1)))]) hP hD [0, 1, 2] [] rfl rfl (by decide) (by decide) hk1 hFc hP1 hD1
  generalize H1 = H at hP hS ⊢
  have hP : va_P D vwCl [(h, .inr (3, [.ref xprogramSteps, .ref xprogramLengths, .ref xlimits, .ref xfloors, .ref xvalues, .ref xacts, .ref xorder, .ref xdoneRow, .ref xrunning, .ref xbegunOfClass, .ref xbook, .ref xwaits, .int 0, .int 0, .int 0, .int nw, .int 0, .int 0])), (xwaits, .inr (2, [.ref dr, .ref rc, .int 0])), (dr, .inl (cJ, 36, .inr (.inl fk_1)))] H := hP
  have hD : va_D A [(h, .inr (3, [.ref xprogramSteps, .ref xprogramLengths, .ref xlimits, .ref xfloors, .ref xvalues, .ref xacts, .ref xorder, .ref xdoneRow, .ref xrunning, .ref xbegunOfClass, .ref xbook, .ref xwaits, .int 0, .int 0, .int 0, .int nw, .int 0, .int 0])), (xwaits, .inr (2, [.ref dr, .ref rc, .int 0])), (dr, .inl (cJ, 36, .inr (.inl fk_1)))] := hD
  refine lv_if_ne (tgt := 8) hx hb dX3_breakRings_4 (by decide) (fun c2 => ?_) (fun c2 => ?_)
  · skip
    exact absurd c2 (by decide)
  · skip
    have hP := hP.sub (ws' := [(h, .inr (3, [.ref xprogramSteps, .ref xprogramLengths, .ref xlimits, .ref xfloors, .ref xvalues, .ref xacts, .ref xorder, .ref xdoneRow, .ref xrunning, .ref xbegunOfClass, .ref xbook, .ref xwaits, .int 0, .int 0, .int 0, .int nw, .int 0, .int 0])), (xwaits, .inr (2, [.ref dr, .ref rc, .int 0])), (dr, .inl (cJ, 36, .inr (.inl fk_1)))]) [0, 1, 2] rfl
    have hD := hD.sub (ws' := [(h, .inr (3, [.ref xprogramSteps, .ref xprogramLengths, .ref xlimits, .ref xfloors, .ref xvalues, .ref xacts, .ref xorder, .ref xdoneRow, .ref xrunning, .ref xbegunOfClass, .ref xbook, .ref xwaits, .int 0, .int 0, .int 0, .int nw, .int 0, .int 0])), (xwaits, .inr (2, [.ref dr, .ref rc, .int 0])), (dr, .inl (cJ, 36, .inr (.inl fk_1)))]) [0, 1, 2] (by decide) rfl
    have hK := hK.sub (tys' := [(cJ, .long)]) [0] rfl
    refine W.widen (k := 0) (n := 0) (by decide) (by decide) ?_
    exact W.vret hx hb hr (fun t ht hW => ⟨⟨([(h, .inr (3, [.ref xprogramSteps, .ref xprogramLengths, .ref xlimits, .ref xfloors, .ref xvalues, .ref xacts, .ref xorder, .ref xdoneRow, .ref xrunning, .ref xbegunOfClass, .ref xbook, .ref xwaits, .int 0, .int 0, .int 0, .int nw, .int 0, .int 0])), (xwaits, .inr (2, [.ref dr, .ref rc, .int 0])), (dr, .inl (cJ, 36, .inr (.inl fk_1)))], [(cJ, .long)]), rfl, ⟨fk_1, rfl⟩, ⟨by rw [ht]; exact hP, va_K.moved hW.alike hK, hD⟩⟩, hS.F ht⟩) hS.2.2 dX3_breakRings_7
set_option maxRecDepth 100000 in
theorem kw_X3_countBegunOfClasses__fieldLink_RX3_40_ActHouse_begunOfClass_I_ : (.fieldLink RX3 40 "ActHouse" "begunOfClass" "[I" : Cond) ∈ wsX3_countBegunOfClasses := by decide +kernel
set_option maxRecDepth 100000 in
theorem kin_X3_countBegunOfClasses_X3 : ∀ w ∈ u_ws RX3 TX3 18, w ∈ wsX3_countBegunOfClasses := by decide +kernel
set_option maxRecDepth 100000 in
theorem kw_X3_countBegunOfClasses__fieldLink_RX3_102_ActHouse_actCount_I_ : (.fieldLink RX3 102 "ActHouse" "actCount" "I" : Cond) ∈ wsX3_countBegunOfClasses := by decide +kernel
set_option maxHeartbeats 4000000 in
set_option maxRecDepth 100000 in
theorem c_X3_countBegunOfClasses {l : Launch} {D : va_G} {sz : Nat} {h : Nat} {xprogramSteps : Nat} {xprogramLengths : Nat} {xlimits : Nat} {xfloors : Nat} {xvalues : Nat} {xacts : Nat} {xorder : Nat} {xdoneRow : Nat} {xrunning : Nat} {xbegunOfClass : Nat} {xbook : Nat} {xwaits : Nat} {nw : Int32} {fb : Nat → Int32} {cI : ClassId}  : Met l yX3_countBegunOfClasses wsX3_countBegunOfClasses ({ frames := 1, cells := 0, slots := 0, locals := 23 }) (va_Pc [.ref h] (k_Pre D [(cI, .int)] [(h, .inr (3, [.ref xprogramSteps, .ref xprogramLengths, .ref xlimits, .ref xfloors, .ref xvalues, .ref xacts, .ref xorder, .ref xdoneRow, .ref xrunning, .ref xbegunOfClass, .ref xbook, .ref xwaits, .int 0, .int 0, .int 0, .int nw, .int 0, .int 0])), (xbegunOfClass, .inl (cI, 4, .inl fb))] sz)) (va_Qv (fun (u : va_W × List (ClassId × FieldType)) => (∃ (fc : Nat → Int32), u = ([(h, .inr (3, [.ref xprogramSteps, .ref xprogramLengths, .ref xlimits, .ref xfloors, .ref xvalues, .ref xacts, .ref xorder, .ref xdoneRow, .ref xrunning, .ref xbegunOfClass, .ref xbook, .ref xwaits, .int 0, .int 0, .int 0, .int nw, .int 0, .int 0])), (xbegunOfClass, .inl (cI, 4, .inl fc))], [(cI, .int)]))) (k_B D (va_A [(h, .inr (3, [.ref xprogramSteps, .ref xprogramLengths, .ref xlimits, .ref xfloors, .ref xvalues, .ref xacts, .ref xorder, .ref xdoneRow, .ref xrunning, .ref xbegunOfClass, .ref xbook, .ref xwaits, .int 0, .int 0, .int 0, .int nw, .int 0, .int 0])), (xbegunOfClass, .inl (cI, 4, .inl fb))] sz)) (va_A [(h, .inr (3, [.ref xprogramSteps, .ref xprogramLengths, .ref xlimits, .ref xfloors, .ref xvalues, .ref xacts, .ref xorder, .ref xdoneRow, .ref xrunning, .ref xbegunOfClass, .ref xbook, .ref xwaits, .int 0, .int 0, .int 0, .int nw, .int 0, .int 0])), (xbegunOfClass, .inl (cI, 4, .inl fb))] sz)) 0 0 (va_A [(h, .inr (3, [.ref xprogramSteps, .ref xprogramLengths, .ref xlimits, .ref xfloors, .ref xvalues, .ref xacts, .ref xorder, .ref xdoneRow, .ref xrunning, .ref xbegunOfClass, .ref xbook, .ref xwaits, .int 0, .int 0, .int 0, .int nw, .int 0, .int 0])), (xbegunOfClass, .inl (cI, 4, .inl fb))] sz) := by
  refine Met.ofW (cc := cX3_countBegunOfClasses) (maxL := 2) (ret := none) (by decide) rfl ?_
  intro p e s m args below meth c s₁ B hml hv
  obtain ⟨rfl, hsz, hP, hK, hD0⟩ := hv
  have hx := B.exec
  have hb := B.bytes
  have hr := B.returns
  have hts := atoms_spec (ws := wsX3_countBegunOfClasses) B.pre
  have hown : s.vm.findClass RX3 = some m.cls := findClass_of_methodNamed B.named
  have hlocks := B.notSynchronized
  subst hsz
  have hD := hD0.self (sz := s.heap.size)
  generalize hAe : va_A [(h, .inr (3, [.ref xprogramSteps, .ref xprogramLengths, .ref xlimits, .ref xfloors, .ref xvalues, .ref xacts, .ref xorder, .ref xdoneRow, .ref xrunning, .ref xbegunOfClass, .ref xbook, .ref xwaits, .int 0, .int 0, .int 0, .int nw, .int 0, .int 0])), (xbegunOfClass, .inl (cI, 4, .inl fb))] s.heap.size = A at hD ⊢
  have hA : ∀ q : Nat, s.heap.size ≤ q → A q := fun q h => by rw [← hAe]; exact Or.inr h
  have hS : va_S A s.heap s.heap [] := va_S.rf
  have hl := lv_entry ([.ref h]) (n := 2) (Nat.le_of_ble_eq_true rfl)
  rw [lg_entry_eq]
  generalize (lg_sl ([.ref h]) ++ List.replicate (2 - (lg_sl ([.ref h])).length) Slot.unset).toArray = ls at hl ⊢
  have hl : lv_has ls 2 [(0, .ref h)] := hl
  refine lv_aload_n hx hb dX3_countBegunOfClasses_0 rfl (lv_at hl 0 rfl) ?_
  refine va_get (D := D) (ci := 3) (v := .ref xbegunOfClass) (C := RX3) (T := TX3) (N := 18) hx hb hts kin_X3_countBegunOfClasses_X3 hown hK hP 0 rfl rfl 9 (by decide) (hts _ kw_X3_countBegunOfClasses__fieldLink_RX3_40_ActHouse_begunOfClass_I_) (fun _ h9 => h9) rfl dX3_countBegunOfClasses_1 ?_
  refine lv_iconst (v := 0) hx hb dX3_countBegunOfClasses_4 (by decide) ?_
  have hPc := hP.sub (ws' := [(xbegunOfClass, .inl (cI, 4, .inl fb))]) [1] rfl
  have hDc := hD.sub (ws' := [(xbegunOfClass, .inl (cI, 4, .inl fb))]) [1] (by decide) rfl
  have hKc := hK.sub (tys' := [(cI, .int)]) [0] rfl
  have hFc := va_free (wc := [(xbegunOfClass, .inl (cI, 4, .inl fb))]) hD hS hA [1] rfl
  refine va_callv (va_runS (As := [.ref xbegunOfClass, .int 0]) (rest := []) ⟨hx, hb, hml, hown, hts⟩ (c_J7_fill_53178 (l := l) (D := D) (a := xbegunOfClass) (v := 0) (n := 4) (f := fb) (cI := cI) (by omega)) (va_cwS 2 hts gX3_countBegunOfClasses_J7_fill_53178 rfl rfl rfl (by decide +kernel) ⟨Nat.le_of_ble_eq_true rfl, Nat.le_of_ble_eq_true rfl⟩) ⟨k_blind, fun U hU hW => ⟨rfl, k_pre hU hW hPc hKc hDc⟩⟩ rfl rfl hl.1 rfl (lv_room (Nat.le_of_ble_eq_true rfl)) dX3_countBegunOfClasses_5 ⟨by decide, by decide⟩) hS (fun q _ h => hFc q h) hFc (fun u t H1 locs ht hvm hw hB hz1 hk1 hS => ?_)
  refine W.widen (k := 0) (n := 0) (Nat.le_refl _) (Nat.le_refl _) ?_
  have hl0 : (0 : Int32).toInt = 0 := by decide
  obtain ⟨f2_1, rfl⟩ := hw
  obtain ⟨hP1, hK1, hD1⟩ := hB
  rw [ht] at hP1
  have hK1 := va_K.moved hvm.symm hK1
  obtain ⟨hP, hD⟩ := va_join (wr := [(h, .inr (3, [.ref xprogramSteps, .ref xprogramLengths, .ref xlimits, .ref xfloors, .ref xvalues, .ref xacts, .ref xorder, .ref xdoneRow, .ref xrunning, .ref xbegunOfClass, .ref xbook, .ref xwaits, .int 0, .int 0, .int 0, .int nw, .int 0, .int 0]))]) (w1 := [(xbegunOfClass, .inl (cI, 4, .inl f2_1))]) hP hD [1] [0] rfl rfl (by decide) (by decide) hk1 hFc hP1 hD1
  generalize H1 = H at hP hS ⊢
  have hP : va_P D vwCl [(h, .inr (3, [.ref xprogramSteps, .ref xprogramLengths, .ref xlimits, .ref xfloors, .ref xvalues, .ref xacts, .ref xorder, .ref xdoneRow, .ref xrunning, .ref xbegunOfClass, .ref xbook, .ref xwaits, .int 0, .int 0, .int 0, .int nw, .int 0, .int 0])), (xbegunOfClass, .inl (cI, 4, .inl f2_1))] H := hP
  have hD : va_D A [(h, .inr (3, [.ref xprogramSteps, .ref xprogramLengths, .ref xlimits, .ref xfloors, .ref xvalues, .ref xacts, .ref xorder, .ref xdoneRow, .ref xrunning, .ref xbegunOfClass, .ref xbook, .ref xwaits, .int 0, .int 0, .int 0, .int nw, .int 0, .int 0])), (xbegunOfClass, .inl (cI, 4, .inl f2_1))] := hD
  refine lv_iconst (v := 0) hx hb dX3_countBegunOfClasses_8 (by decide) ?_
  refine lv_istore_n (lv' := [(1, .int 0), (0, .ref h)]) hx hb dX3_countBegunOfClasses_9 rfl hl (by decide) rfl (fun ls hl => ?_)
  refine lv_iload_n hx hb dX3_countBegunOfClasses_10 rfl (lv_at hl 0 rfl) ?_
  refine lv_aload_n hx hb dX3_countBegunOfClasses_11 rfl (lv_at hl 1 rfl) ?_
  refine va_get (D := D) (ci := 3) (v := .int 0) (C := RX3) (T := TX3) (N := 18) hx hb hts kin_X3_countBegunOfClasses_X3 hown hK hP 0 rfl rfl 12 (by decide) (hts _ kw_X3_countBegunOfClasses__fieldLink_RX3_102_ActHouse_actCount_I_) (fun _ h9 => h9) rfl dX3_countBegunOfClasses_12 ?_
  refine lv_icmp_ge (tgt := 55) hx hb dX3_countBegunOfClasses_15 (by decide) (fun c2 => ?_) (fun c2 => ?_)
  · skip
    have hP := hP.sub (ws' := [(h, .inr (3, [.ref xprogramSteps, .ref xprogramLengths, .ref xlimits, .ref xfloors, .ref xvalues, .ref xacts, .ref xorder, .ref xdoneRow, .ref xrunning, .ref xbegunOfClass, .ref xbook, .ref xwaits, .int 0, .int 0, .int 0, .int nw, .int 0, .int 0])), (xbegunOfClass, .inl (cI, 4, .inl f2_1))]) [0, 1] rfl
    have hD := hD.sub (ws' := [(h, .inr (3, [.ref xprogramSteps, .ref xprogramLengths, .ref xlimits, .ref xfloors, .ref xvalues, .ref xacts, .ref xorder, .ref xdoneRow, .ref xrunning, .ref xbegunOfClass, .ref xbook, .ref xwaits, .int 0, .int 0, .int 0, .int nw, .int 0, .int 0])), (xbegunOfClass, .inl (cI, 4, .inl f2_1))]) [0, 1] (by decide) rfl
    have hK := hK.sub (tys' := [(cI, .int)]) [0] rfl
    refine W.widen (k := 0) (n := 0) (by decide) (by decide) ?_
    exact W.vret hx hb hr (fun t ht hW => ⟨⟨([(h, .inr (3, [.ref xprogramSteps, .ref xprogramLengths, .ref xlimits, .ref xfloors, .ref xvalues, .ref xacts, .ref xorder, .ref xdoneRow, .ref xrunning, .ref xbegunOfClass, .ref xbook, .ref xwaits, .int 0, .int 0, .int 0, .int nw, .int 0, .int 0])), (xbegunOfClass, .inl (cI, 4, .inl f2_1))], [(cI, .int)]), rfl, ⟨f2_1, rfl⟩, ⟨by rw [ht]; exact hP, va_K.moved hW.alike hK, hD⟩⟩, hS.F ht⟩) hS.2.2 dX3_countBegunOfClasses_55
  · skip
    exact absurd c2 (by decide)
set_option maxRecDepth 100000 in
theorem kw_X3_beginWaiting__fieldLink_RX3_102_ActHouse_actCount_I_ : (.fieldLink RX3 102 "ActHouse" "actCount" "I" : Cond) ∈ wsX3_beginWaiting := by decide +kernel
set_option maxRecDepth 100000 in
theorem kin_X3_beginWaiting_X3 : ∀ w ∈ u_ws RX3 TX3 18, w ∈ wsX3_beginWaiting := by decide +kernel
set_option maxHeartbeats 4000000 in
set_option maxRecDepth 100000 in
theorem c_X3_beginWaiting {l : Launch} {D : va_G} {sz : Nat} {h : Nat} {xprogramSteps : Nat} {xprogramLengths : Nat} {xlimits : Nat} {xfloors : Nat} {xvalues : Nat} {xacts : Nat} {xorder : Nat} {xdoneRow : Nat} {xrunning : Nat} {xbegunOfClass : Nat} {xbook : Nat} {xwaits : Nat} {nw : Int32} {fb : Nat → Int32} {cI : ClassId}  : Met l yX3_beginWaiting wsX3_beginWaiting ({ frames := 2, cells := 0, slots := 0, locals := 44 }) (va_Pc [.ref h] (k_Pre D [(cI, .int)] [(h, .inr (3, [.ref xprogramSteps, .ref xprogramLengths, .ref xlimits, .ref xfloors, .ref xvalues, .ref xacts, .ref xorder, .ref xdoneRow, .ref xrunning, .ref xbegunOfClass, .ref xbook, .ref xwaits, .int 0, .int 0, .int 0, .int nw, .int 0, .int 0])), (xbegunOfClass, .inl (cI, 4, .inl fb))] sz)) (va_Qv (fun (u : va_W × List (ClassId × FieldType)) => (∃ (fc : Nat → Int32), u = ([(h, .inr (3, [.ref xprogramSteps, .ref xprogramLengths, .ref xlimits, .ref xfloors, .ref xvalues, .ref xacts, .ref xorder, .ref xdoneRow, .ref xrunning, .ref xbegunOfClass, .ref xbook, .ref xwaits, .int 0, .int 0, .int 0, .int nw, .int 0, .int 0])), (xbegunOfClass, .inl (cI, 4, .inl fc))], [(cI, .int)]))) (k_B D (va_A [(h, .inr (3, [.ref xprogramSteps, .ref xprogramLengths, .ref xlimits, .ref xfloors, .ref xvalues, .ref xacts, .ref xorder, .ref xdoneRow, .ref xrunning, .ref xbegunOfClass, .ref xbook, .ref xwaits, .int 0, .int 0, .int 0, .int nw, .int 0, .int 0])), (xbegunOfClass, .inl (cI, 4, .inl fb))] sz)) (va_A [(h, .inr (3, [.ref xprogramSteps, .ref xprogramLengths, .ref xlimits, .ref xfloors, .ref xvalues, .ref xacts, .ref xorder, .ref xdoneRow, .ref xrunning, .ref xbegunOfClass, .ref xbook, .ref xwaits, .int 0, .int 0, .int 0, .int nw, .int 0, .int 0])), (xbegunOfClass, .inl (cI, 4, .inl fb))] sz)) 0 0 (va_A [(h, .inr (3, [.ref xprogramSteps, .ref xprogramLengths, .ref xlimits, .ref xfloors, .ref xvalues, .ref xacts, .ref xorder, .ref xdoneRow, .ref xrunning, .ref xbegunOfClass, .ref xbook, .ref xwaits, .int 0, .int 0, .int 0, .int nw, .int 0, .int 0])), (xbegunOfClass, .inl (cI, 4, .inl fb))] sz) := by
  refine Met.ofW (cc := cX3_beginWaiting) (maxL := 4) (ret := none) (by decide) rfl ?_
  intro p e s m args below meth c s₁ B hml hv
  obtain ⟨rfl, hsz, hP, hK, hD0⟩ := hv
  have hx := B.exec
  have hb := B.bytes
  have hr := B.returns
  have hts := atoms_spec (ws := wsX3_beginWaiting) B.pre
  have hown : s.vm.findClass RX3 = some m.cls := findClass_of_methodNamed B.named
  have hlocks := B.notSynchronized
  subst hsz
  have hD := hD0.self (sz := s.heap.size)
  generalize hAe : va_A [(h, .inr (3, [.ref xprogramSteps, .ref xprogramLengths, .ref xlimits, .ref xfloors, .ref xvalues, .ref xacts, .ref xorder, .ref xdoneRow, .ref xrunning, .ref xbegunOfClass, .ref xbook, .ref xwaits, .int 0, .int 0, .int 0, .int nw, .int 0, .int 0])), (xbegunOfClass, .inl (cI, 4, .inl fb))] s.heap.size = A at hD ⊢
  have hA : ∀ q : Nat, s.heap.size ≤ q → A q := fun q h => by rw [← hAe]; exact Or.inr h
  have hS : va_S A s.heap s.heap [] := va_S.rf
  have hl := lv_entry ([.ref h]) (n := 4) (Nat.le_of_ble_eq_true rfl)
  rw [lg_entry_eq]
  generalize (lg_sl ([.ref h]) ++ List.replicate (4 - (lg_sl ([.ref h])).length) Slot.unset).toArray = ls at hl ⊢
  have hl : lv_has ls 4 [(0, .ref h)] := hl
  refine lv_aload_n hx hb dX3_beginWaiting_0 rfl (lv_at hl 0 rfl) ?_
  have hPc := hP.sub (ws' := [(h, .inr (3, [.ref xprogramSteps, .ref xprogramLengths, .ref xlimits, .ref xfloors, .ref xvalues, .ref xacts, .ref xorder, .ref xdoneRow, .ref xrunning, .ref xbegunOfClass, .ref xbook, .ref xwaits, .int 0, .int 0, .int 0, .int nw, .int 0, .int 0])), (xbegunOfClass, .inl (cI, 4, .inl fb))]) [0, 1] rfl
  have hDc := hD.sub (ws' := [(h, .inr (3, [.ref xprogramSteps, .ref xprogramLengths, .ref xlimits, .ref xfloors, .ref xvalues, .ref xacts, .ref xorder, .ref xdoneRow, .ref xrunning, .ref xbegunOfClass, .ref xbook, .ref xwaits, .int 0, .int 0, .int 0, .int nw, .int 0, .int 0])), (xbegunOfClass, .inl (cI, 4, .inl fb))]) [0, 1] (by decide) rfl
  have hKc := hK.sub (tys' := [(cI, .int)]) [0] rfl
  have hFc := va_free (wc := [(h, .inr (3, [.ref xprogramSteps, .ref xprogramLengths, .ref xlimits, .ref xfloors, .ref xvalues, .ref xacts, .ref xorder, .ref xdoneRow, .ref xrunning, .ref xbegunOfClass, .ref xbook, .ref xwaits, .int 0, .int 0, .int 0, .int nw, .int 0, .int 0])), (xbegunOfClass, .inl (cI, 4, .inl fb))]) hD hS hA [0, 1] rfl
  refine va_callv (va_runV (As := []) (rest := []) ⟨hx, hb, hml, hown, hts⟩ (c_X3_countBegunOfClasses (l := l) (D := D) (h := h) (xprogramSteps := xprogramSteps) (xprogramLengths := xprogramLengths) (xlimits := xlimits) (xfloors := xfloors) (xvalues := xvalues) (xacts := xacts) (xorder := xorder) (xdoneRow := xdoneRow) (xrunning := xrunning) (xbegunOfClass := xbegunOfClass) (xbook := xbook) (xwaits := xwaits) (nw := nw) (fb := fb) (cI := cI) ) (cwV 0 hts gX3_beginWaiting_X3_countBegunOfClasses rfl rfl rfl (by decide +kernel) ⟨Nat.le_of_ble_eq_true rfl, Nat.le_of_ble_eq_true rfl⟩) ⟨k_blind, va_recv hKc hPc (ci := 3) (q0 := 0) rfl rfl, fun U hU hW => ⟨rfl, k_pre hU hW hPc hKc hDc⟩⟩ rfl rfl hl.1 rfl (lv_room (Nat.le_of_ble_eq_true rfl)) dX3_beginWaiting_1 ⟨by decide, by decide⟩) hS (fun q _ h => hFc q h) hFc (fun u t H1 locs ht hvm hw hB hz1 hk1 hS => ?_)
  refine W.widen (k := 0) (n := 0) (Nat.le_refl _) (Nat.le_refl _) ?_
  obtain ⟨fc_1, rfl⟩ := hw
  obtain ⟨hP1, hK1, hD1⟩ := hB
  rw [ht] at hP1
  have hK1 := va_K.moved hvm.symm hK1
  obtain ⟨hP, hD⟩ := va_join (wr := []) (w1 := [(h, .inr (3, [.ref xprogramSteps, .ref xprogramLengths, .ref xlimits, .ref xfloors, .ref xvalues, .ref xacts, .ref xorder, .ref xdoneRow, .ref xrunning, .ref xbegunOfClass, .ref xbook, .ref xwaits, .int 0, .int 0, .int 0, .int nw, .int 0, .int 0])), (xbegunOfClass, .inl (cI, 4, .inl fc_1))]) hP hD [0, 1] [] rfl rfl (by decide) (by decide) hk1 hFc hP1 hD1
  generalize H1 = H at hP hS ⊢
  have hP : va_P D vwCl [(h, .inr (3, [.ref xprogramSteps, .ref xprogramLengths, .ref xlimits, .ref xfloors, .ref xvalues, .ref xacts, .ref xorder, .ref xdoneRow, .ref xrunning, .ref xbegunOfClass, .ref xbook, .ref xwaits, .int 0, .int 0, .int 0, .int nw, .int 0, .int 0])), (xbegunOfClass, .inl (cI, 4, .inl fc_1))] H := hP
  have hD : va_D A [(h, .inr (3, [.ref xprogramSteps, .ref xprogramLengths, .ref xlimits, .ref xfloors, .ref xvalues, .ref xacts, .ref xorder, .ref xdoneRow, .ref xrunning, .ref xbegunOfClass, .ref xbook, .ref xwaits, .int 0, .int 0, .int 0, .int nw, .int 0, .int 0])), (xbegunOfClass, .inl (cI, 4, .inl fc_1))] := hD
  refine lv_iconst (v := 0) hx hb dX3_beginWaiting_4 (by decide) ?_
  refine lv_istore_n (lv' := [(1, .int 0), (0, .ref h)]) hx hb dX3_beginWaiting_5 rfl hl (by decide) rfl (fun ls hl => ?_)
  refine lv_iload_n hx hb dX3_beginWaiting_6 rfl (lv_at hl 0 rfl) ?_
  refine lv_aload_n hx hb dX3_beginWaiting_7 rfl (lv_at hl 1 rfl) ?_
  refine va_get (D := D) (ci := 3) (v := .int 0) (C := RX3) (T := TX3) (N := 18) hx hb hts kin_X3_beginWaiting_X3 hown hK hP 0 rfl rfl 12 (by decide) (hts _ kw_X3_beginWaiting__fieldLink_RX3_102_ActHouse_actCount_I_) (fun _ h9 => h9) rfl dX3_beginWaiting_8 ?_
  refine lv_icmp_ge (tgt := 120) hx hb dX3_beginWaiting_11 (by decide) (fun c2 => ?_) (fun c2 => ?_)
  · skip
    have hP := hP.sub (ws' := [(h, .inr (3, [.ref xprogramSteps, .ref xprogramLengths, .ref xlimits, .ref xfloors, .ref xvalues, .ref xacts, .ref xorder, .ref xdoneRow, .ref xrunning, .ref xbegunOfClass, .ref xbook, .ref xwaits, .int 0, .int 0, .int 0, .int nw, .int 0, .int 0])), (xbegunOfClass, .inl (cI, 4, .inl fc_1))]) [0, 1] rfl
    have hD := hD.sub (ws' := [(h, .inr (3, [.ref xprogramSteps, .ref xprogramLengths, .ref xlimits, .ref xfloors, .ref xvalues, .ref xacts, .ref xorder, .ref xdoneRow, .ref xrunning, .ref xbegunOfClass, .ref xbook, .ref xwaits, .int 0, .int 0, .int 0, .int nw, .int 0, .int 0])), (xbegunOfClass, .inl (cI, 4, .inl fc_1))]) [0, 1] (by decide) rfl
    have hK := hK.sub (tys' := [(cI, .int)]) [0] rfl
    refine W.widen (k := 0) (n := 0) (by decide) (by decide) ?_
    exact W.vret hx hb hr (fun t ht hW => ⟨⟨([(h, .inr (3, [.ref xprogramSteps, .ref xprogramLengths, .ref xlimits, .ref xfloors, .ref xvalues, .ref xacts, .ref xorder, .ref xdoneRow, .ref xrunning, .ref xbegunOfClass, .ref xbook, .ref xwaits, .int 0, .int 0, .int 0, .int nw, .int 0, .int 0])), (xbegunOfClass, .inl (cI, 4, .inl fc_1))], [(cI, .int)]), rfl, ⟨fc_1, rfl⟩, ⟨by rw [ht]; exact hP, va_K.moved hW.alike hK, hD⟩⟩, hS.F ht⟩) hS.2.2 dX3_beginWaiting_120
  · skip
    exact absurd c2 (by decide)
set_option maxRecDepth 100000 in
theorem kw_X1_keepAll__fieldLink_RX1_15_ActHouse_LogBook_size_I_ : (.fieldLink RX1 15 "ActHouse$LogBook" "size" "I" : Cond) ∈ wsX1_keepAll := by decide +kernel
set_option maxRecDepth 100000 in
theorem kin_X1_keepAll_X1 : ∀ w ∈ u_ws RX1 TX1 3, w ∈ wsX1_keepAll := by decide +kernel
set_option maxRecDepth 100000 in
theorem kw_X1_keepAll__fieldLink_RX1_26_ActHouse_LogBook_kept_I_ : (.fieldLink RX1 26 "ActHouse$LogBook" "kept" "I" : Cond) ∈ wsX1_keepAll := by decide +kernel
set_option maxHeartbeats 4000000 in
set_option maxRecDepth 100000 in
theorem c_X1_keepAll {l : Launch} {D : va_G} {sz : Nat} {h : Nat} {en : Nat} {z : Int32} {k : Int32}  : Met l yX1_keepAll wsX1_keepAll ({ frames := 0, cells := 0, slots := 0, locals := 0 }) (va_Pc [.ref h] (k_Pre D [] [(h, .inr (1, [.ref en, .int z, .int k]))] sz)) (va_Qv (fun (u : va_W × List (ClassId × FieldType)) => (u = ([(h, .inr (1, [.ref en, .int z, .int z]))], []))) (k_B D (va_A [(h, .inr (1, [.ref en, .int z, .int k]))] sz)) (va_A [(h, .inr (1, [.ref en, .int z, .int k]))] sz)) 0 0 (va_A [(h, .inr (1, [.ref en, .int z, .int k]))] sz) := by
  refine Met.ofW (cc := cX1_keepAll) (maxL := 1) (ret := none) (by decide) rfl ?_
  intro p e s m args below meth c s₁ B hml hv
  obtain ⟨rfl, hsz, hP, hK, hD0⟩ := hv
  have hx := B.exec
  have hb := B.bytes
  have hr := B.returns
  have hts := atoms_spec (ws := wsX1_keepAll) B.pre
  have hown : s.vm.findClass RX1 = some m.cls := findClass_of_methodNamed B.named
  have hlocks := B.notSynchronized
  subst hsz
  have hD := hD0.self (sz := s.heap.size)
  generalize hAe : va_A [(h, .inr (1, [.ref en, .int z, .int k]))] s.heap.size = A at hD ⊢
  have hA : ∀ q : Nat, s.heap.size ≤ q → A q := fun q h => by rw [← hAe]; exact Or.inr h
  have hS : va_S A s.heap s.heap [] := va_S.rf
  have hl := lv_entry ([.ref h]) (n := 1) (Nat.le_of_ble_eq_true rfl)
  rw [lg_entry_eq]
  generalize (lg_sl ([.ref h]) ++ List.replicate (1 - (lg_sl ([.ref h])).length) Slot.unset).toArray = ls at hl ⊢
  have hl : lv_has ls 1 [(0, .ref h)] := hl
  refine lv_aload_n hx hb dX1_keepAll_0 rfl (lv_at hl 0 rfl) ?_
  refine lv_aload_n hx hb dX1_keepAll_1 rfl (lv_at hl 0 rfl) ?_
  refine va_get (D := D) (ci := 1) (v := .int z) (C := RX1) (T := TX1) (N := 3) hx hb hts kin_X1_keepAll_X1 hown hK hP 0 rfl rfl 1 (by decide) (hts _ kw_X1_keepAll__fieldLink_RX1_15_ActHouse_LogBook_size_I_) (fun _ h9 => h9) rfl dX1_keepAll_2 ?_
  refine va_put (D := D) (ci := 1) (v := .int z) (ty := .int) (C := RX1) (T := TX1) (N := 3) hx hb hts kin_X1_keepAll_X1 tyX1 tyX1_ok nmX1 hown hK hP hD hS 0 rfl rfl 2 (by decide) (hts _ kw_X1_keepAll__fieldLink_RX1_26_ActHouse_LogBook_kept_I_) (fun _ h9 => h9) rfl (by decide +kernel) rfl rfl (Nat.le_of_ble_eq_true rfl) dX1_keepAll_5 (fun H locs hP hD hS => ?_)
  have hP : va_P D vwCl [(h, .inr (1, [.ref en, .int z, .int z]))] H := hP
  have hD : va_D A [(h, .inr (1, [.ref en, .int z, .int z]))] := hD
  have hP := hP.sub (ws' := [(h, .inr (1, [.ref en, .int z, .int z]))]) [0] rfl
  have hD := hD.sub (ws' := [(h, .inr (1, [.ref en, .int z, .int z]))]) [0] (by decide) rfl
  have hK := hK.sub (tys' := []) [] rfl
  refine W.widen (k := 0) (n := 0) (by decide) (by decide) ?_
  exact W.vret hx hb hr (fun t ht hW => ⟨⟨([(h, .inr (1, [.ref en, .int z, .int z]))], []), rfl, rfl, ⟨by rw [ht]; exact hP, va_K.moved hW.alike hK, hD⟩⟩, hS.F ht⟩) hS.2.2 dX1_keepAll_8
set_option maxRecDepth 100000 in
theorem kw_X1_cut__fieldLink_RX1_15_ActHouse_LogBook_size_I_ : (.fieldLink RX1 15 "ActHouse$LogBook" "size" "I" : Cond) ∈ wsX1_cut := by decide +kernel
set_option maxRecDepth 100000 in
theorem kin_X1_cut_X1 : ∀ w ∈ u_ws RX1 TX1 3, w ∈ wsX1_cut := by decide +kernel
set_option maxHeartbeats 4000000 in
set_option maxRecDepth 100000 in
theorem c_X1_cut {l : Launch} {D : va_G} {sz : Nat} {h : Nat} {en : Nat} {z : Int32} {k : Int32} {x : Int32}  : Met l yX1_cut wsX1_cut ({ frames := 0, cells := 0, slots := 0, locals := 0 }) (va_Pc [.ref h, .int x] (k_Pre D [] [(h, .inr (1, [.ref en, .int z, .int k]))] sz)) (va_Qv (fun (u : va_W × List (ClassId × FieldType)) => (∃ (z2 : Int32), u = ([(h, .inr (1, [.ref en, .int z2, .int k]))], []))) (k_B D (va_A [(h, .inr (1, [.ref en, .int z, .int k]))] sz)) (va_A [(h, .inr (1, [.ref en, .int z, .int k]))] sz)) 0 0 (va_A [(h, .inr (1, [.ref en, .int z, .int k]))] sz) := by
  refine Met.ofW (cc := cX1_cut) (maxL := 2) (ret := none) (by decide) rfl ?_
  intro p e s m args below meth c s₁ B hml hv
  obtain ⟨rfl, hsz, hP, hK, hD0⟩ := hv
  have hx := B.exec
  have hb := B.bytes
  have hr := B.returns
  have hts := atoms_spec (ws := wsX1_cut) B.pre
  have hown : s.vm.findClass RX1 = some m.cls := findClass_of_methodNamed B.named
  have hlocks := B.notSynchronized
  subst hsz
  have hD := hD0.self (sz := s.heap.size)
  generalize hAe : va_A [(h, .inr (1, [.ref en, .int z, .int k]))] s.heap.size = A at hD ⊢
  have hA : ∀ q : Nat, s.heap.size ≤ q → A q := fun q h => by rw [← hAe]; exact Or.inr h
  have hS : va_S A s.heap s.heap [] := va_S.rf
  have hl := lv_entry ([.ref h, .int x]) (n := 2) (Nat.le_of_ble_eq_true rfl)
  rw [lg_entry_eq]
  generalize (lg_sl ([.ref h, .int x]) ++ List.replicate (2 - (lg_sl ([.ref h, .int x])).length) Slot.unset).toArray = ls at hl ⊢
  have hl : lv_has ls 2 [(0, .ref h), (1, .int x)] := hl
  refine lv_iload_n hx hb dX1_cut_0 rfl (lv_at hl 1 rfl) ?_
  refine lv_if_lt (tgt := 17) hx hb dX1_cut_1 (by decide) (fun c1 => ?_) (fun c1 => ?_)
  · skip
    have c1 := k_lt c1
    have hl0 : (0 : Int32).toInt = 0 := by decide
    have hP := hP.sub (ws' := [(h, .inr (1, [.ref en, .int z, .int k]))]) [0] rfl
    have hD := hD.sub (ws' := [(h, .inr (1, [.ref en, .int z, .int k]))]) [0] (by decide) rfl
    have hK := hK.sub (tys' := []) [] rfl
    refine W.widen (k := 0) (n := 0) (by decide) (by decide) ?_
    exact W.vret hx hb hr (fun t ht hW => ⟨⟨([(h, .inr (1, [.ref en, .int z, .int k]))], []), rfl, ⟨z, rfl⟩, ⟨by rw [ht]; exact hP, va_K.moved hW.alike hK, hD⟩⟩, hS.F ht⟩) hS.2.2 dX1_cut_17
  · skip
    have c1 := k_nlt c1
    have hl0 : (0 : Int32).toInt = 0 := by decide
    refine lv_iload_n hx hb dX1_cut_4 rfl (lv_at hl 1 rfl) ?_
    refine lv_aload_n hx hb dX1_cut_5 rfl (lv_at hl 0 rfl) ?_
    refine va_get (D := D) (ci := 1) (v := .int z) (C := RX1) (T := TX1) (N := 3) hx hb hts kin_X1_cut_X1 hown hK hP 0 rfl rfl 1 (by decide) (hts _ kw_X1_cut__fieldLink_RX1_15_ActHouse_LogBook_size_I_) (fun _ h9 => h9) rfl dX1_cut_6 ?_
    refine lv_icmp_gt (tgt := 17) hx hb dX1_cut_9 (by decide) (fun c2 => ?_) (fun c2 => ?_)
    · skip
      have c2 := k_lt c2
      have hP := hP.sub (ws' := [(h, .inr (1, [.ref en, .int z, .int k]))]) [0] rfl
      have hD := hD.sub (ws' := [(h, .inr (1, [.ref en, .int z, .int k]))]) [0] (by decide) rfl
      have hK := hK.sub (tys' := []) [] rfl
      refine W.widen (k := 0) (n := 0) (by decide) (by decide) ?_
      exact W.vret hx hb hr (fun t ht hW => ⟨⟨([(h, .inr (1, [.ref en, .int z, .int k]))], []), rfl, ⟨z, rfl⟩, ⟨by rw [ht]; exact hP, va_K.moved hW.alike hK, hD⟩⟩, hS.F ht⟩) hS.2.2 dX1_cut_17
    · skip
      have c2 := k_nlt c2
      refine lv_aload_n hx hb dX1_cut_12 rfl (lv_at hl 0 rfl) ?_
      refine lv_iload_n hx hb dX1_cut_13 rfl (lv_at hl 1 rfl) ?_
      refine va_put (D := D) (ci := 1) (v := .int x) (ty := .int) (C := RX1) (T := TX1) (N := 3) hx hb hts kin_X1_cut_X1 tyX1 tyX1_ok nmX1 hown hK hP hD hS 0 rfl rfl 1 (by decide) (hts _ kw_X1_cut__fieldLink_RX1_15_ActHouse_LogBook_size_I_) (fun _ h9 => h9) rfl (by decide +kernel) rfl rfl (Nat.le_of_ble_eq_true rfl) dX1_cut_14 (fun H locs hP hD hS => ?_)
      have hP : va_P D vwCl [(h, .inr (1, [.ref en, .int x, .int k]))] H := hP
      have hD : va_D A [(h, .inr (1, [.ref en, .int x, .int k]))] := hD
      have hP := hP.sub (ws' := [(h, .inr (1, [.ref en, .int x, .int k]))]) [0] rfl
      have hD := hD.sub (ws' := [(h, .inr (1, [.ref en, .int x, .int k]))]) [0] (by decide) rfl
      have hK := hK.sub (tys' := []) [] rfl
      refine W.widen (k := 0) (n := 0) (by decide) (by decide) ?_
      exact W.vret hx hb hr (fun t ht hW => ⟨⟨([(h, .inr (1, [.ref en, .int x, .int k]))], []), rfl, ⟨x, rfl⟩, ⟨by rw [ht]; exact hP, va_K.moved hW.alike hK, hD⟩⟩, hS.F ht⟩) hS.2.2 dX1_cut_17
set_option maxRecDepth 100000 in
theorem kw_X1_tell__fieldLink_RX1_15_ActHouse_LogBook_size_I_ : (.fieldLink RX1 15 "ActHouse$LogBook" "size" "I" : Cond) ∈ wsX1_tell := by decide +kernel
set_option maxRecDepth 100000 in
theorem kin_X1_tell_X1 : ∀ w ∈ u_ws RX1 TX1 3, w ∈ wsX1_tell := by decide +kernel
set_option maxHeartbeats 4000000 in
set_option maxRecDepth 100000 in
theorem c_X1_tell {l : Launch} {D : va_G} {sz : Nat} {h : Nat} {en : Nat} {k : Int32} {x : Int32} {y : Int32}  : Met l yX1_tell wsX1_tell ({ frames := 0, cells := 0, slots := 0, locals := 0 }) (va_Pc [.ref h, .int x, .int y] (k_Pre D [] [(h, .inr (1, [.ref en, .int 0, .int k]))] sz)) (va_Qi (fun (r : Int32) (u : va_W × List (ClassId × FieldType)) => (r = (-1) ∧ u = ([], []))) (k_B D (va_A [(h, .inr (1, [.ref en, .int 0, .int k]))] sz)) (va_A [(h, .inr (1, [.ref en, .int 0, .int k]))] sz)) 0 0 (va_A [(h, .inr (1, [.ref en, .int 0, .int k]))] sz) := by
  refine Met.ofW (cc := cX1_tell) (maxL := 4) (ret := (some .int)) (by decide) rfl ?_
  intro p e s m args below meth c s₁ B hml hv
  obtain ⟨rfl, hsz, hP, hK, hD0⟩ := hv
  have hx := B.exec
  have hb := B.bytes
  have hr := B.returns
  have hts := atoms_spec (ws := wsX1_tell) B.pre
  have hown : s.vm.findClass RX1 = some m.cls := findClass_of_methodNamed B.named
  have hlocks := B.notSynchronized
  subst hsz
  have hD := hD0.self (sz := s.heap.size)
  generalize hAe : va_A [(h, .inr (1, [.ref en, .int 0, .int k]))] s.heap.size = A at hD ⊢
  have hA : ∀ q : Nat, s.heap.size ≤ q → A q := fun q h => by rw [← hAe]; exact Or.inr h
  have hS : va_S A s.heap s.heap [] := va_S.rf
  have hl := lv_entry ([.ref h, .int x, .int y]) (n := 4) (Nat.le_of_ble_eq_true rfl)
  rw [lg_entry_eq]
  generalize (lg_sl ([.ref h, .int x, .int y]) ++ List.replicate (4 - (lg_sl ([.ref h, .int x, .int y])).length) Slot.unset).toArray = ls at hl ⊢
  have hl : lv_has ls 4 [(0, .ref h), (1, .int x), (2, .int y)] := hl
  refine lv_iload_n hx hb dX1_tell_0 rfl (lv_at hl 1 rfl) ?_
  refine lv_if_lt (tgt := 12) hx hb dX1_tell_1 (by decide) (fun c1 => ?_) (fun c1 => ?_)
  · skip
    have c1 := k_lt c1
    have hl0 : (0 : Int32).toInt = 0 := by decide
    refine lv_iconst (v := (-1)) hx hb dX1_tell_12 (by decide) ?_
    have hP := hP.sub (ws' := []) [] rfl
    have hD := hD.sub (ws' := []) [] (by decide) rfl
    have hK := hK.sub (tys' := []) [] rfl
    refine W.widen (k := 0) (n := 0) (by decide) (by decide) ?_
    exact W.iret (v := (-1)) hx hb hr (fun t ht hW => ⟨⟨(-1), ([], []), rfl, ⟨rfl, rfl⟩, ⟨by rw [ht]; exact hP, va_K.moved hW.alike hK, hD⟩⟩, hS.F ht⟩) hS.2.2 dX1_tell_13
  · skip
    have c1 := k_nlt c1
    have hl0 : (0 : Int32).toInt = 0 := by decide
    refine lv_iload_n hx hb dX1_tell_4 rfl (lv_at hl 1 rfl) ?_
    refine lv_aload_n hx hb dX1_tell_5 rfl (lv_at hl 0 rfl) ?_
    refine va_get (D := D) (ci := 1) (v := .int 0) (C := RX1) (T := TX1) (N := 3) hx hb hts kin_X1_tell_X1 hown hK hP 0 rfl rfl 1 (by decide) (hts _ kw_X1_tell__fieldLink_RX1_15_ActHouse_LogBook_size_I_) (fun _ h9 => h9) rfl dX1_tell_6 ?_
    refine lv_icmp_lt (tgt := 14) hx hb dX1_tell_9 (by decide) (fun c2 => ?_) (fun c2 => ?_)
    · skip
      have c2 := k_lt c2
      have hl0 : (0 : Int32).toInt = 0 := by decide
      exfalso; omega
    · skip
      have c2 := k_nlt c2
      have hl0 : (0 : Int32).toInt = 0 := by decide
      refine lv_iconst (v := (-1)) hx hb dX1_tell_12 (by decide) ?_
      have hP := hP.sub (ws' := []) [] rfl
      have hD := hD.sub (ws' := []) [] (by decide) rfl
      have hK := hK.sub (tys' := []) [] rfl
      refine W.widen (k := 0) (n := 0) (by decide) (by decide) ?_
      exact W.iret (v := (-1)) hx hb hr (fun t ht hW => ⟨⟨(-1), ([], []), rfl, ⟨rfl, rfl⟩, ⟨by rw [ht]; exact hP, va_K.moved hW.alike hK, hD⟩⟩, hS.F ht⟩) hS.2.2 dX1_tell_13
set_option maxRecDepth 100000 in
theorem kw_X3_answerDone__fieldLink_RX3_46_ActHouse_book_LActHouse_LogBook_ : (.fieldLink RX3 46 "ActHouse" "book" "LActHouse$LogBook;" : Cond) ∈ wsX3_answerDone := by decide +kernel
set_option maxRecDepth 100000 in
theorem kin_X3_answerDone_X3 : ∀ w ∈ u_ws RX3 TX3 18, w ∈ wsX3_answerDone := by decide +kernel
set_option maxRecDepth 100000 in
theorem kw_X3_answerDone__fieldLink_RX3_154_ActHouse_doneCount_I_ : (.fieldLink RX3 154 "ActHouse" "doneCount" "I" : Cond) ∈ wsX3_answerDone := by decide +kernel
set_option maxHeartbeats 4000000 in
set_option maxRecDepth 100000 in
theorem c_X3_answerDone {l : Launch} {D : va_G} {sz : Nat} {h : Nat} {xprogramSteps : Nat} {xprogramLengths : Nat} {xlimits : Nat} {xfloors : Nat} {xvalues : Nat} {xacts : Nat} {xorder : Nat} {xdoneRow : Nat} {xrunning : Nat} {xbegunOfClass : Nat} {xbook : Nat} {xwaits : Nat} {nw : Int32} {en : Nat}  : Met l yX3_answerDone wsX3_answerDone ({ frames := 1, cells := 0, slots := 0, locals := 20 }) (va_Pc [.ref h] (k_Pre D [] [(h, .inr (3, [.ref xprogramSteps, .ref xprogramLengths, .ref xlimits, .ref xfloors, .ref xvalues, .ref xacts, .ref xorder, .ref xdoneRow, .ref xrunning, .ref xbegunOfClass, .ref xbook, .ref xwaits, .int 0, .int 0, .int 0, .int nw, .int 0, .int 0])), (xbook, .inr (1, [.ref en, .int 0, .int 0]))] sz)) (va_Qv (fun (u : va_W × List (ClassId × FieldType)) => (u = ([(h, .inr (3, [.ref xprogramSteps, .ref xprogramLengths, .ref xlimits, .ref xfloors, .ref xvalues, .ref xacts, .ref xorder, .ref xdoneRow, .ref xrunning, .ref xbegunOfClass, .ref xbook, .ref xwaits, .int 0, .int 0, .int 0, .int nw, .int 0, .int 0])), (xbook, .inr (1, [.ref en, .int 0, .int 0]))], []))) (k_B D (va_A [(h, .inr (3, [.ref xprogramSteps, .ref xprogramLengths, .ref xlimits, .ref xfloors, .ref xvalues, .ref xacts, .ref xorder, .ref xdoneRow, .ref xrunning, .ref xbegunOfClass, .ref xbook, .ref xwaits, .int 0, .int 0, .int 0, .int nw, .int 0, .int 0])), (xbook, .inr (1, [.ref en, .int 0, .int 0]))] sz)) (va_A [(h, .inr (3, [.ref xprogramSteps, .ref xprogramLengths, .ref xlimits, .ref xfloors, .ref xvalues, .ref xacts, .ref xorder, .ref xdoneRow, .ref xrunning, .ref xbegunOfClass, .ref xbook, .ref xwaits, .int 0, .int 0, .int 0, .int nw, .int 0, .int 0])), (xbook, .inr (1, [.ref en, .int 0, .int 0]))] sz)) 0 0 (va_A [(h, .inr (3, [.ref xprogramSteps, .ref xprogramLengths, .ref xlimits, .ref xfloors, .ref xvalues, .ref xacts, .ref xorder, .ref xdoneRow, .ref xrunning, .ref xbegunOfClass, .ref xbook, .ref xwaits, .int 0, .int 0, .int 0, .int nw, .int 0, .int 0])), (xbook, .inr (1, [.ref en, .int 0, .int 0]))] sz) := by
  refine Met.ofW (cc := cX3_answerDone) (maxL := 2) (ret := none) (by decide) rfl ?_
  intro p e s m args below meth c s₁ B hml hv
  obtain ⟨rfl, hsz, hP, hK, hD0⟩ := hv
  have hx := B.exec
  have hb := B.bytes
  have hr := B.returns
  have hts := atoms_spec (ws := wsX3_answerDone) B.pre
  have hown : s.vm.findClass RX3 = some m.cls := findClass_of_methodNamed B.named
  have hlocks := B.notSynchronized
  subst hsz
  have hD := hD0.self (sz := s.heap.size)
  generalize hAe : va_A [(h, .inr (3, [.ref xprogramSteps, .ref xprogramLengths, .ref xlimits, .ref xfloors, .ref xvalues, .ref xacts, .ref xorder, .ref xdoneRow, .ref xrunning, .ref xbegunOfClass, .ref xbook, .ref xwaits, .int 0, .int 0, .int 0, .int nw, .int 0, .int 0])), (xbook, .inr (1, [.ref en, .int 0, .int 0]))] s.heap.size = A at hD ⊢
  have hA : ∀ q : Nat, s.heap.size ≤ q → A q := fun q h => by rw [← hAe]; exact Or.inr h
  have hS : va_S A s.heap s.heap [] := va_S.rf
  have hl := lv_entry ([.ref h]) (n := 2) (Nat.le_of_ble_eq_true rfl)
  rw [lg_entry_eq]
  generalize (lg_sl ([.ref h]) ++ List.replicate (2 - (lg_sl ([.ref h])).length) Slot.unset).toArray = ls at hl ⊢
  have hl : lv_has ls 2 [(0, .ref h)] := hl
  refine lv_aload_n hx hb dX3_answerDone_0 rfl (lv_at hl 0 rfl) ?_
  refine va_get (D := D) (ci := 3) (v := .ref xbook) (C := RX3) (T := TX3) (N := 18) hx hb hts kin_X3_answerDone_X3 hown hK hP 0 rfl rfl 10 (by decide) (hts _ kw_X3_answerDone__fieldLink_RX3_46_ActHouse_book_LActHouse_LogBook_) (fun _ h9 => h9) rfl dX3_answerDone_1 ?_
  have hPc := hP.sub (ws' := [(xbook, .inr (1, [.ref en, .int 0, .int 0]))]) [1] rfl
  have hDc := hD.sub (ws' := [(xbook, .inr (1, [.ref en, .int 0, .int 0]))]) [1] (by decide) rfl
  have hKc := hK.sub (tys' := []) [] rfl
  have hFc := va_free (wc := [(xbook, .inr (1, [.ref en, .int 0, .int 0]))]) hD hS hA [1] rfl
  refine va_callv (va_runV (As := []) (rest := []) ⟨hx, hb, hml, hown, hts⟩ (c_X1_keepAll (l := l) (D := D) (h := xbook) (en := en) (z := 0) (k := 0) ) (cwV 0 hts gX3_answerDone_X1_keepAll rfl rfl rfl (by decide +kernel) ⟨Nat.le_of_ble_eq_true rfl, Nat.le_of_ble_eq_true rfl⟩) ⟨k_blind, va_recv hKc hPc (ci := 1) (q0 := 0) rfl rfl, fun U hU hW => ⟨rfl, k_pre hU hW hPc hKc hDc⟩⟩ rfl rfl hl.1 rfl (lv_room (Nat.le_of_ble_eq_true rfl)) dX3_answerDone_4 ⟨by decide, by decide⟩) hS (fun q _ h => hFc q h) hFc (fun u t H1 locs ht hvm hw hB hz1 hk1 hS => ?_)
  refine W.widen (k := 0) (n := 0) (Nat.le_refl _) (Nat.le_refl _) ?_
  obtain ⟨rfl⟩ := hw
  obtain ⟨hP1, hK1, hD1⟩ := hB
  rw [ht] at hP1
  have hK1 := va_K.moved hvm.symm hK1
  obtain ⟨hP, hD⟩ := va_join (wr := [(h, .inr (3, [.ref xprogramSteps, .ref xprogramLengths, .ref xlimits, .ref xfloors, .ref xvalues, .ref xacts, .ref xorder, .ref xdoneRow, .ref xrunning, .ref xbegunOfClass, .ref xbook, .ref xwaits, .int 0, .int 0, .int 0, .int nw, .int 0, .int 0]))]) (w1 := [(xbook, .inr (1, [.ref en, .int 0, .int 0]))]) hP hD [1] [0] rfl rfl (by decide) (by decide) hk1 hFc hP1 hD1
  generalize H1 = H at hP hS ⊢
  have hP : va_P D vwCl [(h, .inr (3, [.ref xprogramSteps, .ref xprogramLengths, .ref xlimits, .ref xfloors, .ref xvalues, .ref xacts, .ref xorder, .ref xdoneRow, .ref xrunning, .ref xbegunOfClass, .ref xbook, .ref xwaits, .int 0, .int 0, .int 0, .int nw, .int 0, .int 0])), (xbook, .inr (1, [.ref en, .int 0, .int 0]))] H := hP
  have hD : va_D A [(h, .inr (3, [.ref xprogramSteps, .ref xprogramLengths, .ref xlimits, .ref xfloors, .ref xvalues, .ref xacts, .ref xorder, .ref xdoneRow, .ref xrunning, .ref xbegunOfClass, .ref xbook, .ref xwaits, .int 0, .int 0, .int 0, .int nw, .int 0, .int 0])), (xbook, .inr (1, [.ref en, .int 0, .int 0]))] := hD
  refine lv_iconst (v := 0) hx hb dX3_answerDone_7 (by decide) ?_
  refine lv_istore_n (lv' := [(1, .int 0), (0, .ref h)]) hx hb dX3_answerDone_8 rfl hl (by decide) rfl (fun ls hl => ?_)
  refine lv_iload_n hx hb dX3_answerDone_9 rfl (lv_at hl 0 rfl) ?_
  refine lv_aload_n hx hb dX3_answerDone_10 rfl (lv_at hl 1 rfl) ?_
  refine va_get (D := D) (ci := 3) (v := .int 0) (C := RX3) (T := TX3) (N := 18) hx hb hts kin_X3_answerDone_X3 hown hK hP 0 rfl rfl 13 (by decide) (hts _ kw_X3_answerDone__fieldLink_RX3_154_ActHouse_doneCount_I_) (fun _ h9 => h9) rfl dX3_answerDone_11 ?_
  refine lv_icmp_ge (tgt := 38) hx hb dX3_answerDone_14 (by decide) (fun c2 => ?_) (fun c2 => ?_)
  · skip
    have hP := hP.sub (ws' := [(h, .inr (3, [.ref xprogramSteps, .ref xprogramLengths, .ref xlimits, .ref xfloors, .ref xvalues, .ref xacts, .ref xorder, .ref xdoneRow, .ref xrunning, .ref xbegunOfClass, .ref xbook, .ref xwaits, .int 0, .int 0, .int 0, .int nw, .int 0, .int 0])), (xbook, .inr (1, [.ref en, .int 0, .int 0]))]) [0, 1] rfl
    have hD := hD.sub (ws' := [(h, .inr (3, [.ref xprogramSteps, .ref xprogramLengths, .ref xlimits, .ref xfloors, .ref xvalues, .ref xacts, .ref xorder, .ref xdoneRow, .ref xrunning, .ref xbegunOfClass, .ref xbook, .ref xwaits, .int 0, .int 0, .int 0, .int nw, .int 0, .int 0])), (xbook, .inr (1, [.ref en, .int 0, .int 0]))]) [0, 1] (by decide) rfl
    have hK := hK.sub (tys' := []) [] rfl
    refine W.widen (k := 0) (n := 0) (by decide) (by decide) ?_
    exact W.vret hx hb hr (fun t ht hW => ⟨⟨([(h, .inr (3, [.ref xprogramSteps, .ref xprogramLengths, .ref xlimits, .ref xfloors, .ref xvalues, .ref xacts, .ref xorder, .ref xdoneRow, .ref xrunning, .ref xbegunOfClass, .ref xbook, .ref xwaits, .int 0, .int 0, .int 0, .int nw, .int 0, .int 0])), (xbook, .inr (1, [.ref en, .int 0, .int 0]))], []), rfl, rfl, ⟨by rw [ht]; exact hP, va_K.moved hW.alike hK, hD⟩⟩, hS.F ht⟩) hS.2.2 dX3_answerDone_38
  · skip
    exact absurd c2 (by decide)
set_option maxRecDepth 100000 in
theorem kw_X3_passTick__fieldLink_RX3_79_ActHouse_now_I_ : (.fieldLink RX3 79 "ActHouse" "now" "I" : Cond) ∈ wsX3_passTick := by decide +kernel
set_option maxRecDepth 100000 in
theorem kin_X3_passTick_X3 : ∀ w ∈ u_ws RX3 TX3 18, w ∈ wsX3_passTick := by decide +kernel
set_option maxHeartbeats 4000000 in
set_option maxRecDepth 100000 in
theorem c_X3_passTick {l : Launch} {D : va_G} {sz : Nat} {h : Nat} {xprogramSteps : Nat} {xprogramLengths : Nat} {xlimits : Nat} {xfloors : Nat} {xvalues : Nat} {xacts : Nat} {xorder : Nat} {xdoneRow : Nat} {xrunning : Nat} {xbegunOfClass : Nat} {xbook : Nat} {xwaits : Nat} {nw : Int32} {dr : Nat} {rc : Nat} {fj : Nat → Int64} {fb : Nat → Int32} {en : Nat} {cI : ClassId} {cJ : ClassId}  : Met l yX3_passTick wsX3_passTick ({ frames := 4, cells := 0, slots := 0, locals := 91 }) (va_Pc [.ref h] (k_Pre D [(cI, .int), (cJ, .long)] [(h, .inr (3, [.ref xprogramSteps, .ref xprogramLengths, .ref xlimits, .ref xfloors, .ref xvalues, .ref xacts, .ref xorder, .ref xdoneRow, .ref xrunning, .ref xbegunOfClass, .ref xbook, .ref xwaits, .int 0, .int 0, .int 0, .int nw, .int 0, .int 0])), (xwaits, .inr (2, [.ref dr, .ref rc, .int 0])), (dr, .inl (cJ, 36, .inr (.inl fj))), (xbegunOfClass, .inl (cI, 4, .inl fb)), (xbook, .inr (1, [.ref en, .int 0, .int 0]))] sz)) (va_Qv (fun (u : va_W × List (ClassId × FieldType)) => (∃ (fk : Nat → Int64) (fc : Nat → Int32), u = ([(h, .inr (3, [.ref xprogramSteps, .ref xprogramLengths, .ref xlimits, .ref xfloors, .ref xvalues, .ref xacts, .ref xorder, .ref xdoneRow, .ref xrunning, .ref xbegunOfClass, .ref xbook, .ref xwaits, .int 0, .int 0, .int 0, .int (nw + 1), .int 0, .int 0])), (xwaits, .inr (2, [.ref dr, .ref rc, .int 0])), (dr, .inl (cJ, 36, .inr (.inl fk))), (xbegunOfClass, .inl (cI, 4, .inl fc)), (xbook, .inr (1, [.ref en, .int 0, .int 0]))], [(cI, .int), (cJ, .long)]))) (k_B D (va_A [(h, .inr (3, [.ref xprogramSteps, .ref xprogramLengths, .ref xlimits, .ref xfloors, .ref xvalues, .ref xacts, .ref xorder, .ref xdoneRow, .ref xrunning, .ref xbegunOfClass, .ref xbook, .ref xwaits, .int 0, .int 0, .int 0, .int nw, .int 0, .int 0])), (xwaits, .inr (2, [.ref dr, .ref rc, .int 0])), (dr, .inl (cJ, 36, .inr (.inl fj))), (xbegunOfClass, .inl (cI, 4, .inl fb)), (xbook, .inr (1, [.ref en, .int 0, .int 0]))] sz)) (va_A [(h, .inr (3, [.ref xprogramSteps, .ref xprogramLengths, .ref xlimits, .ref xfloors, .ref xvalues, .ref xacts, .ref xorder, .ref xdoneRow, .ref xrunning, .ref xbegunOfClass, .ref xbook, .ref xwaits, .int 0, .int 0, .int 0, .int nw, .int 0, .int 0])), (xwaits, .inr (2, [.ref dr, .ref rc, .int 0])), (dr, .inl (cJ, 36, .inr (.inl fj))), (xbegunOfClass, .inl (cI, 4, .inl fb)), (xbook, .inr (1, [.ref en, .int 0, .int 0]))] sz)) 0 0 (va_A [(h, .inr (3, [.ref xprogramSteps, .ref xprogramLengths, .ref xlimits, .ref xfloors, .ref xvalues, .ref xacts, .ref xorder, .ref xdoneRow, .ref xrunning, .ref xbegunOfClass, .ref xbook, .ref xwaits, .int 0, .int 0, .int 0, .int nw, .int 0, .int 0])), (xwaits, .inr (2, [.ref dr, .ref rc, .int 0])), (dr, .inl (cJ, 36, .inr (.inl fj))), (xbegunOfClass, .inl (cI, 4, .inl fb)), (xbook, .inr (1, [.ref en, .int 0, .int 0]))] sz) := by
  refine Met.ofW (cc := cX3_passTick) (maxL := 1) (ret := none) (by decide) rfl ?_
  intro p e s m args below meth c s₁ B hml hv
  obtain ⟨rfl, hsz, hP, hK, hD0⟩ := hv
  have hx := B.exec
  have hb := B.bytes
  have hr := B.returns
  have hts := atoms_spec (ws := wsX3_passTick) B.pre
  have hown : s.vm.findClass RX3 = some m.cls := findClass_of_methodNamed B.named
  have hlocks := B.notSynchronized
  subst hsz
  have hD := hD0.self (sz := s.heap.size)
  generalize hAe : va_A [(h, .inr (3, [.ref xprogramSteps, .ref xprogramLengths, .ref xlimits, .ref xfloors, .ref xvalues, .ref xacts, .ref xorder, .ref xdoneRow, .ref xrunning, .ref xbegunOfClass, .ref xbook, .ref xwaits, .int 0, .int 0, .int 0, .int nw, .int 0, .int 0])), (xwaits, .inr (2, [.ref dr, .ref rc, .int 0])), (dr, .inl (cJ, 36, .inr (.inl fj))), (xbegunOfClass, .inl (cI, 4, .inl fb)), (xbook, .inr (1, [.ref en, .int 0, .int 0]))] s.heap.size = A at hD ⊢
  have hA : ∀ q : Nat, s.heap.size ≤ q → A q := fun q h => by rw [← hAe]; exact Or.inr h
  have hS : va_S A s.heap s.heap [] := va_S.rf
  have hl := lv_entry ([.ref h]) (n := 1) (Nat.le_of_ble_eq_true rfl)
  rw [lg_entry_eq]
  generalize (lg_sl ([.ref h]) ++ List.replicate (1 - (lg_sl ([.ref h])).length) Slot.unset).toArray = ls at hl ⊢
  have hl : lv_has ls 1 [(0, .ref h)] := hl
  refine lv_aload_n hx hb dX3_passTick_0 rfl (lv_at hl 0 rfl) ?_
  have hPc := hP.sub (ws' := [(h, .inr (3, [.ref xprogramSteps, .ref xprogramLengths, .ref xlimits, .ref xfloors, .ref xvalues, .ref xacts, .ref xorder, .ref xdoneRow, .ref xrunning, .ref xbegunOfClass, .ref xbook, .ref xwaits, .int 0, .int 0, .int 0, .int nw, .int 0, .int 0]))]) [0] rfl
  have hDc := hD.sub (ws' := [(h, .inr (3, [.ref xprogramSteps, .ref xprogramLengths, .ref xlimits, .ref xfloors, .ref xvalues, .ref xacts, .ref xorder, .ref xdoneRow, .ref xrunning, .ref xbegunOfClass, .ref xbook, .ref xwaits, .int 0, .int 0, .int 0, .int nw, .int 0, .int 0]))]) [0] (by decide) rfl
  have hKc := hK.sub (tys' := []) [] rfl
  have hFc := va_free (wc := [(h, .inr (3, [.ref xprogramSteps, .ref xprogramLengths, .ref xlimits, .ref xfloors, .ref xvalues, .ref xacts, .ref xorder, .ref xdoneRow, .ref xrunning, .ref xbegunOfClass, .ref xbook, .ref xwaits, .int 0, .int 0, .int 0, .int nw, .int 0, .int 0]))]) hD hS hA [0] rfl
  refine va_callv (va_runV (As := []) (rest := []) ⟨hx, hb, hml, hown, hts⟩ (c_X3_stepBegun (l := l) (D := D) (h := h) (xprogramSteps := xprogramSteps) (xprogramLengths := xprogramLengths) (xlimits := xlimits) (xfloors := xfloors) (xvalues := xvalues) (xacts := xacts) (xorder := xorder) (xdoneRow := xdoneRow) (xrunning := xrunning) (xbegunOfClass := xbegunOfClass) (xbook := xbook) (xwaits := xwaits) (nw := nw) ) (cwV 0 hts gX3_passTick_X3_stepBegun rfl rfl rfl (by decide +kernel) ⟨Nat.le_of_ble_eq_true rfl, Nat.le_of_ble_eq_true rfl⟩) ⟨k_blind, va_recv hKc hPc (ci := 3) (q0 := 0) rfl rfl, fun U hU hW => ⟨rfl, k_pre hU hW hPc hKc hDc⟩⟩ rfl rfl hl.1 rfl (lv_room (Nat.le_of_ble_eq_true rfl)) dX3_passTick_1 ⟨by decide, by decide⟩) hS (fun q _ h => hFc q h) hFc (fun u t H1 locs ht hvm hw hB hz1 hk1 hS => ?_)
  refine W.widen (k := 0) (n := 0) (Nat.le_refl _) (Nat.le_refl _) ?_
  obtain ⟨rfl⟩ := hw
  obtain ⟨hP1, hK1, hD1⟩ := hB
  rw [ht] at hP1
  have hK1 := va_K.moved hvm.symm hK1
  obtain ⟨hP, hD⟩ := va_join (wr := [(xwaits, .inr (2, [.ref dr, .ref rc, .int 0])), (dr, .inl (cJ, 36, .inr (.inl fj))), (xbegunOfClass, .inl (cI, 4, .inl fb)), (xbook, .inr (1, [.ref en, .int 0, .int 0]))]) (w1 := [(h, .inr (3, [.ref xprogramSteps, .ref xprogramLengths, .ref xlimits, .ref xfloors, .ref xvalues, .ref xacts, .ref xorder, .ref xdoneRow, .ref xrunning, .ref xbegunOfClass, .ref xbook, .ref xwaits, .int 0, .int 0, .int 0, .int nw, .int 0, .int 0]))]) hP hD [0] [1, 2, 3, 4] rfl rfl (by decide) (by decide) hk1 hFc hP1 hD1
  generalize H1 = H at hP hS ⊢
  have hP : va_P D vwCl [(xwaits, .inr (2, [.ref dr, .ref rc, .int 0])), (dr, .inl (cJ, 36, .inr (.inl fj))), (xbegunOfClass, .inl (cI, 4, .inl fb)), (xbook, .inr (1, [.ref en, .int 0, .int 0])), (h, .inr (3, [.ref xprogramSteps, .ref xprogramLengths, .ref xlimits, .ref xfloors, .ref xvalues, .ref xacts, .ref xorder, .ref xdoneRow, .ref xrunning, .ref xbegunOfClass, .ref xbook, .ref xwaits, .int 0, .int 0, .int 0, .int nw, .int 0, .int 0]))] H := hP
  have hD : va_D A [(xwaits, .inr (2, [.ref dr, .ref rc, .int 0])), (dr, .inl (cJ, 36, .inr (.inl fj))), (xbegunOfClass, .inl (cI, 4, .inl fb)), (xbook, .inr (1, [.ref en, .int 0, .int 0])), (h, .inr (3, [.ref xprogramSteps, .ref xprogramLengths, .ref xlimits, .ref xfloors, .ref xvalues, .ref xacts, .ref xorder, .ref xdoneRow, .ref xrunning, .ref xbegunOfClass, .ref xbook, .ref xwaits, .int 0, .int 0, .int 0, .int nw, .int 0, .int 0]))] := hD
  refine lv_aload_n hx hb dX3_passTick_4 rfl (lv_at hl 0 rfl) ?_
  have hPc := hP.sub (ws' := [(h, .inr (3, [.ref xprogramSteps, .ref xprogramLengths, .ref xlimits, .ref xfloors, .ref xvalues, .ref xacts, .ref xorder, .ref xdoneRow, .ref xrunning, .ref xbegunOfClass, .ref xbook, .ref xwaits, .int 0, .int 0, .int 0, .int nw, .int 0, .int 0])), (xwaits, .inr (2, [.ref dr, .ref rc, .int 0])), (dr, .inl (cJ, 36, .inr (.inl fj)))]) [4, 0, 1] rfl
  have hDc := hD.sub (ws' := [(h, .inr (3, [.ref xprogramSteps, .ref xprogramLengths, .ref xlimits, .ref xfloors, .ref xvalues, .ref xacts, .ref xorder, .ref xdoneRow, .ref xrunning, .ref xbegunOfClass, .ref xbook, .ref xwaits, .int 0, .int 0, .int 0, .int nw, .int 0, .int 0])), (xwaits, .inr (2, [.ref dr, .ref rc, .int 0])), (dr, .inl (cJ, 36, .inr (.inl fj)))]) [4, 0, 1] (by decide) rfl
  have hKc := hK.sub (tys' := [(cJ, .long)]) [1] rfl
  have hFc := va_free (wc := [(h, .inr (3, [.ref xprogramSteps, .ref xprogramLengths, .ref xlimits, .ref xfloors, .ref xvalues, .ref xacts, .ref xorder, .ref xdoneRow, .ref xrunning, .ref xbegunOfClass, .ref xbook, .ref xwaits, .int 0, .int 0, .int 0, .int nw, .int 0, .int 0])), (xwaits, .inr (2, [.ref dr, .ref rc, .int 0])), (dr, .inl (cJ, 36, .inr (.inl fj)))]) hD hS hA [4, 0, 1] rfl
  refine va_callv (va_runV (As := []) (rest := []) ⟨hx, hb, hml, hown, hts⟩ (c_X3_breakRings (l := l) (D := D) (h := h) (xprogramSteps := xprogramSteps) (xprogramLengths := xprogramLengths) (xlimits := xlimits) (xfloors := xfloors) (xvalues := xvalues) (xacts := xacts) (xorder := xorder) (xdoneRow := xdoneRow) (xrunning := xrunning) (xbegunOfClass := xbegunOfClass) (xbook := xbook) (xwaits := xwaits) (nw := nw) (dr := dr) (rc := rc) (fj := fj) (cJ := cJ) ) (cwV 0 hts gX3_passTick_X3_breakRings rfl rfl rfl (by decide +kernel) ⟨Nat.le_of_ble_eq_true rfl, Nat.le_of_ble_eq_true rfl⟩) ⟨k_blind, va_recv hKc hPc (ci := 3) (q0 := 0) rfl rfl, fun U hU hW => ⟨rfl, k_pre hU hW hPc hKc hDc⟩⟩ rfl rfl hl.1 rfl (lv_room (Nat.le_of_ble_eq_true rfl)) dX3_passTick_5 ⟨by decide, by decide⟩) hS (fun q _ h => hFc q h) hFc (fun u t H1 locs ht hvm hw hB hz1 hk1 hS => ?_)
  refine W.widen (k := 0) (n := 0) (Nat.le_refl _) (Nat.le_refl _) ?_
  obtain ⟨fk_2, rfl⟩ := hw
  obtain ⟨hP1, hK1, hD1⟩ := hB
  rw [ht] at hP1
  have hK1 := va_K.moved hvm.symm hK1
  obtain ⟨hP, hD⟩ := va_join (wr := [(xbegunOfClass, .inl (cI, 4, .inl fb)), (xbook, .inr (1, [.ref en, .int 0, .int 0]))]) (w1 := [(h, .inr (3, [.ref xprogramSteps, .ref xprogramLengths, .ref xlimits, .ref xfloors, .ref xvalues, .ref xacts, .ref xorder, .ref xdoneRow, .ref xrunning, .ref xbegunOfClass, .ref xbook, .ref xwaits, .int 0, .int 0, .int 0, .int nw, .int 0, .int 0])), (xwaits, .inr (2, [.ref dr, .ref rc, .int 0])), (dr, .inl (cJ, 36, .inr (.inl fk_2)))]) hP hD [4, 0, 1] [2, 3] rfl rfl (by decide) (by decide) hk1 hFc hP1 hD1
  generalize H1 = H at hP hS ⊢
  have hP : va_P D vwCl [(xbegunOfClass, .inl (cI, 4, .inl fb)), (xbook, .inr (1, [.ref en, .int 0, .int 0])), (h, .inr (3, [.ref xprogramSteps, .ref xprogramLengths, .ref xlimits, .ref xfloors, .ref xvalues, .ref xacts, .ref xorder, .ref xdoneRow, .ref xrunning, .ref xbegunOfClass, .ref xbook, .ref xwaits, .int 0, .int 0, .int 0, .int nw, .int 0, .int 0])), (xwaits, .inr (2, [.ref dr, .ref rc, .int 0])), (dr, .inl (cJ, 36, .inr (.inl fk_2)))] H := hP
  have hD : va_D A [(xbegunOfClass, .inl (cI, 4, .inl fb)), (xbook, .inr (1, [.ref en, .int 0, .int 0])), (h, .inr (3, [.ref xprogramSteps, .ref xprogramLengths, .ref xlimits, .ref xfloors, .ref xvalues, .ref xacts, .ref xorder, .ref xdoneRow, .ref xrunning, .ref xbegunOfClass, .ref xbook, .ref xwaits, .int 0, .int 0, .int 0, .int nw, .int 0, .int 0])), (xwaits, .inr (2, [.ref dr, .ref rc, .int 0])), (dr, .inl (cJ, 36, .inr (.inl fk_2)))] := hD
  refine lv_aload_n hx hb dX3_passTick_8 rfl (lv_at hl 0 rfl) ?_
  have hPc := hP.sub (ws' := [(h, .inr (3, [.ref xprogramSteps, .ref xprogramLengths, .ref xlimits, .ref xfloors, .ref xvalues, .ref xacts, .ref xorder, .ref xdoneRow, .ref xrunning, .ref xbegunOfClass, .ref xbook, .ref xwaits, .int 0, .int 0, .int 0, .int nw, .int 0, .int 0])), (xbegunOfClass, .inl (cI, 4, .inl fb))]) [2, 0] rfl
  have hDc := hD.sub (ws' := [(h, .inr (3, [.ref xprogramSteps, .ref xprogramLengths, .ref xlimits, .ref xfloors, .ref xvalues, .ref xacts, .ref xorder, .ref xdoneRow, .ref xrunning, .ref xbegunOfClass, .ref xbook, .ref xwaits, .int 0, .int 0, .int 0, .int nw, .int 0, .int 0])), (xbegunOfClass, .inl (cI, 4, .inl fb))]) [2, 0] (by decide) rfl
  have hKc := hK.sub (tys' := [(cI, .int)]) [0] rfl
  have hFc := va_free (wc := [(h, .inr (3, [.ref xprogramSteps, .ref xprogramLengths, .ref xlimits, .ref xfloors, .ref xvalues, .ref xacts, .ref xorder, .ref xdoneRow, .ref xrunning, .ref xbegunOfClass, .ref xbook, .ref xwaits, .int 0, .int 0, .int 0, .int nw, .int 0, .int 0])), (xbegunOfClass, .inl (cI, 4, .inl fb))]) hD hS hA [2, 0] rfl
  refine va_callv (va_runV (As := []) (rest := []) ⟨hx, hb, hml, hown, hts⟩ (c_X3_beginWaiting (l := l) (D := D) (h := h) (xprogramSteps := xprogramSteps) (xprogramLengths := xprogramLengths) (xlimits := xlimits) (xfloors := xfloors) (xvalues := xvalues) (xacts := xacts) (xorder := xorder) (xdoneRow := xdoneRow) (xrunning := xrunning) (xbegunOfClass := xbegunOfClass) (xbook := xbook) (xwaits := xwaits) (nw := nw) (fb := fb) (cI := cI) ) (cwV 0 hts gX3_passTick_X3_beginWaiting rfl rfl rfl (by decide +kernel) ⟨Nat.le_of_ble_eq_true rfl, Nat.le_of_ble_eq_true rfl⟩) ⟨k_blind, va_recv hKc hPc (ci := 3) (q0 := 0) rfl rfl, fun U hU hW => ⟨rfl, k_pre hU hW hPc hKc hDc⟩⟩ rfl rfl hl.1 rfl (lv_room (Nat.le_of_ble_eq_true rfl)) dX3_passTick_9 ⟨by decide, by decide⟩) hS (fun q _ h => hFc q h) hFc (fun u t H1 locs ht hvm hw hB hz1 hk1 hS => ?_)
  refine W.widen (k := 0) (n := 0) (Nat.le_refl _) (Nat.le_refl _) ?_
  obtain ⟨fc_3, rfl⟩ := hw
  obtain ⟨hP1, hK1, hD1⟩ := hB
  rw [ht] at hP1
  have hK1 := va_K.moved hvm.symm hK1
  obtain ⟨hP, hD⟩ := va_join (wr := [(xbook, .inr (1, [.ref en, .int 0, .int 0])), (xwaits, .inr (2, [.ref dr, .ref rc, .int 0])), (dr, .inl (cJ, 36, .inr (.inl fk_2)))]) (w1 := [(h, .inr (3, [.ref xprogramSteps, .ref xprogramLengths, .ref xlimits, .ref xfloors, .ref xvalues, .ref xacts, .ref xorder, .ref xdoneRow, .ref xrunning, .ref xbegunOfClass, .ref xbook, .ref xwaits, .int 0, .int 0, .int 0, .int nw, .int 0, .int 0])), (xbegunOfClass, .inl (cI, 4, .inl fc_3))]) hP hD [2, 0] [1, 3, 4] rfl rfl (by decide) (by decide) hk1 hFc hP1 hD1
  generalize H1 = H at hP hS ⊢
  have hP : va_P D vwCl [(xbook, .inr (1, [.ref en, .int 0, .int 0])), (xwaits, .inr (2, [.ref dr, .ref rc, .int 0])), (dr, .inl (cJ, 36, .inr (.inl fk_2))), (h, .inr (3, [.ref xprogramSteps, .ref xprogramLengths, .ref xlimits, .ref xfloors, .ref xvalues, .ref xacts, .ref xorder, .ref xdoneRow, .ref xrunning, .ref xbegunOfClass, .ref xbook, .ref xwaits, .int 0, .int 0, .int 0, .int nw, .int 0, .int 0])), (xbegunOfClass, .inl (cI, 4, .inl fc_3))] H := hP
  have hD : va_D A [(xbook, .inr (1, [.ref en, .int 0, .int 0])), (xwaits, .inr (2, [.ref dr, .ref rc, .int 0])), (dr, .inl (cJ, 36, .inr (.inl fk_2))), (h, .inr (3, [.ref xprogramSteps, .ref xprogramLengths, .ref xlimits, .ref xfloors, .ref xvalues, .ref xacts, .ref xorder, .ref xdoneRow, .ref xrunning, .ref xbegunOfClass, .ref xbook, .ref xwaits, .int 0, .int 0, .int 0, .int nw, .int 0, .int 0])), (xbegunOfClass, .inl (cI, 4, .inl fc_3))] := hD
  refine lv_aload_n hx hb dX3_passTick_12 rfl (lv_at hl 0 rfl) ?_
  refine va_get (D := D) (ci := 3) (v := .int nw) (C := RX3) (T := TX3) (N := 18) hx hb hts kin_X3_passTick_X3 hown hK hP 3 rfl rfl 15 (by decide) (hts _ kw_X3_passTick__fieldLink_RX3_79_ActHouse_now_I_) (fun _ h9 => h9) rfl dX3_passTick_13 ?_
  refine lv_iconst (v := 4) hx hb dX3_passTick_16 (by decide) ?_
  refine lv_irem hx hb dX3_passTick_17 (by decide) ?_
  refine lv_iconst (v := 3) hx hb dX3_passTick_18 (by decide) ?_
  refine lv_icmp_ne (tgt := 26) hx hb dX3_passTick_19 (by decide) (fun c4 => ?_) (fun c4 => ?_)
  · skip
    have c4 := k_ne c4
    have hl3 : (3 : Int32).toInt = 3 := by decide
    refine lv_aload_n hx hb dX3_passTick_26 rfl (lv_at hl 0 rfl) ?_
    refine lv_dup hx hb dX3_passTick_27 rfl ?_
    refine va_get (D := D) (ci := 3) (v := .int nw) (C := RX3) (T := TX3) (N := 18) hx hb hts kin_X3_passTick_X3 hown hK hP 3 rfl rfl 15 (by decide) (hts _ kw_X3_passTick__fieldLink_RX3_79_ActHouse_now_I_) (fun _ h9 => h9) rfl dX3_passTick_28 ?_
    refine lv_iconst (v := 1) hx hb dX3_passTick_31 (by decide) ?_
    refine lv_iadd hx hb dX3_passTick_32 ?_
    refine va_put (D := D) (ci := 3) (v := .int (nw + 1)) (ty := .int) (C := RX3) (T := TX3) (N := 18) hx hb hts kin_X3_passTick_X3 tyX3 tyX3_ok nmX3 hown hK hP hD hS 3 rfl rfl 15 (by decide) (hts _ kw_X3_passTick__fieldLink_RX3_79_ActHouse_now_I_) (fun _ h9 => h9) rfl (by decide +kernel) rfl rfl (Nat.le_of_ble_eq_true rfl) dX3_passTick_33 (fun H locs hP hD hS => ?_)
    have hP : va_P D vwCl [(xbook, .inr (1, [.ref en, .int 0, .int 0])), (xwaits, .inr (2, [.ref dr, .ref rc, .int 0])), (dr, .inl (cJ, 36, .inr (.inl fk_2))), (h, .inr (3, [.ref xprogramSteps, .ref xprogramLengths, .ref xlimits, .ref xfloors, .ref xvalues, .ref xacts, .ref xorder, .ref xdoneRow, .ref xrunning, .ref xbegunOfClass, .ref xbook, .ref xwaits, .int 0, .int 0, .int 0, .int (nw + 1), .int 0, .int 0])), (xbegunOfClass, .inl (cI, 4, .inl fc_3))] H := hP
    have hD : va_D A [(xbook, .inr (1, [.ref en, .int 0, .int 0])), (xwaits, .inr (2, [.ref dr, .ref rc, .int 0])), (dr, .inl (cJ, 36, .inr (.inl fk_2))), (h, .inr (3, [.ref xprogramSteps, .ref xprogramLengths, .ref xlimits, .ref xfloors, .ref xvalues, .ref xacts, .ref xorder, .ref xdoneRow, .ref xrunning, .ref xbegunOfClass, .ref xbook, .ref xwaits, .int 0, .int 0, .int 0, .int (nw + 1), .int 0, .int 0])), (xbegunOfClass, .inl (cI, 4, .inl fc_3))] := hD
    have hP := hP.sub (ws' := [(h, .inr (3, [.ref xprogramSteps, .ref xprogramLengths, .ref xlimits, .ref xfloors, .ref xvalues, .ref xacts, .ref xorder, .ref xdoneRow, .ref xrunning, .ref xbegunOfClass, .ref xbook, .ref xwaits, .int 0, .int 0, .int 0, .int (nw + 1), .int 0, .int 0])), (xwaits, .inr (2, [.ref dr, .ref rc, .int 0])), (dr, .inl (cJ, 36, .inr (.inl fk_2))), (xbegunOfClass, .inl (cI, 4, .inl fc_3)), (xbook, .inr (1, [.ref en, .int 0, .int 0]))]) [3, 1, 2, 4, 0] rfl
    have hD := hD.sub (ws' := [(h, .inr (3, [.ref xprogramSteps, .ref xprogramLengths, .ref xlimits, .ref xfloors, .ref xvalues, .ref xacts, .ref xorder, .ref xdoneRow, .ref xrunning, .ref xbegunOfClass, .ref xbook, .ref xwaits, .int 0, .int 0, .int 0, .int (nw + 1), .int 0, .int 0])), (xwaits, .inr (2, [.ref dr, .ref rc, .int 0])), (dr, .inl (cJ, 36, .inr (.inl fk_2))), (xbegunOfClass, .inl (cI, 4, .inl fc_3)), (xbook, .inr (1, [.ref en, .int 0, .int 0]))]) [3, 1, 2, 4, 0] (by decide) rfl
    have hK := hK.sub (tys' := [(cI, .int), (cJ, .long)]) [0, 1] rfl
    refine W.widen (k := 0) (n := 0) (by decide) (by decide) ?_
    exact W.vret hx hb hr (fun t ht hW => ⟨⟨([(h, .inr (3, [.ref xprogramSteps, .ref xprogramLengths, .ref xlimits, .ref xfloors, .ref xvalues, .ref xacts, .ref xorder, .ref xdoneRow, .ref xrunning, .ref xbegunOfClass, .ref xbook, .ref xwaits, .int 0, .int 0, .int 0, .int (nw + 1), .int 0, .int 0])), (xwaits, .inr (2, [.ref dr, .ref rc, .int 0])), (dr, .inl (cJ, 36, .inr (.inl fk_2))), (xbegunOfClass, .inl (cI, 4, .inl fc_3)), (xbook, .inr (1, [.ref en, .int 0, .int 0]))], [(cI, .int), (cJ, .long)]), rfl, ⟨fk_2, fc_3, rfl⟩, ⟨by rw [ht]; exact hP, va_K.moved hW.alike hK, hD⟩⟩, hS.F ht⟩) hS.2.2 dX3_passTick_36
  · skip
    have c4 := k_eq c4
    have hl3 : (3 : Int32).toInt = 3 := by decide
    refine lv_aload_n hx hb dX3_passTick_22 rfl (lv_at hl 0 rfl) ?_
    have hPc := hP.sub (ws' := [(h, .inr (3, [.ref xprogramSteps, .ref xprogramLengths, .ref xlimits, .ref xfloors, .ref xvalues, .ref xacts, .ref xorder, .ref xdoneRow, .ref xrunning, .ref xbegunOfClass, .ref xbook, .ref xwaits, .int 0, .int 0, .int 0, .int nw, .int 0, .int 0])), (xbook, .inr (1, [.ref en, .int 0, .int 0]))]) [3, 0] rfl
    have hDc := hD.sub (ws' := [(h, .inr (3, [.ref xprogramSteps, .ref xprogramLengths, .ref xlimits, .ref xfloors, .ref xvalues, .ref xacts, .ref xorder, .ref xdoneRow, .ref xrunning, .ref xbegunOfClass, .ref xbook, .ref xwaits, .int 0, .int 0, .int 0, .int nw, .int 0, .int 0])), (xbook, .inr (1, [.ref en, .int 0, .int 0]))]) [3, 0] (by decide) rfl
    have hKc := hK.sub (tys' := []) [] rfl
    have hFc := va_free (wc := [(h, .inr (3, [.ref xprogramSteps, .ref xprogramLengths, .ref xlimits, .ref xfloors, .ref xvalues, .ref xacts, .ref xorder, .ref xdoneRow, .ref xrunning, .ref xbegunOfClass, .ref xbook, .ref xwaits, .int 0, .int 0, .int 0, .int nw, .int 0, .int 0])), (xbook, .inr (1, [.ref en, .int 0, .int 0]))]) hD hS hA [3, 0] rfl
    refine va_callv (va_runV (As := []) (rest := []) ⟨hx, hb, hml, hown, hts⟩ (c_X3_answerDone (l := l) (D := D) (h := h) (xprogramSteps := xprogramSteps) (xprogramLengths := xprogramLengths) (xlimits := xlimits) (xfloors := xfloors) (xvalues := xvalues) (xacts := xacts) (xorder := xorder) (xdoneRow := xdoneRow) (xrunning := xrunning) (xbegunOfClass := xbegunOfClass) (xbook := xbook) (xwaits := xwaits) (nw := nw) (en := en) ) (cwV 0 hts gX3_passTick_X3_answerDone rfl rfl rfl (by decide +kernel) ⟨Nat.le_of_ble_eq_true rfl, Nat.le_of_ble_eq_true rfl⟩) ⟨k_blind, va_recv hKc hPc (ci := 3) (q0 := 0) rfl rfl, fun U hU hW => ⟨rfl, k_pre hU hW hPc hKc hDc⟩⟩ rfl rfl hl.1 rfl (lv_room (Nat.le_of_ble_eq_true rfl)) dX3_passTick_23 ⟨by decide, by decide⟩) hS (fun q _ h => hFc q h) hFc (fun u t H1 locs ht hvm hw hB hz1 hk1 hS => ?_)
    refine W.widen (k := 0) (n := 0) (Nat.le_refl _) (Nat.le_refl _) ?_
    obtain ⟨rfl⟩ := hw
    obtain ⟨hP1, hK1, hD1⟩ := hB
    rw [ht] at hP1
    have hK1 := va_K.moved hvm.symm hK1
    obtain ⟨hP, hD⟩ := va_join (wr := [(xwaits, .inr (2, [.ref dr, .ref rc, .int 0])), (dr, .inl (cJ, 36, .inr (.inl fk_2))), (xbegunOfClass, .inl (cI, 4, .inl fc_3))]) (w1 := [(h, .inr (3, [.ref xprogramSteps, .ref xprogramLengths, .ref xlimits, .ref xfloors, .ref xvalues, .ref xacts, .ref xorder, .ref xdoneRow, .ref xrunning, .ref xbegunOfClass, .ref xbook, .ref xwaits, .int 0, .int 0, .int 0, .int nw, .int 0, .int 0])), (xbook, .inr (1, [.ref en, .int 0, .int 0]))]) hP hD [3, 0] [1, 2, 4] rfl rfl (by decide) (by decide) hk1 hFc hP1 hD1
    generalize H1 = H at hP hS ⊢
    have hP : va_P D vwCl [(xwaits, .inr (2, [.ref dr, .ref rc, .int 0])), (dr, .inl (cJ, 36, .inr (.inl fk_2))), (xbegunOfClass, .inl (cI, 4, .inl fc_3)), (h, .inr (3, [.ref xprogramSteps, .ref xprogramLengths, .ref xlimits, .ref xfloors, .ref xvalues, .ref xacts, .ref xorder, .ref xdoneRow, .ref xrunning, .ref xbegunOfClass, .ref xbook, .ref xwaits, .int 0, .int 0, .int 0, .int nw, .int 0, .int 0])), (xbook, .inr (1, [.ref en, .int 0, .int 0]))] H := hP
    have hD : va_D A [(xwaits, .inr (2, [.ref dr, .ref rc, .int 0])), (dr, .inl (cJ, 36, .inr (.inl fk_2))), (xbegunOfClass, .inl (cI, 4, .inl fc_3)), (h, .inr (3, [.ref xprogramSteps, .ref xprogramLengths, .ref xlimits, .ref xfloors, .ref xvalues, .ref xacts, .ref xorder, .ref xdoneRow, .ref xrunning, .ref xbegunOfClass, .ref xbook, .ref xwaits, .int 0, .int 0, .int 0, .int nw, .int 0, .int 0])), (xbook, .inr (1, [.ref en, .int 0, .int 0]))] := hD
    refine lv_aload_n hx hb dX3_passTick_26 rfl (lv_at hl 0 rfl) ?_
    refine lv_dup hx hb dX3_passTick_27 rfl ?_
    refine va_get (D := D) (ci := 3) (v := .int nw) (C := RX3) (T := TX3) (N := 18) hx hb hts kin_X3_passTick_X3 hown hK hP 3 rfl rfl 15 (by decide) (hts _ kw_X3_passTick__fieldLink_RX3_79_ActHouse_now_I_) (fun _ h9 => h9) rfl dX3_passTick_28 ?_
    refine lv_iconst (v := 1) hx hb dX3_passTick_31 (by decide) ?_
    refine lv_iadd hx hb dX3_passTick_32 ?_
    refine va_put (D := D) (ci := 3) (v := .int (nw + 1)) (ty := .int) (C := RX3) (T := TX3) (N := 18) hx hb hts kin_X3_passTick_X3 tyX3 tyX3_ok nmX3 hown hK hP hD hS 3 rfl rfl 15 (by decide) (hts _ kw_X3_passTick__fieldLink_RX3_79_ActHouse_now_I_) (fun _ h9 => h9) rfl (by decide +kernel) rfl rfl (Nat.le_of_ble_eq_true rfl) dX3_passTick_33 (fun H locs hP hD hS => ?_)
    have hP : va_P D vwCl [(xwaits, .inr (2, [.ref dr, .ref rc, .int 0])), (dr, .inl (cJ, 36, .inr (.inl fk_2))), (xbegunOfClass, .inl (cI, 4, .inl fc_3)), (h, .inr (3, [.ref xprogramSteps, .ref xprogramLengths, .ref xlimits, .ref xfloors, .ref xvalues, .ref xacts, .ref xorder, .ref xdoneRow, .ref xrunning, .ref xbegunOfClass, .ref xbook, .ref xwaits, .int 0, .int 0, .int 0, .int (nw + 1), .int 0, .int 0])), (xbook, .inr (1, [.ref en, .int 0, .int 0]))] H := hP
    have hD : va_D A [(xwaits, .inr (2, [.ref dr, .ref rc, .int 0])), (dr, .inl (cJ, 36, .inr (.inl fk_2))), (xbegunOfClass, .inl (cI, 4, .inl fc_3)), (h, .inr (3, [.ref xprogramSteps, .ref xprogramLengths, .ref xlimits, .ref xfloors, .ref xvalues, .ref xacts, .ref xorder, .ref xdoneRow, .ref xrunning, .ref xbegunOfClass, .ref xbook, .ref xwaits, .int 0, .int 0, .int 0, .int (nw + 1), .int 0, .int 0])), (xbook, .inr (1, [.ref en, .int 0, .int 0]))] := hD
    have hP := hP.sub (ws' := [(h, .inr (3, [.ref xprogramSteps, .ref xprogramLengths, .ref xlimits, .ref xfloors, .ref xvalues, .ref xacts, .ref xorder, .ref xdoneRow, .ref xrunning, .ref xbegunOfClass, .ref xbook, .ref xwaits, .int 0, .int 0, .int 0, .int (nw + 1), .int 0, .int 0])), (xwaits, .inr (2, [.ref dr, .ref rc, .int 0])), (dr, .inl (cJ, 36, .inr (.inl fk_2))), (xbegunOfClass, .inl (cI, 4, .inl fc_3)), (xbook, .inr (1, [.ref en, .int 0, .int 0]))]) [3, 0, 1, 2, 4] rfl
    have hD := hD.sub (ws' := [(h, .inr (3, [.ref xprogramSteps, .ref xprogramLengths, .ref xlimits, .ref xfloors, .ref xvalues, .ref xacts, .ref xorder, .ref xdoneRow, .ref xrunning, .ref xbegunOfClass, .ref xbook, .ref xwaits, .int 0, .int 0, .int 0, .int (nw + 1), .int 0, .int 0])), (xwaits, .inr (2, [.ref dr, .ref rc, .int 0])), (dr, .inl (cJ, 36, .inr (.inl fk_2))), (xbegunOfClass, .inl (cI, 4, .inl fc_3)), (xbook, .inr (1, [.ref en, .int 0, .int 0]))]) [3, 0, 1, 2, 4] (by decide) rfl
    have hK := hK.sub (tys' := [(cI, .int), (cJ, .long)]) [0, 1] rfl
    refine W.widen (k := 0) (n := 0) (by decide) (by decide) ?_
    exact W.vret hx hb hr (fun t ht hW => ⟨⟨([(h, .inr (3, [.ref xprogramSteps, .ref xprogramLengths, .ref xlimits, .ref xfloors, .ref xvalues, .ref xacts, .ref xorder, .ref xdoneRow, .ref xrunning, .ref xbegunOfClass, .ref xbook, .ref xwaits, .int 0, .int 0, .int 0, .int (nw + 1), .int 0, .int 0])), (xwaits, .inr (2, [.ref dr, .ref rc, .int 0])), (dr, .inl (cJ, 36, .inr (.inl fk_2))), (xbegunOfClass, .inl (cI, 4, .inl fc_3)), (xbook, .inr (1, [.ref en, .int 0, .int 0]))], [(cI, .int), (cJ, .long)]), rfl, ⟨fk_2, fc_3, rfl⟩, ⟨by rw [ht]; exact hP, va_K.moved hW.alike hK, hD⟩⟩, hS.F ht⟩) hS.2.2 dX3_passTick_36
set_option maxRecDepth 100000 in
theorem kw_X3_go__fieldLink_RX3_79_ActHouse_now_I_ : (.fieldLink RX3 79 "ActHouse" "now" "I" : Cond) ∈ wsX3_go := by decide +kernel
set_option maxRecDepth 100000 in
theorem kin_X3_go_X3 : ∀ w ∈ u_ws RX3 TX3 18, w ∈ wsX3_go := by decide +kernel
set_option maxHeartbeats 4000000 in
set_option maxRecDepth 100000 in
theorem c_X3_go {l : Launch} {D : va_G} {sz : Nat} {h : Nat} {xprogramSteps : Nat} {xprogramLengths : Nat} {xlimits : Nat} {xfloors : Nat} {xvalues : Nat} {xacts : Nat} {xorder : Nat} {xdoneRow : Nat} {xrunning : Nat} {xbegunOfClass : Nat} {xbook : Nat} {xwaits : Nat} {x : Int32} {dr : Nat} {rc : Nat} {fj : Nat → Int64} {fb : Nat → Int32} {en : Nat} {cI : ClassId} {cJ : ClassId}  : Met l yX3_go wsX3_go ({ frames := 5, cells := 0, slots := 0, locals := 111 }) (va_Pc [.ref h, .int x] (k_Pre D [(cI, .int), (cJ, .long)] [(h, .inr (3, [.ref xprogramSteps, .ref xprogramLengths, .ref xlimits, .ref xfloors, .ref xvalues, .ref xacts, .ref xorder, .ref xdoneRow, .ref xrunning, .ref xbegunOfClass, .ref xbook, .ref xwaits, .int 0, .int 0, .int 0, .int 0, .int 0, .int 0])), (xwaits, .inr (2, [.ref dr, .ref rc, .int 0])), (dr, .inl (cJ, 36, .inr (.inl fj))), (xbegunOfClass, .inl (cI, 4, .inl fb)), (xbook, .inr (1, [.ref en, .int 0, .int 0]))] sz)) (va_Qi (fun (r : Int32) (u : va_W × List (ClassId × FieldType)) => (r = (-1) ∧ u = ([], [(cI, .int), (cJ, .long)]) ∧ (x.toInt < 0 ∨ 200 < x.toInt)) ∨ (u = ([], [(cI, .int), (cJ, .long)]) ∧ r.toInt = x.toInt ∧ 0 ≤ x.toInt ∧ x.toInt ≤ 200)) (k_B D (va_A [(h, .inr (3, [.ref xprogramSteps, .ref xprogramLengths, .ref xlimits, .ref xfloors, .ref xvalues, .ref xacts, .ref xorder, .ref xdoneRow, .ref xrunning, .ref xbegunOfClass, .ref xbook, .ref xwaits, .int 0, .int 0, .int 0, .int 0, .int 0, .int 0])), (xwaits, .inr (2, [.ref dr, .ref rc, .int 0])), (dr, .inl (cJ, 36, .inr (.inl fj))), (xbegunOfClass, .inl (cI, 4, .inl fb)), (xbook, .inr (1, [.ref en, .int 0, .int 0]))] sz)) (va_A [(h, .inr (3, [.ref xprogramSteps, .ref xprogramLengths, .ref xlimits, .ref xfloors, .ref xvalues, .ref xacts, .ref xorder, .ref xdoneRow, .ref xrunning, .ref xbegunOfClass, .ref xbook, .ref xwaits, .int 0, .int 0, .int 0, .int 0, .int 0, .int 0])), (xwaits, .inr (2, [.ref dr, .ref rc, .int 0])), (dr, .inl (cJ, 36, .inr (.inl fj))), (xbegunOfClass, .inl (cI, 4, .inl fb)), (xbook, .inr (1, [.ref en, .int 0, .int 0]))] sz)) 0 0 (va_A [(h, .inr (3, [.ref xprogramSteps, .ref xprogramLengths, .ref xlimits, .ref xfloors, .ref xvalues, .ref xacts, .ref xorder, .ref xdoneRow, .ref xrunning, .ref xbegunOfClass, .ref xbook, .ref xwaits, .int 0, .int 0, .int 0, .int 0, .int 0, .int 0])), (xwaits, .inr (2, [.ref dr, .ref rc, .int 0])), (dr, .inl (cJ, 36, .inr (.inl fj))), (xbegunOfClass, .inl (cI, 4, .inl fb)), (xbook, .inr (1, [.ref en, .int 0, .int 0]))] sz) := by
  refine Met.ofW (cc := cX3_go) (maxL := 3) (ret := (some .int)) (by decide) rfl ?_
  intro p e s m args below meth c s₁ B hml hv
  obtain ⟨rfl, hsz, hP, hK, hD0⟩ := hv
  have hx := B.exec
  have hb := B.bytes
  have hr := B.returns
  have hts := atoms_spec (ws := wsX3_go) B.pre
  have hown : s.vm.findClass RX3 = some m.cls := findClass_of_methodNamed B.named
  have hlocks := B.notSynchronized
  subst hsz
  have hD := hD0.self (sz := s.heap.size)
  generalize hAe : va_A [(h, .inr (3, [.ref xprogramSteps, .ref xprogramLengths, .ref xlimits, .ref xfloors, .ref xvalues, .ref xacts, .ref xorder, .ref xdoneRow, .ref xrunning, .ref xbegunOfClass, .ref xbook, .ref xwaits, .int 0, .int 0, .int 0, .int 0, .int 0, .int 0])), (xwaits, .inr (2, [.ref dr, .ref rc, .int 0])), (dr, .inl (cJ, 36, .inr (.inl fj))), (xbegunOfClass, .inl (cI, 4, .inl fb)), (xbook, .inr (1, [.ref en, .int 0, .int 0]))] s.heap.size = A at hD ⊢
  have hA : ∀ q : Nat, s.heap.size ≤ q → A q := fun q h => by rw [← hAe]; exact Or.inr h
  have hS : va_S A s.heap s.heap [] := va_S.rf
  have hl := lv_entry ([.ref h, .int x]) (n := 3) (Nat.le_of_ble_eq_true rfl)
  rw [lg_entry_eq]
  generalize (lg_sl ([.ref h, .int x]) ++ List.replicate (3 - (lg_sl ([.ref h, .int x])).length) Slot.unset).toArray = ls at hl ⊢
  have hl : lv_has ls 3 [(0, .ref h), (1, .int x)] := hl
  refine k_Q (fun Q hQ => ?_)
  refine lv_iload_n hx hb dX3_go_0 rfl (lv_at hl 1 rfl) ?_
  refine lv_if_lt (tgt := 11) hx hb dX3_go_1 (by decide) (fun c1 => ?_) (fun c1 => ?_)
  · skip
    have c1 := k_lt c1
    have hl0 : (0 : Int32).toInt = 0 := by decide
    refine lv_iconst (v := (-1)) hx hb dX3_go_11 (by decide) ?_
    subst hQ
    have hP := hP.sub (ws' := []) [] rfl
    have hD := hD.sub (ws' := []) [] (by decide) rfl
    have hK := hK.sub (tys' := [(cI, .int), (cJ, .long)]) [0, 1] rfl
    refine W.widen (k := 0) (n := 0) (by decide) (by decide) ?_
    exact W.iret (v := (-1)) hx hb hr (fun t ht hW => ⟨⟨(-1), ([], [(cI, .int), (cJ, .long)]), rfl, Or.inl ⟨rfl, rfl, (by omega)⟩, ⟨by rw [ht]; exact hP, va_K.moved hW.alike hK, hD⟩⟩, hS.F ht⟩) hS.2.2 dX3_go_12
  · skip
    have c1 := k_nlt c1
    have hl0 : (0 : Int32).toInt = 0 := by decide
    refine lv_iload_n hx hb dX3_go_4 rfl (lv_at hl 1 rfl) ?_
    refine lv_sipush (v := 200) hx hb dX3_go_5 (by decide) ?_
    refine lv_icmp_le (tgt := 13) hx hb dX3_go_8 (by decide) (fun c2 => ?_) (fun c2 => ?_)
    · skip
      have c2 := k_le c2
      have hl200 : (200 : Int32).toInt = 200 := by decide
      refine lv_iconst (v := 0) hx hb dX3_go_13 (by decide) ?_
      refine lv_istore_n (lv' := [(2, .int 0), (0, .ref h), (1, .int x)]) hx hb dX3_go_14 rfl hl (by decide) rfl (fun ls hl => ?_)
      have loop : ∀ (k : Nat) (i : Int32) (nw : Int32) (fj : Nat → Int64) (fb : Nat → Int32) (H : Heap) (locs : List Loc) (ls : Array Slot), (0 ≤ i.toInt) → (i.toInt + k = x.toInt) → (nw.toInt = i.toInt) → va_P D vwCl [(h, .inr (3, [.ref xprogramSteps, .ref xprogramLengths, .ref xlimits, .ref xfloors, .ref xvalues, .ref xacts, .ref xorder, .ref xdoneRow, .ref xrunning, .ref xbegunOfClass, .ref xbook, .ref xwaits, .int 0, .int 0, .int 0, .int nw, .int 0, .int 0])), (xwaits, .inr (2, [.ref dr, .ref rc, .int 0])), (dr, .inl (cJ, 36, .inr (.inl fj))), (xbegunOfClass, .inl (cI, 4, .inl fb)), (xbook, .inr (1, [.ref en, .int 0, .int 0]))] H → va_D A [(h, .inr (3, [.ref xprogramSteps, .ref xprogramLengths, .ref xlimits, .ref xfloors, .ref xvalues, .ref xacts, .ref xorder, .ref xdoneRow, .ref xrunning, .ref xbegunOfClass, .ref xbook, .ref xwaits, .int 0, .int 0, .int 0, .int nw, .int 0, .int 0])), (xwaits, .inr (2, [.ref dr, .ref rc, .int 0])), (dr, .inl (cJ, 36, .inr (.inl fj))), (xbegunOfClass, .inl (cI, 4, .inl fb)), (xbook, .inr (1, [.ref en, .int 0, .int 0]))] → va_S A s.heap H locs → lv_has ls 3 [(2, .int i), (0, .ref h), (1, .int x)] → W p l e (headSpec wsX3_go ({ frames := 5, cells := 0, slots := 0, locals := 111 })).room s m ([.ref h, .int x] : List Value).toArray below meth c H locs 0 0 Q (F0 m 15 ls []) := by
        intro k
        induction k with
        | zero =>
          intro i nw fj fb H locs ls h0 hi hn hP hD hS hl
          refine lv_iload_n hx hb dX3_go_15 rfl (lv_at hl 0 rfl) ?_
          refine lv_iload_n hx hb dX3_go_16 rfl (lv_at hl 2 rfl) ?_
          refine lv_icmp_ge (tgt := 40) hx hb dX3_go_17 (by decide) (fun c3 => ?_) (fun c3 => ?_)
          · skip
            have c3 := k_le c3
            refine lv_aload_n hx hb dX3_go_40 rfl (lv_at hl 1 rfl) ?_
            refine va_get (D := D) (ci := 3) (v := .int nw) (C := RX3) (T := TX3) (N := 18) hx hb hts kin_X3_go_X3 hown hK hP 0 rfl rfl 15 (by decide) (hts _ kw_X3_go__fieldLink_RX3_79_ActHouse_now_I_) (fun _ h9 => h9) rfl dX3_go_41 ?_
            subst hQ
            have hP := hP.sub (ws' := []) [] rfl
            have hD := hD.sub (ws' := []) [] (by decide) rfl
            have hK := hK.sub (tys' := [(cI, .int), (cJ, .long)]) [0, 1] rfl
            refine W.widen (k := 0) (n := 0) (by decide) (by decide) ?_
            exact W.iret (v := nw) hx hb hr (fun t ht hW => ⟨⟨nw, ([], [(cI, .int), (cJ, .long)]), rfl, Or.inr (⟨rfl, (by omega), (by omega), (by omega)⟩), ⟨by rw [ht]; exact hP, va_K.moved hW.alike hK, hD⟩⟩, hS.F ht⟩) hS.2.2 dX3_go_44
          · skip
            have c3 := k_nle c3
            exfalso; omega
        | succ k ih =>
          intro i nw fj fb H locs ls h0 hi hn hP hD hS hl
          refine lv_iload_n hx hb dX3_go_15 rfl (lv_at hl 0 rfl) ?_
          refine lv_iload_n hx hb dX3_go_16 rfl (lv_at hl 2 rfl) ?_
          refine lv_icmp_ge (tgt := 40) hx hb dX3_go_17 (by decide) (fun c4 => ?_) (fun c4 => ?_)
          · skip
            have c4 := k_le c4
            refine lv_aload_n hx hb dX3_go_40 rfl (lv_at hl 1 rfl) ?_
            refine va_get (D := D) (ci := 3) (v := .int nw) (C := RX3) (T := TX3) (N := 18) hx hb hts kin_X3_go_X3 hown hK hP 0 rfl rfl 15 (by decide) (hts _ kw_X3_go__fieldLink_RX3_79_ActHouse_now_I_) (fun _ h9 => h9) rfl dX3_go_41 ?_
            subst hQ
            have hP := hP.sub (ws' := []) [] rfl
            have hD := hD.sub (ws' := []) [] (by decide) rfl
            have hK := hK.sub (tys' := [(cI, .int), (cJ, .long)]) [0, 1] rfl
            refine W.widen (k := 0) (n := 0) (by decide) (by decide) ?_
            exact W.iret (v := nw) hx hb hr (fun t ht hW => ⟨⟨nw, ([], [(cI, .int), (cJ, .long)]), rfl, Or.inr (⟨rfl, (by omega), (by omega), (by omega)⟩), ⟨by rw [ht]; exact hP, va_K.moved hW.alike hK, hD⟩⟩, hS.F ht⟩) hS.2.2 dX3_go_44
          · skip
            have c4 := k_nle c4
            refine lv_aload_n hx hb dX3_go_20 rfl (lv_at hl 1 rfl) ?_
            refine va_get (D := D) (ci := 3) (v := .int nw) (C := RX3) (T := TX3) (N := 18) hx hb hts kin_X3_go_X3 hown hK hP 0 rfl rfl 15 (by decide) (hts _ kw_X3_go__fieldLink_RX3_79_ActHouse_now_I_) (fun _ h9 => h9) rfl dX3_go_21 ?_
            refine lv_sipush (v := 5000) hx hb dX3_go_24 (by decide) ?_
            refine lv_icmp_ge (tgt := 40) hx hb dX3_go_27 (by decide) (fun c5 => ?_) (fun c5 => ?_)
            · skip
              have c5 := k_le c5
              have hl5000 : (5000 : Int32).toInt = 5000 := by decide
              exfalso; omega
            · skip
              have c5 := k_nle c5
              have hl5000 : (5000 : Int32).toInt = 5000 := by decide
              refine lv_aload_n hx hb dX3_go_30 rfl (lv_at hl 1 rfl) ?_
              have hPc := hP.sub (ws' := [(h, .inr (3, [.ref xprogramSteps, .ref xprogramLengths, .ref xlimits, .ref xfloors, .ref xvalues, .ref xacts, .ref xorder, .ref xdoneRow, .ref xrunning, .ref xbegunOfClass, .ref xbook, .ref xwaits, .int 0, .int 0, .int 0, .int nw, .int 0, .int 0])), (xwaits, .inr (2, [.ref dr, .ref rc, .int 0])), (dr, .inl (cJ, 36, .inr (.inl fj))), (xbegunOfClass, .inl (cI, 4, .inl fb)), (xbook, .inr (1, [.ref en, .int 0, .int 0]))]) [0, 1, 2, 3, 4] rfl
              have hDc := hD.sub (ws' := [(h, .inr (3, [.ref xprogramSteps, .ref xprogramLengths, .ref xlimits, .ref xfloors, .ref xvalues, .ref xacts, .ref xorder, .ref xdoneRow, .ref xrunning, .ref xbegunOfClass, .ref xbook, .ref xwaits, .int 0, .int 0, .int 0, .int nw, .int 0, .int 0])), (xwaits, .inr (2, [.ref dr, .ref rc, .int 0])), (dr, .inl (cJ, 36, .inr (.inl fj))), (xbegunOfClass, .inl (cI, 4, .inl fb)), (xbook, .inr (1, [.ref en, .int 0, .int 0]))]) [0, 1, 2, 3, 4] (by decide) rfl
              have hKc := hK.sub (tys' := [(cI, .int), (cJ, .long)]) [0, 1] rfl
              have hFc := va_free (wc := [(h, .inr (3, [.ref xprogramSteps, .ref xprogramLengths, .ref xlimits, .ref xfloors, .ref xvalues, .ref xacts, .ref xorder, .ref xdoneRow, .ref xrunning, .ref xbegunOfClass, .ref xbook, .ref xwaits, .int 0, .int 0, .int 0, .int nw, .int 0, .int 0])), (xwaits, .inr (2, [.ref dr, .ref rc, .int 0])), (dr, .inl (cJ, 36, .inr (.inl fj))), (xbegunOfClass, .inl (cI, 4, .inl fb)), (xbook, .inr (1, [.ref en, .int 0, .int 0]))]) hD hS hA [0, 1, 2, 3, 4] rfl
              refine va_callv (va_runV (As := []) (rest := []) ⟨hx, hb, hml, hown, hts⟩ (c_X3_passTick (l := l) (D := D) (h := h) (xprogramSteps := xprogramSteps) (xprogramLengths := xprogramLengths) (xlimits := xlimits) (xfloors := xfloors) (xvalues := xvalues) (xacts := xacts) (xorder := xorder) (xdoneRow := xdoneRow) (xrunning := xrunning) (xbegunOfClass := xbegunOfClass) (xbook := xbook) (xwaits := xwaits) (nw := nw) (dr := dr) (rc := rc) (fj := fj) (fb := fb) (en := en) (cI := cI) (cJ := cJ) ) (cwV 0 hts gX3_go_X3_passTick rfl rfl rfl (by decide +kernel) ⟨Nat.le_of_ble_eq_true rfl, Nat.le_of_ble_eq_true rfl⟩) ⟨k_blind, va_recv hKc hPc (ci := 3) (q0 := 0) rfl rfl, fun U hU hW => ⟨rfl, k_pre hU hW hPc hKc hDc⟩⟩ rfl rfl hl.1 rfl (lv_room (Nat.le_of_ble_eq_true rfl)) dX3_go_31 ⟨by decide, by decide⟩) hS (fun q _ h => hFc q h) hFc (fun u t H1 locs ht hvm hw hB hz1 hk1 hS => ?_)
              refine W.widen (k := 0) (n := 0) (Nat.le_refl _) (Nat.le_refl _) ?_
              obtain ⟨fk_6, fc_6, rfl⟩ := hw
              obtain ⟨hP1, hK1, hD1⟩ := hB
              rw [ht] at hP1
              have hK1 := va_K.moved hvm.symm hK1
              obtain ⟨hP, hD⟩ := va_join (wr := []) (w1 := [(h, .inr (3, [.ref xprogramSteps, .ref xprogramLengths, .ref xlimits, .ref xfloors, .ref xvalues, .ref xacts, .ref xorder, .ref xdoneRow, .ref xrunning, .ref xbegunOfClass, .ref xbook, .ref xwaits, .int 0, .int 0, .int 0, .int (nw + 1), .int 0, .int 0])), (xwaits, .inr (2, [.ref dr, .ref rc, .int 0])), (dr, .inl (cJ, 36, .inr (.inl fk_6))), (xbegunOfClass, .inl (cI, 4, .inl fc_6)), (xbook, .inr (1, [.ref en, .int 0, .int 0]))]) hP hD [0, 1, 2, 3, 4] [] rfl rfl (by decide) (by decide) hk1 hFc hP1 hD1
              generalize H1 = H at hP hS ⊢
              have hP : va_P D vwCl [(h, .inr (3, [.ref xprogramSteps, .ref xprogramLengths, .ref xlimits, .ref xfloors, .ref xvalues, .ref xacts, .ref xorder, .ref xdoneRow, .ref xrunning, .ref xbegunOfClass, .ref xbook, .ref xwaits, .int 0, .int 0, .int 0, .int (nw + 1), .int 0, .int 0])), (xwaits, .inr (2, [.ref dr, .ref rc, .int 0])), (dr, .inl (cJ, 36, .inr (.inl fk_6))), (xbegunOfClass, .inl (cI, 4, .inl fc_6)), (xbook, .inr (1, [.ref en, .int 0, .int 0]))] H := hP
              have hD : va_D A [(h, .inr (3, [.ref xprogramSteps, .ref xprogramLengths, .ref xlimits, .ref xfloors, .ref xvalues, .ref xacts, .ref xorder, .ref xdoneRow, .ref xrunning, .ref xbegunOfClass, .ref xbook, .ref xwaits, .int 0, .int 0, .int 0, .int (nw + 1), .int 0, .int 0])), (xwaits, .inr (2, [.ref dr, .ref rc, .int 0])), (dr, .inl (cJ, 36, .inr (.inl fk_6))), (xbegunOfClass, .inl (cI, 4, .inl fc_6)), (xbook, .inr (1, [.ref en, .int 0, .int 0]))] := hD
              refine lv_iinc (v := i + 1) (lv' := [(2, .int (i + 1)), (0, .ref h), (1, .int x)]) hx hb dX3_go_34 hl (k := 0) rfl (by rfl) (by decide) rfl (fun ls hl => ?_)
              refine lv_goto (tgt := 15) hx hb dX3_go_37 (by decide) ?_
              have e1 := k_inc (x := i) (by omega)
              have e2 := k_inc (x := nw) (by omega)
              exact ih (i + 1) (nw + 1) fk_6 fc_6 _ _ _ (by omega) (by omega) (by omega) (hP.sub [0, 1, 2, 3, 4] rfl) (hD.sub [0, 1, 2, 3, 4] (by decide) rfl) hS (lv_sub hl [0, 1, 2] rfl)
      exact loop x.toInt.toNat 0 0 fj fb _ _ _ (by decide) (by rw [show (0 : Int32).toInt = 0 from by decide]; omega) (by rfl) (hP.sub [0, 1, 2, 3, 4] rfl) (hD.sub [0, 1, 2, 3, 4] (by decide) rfl) hS (lv_sub hl [0, 1, 2] rfl)
    · skip
      have c2 := k_nle c2
      have hl200 : (200 : Int32).toInt = 200 := by decide
      refine lv_iconst (v := (-1)) hx hb dX3_go_11 (by decide) ?_
      subst hQ
      have hP := hP.sub (ws' := []) [] rfl
      have hD := hD.sub (ws' := []) [] (by decide) rfl
      have hK := hK.sub (tys' := [(cI, .int), (cJ, .long)]) [0, 1] rfl
      refine W.widen (k := 0) (n := 0) (by decide) (by decide) ?_
      exact W.iret (v := (-1)) hx hb hr (fun t ht hW => ⟨⟨(-1), ([], [(cI, .int), (cJ, .long)]), rfl, Or.inl ⟨rfl, rfl, (by omega)⟩, ⟨by rw [ht]; exact hP, va_K.moved hW.alike hK, hD⟩⟩, hS.F ht⟩) hS.2.2 dX3_go_12
