set_option maxRecDepth 100000 in
theorem kw_X4_isAct__fieldLink_RX4_111_ActHouseModel_acts_I_ : (.fieldLink RX4 111 "ActHouseModel" "acts" "I" : Cond) ∈ wsX4_isAct := by decide +kernel
set_option maxRecDepth 100000 in
theorem kin_X4_isAct_X4 : ∀ w ∈ u_ws RX4 TX4 39, w ∈ wsX4_isAct := by decide +kernel
set_option maxHeartbeats 4000000 in
set_option maxRecDepth 100000 in
theorem c_X4_isAct {l : Launch} {D : va_G} {sz : Nat} {h : Nat} {mcells : Nat} {mcounters : Nat} {mfloors : Nat} {mlimits : Nat} {mlongs : Nat} {msteps : Nat} {mprogram : Nat} {mkind : Nat} {mrank : Nat} {mstate : Nat} {mactLong : Nat} {mactSteps : Nat} {mat : Nat} {mregister : Nat} {misHeld : Nat} {mdoneIn : Nat} {mundone : Nat} {mby : Nat} {mbegunIn : Nat} {misVoid : Nat} {misAgain : Nat} {mholds : Nat} {mwrites : Nat} {mgives : Nat} {mbelow : Nat} {mqueued : Nat} {mqueuedMany : Nat} {mdone : Nat} {mlog : Nat} {morder : Nat} {misReached : Nat} {mqueue : Nat} {x : Int32}  : Met l yX4_isAct wsX4_isAct ({ frames := 1, cells := 0, slots := 0, locals := 22 }) (va_Pc [.ref h, .int x] (k_Pre D [] [(h, .inr (4, [.int 0, .ref mcells, .ref mcounters, .ref mfloors, .ref mlimits, .ref mlongs, .ref msteps, .int 0, .ref mprogram, .ref mkind, .ref mrank, .ref mstate, .ref mactLong, .ref mactSteps, .ref mat, .ref mregister, .ref misHeld, .ref mdoneIn, .ref mundone, .ref mby, .ref mbegunIn, .ref misVoid, .ref misAgain, .ref mholds, .ref mwrites, .ref mgives, .ref mbelow, .ref mqueued, .ref mqueuedMany, .int 0, .ref mdone, .int 0, .int 0, .ref mlog, .int 0, .int 0, .ref morder, .ref misReached, .ref mqueue]))] sz)) (va_Qi (fun (r : Int32) (u : va_W × List (ClassId × FieldType)) => (r = 0 ∧ u = ([(h, .inr (4, [.int 0, .ref mcells, .ref mcounters, .ref mfloors, .ref mlimits, .ref mlongs, .ref msteps, .int 0, .ref mprogram, .ref mkind, .ref mrank, .ref mstate, .ref mactLong, .ref mactSteps, .ref mat, .ref mregister, .ref misHeld, .ref mdoneIn, .ref mundone, .ref mby, .ref mbegunIn, .ref misVoid, .ref misAgain, .ref mholds, .ref mwrites, .ref mgives, .ref mbelow, .ref mqueued, .ref mqueuedMany, .int 0, .ref mdone, .int 0, .int 0, .ref mlog, .int 0, .int 0, .ref morder, .ref misReached, .ref mqueue]))], []))) (k_B D (va_A [(h, .inr (4, [.int 0, .ref mcells, .ref mcounters, .ref mfloors, .ref mlimits, .ref mlongs, .ref msteps, .int 0, .ref mprogram, .ref mkind, .ref mrank, .ref mstate, .ref mactLong, .ref mactSteps, .ref mat, .ref mregister, .ref misHeld, .ref mdoneIn, .ref mundone, .ref mby, .ref mbegunIn, .ref misVoid, .ref misAgain, .ref mholds, .ref mwrites, .ref mgives, .ref mbelow, .ref mqueued, .ref mqueuedMany, .int 0, .ref mdone, .int 0, .int 0, .ref mlog, .int 0, .int 0, .ref morder, .ref misReached, .ref mqueue]))] sz)) (va_A [(h, .inr (4, [.int 0, .ref mcells, .ref mcounters, .ref mfloors, .ref mlimits, .ref mlongs, .ref msteps, .int 0, .ref mprogram, .ref mkind, .ref mrank, .ref mstate, .ref mactLong, .ref mactSteps, .ref mat, .ref mregister, .ref misHeld, .ref mdoneIn, .ref mundone, .ref mby, .ref mbegunIn, .ref misVoid, .ref misAgain, .ref mholds, .ref mwrites, .ref mgives, .ref mbelow, .ref mqueued, .ref mqueuedMany, .int 0, .ref mdone, .int 0, .int 0, .ref mlog, .int 0, .int 0, .ref morder, .ref misReached, .ref mqueue]))] sz)) 0 0 (va_A [(h, .inr (4, [.int 0, .ref mcells, .ref mcounters, .ref mfloors, .ref mlimits, .ref mlongs, .ref msteps, .int 0, .ref mprogram, .ref mkind, .ref mrank, .ref mstate, .ref mactLong, .ref mactSteps, .ref mat, .ref mregister, .ref misHeld, .ref mdoneIn, .ref mundone, .ref mby, .ref mbegunIn, .ref misVoid, .ref misAgain, .ref mholds, .ref mwrites, .ref mgives, .ref mbelow, .ref mqueued, .ref mqueuedMany, .int 0, .ref mdone, .int 0, .int 0, .ref mlog, .int 0, .int 0, .ref morder, .ref misReached, .ref mqueue]))] sz) := by
  refine Met.ofW (cc := cX4_isAct) (maxL := 2) (ret := (some .boolean)) (by decide) rfl ?_
  intro p e s m args below meth c s₁ B hml hv
  obtain ⟨rfl, hsz, hP, hK, hD0⟩ := hv
  have hx := B.exec
  have hb := B.bytes
  have hr := B.returns
  have hts := atoms_spec (ws := wsX4_isAct) B.pre
  have hown : s.vm.findClass RX4 = some m.cls := findClass_of_methodNamed B.named
  have hlocks := B.notSynchronized
  subst hsz
  have hD := hD0.self (sz := s.heap.size)
  generalize hAe : va_A [(h, .inr (4, [.int 0, .ref mcells, .ref mcounters, .ref mfloors, .ref mlimits, .ref mlongs, .ref msteps, .int 0, .ref mprogram, .ref mkind, .ref mrank, .ref mstate, .ref mactLong, .ref mactSteps, .ref mat, .ref mregister, .ref misHeld, .ref mdoneIn, .ref mundone, .ref mby, .ref mbegunIn, .ref misVoid, .ref misAgain, .ref mholds, .ref mwrites, .ref mgives, .ref mbelow, .ref mqueued, .ref mqueuedMany, .int 0, .ref mdone, .int 0, .int 0, .ref mlog, .int 0, .int 0, .ref morder, .ref misReached, .ref mqueue]))] s.heap.size = A at hD ⊢
  have hA : ∀ q : Nat, s.heap.size ≤ q → A q := fun q h => by rw [← hAe]; exact Or.inr h
  have hS : va_S A s.heap s.heap [] := va_S.rf
  have hl := lv_entry ([.ref h, .int x]) (n := 2) (Nat.le_of_ble_eq_true rfl)
  rw [lg_entry_eq]
  generalize (lg_sl ([.ref h, .int x]) ++ List.replicate (2 - (lg_sl ([.ref h, .int x])).length) Slot.unset).toArray = ls at hl ⊢
  have hl : lv_has ls 2 [(0, .ref h), (1, .int x)] := hl
  refine lv_iload_n hx hb dX4_isAct_0 rfl (lv_at hl 1 rfl) ?_
  refine lv_iconst (v := 0) hx hb dX4_isAct_1 (by decide) ?_
  refine lv_aload_n hx hb dX4_isAct_2 rfl (lv_at hl 0 rfl) ?_
  refine va_get (D := D) (ci := 4) (v := .int 0) (C := RX4) (T := TX4) (N := 39) hx hb hts kin_X4_isAct_X4 hown hK hP 0 rfl rfl 7 (by decide) (hts _ kw_X4_isAct__fieldLink_RX4_111_ActHouseModel_acts_I_) (fun _ h9 => h9) rfl dX4_isAct_3 ?_
  refine lv_iconst (v := 1) hx hb dX4_isAct_6 (by decide) ?_
  refine lv_isub hx hb dX4_isAct_7 ?_
  refine W.eq (g2 := F0 m 8 ls [.int (-1), .int 0, .int x]) (by first | rfl | (congr 2; decide)) ?_
  have hPc := hP.sub (ws' := []) [] rfl
  have hDc := hD.sub (ws' := []) [] (by decide) rfl
  have hKc := hK.sub (tys' := []) [] rfl
  have hFc := va_free (wc := []) hD hS hA [] rfl
  refine va_calli (va_runS (As := [.int x, .int 0, .int (-1)]) (rest := []) ⟨hx, hb, hml, hown, hts⟩ (c_X4_in (l := l) (D := D) (x := x) (y := 0) (z := (-1)) ) (va_cwS 3 hts gX4_isAct_X4_in rfl rfl rfl (by decide +kernel) ⟨Nat.le_of_ble_eq_true rfl, Nat.le_of_ble_eq_true rfl⟩) ⟨k_blind, fun U hU hW => ⟨rfl, k_pre hU hW hPc hKc hDc⟩⟩ rfl rfl hl.1 rfl (lv_room (Nat.le_of_ble_eq_true rfl)) dX4_isAct_8 ⟨by decide, by decide⟩) hS (fun q _ h => hFc q h) hFc (fun r1 u t H1 locs ht hvm hw hB hz1 hk1 hS => ?_)
  refine W.widen (k := 0) (n := 0) (Nat.le_refl _) (Nat.le_refl _) ?_
  have hl0 : (0 : Int32).toInt = 0 := by decide
  have hlm1 : ((-1) : Int32).toInt = -1 := by decide
  rcases hw with ⟨rfl, rfl, ha_1, hb_1⟩ | ⟨rfl, rfl, ha_1⟩
  · skip
    obtain ⟨hP1, hK1, hD1⟩ := hB
    rw [ht] at hP1
    have hK1 := va_K.moved hvm.symm hK1
    obtain ⟨hP, hD⟩ := va_join (wr := [(h, .inr (4, [.int 0, .ref mcells, .ref mcounters, .ref mfloors, .ref mlimits, .ref mlongs, .ref msteps, .int 0, .ref mprogram, .ref mkind, .ref mrank, .ref mstate, .ref mactLong, .ref mactSteps, .ref mat, .ref mregister, .ref misHeld, .ref mdoneIn, .ref mundone, .ref mby, .ref mbegunIn, .ref misVoid, .ref misAgain, .ref mholds, .ref mwrites, .ref mgives, .ref mbelow, .ref mqueued, .ref mqueuedMany, .int 0, .ref mdone, .int 0, .int 0, .ref mlog, .int 0, .int 0, .ref morder, .ref misReached, .ref mqueue]))]) (w1 := []) hP hD [] [0] rfl rfl (by decide) (by decide) hk1 hFc hP1 hD1
    generalize H1 = H at hP hS ⊢
    have hP : va_P D vwCl [(h, .inr (4, [.int 0, .ref mcells, .ref mcounters, .ref mfloors, .ref mlimits, .ref mlongs, .ref msteps, .int 0, .ref mprogram, .ref mkind, .ref mrank, .ref mstate, .ref mactLong, .ref mactSteps, .ref mat, .ref mregister, .ref misHeld, .ref mdoneIn, .ref mundone, .ref mby, .ref mbegunIn, .ref misVoid, .ref misAgain, .ref mholds, .ref mwrites, .ref mgives, .ref mbelow, .ref mqueued, .ref mqueuedMany, .int 0, .ref mdone, .int 0, .int 0, .ref mlog, .int 0, .int 0, .ref morder, .ref misReached, .ref mqueue]))] H := hP
    have hD : va_D A [(h, .inr (4, [.int 0, .ref mcells, .ref mcounters, .ref mfloors, .ref mlimits, .ref mlongs, .ref msteps, .int 0, .ref mprogram, .ref mkind, .ref mrank, .ref mstate, .ref mactLong, .ref mactSteps, .ref mat, .ref mregister, .ref misHeld, .ref mdoneIn, .ref mundone, .ref mby, .ref mbegunIn, .ref misVoid, .ref misAgain, .ref mholds, .ref mwrites, .ref mgives, .ref mbelow, .ref mqueued, .ref mqueuedMany, .int 0, .ref mdone, .int 0, .int 0, .ref mlog, .int 0, .int 0, .ref morder, .ref misReached, .ref mqueue]))] := hD
    exfalso; omega
  · skip
    obtain ⟨hP1, hK1, hD1⟩ := hB
    rw [ht] at hP1
    have hK1 := va_K.moved hvm.symm hK1
    obtain ⟨hP, hD⟩ := va_join (wr := [(h, .inr (4, [.int 0, .ref mcells, .ref mcounters, .ref mfloors, .ref mlimits, .ref mlongs, .ref msteps, .int 0, .ref mprogram, .ref mkind, .ref mrank, .ref mstate, .ref mactLong, .ref mactSteps, .ref mat, .ref mregister, .ref misHeld, .ref mdoneIn, .ref mundone, .ref mby, .ref mbegunIn, .ref misVoid, .ref misAgain, .ref mholds, .ref mwrites, .ref mgives, .ref mbelow, .ref mqueued, .ref mqueuedMany, .int 0, .ref mdone, .int 0, .int 0, .ref mlog, .int 0, .int 0, .ref morder, .ref misReached, .ref mqueue]))]) (w1 := []) hP hD [] [0] rfl rfl (by decide) (by decide) hk1 hFc hP1 hD1
    generalize H1 = H at hP hS ⊢
    have hP : va_P D vwCl [(h, .inr (4, [.int 0, .ref mcells, .ref mcounters, .ref mfloors, .ref mlimits, .ref mlongs, .ref msteps, .int 0, .ref mprogram, .ref mkind, .ref mrank, .ref mstate, .ref mactLong, .ref mactSteps, .ref mat, .ref mregister, .ref misHeld, .ref mdoneIn, .ref mundone, .ref mby, .ref mbegunIn, .ref misVoid, .ref misAgain, .ref mholds, .ref mwrites, .ref mgives, .ref mbelow, .ref mqueued, .ref mqueuedMany, .int 0, .ref mdone, .int 0, .int 0, .ref mlog, .int 0, .int 0, .ref morder, .ref misReached, .ref mqueue]))] H := hP
    have hD : va_D A [(h, .inr (4, [.int 0, .ref mcells, .ref mcounters, .ref mfloors, .ref mlimits, .ref mlongs, .ref msteps, .int 0, .ref mprogram, .ref mkind, .ref mrank, .ref mstate, .ref mactLong, .ref mactSteps, .ref mat, .ref mregister, .ref misHeld, .ref mdoneIn, .ref mundone, .ref mby, .ref mbegunIn, .ref misVoid, .ref misAgain, .ref mholds, .ref mwrites, .ref mgives, .ref mbelow, .ref mqueued, .ref mqueuedMany, .int 0, .ref mdone, .int 0, .int 0, .ref mlog, .int 0, .int 0, .ref morder, .ref misReached, .ref mqueue]))] := hD
    have hP := hP.sub (ws' := [(h, .inr (4, [.int 0, .ref mcells, .ref mcounters, .ref mfloors, .ref mlimits, .ref mlongs, .ref msteps, .int 0, .ref mprogram, .ref mkind, .ref mrank, .ref mstate, .ref mactLong, .ref mactSteps, .ref mat, .ref mregister, .ref misHeld, .ref mdoneIn, .ref mundone, .ref mby, .ref mbegunIn, .ref misVoid, .ref misAgain, .ref mholds, .ref mwrites, .ref mgives, .ref mbelow, .ref mqueued, .ref mqueuedMany, .int 0, .ref mdone, .int 0, .int 0, .ref mlog, .int 0, .int 0, .ref morder, .ref misReached, .ref mqueue]))]) [0] rfl
    have hD := hD.sub (ws' := [(h, .inr (4, [.int 0, .ref mcells, .ref mcounters, .ref mfloors, .ref mlimits, .ref mlongs, .ref msteps, .int 0, .ref mprogram, .ref mkind, .ref mrank, .ref mstate, .ref mactLong, .ref mactSteps, .ref mat, .ref mregister, .ref misHeld, .ref mdoneIn, .ref mundone, .ref mby, .ref mbegunIn, .ref misVoid, .ref misAgain, .ref mholds, .ref mwrites, .ref mgives, .ref mbelow, .ref mqueued, .ref mqueuedMany, .int 0, .ref mdone, .int 0, .int 0, .ref mlog, .int 0, .int 0, .ref morder, .ref misReached, .ref mqueue]))]) [0] (by decide) rfl
    have hK := hK.sub (tys' := []) [] rfl
    refine W.widen (k := 0) (n := 0) (by decide) (by decide) ?_
    exact W.zret (v := 0) hx hb hr (by decide) (fun t ht hW => ⟨⟨0, ([(h, .inr (4, [.int 0, .ref mcells, .ref mcounters, .ref mfloors, .ref mlimits, .ref mlongs, .ref msteps, .int 0, .ref mprogram, .ref mkind, .ref mrank, .ref mstate, .ref mactLong, .ref mactSteps, .ref mat, .ref mregister, .ref misHeld, .ref mdoneIn, .ref mundone, .ref mby, .ref mbegunIn, .ref misVoid, .ref misAgain, .ref mholds, .ref mwrites, .ref mgives, .ref mbelow, .ref mqueued, .ref mqueuedMany, .int 0, .ref mdone, .int 0, .int 0, .ref mlog, .int 0, .int 0, .ref morder, .ref misReached, .ref mqueue]))], []), rfl, ⟨rfl, rfl⟩, ⟨by rw [ht]; exact hP, va_K.moved hW.alike hK, hD⟩⟩, hS.F ht⟩) hS.2.2 dX4_isAct_11
set_option maxRecDepth 100000 in
theorem kw_X4_program__fieldLink_RX4_22_ActHouseModel_longs_I_ : (.fieldLink RX4 22 "ActHouseModel" "longs" "[I" : Cond) ∈ wsX4_program := by decide +kernel
set_option maxRecDepth 100000 in
theorem kin_X4_program_X4 : ∀ w ∈ u_ws RX4 TX4 39, w ∈ wsX4_program := by decide +kernel
set_option maxHeartbeats 4000000 in
set_option maxRecDepth 100000 in
theorem c_X4_program {l : Launch} {D : va_G} {sz : Nat} {h : Nat} {mcells : Nat} {mcounters : Nat} {mfloors : Nat} {mlimits : Nat} {mlongs : Nat} {msteps : Nat} {mprogram : Nat} {mkind : Nat} {mrank : Nat} {mstate : Nat} {mactLong : Nat} {mactSteps : Nat} {mat : Nat} {mregister : Nat} {misHeld : Nat} {mdoneIn : Nat} {mundone : Nat} {mby : Nat} {mbegunIn : Nat} {misVoid : Nat} {misAgain : Nat} {mholds : Nat} {mwrites : Nat} {mgives : Nat} {mbelow : Nat} {mqueued : Nat} {mqueuedMany : Nat} {mdone : Nat} {mlog : Nat} {morder : Nat} {misReached : Nat} {mqueue : Nat} {x : Int32} {f : Nat → Int32} {cI : ClassId}  : Met l yX4_program wsX4_program ({ frames := 2, cells := 0, slots := 0, locals := 42 }) (va_Pc [.ref h, .int x] (k_Pre D [(cI, .int)] [(h, .inr (4, [.int 0, .ref mcells, .ref mcounters, .ref mfloors, .ref mlimits, .ref mlongs, .ref msteps, .int 0, .ref mprogram, .ref mkind, .ref mrank, .ref mstate, .ref mactLong, .ref mactSteps, .ref mat, .ref mregister, .ref misHeld, .ref mdoneIn, .ref mundone, .ref mby, .ref mbegunIn, .ref misVoid, .ref misAgain, .ref mholds, .ref mwrites, .ref mgives, .ref mbelow, .ref mqueued, .ref mqueuedMany, .int 0, .ref mdone, .int 0, .int 0, .ref mlog, .int 0, .int 0, .ref morder, .ref misReached, .ref mqueue])), (mlongs, .inl (cI, 8, .inl f))] sz)) (va_Qi (fun (r : Int32) (u : va_W × List (ClassId × FieldType)) => (r = 1 ∧ u = ([], [(cI, .int)]) ∧ 0 ≤ x.toInt ∧ x.toInt ≤ 7) ∨ (r = 0 ∧ u = ([], [(cI, .int)]) ∧ (x.toInt < 0 ∨ 7 < x.toInt))) (k_B D (va_A [(h, .inr (4, [.int 0, .ref mcells, .ref mcounters, .ref mfloors, .ref mlimits, .ref mlongs, .ref msteps, .int 0, .ref mprogram, .ref mkind, .ref mrank, .ref mstate, .ref mactLong, .ref mactSteps, .ref mat, .ref mregister, .ref misHeld, .ref mdoneIn, .ref mundone, .ref mby, .ref mbegunIn, .ref misVoid, .ref misAgain, .ref mholds, .ref mwrites, .ref mgives, .ref mbelow, .ref mqueued, .ref mqueuedMany, .int 0, .ref mdone, .int 0, .int 0, .ref mlog, .int 0, .int 0, .ref morder, .ref misReached, .ref mqueue])), (mlongs, .inl (cI, 8, .inl f))] sz)) (va_A [(h, .inr (4, [.int 0, .ref mcells, .ref mcounters, .ref mfloors, .ref mlimits, .ref mlongs, .ref msteps, .int 0, .ref mprogram, .ref mkind, .ref mrank, .ref mstate, .ref mactLong, .ref mactSteps, .ref mat, .ref mregister, .ref misHeld, .ref mdoneIn, .ref mundone, .ref mby, .ref mbegunIn, .ref misVoid, .ref misAgain, .ref mholds, .ref mwrites, .ref mgives, .ref mbelow, .ref mqueued, .ref mqueuedMany, .int 0, .ref mdone, .int 0, .int 0, .ref mlog, .int 0, .int 0, .ref morder, .ref misReached, .ref mqueue])), (mlongs, .inl (cI, 8, .inl f))] sz)) 0 0 (va_A [(h, .inr (4, [.int 0, .ref mcells, .ref mcounters, .ref mfloors, .ref mlimits, .ref mlongs, .ref msteps, .int 0, .ref mprogram, .ref mkind, .ref mrank, .ref mstate, .ref mactLong, .ref mactSteps, .ref mat, .ref mregister, .ref misHeld, .ref mdoneIn, .ref mundone, .ref mby, .ref mbegunIn, .ref misVoid, .ref misAgain, .ref mholds, .ref mwrites, .ref mgives, .ref mbelow, .ref mqueued, .ref mqueuedMany, .int 0, .ref mdone, .int 0, .int 0, .ref mlog, .int 0, .int 0, .ref morder, .ref misReached, .ref mqueue])), (mlongs, .inl (cI, 8, .inl f))] sz) := by
  refine Met.ofW (cc := cX4_program) (maxL := 2) (ret := (some .boolean)) (by decide) rfl ?_
  intro p e s m args below meth c s₁ B hml hv
  obtain ⟨rfl, hsz, hP, hK, hD0⟩ := hv
  have hx := B.exec
  have hb := B.bytes
  have hr := B.returns
  have hts := atoms_spec (ws := wsX4_program) B.pre
  have hown : s.vm.findClass RX4 = some m.cls := findClass_of_methodNamed B.named
  have hlocks := B.notSynchronized
  subst hsz
  have hD := hD0.self (sz := s.heap.size)
  generalize hAe : va_A [(h, .inr (4, [.int 0, .ref mcells, .ref mcounters, .ref mfloors, .ref mlimits, .ref mlongs, .ref msteps, .int 0, .ref mprogram, .ref mkind, .ref mrank, .ref mstate, .ref mactLong, .ref mactSteps, .ref mat, .ref mregister, .ref misHeld, .ref mdoneIn, .ref mundone, .ref mby, .ref mbegunIn, .ref misVoid, .ref misAgain, .ref mholds, .ref mwrites, .ref mgives, .ref mbelow, .ref mqueued, .ref mqueuedMany, .int 0, .ref mdone, .int 0, .int 0, .ref mlog, .int 0, .int 0, .ref morder, .ref misReached, .ref mqueue])), (mlongs, .inl (cI, 8, .inl f))] s.heap.size = A at hD ⊢
  have hA : ∀ q : Nat, s.heap.size ≤ q → A q := fun q h => by rw [← hAe]; exact Or.inr h
  have hS : va_S A s.heap s.heap [] := va_S.rf
  have hl := lv_entry ([.ref h, .int x]) (n := 2) (Nat.le_of_ble_eq_true rfl)
  rw [lg_entry_eq]
  generalize (lg_sl ([.ref h, .int x]) ++ List.replicate (2 - (lg_sl ([.ref h, .int x])).length) Slot.unset).toArray = ls at hl ⊢
  have hl : lv_has ls 2 [(0, .ref h), (1, .int x)] := hl
  refine lv_iload_n hx hb dX4_program_0 rfl (lv_at hl 1 rfl) ?_
  have hPc := hP.sub (ws' := []) [] rfl
  have hDc := hD.sub (ws' := []) [] (by decide) rfl
  have hKc := hK.sub (tys' := []) [] rfl
  have hFc := va_free (wc := []) hD hS hA [] rfl
  refine va_calli (va_runS (As := [.int x]) (rest := []) ⟨hx, hb, hml, hown, hts⟩ (c_X4_isProgram (l := l) (D := D) (x := x) ) (va_cwS 1 hts gX4_program_X4_isProgram rfl rfl rfl (by decide +kernel) ⟨Nat.le_of_ble_eq_true rfl, Nat.le_of_ble_eq_true rfl⟩) ⟨k_blind, fun U hU hW => ⟨rfl, k_pre hU hW hPc hKc hDc⟩⟩ rfl rfl hl.1 rfl (lv_room (Nat.le_of_ble_eq_true rfl)) dX4_program_1 ⟨by decide, by decide⟩) hS (fun q _ h => hFc q h) hFc (fun r1 u t H1 locs ht hvm hw hB hz1 hk1 hS => ?_)
  refine W.widen (k := 0) (n := 0) (Nat.le_refl _) (Nat.le_refl _) ?_
  rcases hw with ⟨rfl, rfl, ha_1, hb_1⟩ | ⟨rfl, rfl, ha_1⟩
  · skip
    obtain ⟨hP1, hK1, hD1⟩ := hB
    rw [ht] at hP1
    have hK1 := va_K.moved hvm.symm hK1
    obtain ⟨hP, hD⟩ := va_join (wr := [(h, .inr (4, [.int 0, .ref mcells, .ref mcounters, .ref mfloors, .ref mlimits, .ref mlongs, .ref msteps, .int 0, .ref mprogram, .ref mkind, .ref mrank, .ref mstate, .ref mactLong, .ref mactSteps, .ref mat, .ref mregister, .ref misHeld, .ref mdoneIn, .ref mundone, .ref mby, .ref mbegunIn, .ref misVoid, .ref misAgain, .ref mholds, .ref mwrites, .ref mgives, .ref mbelow, .ref mqueued, .ref mqueuedMany, .int 0, .ref mdone, .int 0, .int 0, .ref mlog, .int 0, .int 0, .ref morder, .ref misReached, .ref mqueue])), (mlongs, .inl (cI, 8, .inl f))]) (w1 := []) hP hD [] [0, 1] rfl rfl (by decide) (by decide) hk1 hFc hP1 hD1
    generalize H1 = H at hP hS ⊢
    have hP : va_P D vwCl [(h, .inr (4, [.int 0, .ref mcells, .ref mcounters, .ref mfloors, .ref mlimits, .ref mlongs, .ref msteps, .int 0, .ref mprogram, .ref mkind, .ref mrank, .ref mstate, .ref mactLong, .ref mactSteps, .ref mat, .ref mregister, .ref misHeld, .ref mdoneIn, .ref mundone, .ref mby, .ref mbegunIn, .ref misVoid, .ref misAgain, .ref mholds, .ref mwrites, .ref mgives, .ref mbelow, .ref mqueued, .ref mqueuedMany, .int 0, .ref mdone, .int 0, .int 0, .ref mlog, .int 0, .int 0, .ref morder, .ref misReached, .ref mqueue])), (mlongs, .inl (cI, 8, .inl f))] H := hP
    have hD : va_D A [(h, .inr (4, [.int 0, .ref mcells, .ref mcounters, .ref mfloors, .ref mlimits, .ref mlongs, .ref msteps, .int 0, .ref mprogram, .ref mkind, .ref mrank, .ref mstate, .ref mactLong, .ref mactSteps, .ref mat, .ref mregister, .ref misHeld, .ref mdoneIn, .ref mundone, .ref mby, .ref mbegunIn, .ref misVoid, .ref misAgain, .ref mholds, .ref mwrites, .ref mgives, .ref mbelow, .ref mqueued, .ref mqueuedMany, .int 0, .ref mdone, .int 0, .int 0, .ref mlog, .int 0, .int 0, .ref morder, .ref misReached, .ref mqueue])), (mlongs, .inl (cI, 8, .inl f))] := hD
    refine lv_if_ne (tgt := 9) hx hb dX4_program_4 (by decide) (fun c2 => ?_) (fun c2 => ?_)
    · skip
      refine lv_aload_n hx hb dX4_program_9 rfl (lv_at hl 0 rfl) ?_
      refine va_get (D := D) (ci := 4) (v := .ref mlongs) (C := RX4) (T := TX4) (N := 39) hx hb hts kin_X4_program_X4 hown hK hP 0 rfl rfl 5 (by decide) (hts _ kw_X4_program__fieldLink_RX4_22_ActHouseModel_longs_I_) (fun _ h9 => h9) rfl dX4_program_10 ?_
      refine lv_iload_n hx hb dX4_program_13 rfl (lv_at hl 1 rfl) ?_
      refine lv_iconst (v := 0) hx hb dX4_program_14 (by decide) ?_
      have hi15 : vp_in x 8 := (k_in (by omega) (by omega))
      refine va_iast hx hb hK hP hD hS 1 0 rfl rfl hi15 dX4_program_15 (fun H locs hP hD hS => ?_)
      have hP : va_P D vwCl [(h, .inr (4, [.int 0, .ref mcells, .ref mcounters, .ref mfloors, .ref mlimits, .ref mlongs, .ref msteps, .int 0, .ref mprogram, .ref mkind, .ref mrank, .ref mstate, .ref mactLong, .ref mactSteps, .ref mat, .ref mregister, .ref misHeld, .ref mdoneIn, .ref mundone, .ref mby, .ref mbegunIn, .ref misVoid, .ref misAgain, .ref mholds, .ref mwrites, .ref mgives, .ref mbelow, .ref mqueued, .ref mqueuedMany, .int 0, .ref mdone, .int 0, .int 0, .ref mlog, .int 0, .int 0, .ref morder, .ref misReached, .ref mqueue])), (mlongs, .inl (cI, 8, .inl (upd f x.toNatClampNeg 0)))] H := hP
      have hD : va_D A [(h, .inr (4, [.int 0, .ref mcells, .ref mcounters, .ref mfloors, .ref mlimits, .ref mlongs, .ref msteps, .int 0, .ref mprogram, .ref mkind, .ref mrank, .ref mstate, .ref mactLong, .ref mactSteps, .ref mat, .ref mregister, .ref misHeld, .ref mdoneIn, .ref mundone, .ref mby, .ref mbegunIn, .ref misVoid, .ref misAgain, .ref mholds, .ref mwrites, .ref mgives, .ref mbelow, .ref mqueued, .ref mqueuedMany, .int 0, .ref mdone, .int 0, .int 0, .ref mlog, .int 0, .int 0, .ref morder, .ref misReached, .ref mqueue])), (mlongs, .inl (cI, 8, .inl (upd f x.toNatClampNeg 0)))] := hD
      refine lv_iconst (v := 1) hx hb dX4_program_16 (by decide) ?_
      have hP := hP.sub (ws' := []) [] rfl
      have hD := hD.sub (ws' := []) [] (by decide) rfl
      have hK := hK.sub (tys' := [(cI, .int)]) [0] rfl
      refine W.widen (k := 0) (n := 0) (by decide) (by decide) ?_
      exact W.zret (v := 1) hx hb hr (by decide) (fun t ht hW => ⟨⟨1, ([], [(cI, .int)]), rfl, Or.inl ⟨rfl, rfl, (by omega), (by omega)⟩, ⟨by rw [ht]; exact hP, va_K.moved hW.alike hK, hD⟩⟩, hS.F ht⟩) hS.2.2 dX4_program_17
    · skip
      exact absurd c2 (by decide)
  · skip
    obtain ⟨hP1, hK1, hD1⟩ := hB
    rw [ht] at hP1
    have hK1 := va_K.moved hvm.symm hK1
    obtain ⟨hP, hD⟩ := va_join (wr := [(h, .inr (4, [.int 0, .ref mcells, .ref mcounters, .ref mfloors, .ref mlimits, .ref mlongs, .ref msteps, .int 0, .ref mprogram, .ref mkind, .ref mrank, .ref mstate, .ref mactLong, .ref mactSteps, .ref mat, .ref mregister, .ref misHeld, .ref mdoneIn, .ref mundone, .ref mby, .ref mbegunIn, .ref misVoid, .ref misAgain, .ref mholds, .ref mwrites, .ref mgives, .ref mbelow, .ref mqueued, .ref mqueuedMany, .int 0, .ref mdone, .int 0, .int 0, .ref mlog, .int 0, .int 0, .ref morder, .ref misReached, .ref mqueue])), (mlongs, .inl (cI, 8, .inl f))]) (w1 := []) hP hD [] [0, 1] rfl rfl (by decide) (by decide) hk1 hFc hP1 hD1
    generalize H1 = H at hP hS ⊢
    have hP : va_P D vwCl [(h, .inr (4, [.int 0, .ref mcells, .ref mcounters, .ref mfloors, .ref mlimits, .ref mlongs, .ref msteps, .int 0, .ref mprogram, .ref mkind, .ref mrank, .ref mstate, .ref mactLong, .ref mactSteps, .ref mat, .ref mregister, .ref misHeld, .ref mdoneIn, .ref mundone, .ref mby, .ref mbegunIn, .ref misVoid, .ref misAgain, .ref mholds, .ref mwrites, .ref mgives, .ref mbelow, .ref mqueued, .ref mqueuedMany, .int 0, .ref mdone, .int 0, .int 0, .ref mlog, .int 0, .int 0, .ref morder, .ref misReached, .ref mqueue])), (mlongs, .inl (cI, 8, .inl f))] H := hP
    have hD : va_D A [(h, .inr (4, [.int 0, .ref mcells, .ref mcounters, .ref mfloors, .ref mlimits, .ref mlongs, .ref msteps, .int 0, .ref mprogram, .ref mkind, .ref mrank, .ref mstate, .ref mactLong, .ref mactSteps, .ref mat, .ref mregister, .ref misHeld, .ref mdoneIn, .ref mundone, .ref mby, .ref mbegunIn, .ref misVoid, .ref misAgain, .ref mholds, .ref mwrites, .ref mgives, .ref mbelow, .ref mqueued, .ref mqueuedMany, .int 0, .ref mdone, .int 0, .int 0, .ref mlog, .int 0, .int 0, .ref morder, .ref misReached, .ref mqueue])), (mlongs, .inl (cI, 8, .inl f))] := hD
    refine lv_if_ne (tgt := 9) hx hb dX4_program_4 (by decide) (fun c3 => ?_) (fun c3 => ?_)
    · skip
      exact absurd c3 (by decide)
    · skip
      refine lv_iconst (v := 0) hx hb dX4_program_7 (by decide) ?_
      have hP := hP.sub (ws' := []) [] rfl
      have hD := hD.sub (ws' := []) [] (by decide) rfl
      have hK := hK.sub (tys' := [(cI, .int)]) [0] rfl
      refine W.widen (k := 0) (n := 0) (by decide) (by decide) ?_
      exact W.zret (v := 0) hx hb hr (by decide) (fun t ht hW => ⟨⟨0, ([], [(cI, .int)]), rfl, Or.inr (⟨rfl, rfl, (by omega)⟩), ⟨by rw [ht]; exact hP, va_K.moved hW.alike hK, hD⟩⟩, hS.F ht⟩) hS.2.2 dX4_program_8
set_option maxRecDepth 100000 in
theorem kw_X4_step__fieldLink_RX4_22_ActHouseModel_longs_I_ : (.fieldLink RX4 22 "ActHouseModel" "longs" "[I" : Cond) ∈ wsX4_step := by decide +kernel
set_option maxRecDepth 100000 in
theorem kin_X4_step_X4 : ∀ w ∈ u_ws RX4 TX4 39, w ∈ wsX4_step := by decide +kernel
set_option maxRecDepth 100000 in
theorem kw_X4_step__fieldLink_RX4_25_ActHouseModel_steps_I_ : (.fieldLink RX4 25 "ActHouseModel" "steps" "[I" : Cond) ∈ wsX4_step := by decide +kernel
set_option maxHeartbeats 4000000 in
set_option maxRecDepth 100000 in
theorem c_X4_step {l : Launch} {D : va_G} {sz : Nat} {h : Nat} {mcells : Nat} {mcounters : Nat} {mfloors : Nat} {mlimits : Nat} {mlongs : Nat} {msteps : Nat} {mprogram : Nat} {mkind : Nat} {mrank : Nat} {mstate : Nat} {mactLong : Nat} {mactSteps : Nat} {mat : Nat} {mregister : Nat} {misHeld : Nat} {mdoneIn : Nat} {mundone : Nat} {mby : Nat} {mbegunIn : Nat} {misVoid : Nat} {misAgain : Nat} {mholds : Nat} {mwrites : Nat} {mgives : Nat} {mbelow : Nat} {mqueued : Nat} {mqueuedMany : Nat} {mdone : Nat} {mlog : Nat} {morder : Nat} {misReached : Nat} {mqueue : Nat} {x : Int32} {y : Int32} {cI : ClassId}  : Met l yX4_step wsX4_step ({ frames := 2, cells := 0, slots := 0, locals := 42 }) (va_Pc [.ref h, .int x, .int y] (k_Pre D [(cI, .int)] [(h, .inr (4, [.int 0, .ref mcells, .ref mcounters, .ref mfloors, .ref mlimits, .ref mlongs, .ref msteps, .int 0, .ref mprogram, .ref mkind, .ref mrank, .ref mstate, .ref mactLong, .ref mactSteps, .ref mat, .ref mregister, .ref misHeld, .ref mdoneIn, .ref mundone, .ref mby, .ref mbegunIn, .ref misVoid, .ref misAgain, .ref mholds, .ref mwrites, .ref mgives, .ref mbelow, .ref mqueued, .ref mqueuedMany, .int 0, .ref mdone, .int 0, .int 0, .ref mlog, .int 0, .int 0, .ref morder, .ref misReached, .ref mqueue])), (mlongs, .inl (cI, 8, .inl (fun _ => 0))), (msteps, .inl (cI, 96, .inl (fun _ => 0)))] sz)) (va_Qi (fun (r : Int32) (u : va_W × List (ClassId × FieldType)) => (r = 1 ∧ u = ([], [(cI, .int)]) ∧ 0 ≤ x.toInt ∧ x.toInt ≤ 7 ∧ kv y = 1) ∨ (r = (-1) ∧ u = ([], [(cI, .int)]) ∧ (x.toInt < 0 ∨ 7 < x.toInt ∨ kv y = 0))) (k_B D (va_A [(h, .inr (4, [.int 0, .ref mcells, .ref mcounters, .ref mfloors, .ref mlimits, .ref mlongs, .ref msteps, .int 0, .ref mprogram, .ref mkind, .ref mrank, .ref mstate, .ref mactLong, .ref mactSteps, .ref mat, .ref mregister, .ref misHeld, .ref mdoneIn, .ref mundone, .ref mby, .ref mbegunIn, .ref misVoid, .ref misAgain, .ref mholds, .ref mwrites, .ref mgives, .ref mbelow, .ref mqueued, .ref mqueuedMany, .int 0, .ref mdone, .int 0, .int 0, .ref mlog, .int 0, .int 0, .ref morder, .ref misReached, .ref mqueue])), (mlongs, .inl (cI, 8, .inl (fun _ => 0))), (msteps, .inl (cI, 96, .inl (fun _ => 0)))] sz)) (va_A [(h, .inr (4, [.int 0, .ref mcells, .ref mcounters, .ref mfloors, .ref mlimits, .ref mlongs, .ref msteps, .int 0, .ref mprogram, .ref mkind, .ref mrank, .ref mstate, .ref mactLong, .ref mactSteps, .ref mat, .ref mregister, .ref misHeld, .ref mdoneIn, .ref mundone, .ref mby, .ref mbegunIn, .ref misVoid, .ref misAgain, .ref mholds, .ref mwrites, .ref mgives, .ref mbelow, .ref mqueued, .ref mqueuedMany, .int 0, .ref mdone, .int 0, .int 0, .ref mlog, .int 0, .int 0, .ref morder, .ref misReached, .ref mqueue])), (mlongs, .inl (cI, 8, .inl (fun _ => 0))), (msteps, .inl (cI, 96, .inl (fun _ => 0)))] sz)) 0 0 (va_A [(h, .inr (4, [.int 0, .ref mcells, .ref mcounters, .ref mfloors, .ref mlimits, .ref mlongs, .ref msteps, .int 0, .ref mprogram, .ref mkind, .ref mrank, .ref mstate, .ref mactLong, .ref mactSteps, .ref mat, .ref mregister, .ref misHeld, .ref mdoneIn, .ref mundone, .ref mby, .ref mbegunIn, .ref misVoid, .ref misAgain, .ref mholds, .ref mwrites, .ref mgives, .ref mbelow, .ref mqueued, .ref mqueuedMany, .int 0, .ref mdone, .int 0, .int 0, .ref mlog, .int 0, .int 0, .ref morder, .ref misReached, .ref mqueue])), (mlongs, .inl (cI, 8, .inl (fun _ => 0))), (msteps, .inl (cI, 96, .inl (fun _ => 0)))] sz) := by
  refine Met.ofW (cc := cX4_step) (maxL := 5) (ret := (some .int)) (by decide) rfl ?_
  intro p e s m args below meth c s₁ B hml hv
  obtain ⟨rfl, hsz, hP, hK, hD0⟩ := hv
  have hx := B.exec
  have hb := B.bytes
  have hr := B.returns
  have hts := atoms_spec (ws := wsX4_step) B.pre
  have hown : s.vm.findClass RX4 = some m.cls := findClass_of_methodNamed B.named
  have hlocks := B.notSynchronized
  subst hsz
  have hD := hD0.self (sz := s.heap.size)
  generalize hAe : va_A [(h, .inr (4, [.int 0, .ref mcells, .ref mcounters, .ref mfloors, .ref mlimits, .ref mlongs, .ref msteps, .int 0, .ref mprogram, .ref mkind, .ref mrank, .ref mstate, .ref mactLong, .ref mactSteps, .ref mat, .ref mregister, .ref misHeld, .ref mdoneIn, .ref mundone, .ref mby, .ref mbegunIn, .ref misVoid, .ref misAgain, .ref mholds, .ref mwrites, .ref mgives, .ref mbelow, .ref mqueued, .ref mqueuedMany, .int 0, .ref mdone, .int 0, .int 0, .ref mlog, .int 0, .int 0, .ref morder, .ref misReached, .ref mqueue])), (mlongs, .inl (cI, 8, .inl (fun _ => 0))), (msteps, .inl (cI, 96, .inl (fun _ => 0)))] s.heap.size = A at hD ⊢
  have hA : ∀ q : Nat, s.heap.size ≤ q → A q := fun q h => by rw [← hAe]; exact Or.inr h
  have hS : va_S A s.heap s.heap [] := va_S.rf
  have hl := lv_entry ([.ref h, .int x, .int y]) (n := 5) (Nat.le_of_ble_eq_true rfl)
  rw [lg_entry_eq]
  generalize (lg_sl ([.ref h, .int x, .int y]) ++ List.replicate (5 - (lg_sl ([.ref h, .int x, .int y])).length) Slot.unset).toArray = ls at hl ⊢
  have hl : lv_has ls 5 [(0, .ref h), (1, .int x), (2, .int y)] := hl
  refine lv_iload_n hx hb dX4_step_0 rfl (lv_at hl 1 rfl) ?_
  have hPc := hP.sub (ws' := []) [] rfl
  have hDc := hD.sub (ws' := []) [] (by decide) rfl
  have hKc := hK.sub (tys' := []) [] rfl
  have hFc := va_free (wc := []) hD hS hA [] rfl
  refine va_calli (va_runS (As := [.int x]) (rest := []) ⟨hx, hb, hml, hown, hts⟩ (c_X4_isProgram (l := l) (D := D) (x := x) ) (va_cwS 1 hts gX4_step_X4_isProgram rfl rfl rfl (by decide +kernel) ⟨Nat.le_of_ble_eq_true rfl, Nat.le_of_ble_eq_true rfl⟩) ⟨k_blind, fun U hU hW => ⟨rfl, k_pre hU hW hPc hKc hDc⟩⟩ rfl rfl hl.1 rfl (lv_room (Nat.le_of_ble_eq_true rfl)) dX4_step_1 ⟨by decide, by decide⟩) hS (fun q _ h => hFc q h) hFc (fun r1 u t H1 locs ht hvm hw hB hz1 hk1 hS => ?_)
  refine W.widen (k := 0) (n := 0) (Nat.le_refl _) (Nat.le_refl _) ?_
  rcases hw with ⟨rfl, rfl, ha_1, hb_1⟩ | ⟨rfl, rfl, ha_1⟩
  · skip
    obtain ⟨hP1, hK1, hD1⟩ := hB
    rw [ht] at hP1
    have hK1 := va_K.moved hvm.symm hK1
    obtain ⟨hP, hD⟩ := va_join (wr := [(h, .inr (4, [.int 0, .ref mcells, .ref mcounters, .ref mfloors, .ref mlimits, .ref mlongs, .ref msteps, .int 0, .ref mprogram, .ref mkind, .ref mrank, .ref mstate, .ref mactLong, .ref mactSteps, .ref mat, .ref mregister, .ref misHeld, .ref mdoneIn, .ref mundone, .ref mby, .ref mbegunIn, .ref misVoid, .ref misAgain, .ref mholds, .ref mwrites, .ref mgives, .ref mbelow, .ref mqueued, .ref mqueuedMany, .int 0, .ref mdone, .int 0, .int 0, .ref mlog, .int 0, .int 0, .ref morder, .ref misReached, .ref mqueue])), (mlongs, .inl (cI, 8, .inl (fun _ => 0))), (msteps, .inl (cI, 96, .inl (fun _ => 0)))]) (w1 := []) hP hD [] [0, 1, 2] rfl rfl (by decide) (by decide) hk1 hFc hP1 hD1
    generalize H1 = H at hP hS ⊢
    have hP : va_P D vwCl [(h, .inr (4, [.int 0, .ref mcells, .ref mcounters, .ref mfloors, .ref mlimits, .ref mlongs, .ref msteps, .int 0, .ref mprogram, .ref mkind, .ref mrank, .ref mstate, .ref mactLong, .ref mactSteps, .ref mat, .ref mregister, .ref misHeld, .ref mdoneIn, .ref mundone, .ref mby, .ref mbegunIn, .ref misVoid, .ref misAgain, .ref mholds, .ref mwrites, .ref mgives, .ref mbelow, .ref mqueued, .ref mqueuedMany, .int 0, .ref mdone, .int 0, .int 0, .ref mlog, .int 0, .int 0, .ref morder, .ref misReached, .ref mqueue])), (mlongs, .inl (cI, 8, .inl (fun _ => 0))), (msteps, .inl (cI, 96, .inl (fun _ => 0)))] H := hP
    have hD : va_D A [(h, .inr (4, [.int 0, .ref mcells, .ref mcounters, .ref mfloors, .ref mlimits, .ref mlongs, .ref msteps, .int 0, .ref mprogram, .ref mkind, .ref mrank, .ref mstate, .ref mactLong, .ref mactSteps, .ref mat, .ref mregister, .ref misHeld, .ref mdoneIn, .ref mundone, .ref mby, .ref mbegunIn, .ref misVoid, .ref misAgain, .ref mholds, .ref mwrites, .ref mgives, .ref mbelow, .ref mqueued, .ref mqueuedMany, .int 0, .ref mdone, .int 0, .int 0, .ref mlog, .int 0, .int 0, .ref morder, .ref misReached, .ref mqueue])), (mlongs, .inl (cI, 8, .inl (fun _ => 0))), (msteps, .inl (cI, 96, .inl (fun _ => 0)))] := hD
    refine lv_if_eq (tgt := 32) hx hb dX4_step_4 (by decide) (fun c2 => ?_) (fun c2 => ?_)
    · skip
      exact absurd c2 (by decide)
    · skip
      refine lv_aload_n hx hb dX4_step_7 rfl (lv_at hl 0 rfl) ?_
      refine va_get (D := D) (ci := 4) (v := .ref mlongs) (C := RX4) (T := TX4) (N := 39) hx hb hts kin_X4_step_X4 hown hK hP 0 rfl rfl 5 (by decide) (hts _ kw_X4_step__fieldLink_RX4_22_ActHouseModel_longs_I_) (fun _ h9 => h9) rfl dX4_step_8 ?_
      refine lv_iload_n hx hb dX4_step_11 rfl (lv_at hl 1 rfl) ?_
      have hi12 : vp_in x 8 := (k_in (by omega) (by omega))
      refine va_iald hx hb hK hP 1 0 rfl rfl hi12 dX4_step_12 ?_
      refine lv_bipush (v := 12) hx hb dX4_step_13 (by decide) ?_
      refine lv_icmp_eq (tgt := 32) hx hb dX4_step_15 (by decide) (fun c3 => ?_) (fun c3 => ?_)
      · skip
        exact absurd c3 (by decide)
      · skip
        refine lv_iload_n hx hb dX4_step_18 rfl (lv_at hl 2 rfl) ?_
        refine lv_if_lt (tgt := 32) hx hb dX4_step_19 (by decide) (fun c4 => ?_) (fun c4 => ?_)
        · skip
          have c4 := k_lt c4
          have hl0 : (0 : Int32).toInt = 0 := by decide
          refine lv_iconst (v := (-1)) hx hb dX4_step_32 (by decide) ?_
          have hP := hP.sub (ws' := []) [] rfl
          have hD := hD.sub (ws' := []) [] (by decide) rfl
          have hK := hK.sub (tys' := [(cI, .int)]) [0] rfl
          refine W.widen (k := 0) (n := 0) (by decide) (by decide) ?_
          exact W.iret (v := (-1)) hx hb hr (fun t ht hW => ⟨⟨(-1), ([], [(cI, .int)]), rfl, Or.inr (⟨rfl, rfl, (by first | omega | (right; right; unfold kv; split <;> omega))⟩), ⟨by rw [ht]; exact hP, va_K.moved hW.alike hK, hD⟩⟩, hS.F ht⟩) hS.2.2 dX4_step_33
        · skip
          have c4 := k_nlt c4
          have hl0 : (0 : Int32).toInt = 0 := by decide
          refine lv_iload_n hx hb dX4_step_22 rfl (lv_at hl 2 rfl) ?_
          refine lv_sipush (v := 10000) hx hb dX4_step_23 (by decide) ?_
          refine lv_idiv hx hb dX4_step_26 (by decide) ?_
          refine lv_bipush (v := 8) hx hb dX4_step_27 (by decide) ?_
          refine lv_icmp_le (tgt := 34) hx hb dX4_step_29 (by decide) (fun c5 => ?_) (fun c5 => ?_)
          · skip
            have c5 := k_le c5
            have hl8 : (8 : Int32).toInt = 8 := by decide
            refine lv_iload_n hx hb dX4_step_34 rfl (lv_at hl 2 rfl) ?_
            refine lv_sipush (v := 10000) hx hb dX4_step_35 (by decide) ?_
            refine lv_idiv hx hb dX4_step_38 (by decide) ?_
            refine lv_istore_n (lv' := [(3, .int (y / 10000)), (0, .ref h), (1, .int x), (2, .int y)]) hx hb dX4_step_39 rfl hl (by decide) rfl (fun ls hl => ?_)
            refine lv_iload_n hx hb dX4_step_40 rfl (lv_at hl 3 rfl) ?_
            refine lv_bipush (v := 100) hx hb dX4_step_41 (by decide) ?_
            refine lv_idiv hx hb dX4_step_43 (by decide) ?_
            refine lv_bipush (v := 100) hx hb dX4_step_44 (by decide) ?_
            refine lv_irem hx hb dX4_step_46 (by decide) ?_
            refine lv_istore (lv' := [(4, .int ((y / 100) - (y / 100) / 100 * 100)), (3, .int (y / 10000)), (0, .ref h), (1, .int x), (2, .int y)]) hx hb dX4_step_47 hl (by decide) rfl (fun ls hl => ?_)
            refine lv_iload_n hx hb dX4_step_49 rfl (lv_at hl 1 rfl) ?_
            refine lv_if_eq (tgt := 63) hx hb dX4_step_50 (by decide) (fun c6 => ?_) (fun c6 => ?_)
            · skip
              have c6 := k_eq c6
              have hl0 : (0 : Int32).toInt = 0 := by decide
              refine lv_iload hx hb dX4_step_63 (lv_at hl 0 rfl) ?_
              refine lv_bipush (v := 24) hx hb dX4_step_65 (by decide) ?_
              refine lv_icmp_ge (tgt := 96) hx hb dX4_step_67 (by decide) (fun c7 => ?_) (fun c7 => ?_)
              · skip
                have c7 := k_le c7
                have hl24 : (24 : Int32).toInt = 24 := by decide
                refine lv_iconst (v := (-1)) hx hb dX4_step_96 (by decide) ?_
                have hP := hP.sub (ws' := []) [] rfl
                have hD := hD.sub (ws' := []) [] (by decide) rfl
                have hK := hK.sub (tys' := [(cI, .int)]) [0] rfl
                refine W.widen (k := 0) (n := 0) (by decide) (by decide) ?_
                exact W.iret (v := (-1)) hx hb hr (fun t ht hW => ⟨⟨(-1), ([], [(cI, .int)]), rfl, Or.inr (⟨rfl, rfl, (by first | omega | (right; right; unfold kv; split <;> omega))⟩), ⟨by rw [ht]; exact hP, va_K.moved hW.alike hK, hD⟩⟩, hS.F ht⟩) hS.2.2 dX4_step_97
              · skip
                have c7 := k_nle c7
                have hl24 : (24 : Int32).toInt = 24 := by decide
                refine lv_iload_n hx hb dX4_step_70 rfl (lv_at hl 1 rfl) ?_
                refine lv_bipush (v := 6) hx hb dX4_step_71 (by decide) ?_
                refine lv_icmp_ne (tgt := 83) hx hb dX4_step_73 (by decide) (fun c8 => ?_) (fun c8 => ?_)
                · skip
                  have c8 := k_ne c8
                  have hl6 : (6 : Int32).toInt = 6 := by decide
                  refine lv_iload_n hx hb dX4_step_83 rfl (lv_at hl 1 rfl) ?_
                  refine lv_bipush (v := 7) hx hb dX4_step_84 (by decide) ?_
                  refine lv_icmp_ne (tgt := 98) hx hb dX4_step_86 (by decide) (fun c9 => ?_) (fun c9 => ?_)
                  · skip
                    have c9 := k_ne c9
                    have hl7 : (7 : Int32).toInt = 7 := by decide
                    refine lv_aload_n hx hb dX4_step_98 rfl (lv_at hl 2 rfl) ?_
                    refine va_get (D := D) (ci := 4) (v := .ref msteps) (C := RX4) (T := TX4) (N := 39) hx hb hts kin_X4_step_X4 hown hK hP 0 rfl rfl 6 (by decide) (hts _ kw_X4_step__fieldLink_RX4_25_ActHouseModel_steps_I_) (fun _ h9 => h9) rfl dX4_step_99 ?_
                    refine lv_bipush (v := 12) hx hb dX4_step_102 (by decide) ?_
                    refine lv_iload_n hx hb dX4_step_104 rfl (lv_at hl 3 rfl) ?_
                    refine lv_imul hx hb dX4_step_105 ?_
                    refine lv_aload_n hx hb dX4_step_106 rfl (lv_at hl 2 rfl) ?_
                    refine va_get (D := D) (ci := 4) (v := .ref mlongs) (C := RX4) (T := TX4) (N := 39) hx hb hts kin_X4_step_X4 hown hK hP 0 rfl rfl 5 (by decide) (hts _ kw_X4_step__fieldLink_RX4_22_ActHouseModel_longs_I_) (fun _ h9 => h9) rfl dX4_step_107 ?_
                    refine lv_iload_n hx hb dX4_step_110 rfl (lv_at hl 3 rfl) ?_
                    have hi111 : vp_in x 8 := (k_in (by omega) (by omega))
                    refine va_iald hx hb hK hP 1 0 rfl rfl hi111 dX4_step_111 ?_
                    refine lv_iadd hx hb dX4_step_112 ?_
                    refine lv_iload_n hx hb dX4_step_113 rfl (lv_at hl 4 rfl) ?_
                    have hl12 : (12 : Int32).toInt = 12 := by decide
                    have ef10 := k_mul2 (x := 12) (y := x) (N := 12) (by decide) (by omega) (by omega)
                    have hl0 : (0 : Int32).toInt = 0 := by decide
                    have ef11 := k_add (x := (12 * x)) (y := 0) (by omega) (by omega)
                    have hi114 : vp_in ((12 * x) + 0) 96 := (k_in (by omega) (by omega))
                    refine va_iast hx hb hK hP hD hS 2 0 rfl rfl hi114 dX4_step_114 (fun H locs hP hD hS => ?_)
                    have hP : va_P D vwCl [(h, .inr (4, [.int 0, .ref mcells, .ref mcounters, .ref mfloors, .ref mlimits, .ref mlongs, .ref msteps, .int 0, .ref mprogram, .ref mkind, .ref mrank, .ref mstate, .ref mactLong, .ref mactSteps, .ref mat, .ref mregister, .ref misHeld, .ref mdoneIn, .ref mundone, .ref mby, .ref mbegunIn, .ref misVoid, .ref misAgain, .ref mholds, .ref mwrites, .ref mgives, .ref mbelow, .ref mqueued, .ref mqueuedMany, .int 0, .ref mdone, .int 0, .int 0, .ref mlog, .int 0, .int 0, .ref morder, .ref misReached, .ref mqueue])), (mlongs, .inl (cI, 8, .inl (fun _ => 0))), (msteps, .inl (cI, 96, .inl (upd (fun _ => 0) ((12 * x) + 0).toNatClampNeg y)))] H := hP
                    have hD : va_D A [(h, .inr (4, [.int 0, .ref mcells, .ref mcounters, .ref mfloors, .ref mlimits, .ref mlongs, .ref msteps, .int 0, .ref mprogram, .ref mkind, .ref mrank, .ref mstate, .ref mactLong, .ref mactSteps, .ref mat, .ref mregister, .ref misHeld, .ref mdoneIn, .ref mundone, .ref mby, .ref mbegunIn, .ref misVoid, .ref misAgain, .ref mholds, .ref mwrites, .ref mgives, .ref mbelow, .ref mqueued, .ref mqueuedMany, .int 0, .ref mdone, .int 0, .int 0, .ref mlog, .int 0, .int 0, .ref morder, .ref misReached, .ref mqueue])), (mlongs, .inl (cI, 8, .inl (fun _ => 0))), (msteps, .inl (cI, 96, .inl (upd (fun _ => 0) ((12 * x) + 0).toNatClampNeg y)))] := hD
                    refine lv_aload_n hx hb dX4_step_115 rfl (lv_at hl 2 rfl) ?_
                    refine va_get (D := D) (ci := 4) (v := .ref mlongs) (C := RX4) (T := TX4) (N := 39) hx hb hts kin_X4_step_X4 hown hK hP 0 rfl rfl 5 (by decide) (hts _ kw_X4_step__fieldLink_RX4_22_ActHouseModel_longs_I_) (fun _ h9 => h9) rfl dX4_step_116 ?_
                    refine lv_iload_n hx hb dX4_step_119 rfl (lv_at hl 3 rfl) ?_
                    refine lv_dup2_11 hx hb dX4_step_120 rfl rfl ?_
                    have hi121 : vp_in x 8 := (k_in (by omega) (by omega))
                    refine va_iald hx hb hK hP 1 0 rfl rfl hi121 dX4_step_121 ?_
                    refine lv_iconst (v := 1) hx hb dX4_step_122 (by decide) ?_
                    refine lv_iadd hx hb dX4_step_123 ?_
                    refine W.eq (g2 := F0 m 124 ls [.int 1, .int x, .ref mlongs]) (by first | rfl | (congr 2; decide)) ?_
                    have hi124 : vp_in x 8 := (k_in (by omega) (by omega))
                    refine va_iast hx hb hK hP hD hS 1 0 rfl rfl hi124 dX4_step_124 (fun H locs hP hD hS => ?_)
                    have hP : va_P D vwCl [(h, .inr (4, [.int 0, .ref mcells, .ref mcounters, .ref mfloors, .ref mlimits, .ref mlongs, .ref msteps, .int 0, .ref mprogram, .ref mkind, .ref mrank, .ref mstate, .ref mactLong, .ref mactSteps, .ref mat, .ref mregister, .ref misHeld, .ref mdoneIn, .ref mundone, .ref mby, .ref mbegunIn, .ref misVoid, .ref misAgain, .ref mholds, .ref mwrites, .ref mgives, .ref mbelow, .ref mqueued, .ref mqueuedMany, .int 0, .ref mdone, .int 0, .int 0, .ref mlog, .int 0, .int 0, .ref morder, .ref misReached, .ref mqueue])), (mlongs, .inl (cI, 8, .inl (upd (fun _ => 0) x.toNatClampNeg 1))), (msteps, .inl (cI, 96, .inl (upd (fun _ => 0) ((12 * x) + 0).toNatClampNeg y)))] H := hP
                    have hD : va_D A [(h, .inr (4, [.int 0, .ref mcells, .ref mcounters, .ref mfloors, .ref mlimits, .ref mlongs, .ref msteps, .int 0, .ref mprogram, .ref mkind, .ref mrank, .ref mstate, .ref mactLong, .ref mactSteps, .ref mat, .ref mregister, .ref misHeld, .ref mdoneIn, .ref mundone, .ref mby, .ref mbegunIn, .ref misVoid, .ref misAgain, .ref mholds, .ref mwrites, .ref mgives, .ref mbelow, .ref mqueued, .ref mqueuedMany, .int 0, .ref mdone, .int 0, .int 0, .ref mlog, .int 0, .int 0, .ref morder, .ref misReached, .ref mqueue])), (mlongs, .inl (cI, 8, .inl (upd (fun _ => 0) x.toNatClampNeg 1))), (msteps, .inl (cI, 96, .inl (upd (fun _ => 0) ((12 * x) + 0).toNatClampNeg y)))] := hD
                    refine lv_aload_n hx hb dX4_step_125 rfl (lv_at hl 2 rfl) ?_
                    refine va_get (D := D) (ci := 4) (v := .ref mlongs) (C := RX4) (T := TX4) (N := 39) hx hb hts kin_X4_step_X4 hown hK hP 0 rfl rfl 5 (by decide) (hts _ kw_X4_step__fieldLink_RX4_22_ActHouseModel_longs_I_) (fun _ h9 => h9) rfl dX4_step_126 ?_
                    refine lv_iload_n hx hb dX4_step_129 rfl (lv_at hl 3 rfl) ?_
                    have hi130 : vp_in x 8 := (k_in (by omega) (by omega))
                    refine va_iald hx hb hK hP 1 0 rfl rfl hi130 dX4_step_130 ?_
                    refine W.eq (g2 := F0 m 131 ls [.int 1]) (by simp only [pk_us]) ?_
                    have hP := hP.sub (ws' := []) [] rfl
                    have hD := hD.sub (ws' := []) [] (by decide) rfl
                    have hK := hK.sub (tys' := [(cI, .int)]) [0] rfl
                    refine W.widen (k := 0) (n := 0) (by decide) (by decide) ?_
                    exact W.iret (v := 1) hx hb hr (fun t ht hW => ⟨⟨1, ([], [(cI, .int)]), rfl, Or.inl ⟨rfl, rfl, (by omega), (by omega), (by unfold kv; split <;> omega)⟩, ⟨by rw [ht]; exact hP, va_K.moved hW.alike hK, hD⟩⟩, hS.F ht⟩) hS.2.2 dX4_step_131
                  · skip
                    have c9 := k_eq c9
                    have hl7 : (7 : Int32).toInt = 7 := by decide
                    refine lv_iload hx hb dX4_step_89 (lv_at hl 0 rfl) ?_
                    refine lv_bipush (v := 8) hx hb dX4_step_91 (by decide) ?_
                    refine lv_icmp_lt (tgt := 98) hx hb dX4_step_93 (by decide) (fun c12 => ?_) (fun c12 => ?_)
                    · skip
                      have c12 := k_lt c12
                      have hl8 : (8 : Int32).toInt = 8 := by decide
                      refine lv_aload_n hx hb dX4_step_98 rfl (lv_at hl 2 rfl) ?_
                      refine va_get (D := D) (ci := 4) (v := .ref msteps) (C := RX4) (T := TX4) (N := 39) hx hb hts kin_X4_step_X4 hown hK hP 0 rfl rfl 6 (by decide) (hts _ kw_X4_step__fieldLink_RX4_25_ActHouseModel_steps_I_) (fun _ h9 => h9) rfl dX4_step_99 ?_
                      refine lv_bipush (v := 12) hx hb dX4_step_102 (by decide) ?_
                      refine lv_iload_n hx hb dX4_step_104 rfl (lv_at hl 3 rfl) ?_
                      refine lv_imul hx hb dX4_step_105 ?_
                      refine lv_aload_n hx hb dX4_step_106 rfl (lv_at hl 2 rfl) ?_
                      refine va_get (D := D) (ci := 4) (v := .ref mlongs) (C := RX4) (T := TX4) (N := 39) hx hb hts kin_X4_step_X4 hown hK hP 0 rfl rfl 5 (by decide) (hts _ kw_X4_step__fieldLink_RX4_22_ActHouseModel_longs_I_) (fun _ h9 => h9) rfl dX4_step_107 ?_
                      refine lv_iload_n hx hb dX4_step_110 rfl (lv_at hl 3 rfl) ?_
                      have hi111 : vp_in x 8 := (k_in (by omega) (by omega))
                      refine va_iald hx hb hK hP 1 0 rfl rfl hi111 dX4_step_111 ?_
                      refine lv_iadd hx hb dX4_step_112 ?_
                      refine lv_iload_n hx hb dX4_step_113 rfl (lv_at hl 4 rfl) ?_
                      have hl12 : (12 : Int32).toInt = 12 := by decide
                      have ef13 := k_mul2 (x := 12) (y := x) (N := 12) (by decide) (by omega) (by omega)
                      have hl0 : (0 : Int32).toInt = 0 := by decide
                      have ef14 := k_add (x := (12 * x)) (y := 0) (by omega) (by omega)
                      have hi114 : vp_in ((12 * x) + 0) 96 := (k_in (by omega) (by omega))
                      refine va_iast hx hb hK hP hD hS 2 0 rfl rfl hi114 dX4_step_114 (fun H locs hP hD hS => ?_)
                      have hP : va_P D vwCl [(h, .inr (4, [.int 0, .ref mcells, .ref mcounters, .ref mfloors, .ref mlimits, .ref mlongs, .ref msteps, .int 0, .ref mprogram, .ref mkind, .ref mrank, .ref mstate, .ref mactLong, .ref mactSteps, .ref mat, .ref mregister, .ref misHeld, .ref mdoneIn, .ref mundone, .ref mby, .ref mbegunIn, .ref misVoid, .ref misAgain, .ref mholds, .ref mwrites, .ref mgives, .ref mbelow, .ref mqueued, .ref mqueuedMany, .int 0, .ref mdone, .int 0, .int 0, .ref mlog, .int 0, .int 0, .ref morder, .ref misReached, .ref mqueue])), (mlongs, .inl (cI, 8, .inl (fun _ => 0))), (msteps, .inl (cI, 96, .inl (upd (fun _ => 0) ((12 * x) + 0).toNatClampNeg y)))] H := hP
                      have hD : va_D A [(h, .inr (4, [.int 0, .ref mcells, .ref mcounters, .ref mfloors, .ref mlimits, .ref mlongs, .ref msteps, .int 0, .ref mprogram, .ref mkind, .ref mrank, .ref mstate, .ref mactLong, .ref mactSteps, .ref mat, .ref mregister, .ref misHeld, .ref mdoneIn, .ref mundone, .ref mby, .ref mbegunIn, .ref misVoid, .ref misAgain, .ref mholds, .ref mwrites, .ref mgives, .ref mbelow, .ref mqueued, .ref mqueuedMany, .int 0, .ref mdone, .int 0, .int 0, .ref mlog, .int 0, .int 0, .ref morder, .ref misReached, .ref mqueue])), (mlongs, .inl (cI, 8, .inl (fun _ => 0))), (msteps, .inl (cI, 96, .inl (upd (fun _ => 0) ((12 * x) + 0).toNatClampNeg y)))] := hD
                      refine lv_aload_n hx hb dX4_step_115 rfl (lv_at hl 2 rfl) ?_
                      refine va_get (D := D) (ci := 4) (v := .ref mlongs) (C := RX4) (T := TX4) (N := 39) hx hb hts kin_X4_step_X4 hown hK hP 0 rfl rfl 5 (by decide) (hts _ kw_X4_step__fieldLink_RX4_22_ActHouseModel_longs_I_) (fun _ h9 => h9) rfl dX4_step_116 ?_
                      refine lv_iload_n hx hb dX4_step_119 rfl (lv_at hl 3 rfl) ?_
                      refine lv_dup2_11 hx hb dX4_step_120 rfl rfl ?_
                      have hi121 : vp_in x 8 := (k_in (by omega) (by omega))
                      refine va_iald hx hb hK hP 1 0 rfl rfl hi121 dX4_step_121 ?_
                      refine lv_iconst (v := 1) hx hb dX4_step_122 (by decide) ?_
                      refine lv_iadd hx hb dX4_step_123 ?_
                      refine W.eq (g2 := F0 m 124 ls [.int 1, .int x, .ref mlongs]) (by first | rfl | (congr 2; decide)) ?_
                      have hi124 : vp_in x 8 := (k_in (by omega) (by omega))
                      refine va_iast hx hb hK hP hD hS 1 0 rfl rfl hi124 dX4_step_124 (fun H locs hP hD hS => ?_)
                      have hP : va_P D vwCl [(h, .inr (4, [.int 0, .ref mcells, .ref mcounters, .ref mfloors, .ref mlimits, .ref mlongs, .ref msteps, .int 0, .ref mprogram, .ref mkind, .ref mrank, .ref mstate, .ref mactLong, .ref mactSteps, .ref mat, .ref mregister, .ref misHeld, .ref mdoneIn, .ref mundone, .ref mby, .ref mbegunIn, .ref misVoid, .ref misAgain, .ref mholds, .ref mwrites, .ref mgives, .ref mbelow, .ref mqueued, .ref mqueuedMany, .int 0, .ref mdone, .int 0, .int 0, .ref mlog, .int 0, .int 0, .ref morder, .ref misReached, .ref mqueue])), (mlongs, .inl (cI, 8, .inl (upd (fun _ => 0) x.toNatClampNeg 1))), (msteps, .inl (cI, 96, .inl (upd (fun _ => 0) ((12 * x) + 0).toNatClampNeg y)))] H := hP
                      have hD : va_D A [(h, .inr (4, [.int 0, .ref mcells, .ref mcounters, .ref mfloors, .ref mlimits, .ref mlongs, .ref msteps, .int 0, .ref mprogram, .ref mkind, .ref mrank, .ref mstate, .ref mactLong, .ref mactSteps, .ref mat, .ref mregister, .ref misHeld, .ref mdoneIn, .ref mundone, .ref mby, .ref mbegunIn, .ref misVoid, .ref misAgain, .ref mholds, .ref mwrites, .ref mgives, .ref mbelow, .ref mqueued, .ref mqueuedMany, .int 0, .ref mdone, .int 0, .int 0, .ref mlog, .int 0, .int 0, .ref morder, .ref misReached, .ref mqueue])), (mlongs, .inl (cI, 8, .inl (upd (fun _ => 0) x.toNatClampNeg 1))), (msteps, .inl (cI, 96, .inl (upd (fun _ => 0) ((12 * x) + 0).toNatClampNeg y)))] := hD
                      refine lv_aload_n hx hb dX4_step_125 rfl (lv_at hl 2 rfl) ?_
                      refine va_get (D := D) (ci := 4) (v := .ref mlongs) (C := RX4) (T := TX4) (N := 39) hx hb hts kin_X4_step_X4 hown hK hP 0 rfl rfl 5 (by decide) (hts _ kw_X4_step__fieldLink_RX4_22_ActHouseModel_longs_I_) (fun _ h9 => h9) rfl dX4_step_126 ?_
                      refine lv_iload_n hx hb dX4_step_129 rfl (lv_at hl 3 rfl) ?_
                      have hi130 : vp_in x 8 := (k_in (by omega) (by omega))
                      refine va_iald hx hb hK hP 1 0 rfl rfl hi130 dX4_step_130 ?_
                      refine W.eq (g2 := F0 m 131 ls [.int 1]) (by simp only [pk_us]) ?_
                      have hP := hP.sub (ws' := []) [] rfl
                      have hD := hD.sub (ws' := []) [] (by decide) rfl
                      have hK := hK.sub (tys' := [(cI, .int)]) [0] rfl
                      refine W.widen (k := 0) (n := 0) (by decide) (by decide) ?_
                      exact W.iret (v := 1) hx hb hr (fun t ht hW => ⟨⟨1, ([], [(cI, .int)]), rfl, Or.inl ⟨rfl, rfl, (by omega), (by omega), (by unfold kv; split <;> omega)⟩, ⟨by rw [ht]; exact hP, va_K.moved hW.alike hK, hD⟩⟩, hS.F ht⟩) hS.2.2 dX4_step_131
                    · skip
                      have c12 := k_nlt c12
                      have hl8 : (8 : Int32).toInt = 8 := by decide
                      refine lv_iconst (v := (-1)) hx hb dX4_step_96 (by decide) ?_
                      have hP := hP.sub (ws' := []) [] rfl
                      have hD := hD.sub (ws' := []) [] (by decide) rfl
                      have hK := hK.sub (tys' := [(cI, .int)]) [0] rfl
                      refine W.widen (k := 0) (n := 0) (by decide) (by decide) ?_
                      exact W.iret (v := (-1)) hx hb hr (fun t ht hW => ⟨⟨(-1), ([], [(cI, .int)]), rfl, Or.inr (⟨rfl, rfl, (by first | omega | (right; right; unfold kv; split <;> omega))⟩), ⟨by rw [ht]; exact hP, va_K.moved hW.alike hK, hD⟩⟩, hS.F ht⟩) hS.2.2 dX4_step_97
                · skip
                  have c8 := k_eq c8
                  have hl6 : (6 : Int32).toInt = 6 := by decide
                  refine lv_iload hx hb dX4_step_76 (lv_at hl 0 rfl) ?_
                  refine lv_bipush (v := 8) hx hb dX4_step_78 (by decide) ?_
                  refine lv_icmp_ge (tgt := 96) hx hb dX4_step_80 (by decide) (fun c15 => ?_) (fun c15 => ?_)
                  · skip
                    have c15 := k_le c15
                    have hl8 : (8 : Int32).toInt = 8 := by decide
                    refine lv_iconst (v := (-1)) hx hb dX4_step_96 (by decide) ?_
                    have hP := hP.sub (ws' := []) [] rfl
                    have hD := hD.sub (ws' := []) [] (by decide) rfl
                    have hK := hK.sub (tys' := [(cI, .int)]) [0] rfl
                    refine W.widen (k := 0) (n := 0) (by decide) (by decide) ?_
                    exact W.iret (v := (-1)) hx hb hr (fun t ht hW => ⟨⟨(-1), ([], [(cI, .int)]), rfl, Or.inr (⟨rfl, rfl, (by first | omega | (right; right; unfold kv; split <;> omega))⟩), ⟨by rw [ht]; exact hP, va_K.moved hW.alike hK, hD⟩⟩, hS.F ht⟩) hS.2.2 dX4_step_97
                  · skip
                    have c15 := k_nle c15
                    have hl8 : (8 : Int32).toInt = 8 := by decide
                    refine lv_iload_n hx hb dX4_step_83 rfl (lv_at hl 1 rfl) ?_
                    refine lv_bipush (v := 7) hx hb dX4_step_84 (by decide) ?_
                    refine lv_icmp_ne (tgt := 98) hx hb dX4_step_86 (by decide) (fun c16 => ?_) (fun c16 => ?_)
                    · skip
                      have c16 := k_ne c16
                      have hl7 : (7 : Int32).toInt = 7 := by decide
                      refine lv_aload_n hx hb dX4_step_98 rfl (lv_at hl 2 rfl) ?_
                      refine va_get (D := D) (ci := 4) (v := .ref msteps) (C := RX4) (T := TX4) (N := 39) hx hb hts kin_X4_step_X4 hown hK hP 0 rfl rfl 6 (by decide) (hts _ kw_X4_step__fieldLink_RX4_25_ActHouseModel_steps_I_) (fun _ h9 => h9) rfl dX4_step_99 ?_
                      refine lv_bipush (v := 12) hx hb dX4_step_102 (by decide) ?_
                      refine lv_iload_n hx hb dX4_step_104 rfl (lv_at hl 3 rfl) ?_
                      refine lv_imul hx hb dX4_step_105 ?_
                      refine lv_aload_n hx hb dX4_step_106 rfl (lv_at hl 2 rfl) ?_
                      refine va_get (D := D) (ci := 4) (v := .ref mlongs) (C := RX4) (T := TX4) (N := 39) hx hb hts kin_X4_step_X4 hown hK hP 0 rfl rfl 5 (by decide) (hts _ kw_X4_step__fieldLink_RX4_22_ActHouseModel_longs_I_) (fun _ h9 => h9) rfl dX4_step_107 ?_
                      refine lv_iload_n hx hb dX4_step_110 rfl (lv_at hl 3 rfl) ?_
                      have hi111 : vp_in x 8 := (k_in (by omega) (by omega))
                      refine va_iald hx hb hK hP 1 0 rfl rfl hi111 dX4_step_111 ?_
                      refine lv_iadd hx hb dX4_step_112 ?_
                      refine lv_iload_n hx hb dX4_step_113 rfl (lv_at hl 4 rfl) ?_
                      have hl12 : (12 : Int32).toInt = 12 := by decide
                      have ef17 := k_mul2 (x := 12) (y := x) (N := 12) (by decide) (by omega) (by omega)
                      have hl0 : (0 : Int32).toInt = 0 := by decide
                      have ef18 := k_add (x := (12 * x)) (y := 0) (by omega) (by omega)
                      have hi114 : vp_in ((12 * x) + 0) 96 := (k_in (by omega) (by omega))
                      refine va_iast hx hb hK hP hD hS 2 0 rfl rfl hi114 dX4_step_114 (fun H locs hP hD hS => ?_)
                      have hP : va_P D vwCl [(h, .inr (4, [.int 0, .ref mcells, .ref mcounters, .ref mfloors, .ref mlimits, .ref mlongs, .ref msteps, .int 0, .ref mprogram, .ref mkind, .ref mrank, .ref mstate, .ref mactLong, .ref mactSteps, .ref mat, .ref mregister, .ref misHeld, .ref mdoneIn, .ref mundone, .ref mby, .ref mbegunIn, .ref misVoid, .ref misAgain, .ref mholds, .ref mwrites, .ref mgives, .ref mbelow, .ref mqueued, .ref mqueuedMany, .int 0, .ref mdone, .int 0, .int 0, .ref mlog, .int 0, .int 0, .ref morder, .ref misReached, .ref mqueue])), (mlongs, .inl (cI, 8, .inl (fun _ => 0))), (msteps, .inl (cI, 96, .inl (upd (fun _ => 0) ((12 * x) + 0).toNatClampNeg y)))] H := hP
                      have hD : va_D A [(h, .inr (4, [.int 0, .ref mcells, .ref mcounters, .ref mfloors, .ref mlimits, .ref mlongs, .ref msteps, .int 0, .ref mprogram, .ref mkind, .ref mrank, .ref mstate, .ref mactLong, .ref mactSteps, .ref mat, .ref mregister, .ref misHeld, .ref mdoneIn, .ref mundone, .ref mby, .ref mbegunIn, .ref misVoid, .ref misAgain, .ref mholds, .ref mwrites, .ref mgives, .ref mbelow, .ref mqueued, .ref mqueuedMany, .int 0, .ref mdone, .int 0, .int 0, .ref mlog, .int 0, .int 0, .ref morder, .ref misReached, .ref mqueue])), (mlongs, .inl (cI, 8, .inl (fun _ => 0))), (msteps, .inl (cI, 96, .inl (upd (fun _ => 0) ((12 * x) + 0).toNatClampNeg y)))] := hD
                      refine lv_aload_n hx hb dX4_step_115 rfl (lv_at hl 2 rfl) ?_
                      refine va_get (D := D) (ci := 4) (v := .ref mlongs) (C := RX4) (T := TX4) (N := 39) hx hb hts kin_X4_step_X4 hown hK hP 0 rfl rfl 5 (by decide) (hts _ kw_X4_step__fieldLink_RX4_22_ActHouseModel_longs_I_) (fun _ h9 => h9) rfl dX4_step_116 ?_
                      refine lv_iload_n hx hb dX4_step_119 rfl (lv_at hl 3 rfl) ?_
                      refine lv_dup2_11 hx hb dX4_step_120 rfl rfl ?_
                      have hi121 : vp_in x 8 := (k_in (by omega) (by omega))
                      refine va_iald hx hb hK hP 1 0 rfl rfl hi121 dX4_step_121 ?_
                      refine lv_iconst (v := 1) hx hb dX4_step_122 (by decide) ?_
                      refine lv_iadd hx hb dX4_step_123 ?_
                      refine W.eq (g2 := F0 m 124 ls [.int 1, .int x, .ref mlongs]) (by first | rfl | (congr 2; decide)) ?_
                      have hi124 : vp_in x 8 := (k_in (by omega) (by omega))
                      refine va_iast hx hb hK hP hD hS 1 0 rfl rfl hi124 dX4_step_124 (fun H locs hP hD hS => ?_)
                      have hP : va_P D vwCl [(h, .inr (4, [.int 0, .ref mcells, .ref mcounters, .ref mfloors, .ref mlimits, .ref mlongs, .ref msteps, .int 0, .ref mprogram, .ref mkind, .ref mrank, .ref mstate, .ref mactLong, .ref mactSteps, .ref mat, .ref mregister, .ref misHeld, .ref mdoneIn, .ref mundone, .ref mby, .ref mbegunIn, .ref misVoid, .ref misAgain, .ref mholds, .ref mwrites, .ref mgives, .ref mbelow, .ref mqueued, .ref mqueuedMany, .int 0, .ref mdone, .int 0, .int 0, .ref mlog, .int 0, .int 0, .ref morder, .ref misReached, .ref mqueue])), (mlongs, .inl (cI, 8, .inl (upd (fun _ => 0) x.toNatClampNeg 1))), (msteps, .inl (cI, 96, .inl (upd (fun _ => 0) ((12 * x) + 0).toNatClampNeg y)))] H := hP
                      have hD : va_D A [(h, .inr (4, [.int 0, .ref mcells, .ref mcounters, .ref mfloors, .ref mlimits, .ref mlongs, .ref msteps, .int 0, .ref mprogram, .ref mkind, .ref mrank, .ref mstate, .ref mactLong, .ref mactSteps, .ref mat, .ref mregister, .ref misHeld, .ref mdoneIn, .ref mundone, .ref mby, .ref mbegunIn, .ref misVoid, .ref misAgain, .ref mholds, .ref mwrites, .ref mgives, .ref mbelow, .ref mqueued, .ref mqueuedMany, .int 0, .ref mdone, .int 0, .int 0, .ref mlog, .int 0, .int 0, .ref morder, .ref misReached, .ref mqueue])), (mlongs, .inl (cI, 8, .inl (upd (fun _ => 0) x.toNatClampNeg 1))), (msteps, .inl (cI, 96, .inl (upd (fun _ => 0) ((12 * x) + 0).toNatClampNeg y)))] := hD
                      refine lv_aload_n hx hb dX4_step_125 rfl (lv_at hl 2 rfl) ?_
                      refine va_get (D := D) (ci := 4) (v := .ref mlongs) (C := RX4) (T := TX4) (N := 39) hx hb hts kin_X4_step_X4 hown hK hP 0 rfl rfl 5 (by decide) (hts _ kw_X4_step__fieldLink_RX4_22_ActHouseModel_longs_I_) (fun _ h9 => h9) rfl dX4_step_126 ?_
                      refine lv_iload_n hx hb dX4_step_129 rfl (lv_at hl 3 rfl) ?_
                      have hi130 : vp_in x 8 := (k_in (by omega) (by omega))
                      refine va_iald hx hb hK hP 1 0 rfl rfl hi130 dX4_step_130 ?_
                      refine W.eq (g2 := F0 m 131 ls [.int 1]) (by simp only [pk_us]) ?_
                      have hP := hP.sub (ws' := []) [] rfl
                      have hD := hD.sub (ws' := []) [] (by decide) rfl
                      have hK := hK.sub (tys' := [(cI, .int)]) [0] rfl
                      refine W.widen (k := 0) (n := 0) (by decide) (by decide) ?_
                      exact W.iret (v := 1) hx hb hr (fun t ht hW => ⟨⟨1, ([], [(cI, .int)]), rfl, Or.inl ⟨rfl, rfl, (by omega), (by omega), (by unfold kv; split <;> omega)⟩, ⟨by rw [ht]; exact hP, va_K.moved hW.alike hK, hD⟩⟩, hS.F ht⟩) hS.2.2 dX4_step_131
                    · skip
                      have c16 := k_eq c16
                      have hl7 : (7 : Int32).toInt = 7 := by decide
                      refine lv_iload hx hb dX4_step_89 (lv_at hl 0 rfl) ?_
                      refine lv_bipush (v := 8) hx hb dX4_step_91 (by decide) ?_
                      refine lv_icmp_lt (tgt := 98) hx hb dX4_step_93 (by decide) (fun c19 => ?_) (fun c19 => ?_)
                      · skip
                        have c19 := k_lt c19
                        have hl8 : (8 : Int32).toInt = 8 := by decide
                        refine lv_aload_n hx hb dX4_step_98 rfl (lv_at hl 2 rfl) ?_
                        refine va_get (D := D) (ci := 4) (v := .ref msteps) (C := RX4) (T := TX4) (N := 39) hx hb hts kin_X4_step_X4 hown hK hP 0 rfl rfl 6 (by decide) (hts _ kw_X4_step__fieldLink_RX4_25_ActHouseModel_steps_I_) (fun _ h9 => h9) rfl dX4_step_99 ?_
                        refine lv_bipush (v := 12) hx hb dX4_step_102 (by decide) ?_
                        refine lv_iload_n hx hb dX4_step_104 rfl (lv_at hl 3 rfl) ?_
                        refine lv_imul hx hb dX4_step_105 ?_
                        refine lv_aload_n hx hb dX4_step_106 rfl (lv_at hl 2 rfl) ?_
                        refine va_get (D := D) (ci := 4) (v := .ref mlongs) (C := RX4) (T := TX4) (N := 39) hx hb hts kin_X4_step_X4 hown hK hP 0 rfl rfl 5 (by decide) (hts _ kw_X4_step__fieldLink_RX4_22_ActHouseModel_longs_I_) (fun _ h9 => h9) rfl dX4_step_107 ?_
                        refine lv_iload_n hx hb dX4_step_110 rfl (lv_at hl 3 rfl) ?_
                        have hi111 : vp_in x 8 := (k_in (by omega) (by omega))
                        refine va_iald hx hb hK hP 1 0 rfl rfl hi111 dX4_step_111 ?_
                        refine lv_iadd hx hb dX4_step_112 ?_
                        refine lv_iload_n hx hb dX4_step_113 rfl (lv_at hl 4 rfl) ?_
                        have hl12 : (12 : Int32).toInt = 12 := by decide
                        have ef20 := k_mul2 (x := 12) (y := x) (N := 12) (by decide) (by omega) (by omega)
                        have hl0 : (0 : Int32).toInt = 0 := by decide
                        have ef21 := k_add (x := (12 * x)) (y := 0) (by omega) (by omega)
                        have hi114 : vp_in ((12 * x) + 0) 96 := (k_in (by omega) (by omega))
                        refine va_iast hx hb hK hP hD hS 2 0 rfl rfl hi114 dX4_step_114 (fun H locs hP hD hS => ?_)
                        have hP : va_P D vwCl [(h, .inr (4, [.int 0, .ref mcells, .ref mcounters, .ref mfloors, .ref mlimits, .ref mlongs, .ref msteps, .int 0, .ref mprogram, .ref mkind, .ref mrank, .ref mstate, .ref mactLong, .ref mactSteps, .ref mat, .ref mregister, .ref misHeld, .ref mdoneIn, .ref mundone, .ref mby, .ref mbegunIn, .ref misVoid, .ref misAgain, .ref mholds, .ref mwrites, .ref mgives, .ref mbelow, .ref mqueued, .ref mqueuedMany, .int 0, .ref mdone, .int 0, .int 0, .ref mlog, .int 0, .int 0, .ref morder, .ref misReached, .ref mqueue])), (mlongs, .inl (cI, 8, .inl (fun _ => 0))), (msteps, .inl (cI, 96, .inl (upd (fun _ => 0) ((12 * x) + 0).toNatClampNeg y)))] H := hP
                        have hD : va_D A [(h, .inr (4, [.int 0, .ref mcells, .ref mcounters, .ref mfloors, .ref mlimits, .ref mlongs, .ref msteps, .int 0, .ref mprogram, .ref mkind, .ref mrank, .ref mstate, .ref mactLong, .ref mactSteps, .ref mat, .ref mregister, .ref misHeld, .ref mdoneIn, .ref mundone, .ref mby, .ref mbegunIn, .ref misVoid, .ref misAgain, .ref mholds, .ref mwrites, .ref mgives, .ref mbelow, .ref mqueued, .ref mqueuedMany, .int 0, .ref mdone, .int 0, .int 0, .ref mlog, .int 0, .int 0, .ref morder, .ref misReached, .ref mqueue])), (mlongs, .inl (cI, 8, .inl (fun _ => 0))), (msteps, .inl (cI, 96, .inl (upd (fun _ => 0) ((12 * x) + 0).toNatClampNeg y)))] := hD
                        refine lv_aload_n hx hb dX4_step_115 rfl (lv_at hl 2 rfl) ?_
                        refine va_get (D := D) (ci := 4) (v := .ref mlongs) (C := RX4) (T := TX4) (N := 39) hx hb hts kin_X4_step_X4 hown hK hP 0 rfl rfl 5 (by decide) (hts _ kw_X4_step__fieldLink_RX4_22_ActHouseModel_longs_I_) (fun _ h9 => h9) rfl dX4_step_116 ?_
                        refine lv_iload_n hx hb dX4_step_119 rfl (lv_at hl 3 rfl) ?_
                        refine lv_dup2_11 hx hb dX4_step_120 rfl rfl ?_
                        have hi121 : vp_in x 8 := (k_in (by omega) (by omega))
                        refine va_iald hx hb hK hP 1 0 rfl rfl hi121 dX4_step_121 ?_
                        refine lv_iconst (v := 1) hx hb dX4_step_122 (by decide) ?_
                        refine lv_iadd hx hb dX4_step_123 ?_
                        refine W.eq (g2 := F0 m 124 ls [.int 1, .int x, .ref mlongs]) (by first | rfl | (congr 2; decide)) ?_
                        have hi124 : vp_in x 8 := (k_in (by omega) (by omega))
                        refine va_iast hx hb hK hP hD hS 1 0 rfl rfl hi124 dX4_step_124 (fun H locs hP hD hS => ?_)
                        have hP : va_P D vwCl [(h, .inr (4, [.int 0, .ref mcells, .ref mcounters, .ref mfloors, .ref mlimits, .ref mlongs, .ref msteps, .int 0, .ref mprogram, .ref mkind, .ref mrank, .ref mstate, .ref mactLong, .ref mactSteps, .ref mat, .ref mregister, .ref misHeld, .ref mdoneIn, .ref mundone, .ref mby, .ref mbegunIn, .ref misVoid, .ref misAgain, .ref mholds, .ref mwrites, .ref mgives, .ref mbelow, .ref mqueued, .ref mqueuedMany, .int 0, .ref mdone, .int 0, .int 0, .ref mlog, .int 0, .int 0, .ref morder, .ref misReached, .ref mqueue])), (mlongs, .inl (cI, 8, .inl (upd (fun _ => 0) x.toNatClampNeg 1))), (msteps, .inl (cI, 96, .inl (upd (fun _ => 0) ((12 * x) + 0).toNatClampNeg y)))] H := hP
                        have hD : va_D A [(h, .inr (4, [.int 0, .ref mcells, .ref mcounters, .ref mfloors, .ref mlimits, .ref mlongs, .ref msteps, .int 0, .ref mprogram, .ref mkind, .ref mrank, .ref mstate, .ref mactLong, .ref mactSteps, .ref mat, .ref mregister, .ref misHeld, .ref mdoneIn, .ref mundone, .ref mby, .ref mbegunIn, .ref misVoid, .ref misAgain, .ref mholds, .ref mwrites, .ref mgives, .ref mbelow, .ref mqueued, .ref mqueuedMany, .int 0, .ref mdone, .int 0, .int 0, .ref mlog, .int 0, .int 0, .ref morder, .ref misReached, .ref mqueue])), (mlongs, .inl (cI, 8, .inl (upd (fun _ => 0) x.toNatClampNeg 1))), (msteps, .inl (cI, 96, .inl (upd (fun _ => 0) ((12 * x) + 0).toNatClampNeg y)))] := hD
                        refine lv_aload_n hx hb dX4_step_125 rfl (lv_at hl 2 rfl) ?_
                        refine va_get (D := D) (ci := 4) (v := .ref mlongs) (C := RX4) (T := TX4) (N := 39) hx hb hts kin_X4_step_X4 hown hK hP 0 rfl rfl 5 (by decide) (hts _ kw_X4_step__fieldLink_RX4_22_ActHouseModel_longs_I_) (fun _ h9 => h9) rfl dX4_step_126 ?_
                        refine lv_iload_n hx hb dX4_step_129 rfl (lv_at hl 3 rfl) ?_
                        have hi130 : vp_in x 8 := (k_in (by omega) (by omega))
                        refine va_iald hx hb hK hP 1 0 rfl rfl hi130 dX4_step_130 ?_
                        refine W.eq (g2 := F0 m 131 ls [.int 1]) (by simp only [pk_us]) ?_
                        have hP := hP.sub (ws' := []) [] rfl
                        have hD := hD.sub (ws' := []) [] (by decide) rfl
                        have hK := hK.sub (tys' := [(cI, .int)]) [0] rfl
                        refine W.widen (k := 0) (n := 0) (by decide) (by decide) ?_
                        exact W.iret (v := 1) hx hb hr (fun t ht hW => ⟨⟨1, ([], [(cI, .int)]), rfl, Or.inl ⟨rfl, rfl, (by omega), (by omega), (by unfold kv; split <;> omega)⟩, ⟨by rw [ht]; exact hP, va_K.moved hW.alike hK, hD⟩⟩, hS.F ht⟩) hS.2.2 dX4_step_131
                      · skip
                        have c19 := k_nlt c19
                        have hl8 : (8 : Int32).toInt = 8 := by decide
                        refine lv_iconst (v := (-1)) hx hb dX4_step_96 (by decide) ?_
                        have hP := hP.sub (ws' := []) [] rfl
                        have hD := hD.sub (ws' := []) [] (by decide) rfl
                        have hK := hK.sub (tys' := [(cI, .int)]) [0] rfl
                        refine W.widen (k := 0) (n := 0) (by decide) (by decide) ?_
                        exact W.iret (v := (-1)) hx hb hr (fun t ht hW => ⟨⟨(-1), ([], [(cI, .int)]), rfl, Or.inr (⟨rfl, rfl, (by first | omega | (right; right; unfold kv; split <;> omega))⟩), ⟨by rw [ht]; exact hP, va_K.moved hW.alike hK, hD⟩⟩, hS.F ht⟩) hS.2.2 dX4_step_97
            · skip
              have c6 := k_ne c6
              have hl0 : (0 : Int32).toInt = 0 := by decide
              refine lv_iload_n hx hb dX4_step_53 rfl (lv_at hl 1 rfl) ?_
              refine lv_iconst (v := 3) hx hb dX4_step_54 (by decide) ?_
              refine lv_icmp_eq (tgt := 63) hx hb dX4_step_55 (by decide) (fun c22 => ?_) (fun c22 => ?_)
              · skip
                have c22 := k_eq c22
                have hl3 : (3 : Int32).toInt = 3 := by decide
                refine lv_iload hx hb dX4_step_63 (lv_at hl 0 rfl) ?_
                refine lv_bipush (v := 24) hx hb dX4_step_65 (by decide) ?_
                refine lv_icmp_ge (tgt := 96) hx hb dX4_step_67 (by decide) (fun c23 => ?_) (fun c23 => ?_)
                · skip
                  have c23 := k_le c23
                  have hl24 : (24 : Int32).toInt = 24 := by decide
                  refine lv_iconst (v := (-1)) hx hb dX4_step_96 (by decide) ?_
                  have hP := hP.sub (ws' := []) [] rfl
                  have hD := hD.sub (ws' := []) [] (by decide) rfl
                  have hK := hK.sub (tys' := [(cI, .int)]) [0] rfl
                  refine W.widen (k := 0) (n := 0) (by decide) (by decide) ?_
                  exact W.iret (v := (-1)) hx hb hr (fun t ht hW => ⟨⟨(-1), ([], [(cI, .int)]), rfl, Or.inr (⟨rfl, rfl, (by first | omega | (right; right; unfold kv; split <;> omega))⟩), ⟨by rw [ht]; exact hP, va_K.moved hW.alike hK, hD⟩⟩, hS.F ht⟩) hS.2.2 dX4_step_97
                · skip
                  have c23 := k_nle c23
                  have hl24 : (24 : Int32).toInt = 24 := by decide
                  refine lv_iload_n hx hb dX4_step_70 rfl (lv_at hl 1 rfl) ?_
                  refine lv_bipush (v := 6) hx hb dX4_step_71 (by decide) ?_
                  refine lv_icmp_ne (tgt := 83) hx hb dX4_step_73 (by decide) (fun c24 => ?_) (fun c24 => ?_)
                  · skip
                    have c24 := k_ne c24
                    have hl6 : (6 : Int32).toInt = 6 := by decide
                    refine lv_iload_n hx hb dX4_step_83 rfl (lv_at hl 1 rfl) ?_
                    refine lv_bipush (v := 7) hx hb dX4_step_84 (by decide) ?_
                    refine lv_icmp_ne (tgt := 98) hx hb dX4_step_86 (by decide) (fun c25 => ?_) (fun c25 => ?_)
                    · skip
                      have c25 := k_ne c25
                      have hl7 : (7 : Int32).toInt = 7 := by decide
                      refine lv_aload_n hx hb dX4_step_98 rfl (lv_at hl 2 rfl) ?_
                      refine va_get (D := D) (ci := 4) (v := .ref msteps) (C := RX4) (T := TX4) (N := 39) hx hb hts kin_X4_step_X4 hown hK hP 0 rfl rfl 6 (by decide) (hts _ kw_X4_step__fieldLink_RX4_25_ActHouseModel_steps_I_) (fun _ h9 => h9) rfl dX4_step_99 ?_
                      refine lv_bipush (v := 12) hx hb dX4_step_102 (by decide) ?_
                      refine lv_iload_n hx hb dX4_step_104 rfl (lv_at hl 3 rfl) ?_
                      refine lv_imul hx hb dX4_step_105 ?_
                      refine lv_aload_n hx hb dX4_step_106 rfl (lv_at hl 2 rfl) ?_
                      refine va_get (D := D) (ci := 4) (v := .ref mlongs) (C := RX4) (T := TX4) (N := 39) hx hb hts kin_X4_step_X4 hown hK hP 0 rfl rfl 5 (by decide) (hts _ kw_X4_step__fieldLink_RX4_22_ActHouseModel_longs_I_) (fun _ h9 => h9) rfl dX4_step_107 ?_
                      refine lv_iload_n hx hb dX4_step_110 rfl (lv_at hl 3 rfl) ?_
                      have hi111 : vp_in x 8 := (k_in (by omega) (by omega))
                      refine va_iald hx hb hK hP 1 0 rfl rfl hi111 dX4_step_111 ?_
                      refine lv_iadd hx hb dX4_step_112 ?_
                      refine lv_iload_n hx hb dX4_step_113 rfl (lv_at hl 4 rfl) ?_
                      have hl12 : (12 : Int32).toInt = 12 := by decide
                      have ef26 := k_mul2 (x := 12) (y := x) (N := 12) (by decide) (by omega) (by omega)
                      have hl0 : (0 : Int32).toInt = 0 := by decide
                      have ef27 := k_add (x := (12 * x)) (y := 0) (by omega) (by omega)
                      have hi114 : vp_in ((12 * x) + 0) 96 := (k_in (by omega) (by omega))
                      refine va_iast hx hb hK hP hD hS 2 0 rfl rfl hi114 dX4_step_114 (fun H locs hP hD hS => ?_)
                      have hP : va_P D vwCl [(h, .inr (4, [.int 0, .ref mcells, .ref mcounters, .ref mfloors, .ref mlimits, .ref mlongs, .ref msteps, .int 0, .ref mprogram, .ref mkind, .ref mrank, .ref mstate, .ref mactLong, .ref mactSteps, .ref mat, .ref mregister, .ref misHeld, .ref mdoneIn, .ref mundone, .ref mby, .ref mbegunIn, .ref misVoid, .ref misAgain, .ref mholds, .ref mwrites, .ref mgives, .ref mbelow, .ref mqueued, .ref mqueuedMany, .int 0, .ref mdone, .int 0, .int 0, .ref mlog, .int 0, .int 0, .ref morder, .ref misReached, .ref mqueue])), (mlongs, .inl (cI, 8, .inl (fun _ => 0))), (msteps, .inl (cI, 96, .inl (upd (fun _ => 0) ((12 * x) + 0).toNatClampNeg y)))] H := hP
                      have hD : va_D A [(h, .inr (4, [.int 0, .ref mcells, .ref mcounters, .ref mfloors, .ref mlimits, .ref mlongs, .ref msteps, .int 0, .ref mprogram, .ref mkind, .ref mrank, .ref mstate, .ref mactLong, .ref mactSteps, .ref mat, .ref mregister, .ref misHeld, .ref mdoneIn, .ref mundone, .ref mby, .ref mbegunIn, .ref misVoid, .ref misAgain, .ref mholds, .ref mwrites, .ref mgives, .ref mbelow, .ref mqueued, .ref mqueuedMany, .int 0, .ref mdone, .int 0, .int 0, .ref mlog, .int 0, .int 0, .ref morder, .ref misReached, .ref mqueue])), (mlongs, .inl (cI, 8, .inl (fun _ => 0))), (msteps, .inl (cI, 96, .inl (upd (fun _ => 0) ((12 * x) + 0).toNatClampNeg y)))] := hD
                      refine lv_aload_n hx hb dX4_step_115 rfl (lv_at hl 2 rfl) ?_
                      refine va_get (D := D) (ci := 4) (v := .ref mlongs) (C := RX4) (T := TX4) (N := 39) hx hb hts kin_X4_step_X4 hown hK hP 0 rfl rfl 5 (by decide) (hts _ kw_X4_step__fieldLink_RX4_22_ActHouseModel_longs_I_) (fun _ h9 => h9) rfl dX4_step_116 ?_
                      refine lv_iload_n hx hb dX4_step_119 rfl (lv_at hl 3 rfl) ?_
                      refine lv_dup2_11 hx hb dX4_step_120 rfl rfl ?_
                      have hi121 : vp_in x 8 := (k_in (by omega) (by omega))
                      refine va_iald hx hb hK hP 1 0 rfl rfl hi121 dX4_step_121 ?_
                      refine lv_iconst (v := 1) hx hb dX4_step_122 (by decide) ?_
                      refine lv_iadd hx hb dX4_step_123 ?_
                      refine W.eq (g2 := F0 m 124 ls [.int 1, .int x, .ref mlongs]) (by first | rfl | (congr 2; decide)) ?_
                      have hi124 : vp_in x 8 := (k_in (by omega) (by omega))
                      refine va_iast hx hb hK hP hD hS 1 0 rfl rfl hi124 dX4_step_124 (fun H locs hP hD hS => ?_)
                      have hP : va_P D vwCl [(h, .inr (4, [.int 0, .ref mcells, .ref mcounters, .ref mfloors, .ref mlimits, .ref mlongs, .ref msteps, .int 0, .ref mprogram, .ref mkind, .ref mrank, .ref mstate, .ref mactLong, .ref mactSteps, .ref mat, .ref mregister, .ref misHeld, .ref mdoneIn, .ref mundone, .ref mby, .ref mbegunIn, .ref misVoid, .ref misAgain, .ref mholds, .ref mwrites, .ref mgives, .ref mbelow, .ref mqueued, .ref mqueuedMany, .int 0, .ref mdone, .int 0, .int 0, .ref mlog, .int 0, .int 0, .ref morder, .ref misReached, .ref mqueue])), (mlongs, .inl (cI, 8, .inl (upd (fun _ => 0) x.toNatClampNeg 1))), (msteps, .inl (cI, 96, .inl (upd (fun _ => 0) ((12 * x) + 0).toNatClampNeg y)))] H := hP
                      have hD : va_D A [(h, .inr (4, [.int 0, .ref mcells, .ref mcounters, .ref mfloors, .ref mlimits, .ref mlongs, .ref msteps, .int 0, .ref mprogram, .ref mkind, .ref mrank, .ref mstate, .ref mactLong, .ref mactSteps, .ref mat, .ref mregister, .ref misHeld, .ref mdoneIn, .ref mundone, .ref mby, .ref mbegunIn, .ref misVoid, .ref misAgain, .ref mholds, .ref mwrites, .ref mgives, .ref mbelow, .ref mqueued, .ref mqueuedMany, .int 0, .ref mdone, .int 0, .int 0, .ref mlog, .int 0, .int 0, .ref morder, .ref misReached, .ref mqueue])), (mlongs, .inl (cI, 8, .inl (upd (fun _ => 0) x.toNatClampNeg 1))), (msteps, .inl (cI, 96, .inl (upd (fun _ => 0) ((12 * x) + 0).toNatClampNeg y)))] := hD
                      refine lv_aload_n hx hb dX4_step_125 rfl (lv_at hl 2 rfl) ?_
                      refine va_get (D := D) (ci := 4) (v := .ref mlongs) (C := RX4) (T := TX4) (N := 39) hx hb hts kin_X4_step_X4 hown hK hP 0 rfl rfl 5 (by decide) (hts _ kw_X4_step__fieldLink_RX4_22_ActHouseModel_longs_I_) (fun _ h9 => h9) rfl dX4_step_126 ?_
                      refine lv_iload_n hx hb dX4_step_129 rfl (lv_at hl 3 rfl) ?_
                      have hi130 : vp_in x 8 := (k_in (by omega) (by omega))
                      refine va_iald hx hb hK hP 1 0 rfl rfl hi130 dX4_step_130 ?_
                      refine W.eq (g2 := F0 m 131 ls [.int 1]) (by simp only [pk_us]) ?_
                      have hP := hP.sub (ws' := []) [] rfl
                      have hD := hD.sub (ws' := []) [] (by decide) rfl
                      have hK := hK.sub (tys' := [(cI, .int)]) [0] rfl
                      refine W.widen (k := 0) (n := 0) (by decide) (by decide) ?_
                      exact W.iret (v := 1) hx hb hr (fun t ht hW => ⟨⟨1, ([], [(cI, .int)]), rfl, Or.inl ⟨rfl, rfl, (by omega), (by omega), (by unfold kv; split <;> omega)⟩, ⟨by rw [ht]; exact hP, va_K.moved hW.alike hK, hD⟩⟩, hS.F ht⟩) hS.2.2 dX4_step_131
                    · skip
                      have c25 := k_eq c25
                      have hl7 : (7 : Int32).toInt = 7 := by decide
                      refine lv_iload hx hb dX4_step_89 (lv_at hl 0 rfl) ?_
                      refine lv_bipush (v := 8) hx hb dX4_step_91 (by decide) ?_
                      refine lv_icmp_lt (tgt := 98) hx hb dX4_step_93 (by decide) (fun c28 => ?_) (fun c28 => ?_)
                      · skip
                        have c28 := k_lt c28
                        have hl8 : (8 : Int32).toInt = 8 := by decide
                        refine lv_aload_n hx hb dX4_step_98 rfl (lv_at hl 2 rfl) ?_
                        refine va_get (D := D) (ci := 4) (v := .ref msteps) (C := RX4) (T := TX4) (N := 39) hx hb hts kin_X4_step_X4 hown hK hP 0 rfl rfl 6 (by decide) (hts _ kw_X4_step__fieldLink_RX4_25_ActHouseModel_steps_I_) (fun _ h9 => h9) rfl dX4_step_99 ?_
                        refine lv_bipush (v := 12) hx hb dX4_step_102 (by decide) ?_
                        refine lv_iload_n hx hb dX4_step_104 rfl (lv_at hl 3 rfl) ?_
                        refine lv_imul hx hb dX4_step_105 ?_
                        refine lv_aload_n hx hb dX4_step_106 rfl (lv_at hl 2 rfl) ?_
                        refine va_get (D := D) (ci := 4) (v := .ref mlongs) (C := RX4) (T := TX4) (N := 39) hx hb hts kin_X4_step_X4 hown hK hP 0 rfl rfl 5 (by decide) (hts _ kw_X4_step__fieldLink_RX4_22_ActHouseModel_longs_I_) (fun _ h9 => h9) rfl dX4_step_107 ?_
                        refine lv_iload_n hx hb dX4_step_110 rfl (lv_at hl 3 rfl) ?_
                        have hi111 : vp_in x 8 := (k_in (by omega) (by omega))
                        refine va_iald hx hb hK hP 1 0 rfl rfl hi111 dX4_step_111 ?_
                        refine lv_iadd hx hb dX4_step_112 ?_
                        refine lv_iload_n hx hb dX4_step_113 rfl (lv_at hl 4 rfl) ?_
                        have hl12 : (12 : Int32).toInt = 12 := by decide
                        have ef29 := k_mul2 (x := 12) (y := x) (N := 12) (by decide) (by omega) (by omega)
                        have hl0 : (0 : Int32).toInt = 0 := by decide
                        have ef30 := k_add (x := (12 * x)) (y := 0) (by omega) (by omega)
                        have hi114 : vp_in ((12 * x) + 0) 96 := (k_in (by omega) (by omega))
                        refine va_iast hx hb hK hP hD hS 2 0 rfl rfl hi114 dX4_step_114 (fun H locs hP hD hS => ?_)
                        have hP : va_P D vwCl [(h, .inr (4, [.int 0, .ref mcells, .ref mcounters, .ref mfloors, .ref mlimits, .ref mlongs, .ref msteps, .int 0, .ref mprogram, .ref mkind, .ref mrank, .ref mstate, .ref mactLong, .ref mactSteps, .ref mat, .ref mregister, .ref misHeld, .ref mdoneIn, .ref mundone, .ref mby, .ref mbegunIn, .ref misVoid, .ref misAgain, .ref mholds, .ref mwrites, .ref mgives, .ref mbelow, .ref mqueued, .ref mqueuedMany, .int 0, .ref mdone, .int 0, .int 0, .ref mlog, .int 0, .int 0, .ref morder, .ref misReached, .ref mqueue])), (mlongs, .inl (cI, 8, .inl (fun _ => 0))), (msteps, .inl (cI, 96, .inl (upd (fun _ => 0) ((12 * x) + 0).toNatClampNeg y)))] H := hP
                        have hD : va_D A [(h, .inr (4, [.int 0, .ref mcells, .ref mcounters, .ref mfloors, .ref mlimits, .ref mlongs, .ref msteps, .int 0, .ref mprogram, .ref mkind, .ref mrank, .ref mstate, .ref mactLong, .ref mactSteps, .ref mat, .ref mregister, .ref misHeld, .ref mdoneIn, .ref mundone, .ref mby, .ref mbegunIn, .ref misVoid, .ref misAgain, .ref mholds, .ref mwrites, .ref mgives, .ref mbelow, .ref mqueued, .ref mqueuedMany, .int 0, .ref mdone, .int 0, .int 0, .ref mlog, .int 0, .int 0, .ref morder, .ref misReached, .ref mqueue])), (mlongs, .inl (cI, 8, .inl (fun _ => 0))), (msteps, .inl (cI, 96, .inl (upd (fun _ => 0) ((12 * x) + 0).toNatClampNeg y)))] := hD
                        refine lv_aload_n hx hb dX4_step_115 rfl (lv_at hl 2 rfl) ?_
                        refine va_get (D := D) (ci := 4) (v := .ref mlongs) (C := RX4) (T := TX4) (N := 39) hx hb hts kin_X4_step_X4 hown hK hP 0 rfl rfl 5 (by decide) (hts _ kw_X4_step__fieldLink_RX4_22_ActHouseModel_longs_I_) (fun _ h9 => h9) rfl dX4_step_116 ?_
                        refine lv_iload_n hx hb dX4_step_119 rfl (lv_at hl 3 rfl) ?_
                        refine lv_dup2_11 hx hb dX4_step_120 rfl rfl ?_
                        have hi121 : vp_in x 8 := (k_in (by omega) (by omega))
                        refine va_iald hx hb hK hP 1 0 rfl rfl hi121 dX4_step_121 ?_
                        refine lv_iconst (v := 1) hx hb dX4_step_122 (by decide) ?_
                        refine lv_iadd hx hb dX4_step_123 ?_
                        refine W.eq (g2 := F0 m 124 ls [.int 1, .int x, .ref mlongs]) (by first | rfl | (congr 2; decide)) ?_
                        have hi124 : vp_in x 8 := (k_in (by omega) (by omega))
                        refine va_iast hx hb hK hP hD hS 1 0 rfl rfl hi124 dX4_step_124 (fun H locs hP hD hS => ?_)
                        have hP : va_P D vwCl [(h, .inr (4, [.int 0, .ref mcells, .ref mcounters, .ref mfloors, .ref mlimits, .ref mlongs, .ref msteps, .int 0, .ref mprogram, .ref mkind, .ref mrank, .ref mstate, .ref mactLong, .ref mactSteps, .ref mat, .ref mregister, .ref misHeld, .ref mdoneIn, .ref mundone, .ref mby, .ref mbegunIn, .ref misVoid, .ref misAgain, .ref mholds, .ref mwrites, .ref mgives, .ref mbelow, .ref mqueued, .ref mqueuedMany, .int 0, .ref mdone, .int 0, .int 0, .ref mlog, .int 0, .int 0, .ref morder, .ref misReached, .ref mqueue])), (mlongs, .inl (cI, 8, .inl (upd (fun _ => 0) x.toNatClampNeg 1))), (msteps, .inl (cI, 96, .inl (upd (fun _ => 0) ((12 * x) + 0).toNatClampNeg y)))] H := hP
                        have hD : va_D A [(h, .inr (4, [.int 0, .ref mcells, .ref mcounters, .ref mfloors, .ref mlimits, .ref mlongs, .ref msteps, .int 0, .ref mprogram, .ref mkind, .ref mrank, .ref mstate, .ref mactLong, .ref mactSteps, .ref mat, .ref mregister, .ref misHeld, .ref mdoneIn, .ref mundone, .ref mby, .ref mbegunIn, .ref misVoid, .ref misAgain, .ref mholds, .ref mwrites, .ref mgives, .ref mbelow, .ref mqueued, .ref mqueuedMany, .int 0, .ref mdone, .int 0, .int 0, .ref mlog, .int 0, .int 0, .ref morder, .ref misReached, .ref mqueue])), (mlongs, .inl (cI, 8, .inl (upd (fun _ => 0) x.toNatClampNeg 1))), (msteps, .inl (cI, 96, .inl (upd (fun _ => 0) ((12 * x) + 0).toNatClampNeg y)))] := hD
                        refine lv_aload_n hx hb dX4_step_125 rfl (lv_at hl 2 rfl) ?_
                        refine va_get (D := D) (ci := 4) (v := .ref mlongs) (C := RX4) (T := TX4) (N := 39) hx hb hts kin_X4_step_X4 hown hK hP 0 rfl rfl 5 (by decide) (hts _ kw_X4_step__fieldLink_RX4_22_ActHouseModel_longs_I_) (fun _ h9 => h9) rfl dX4_step_126 ?_
                        refine lv_iload_n hx hb dX4_step_129 rfl (lv_at hl 3 rfl) ?_
                        have hi130 : vp_in x 8 := (k_in (by omega) (by omega))
                        refine va_iald hx hb hK hP 1 0 rfl rfl hi130 dX4_step_130 ?_
                        refine W.eq (g2 := F0 m 131 ls [.int 1]) (by simp only [pk_us]) ?_
                        have hP := hP.sub (ws' := []) [] rfl
                        have hD := hD.sub (ws' := []) [] (by decide) rfl
                        have hK := hK.sub (tys' := [(cI, .int)]) [0] rfl
                        refine W.widen (k := 0) (n := 0) (by decide) (by decide) ?_
                        exact W.iret (v := 1) hx hb hr (fun t ht hW => ⟨⟨1, ([], [(cI, .int)]), rfl, Or.inl ⟨rfl, rfl, (by omega), (by omega), (by unfold kv; split <;> omega)⟩, ⟨by rw [ht]; exact hP, va_K.moved hW.alike hK, hD⟩⟩, hS.F ht⟩) hS.2.2 dX4_step_131
                      · skip
                        have c28 := k_nlt c28
                        have hl8 : (8 : Int32).toInt = 8 := by decide
                        refine lv_iconst (v := (-1)) hx hb dX4_step_96 (by decide) ?_
                        have hP := hP.sub (ws' := []) [] rfl
                        have hD := hD.sub (ws' := []) [] (by decide) rfl
                        have hK := hK.sub (tys' := [(cI, .int)]) [0] rfl
                        refine W.widen (k := 0) (n := 0) (by decide) (by decide) ?_
                        exact W.iret (v := (-1)) hx hb hr (fun t ht hW => ⟨⟨(-1), ([], [(cI, .int)]), rfl, Or.inr (⟨rfl, rfl, (by first | omega | (right; right; unfold kv; split <;> omega))⟩), ⟨by rw [ht]; exact hP, va_K.moved hW.alike hK, hD⟩⟩, hS.F ht⟩) hS.2.2 dX4_step_97
                  · skip
                    have c24 := k_eq c24
                    have hl6 : (6 : Int32).toInt = 6 := by decide
                    refine lv_iload hx hb dX4_step_76 (lv_at hl 0 rfl) ?_
                    refine lv_bipush (v := 8) hx hb dX4_step_78 (by decide) ?_
                    refine lv_icmp_ge (tgt := 96) hx hb dX4_step_80 (by decide) (fun c31 => ?_) (fun c31 => ?_)
                    · skip
                      have c31 := k_le c31
                      have hl8 : (8 : Int32).toInt = 8 := by decide
                      refine lv_iconst (v := (-1)) hx hb dX4_step_96 (by decide) ?_
                      have hP := hP.sub (ws' := []) [] rfl
                      have hD := hD.sub (ws' := []) [] (by decide) rfl
                      have hK := hK.sub (tys' := [(cI, .int)]) [0] rfl
                      refine W.widen (k := 0) (n := 0) (by decide) (by decide) ?_
                      exact W.iret (v := (-1)) hx hb hr (fun t ht hW => ⟨⟨(-1), ([], [(cI, .int)]), rfl, Or.inr (⟨rfl, rfl, (by first | omega | (right; right; unfold kv; split <;> omega))⟩), ⟨by rw [ht]; exact hP, va_K.moved hW.alike hK, hD⟩⟩, hS.F ht⟩) hS.2.2 dX4_step_97
                    · skip
                      have c31 := k_nle c31
                      have hl8 : (8 : Int32).toInt = 8 := by decide
                      refine lv_iload_n hx hb dX4_step_83 rfl (lv_at hl 1 rfl) ?_
                      refine lv_bipush (v := 7) hx hb dX4_step_84 (by decide) ?_
                      refine lv_icmp_ne (tgt := 98) hx hb dX4_step_86 (by decide) (fun c32 => ?_) (fun c32 => ?_)
                      · skip
                        have c32 := k_ne c32
                        have hl7 : (7 : Int32).toInt = 7 := by decide
                        refine lv_aload_n hx hb dX4_step_98 rfl (lv_at hl 2 rfl) ?_
                        refine va_get (D := D) (ci := 4) (v := .ref msteps) (C := RX4) (T := TX4) (N := 39) hx hb hts kin_X4_step_X4 hown hK hP 0 rfl rfl 6 (by decide) (hts _ kw_X4_step__fieldLink_RX4_25_ActHouseModel_steps_I_) (fun _ h9 => h9) rfl dX4_step_99 ?_
                        refine lv_bipush (v := 12) hx hb dX4_step_102 (by decide) ?_
                        refine lv_iload_n hx hb dX4_step_104 rfl (lv_at hl 3 rfl) ?_
                        refine lv_imul hx hb dX4_step_105 ?_
                        refine lv_aload_n hx hb dX4_step_106 rfl (lv_at hl 2 rfl) ?_
                        refine va_get (D := D) (ci := 4) (v := .ref mlongs) (C := RX4) (T := TX4) (N := 39) hx hb hts kin_X4_step_X4 hown hK hP 0 rfl rfl 5 (by decide) (hts _ kw_X4_step__fieldLink_RX4_22_ActHouseModel_longs_I_) (fun _ h9 => h9) rfl dX4_step_107 ?_
                        refine lv_iload_n hx hb dX4_step_110 rfl (lv_at hl 3 rfl) ?_
                        have hi111 : vp_in x 8 := (k_in (by omega) (by omega))
                        refine va_iald hx hb hK hP 1 0 rfl rfl hi111 dX4_step_111 ?_
                        refine lv_iadd hx hb dX4_step_112 ?_
                        refine lv_iload_n hx hb dX4_step_113 rfl (lv_at hl 4 rfl) ?_
                        have hl12 : (12 : Int32).toInt = 12 := by decide
                        have ef33 := k_mul2 (x := 12) (y := x) (N := 12) (by decide) (by omega) (by omega)
                        have hl0 : (0 : Int32).toInt = 0 := by decide
                        have ef34 := k_add (x := (12 * x)) (y := 0) (by omega) (by omega)
                        have hi114 : vp_in ((12 * x) + 0) 96 := (k_in (by omega) (by omega))
                        refine va_iast hx hb hK hP hD hS 2 0 rfl rfl hi114 dX4_step_114 (fun H locs hP hD hS => ?_)
                        have hP : va_P D vwCl [(h, .inr (4, [.int 0, .ref mcells, .ref mcounters, .ref mfloors, .ref mlimits, .ref mlongs, .ref msteps, .int 0, .ref mprogram, .ref mkind, .ref mrank, .ref mstate, .ref mactLong, .ref mactSteps, .ref mat, .ref mregister, .ref misHeld, .ref mdoneIn, .ref mundone, .ref mby, .ref mbegunIn, .ref misVoid, .ref misAgain, .ref mholds, .ref mwrites, .ref mgives, .ref mbelow, .ref mqueued, .ref mqueuedMany, .int 0, .ref mdone, .int 0, .int 0, .ref mlog, .int 0, .int 0, .ref morder, .ref misReached, .ref mqueue])), (mlongs, .inl (cI, 8, .inl (fun _ => 0))), (msteps, .inl (cI, 96, .inl (upd (fun _ => 0) ((12 * x) + 0).toNatClampNeg y)))] H := hP
                        have hD : va_D A [(h, .inr (4, [.int 0, .ref mcells, .ref mcounters, .ref mfloors, .ref mlimits, .ref mlongs, .ref msteps, .int 0, .ref mprogram, .ref mkind, .ref mrank, .ref mstate, .ref mactLong, .ref mactSteps, .ref mat, .ref mregister, .ref misHeld, .ref mdoneIn, .ref mundone, .ref mby, .ref mbegunIn, .ref misVoid, .ref misAgain, .ref mholds, .ref mwrites, .ref mgives, .ref mbelow, .ref mqueued, .ref mqueuedMany, .int 0, .ref mdone, .int 0, .int 0, .ref mlog, .int 0, .int 0, .ref morder, .ref misReached, .ref mqueue])), (mlongs, .inl (cI, 8, .inl (fun _ => 0))), (msteps, .inl (cI, 96, .inl (upd (fun _ => 0) ((12 * x) + 0).toNatClampNeg y)))] := hD
                        refine lv_aload_n hx hb dX4_step_115 rfl (lv_at hl 2 rfl) ?_
                        refine va_get (D := D) (ci := 4) (v := .ref mlongs) (C := RX4) (T := TX4) (N := 39) hx hb hts kin_X4_step_X4 hown hK hP 0 rfl rfl 5 (by decide) (hts _ kw_X4_step__fieldLink_RX4_22_ActHouseModel_longs_I_) (fun _ h9 => h9) rfl dX4_step_116 ?_
                        refine lv_iload_n hx hb dX4_step_119 rfl (lv_at hl 3 rfl) ?_
                        refine lv_dup2_11 hx hb dX4_step_120 rfl rfl ?_
                        have hi121 : vp_in x 8 := (k_in (by omega) (by omega))
                        refine va_iald hx hb hK hP 1 0 rfl rfl hi121 dX4_step_121 ?_
                        refine lv_iconst (v := 1) hx hb dX4_step_122 (by decide) ?_
                        refine lv_iadd hx hb dX4_step_123 ?_
                        refine W.eq (g2 := F0 m 124 ls [.int 1, .int x, .ref mlongs]) (by first | rfl | (congr 2; decide)) ?_
                        have hi124 : vp_in x 8 := (k_in (by omega) (by omega))
                        refine va_iast hx hb hK hP hD hS 1 0 rfl rfl hi124 dX4_step_124 (fun H locs hP hD hS => ?_)
                        have hP : va_P D vwCl [(h, .inr (4, [.int 0, .ref mcells, .ref mcounters, .ref mfloors, .ref mlimits, .ref mlongs, .ref msteps, .int 0, .ref mprogram, .ref mkind, .ref mrank, .ref mstate, .ref mactLong, .ref mactSteps, .ref mat, .ref mregister, .ref misHeld, .ref mdoneIn, .ref mundone, .ref mby, .ref mbegunIn, .ref misVoid, .ref misAgain, .ref mholds, .ref mwrites, .ref mgives, .ref mbelow, .ref mqueued, .ref mqueuedMany, .int 0, .ref mdone, .int 0, .int 0, .ref mlog, .int 0, .int 0, .ref morder, .ref misReached, .ref mqueue])), (mlongs, .inl (cI, 8, .inl (upd (fun _ => 0) x.toNatClampNeg 1))), (msteps, .inl (cI, 96, .inl (upd (fun _ => 0) ((12 * x) + 0).toNatClampNeg y)))] H := hP
                        have hD : va_D A [(h, .inr (4, [.int 0, .ref mcells, .ref mcounters, .ref mfloors, .ref mlimits, .ref mlongs, .ref msteps, .int 0, .ref mprogram, .ref mkind, .ref mrank, .ref mstate, .ref mactLong, .ref mactSteps, .ref mat, .ref mregister, .ref misHeld, .ref mdoneIn, .ref mundone, .ref mby, .ref mbegunIn, .ref misVoid, .ref misAgain, .ref mholds, .ref mwrites, .ref mgives, .ref mbelow, .ref mqueued, .ref mqueuedMany, .int 0, .ref mdone, .int 0, .int 0, .ref mlog, .int 0, .int 0, .ref morder, .ref misReached, .ref mqueue])), (mlongs, .inl (cI, 8, .inl (upd (fun _ => 0) x.toNatClampNeg 1))), (msteps, .inl (cI, 96, .inl (upd (fun _ => 0) ((12 * x) + 0).toNatClampNeg y)))] := hD
                        refine lv_aload_n hx hb dX4_step_125 rfl (lv_at hl 2 rfl) ?_
                        refine va_get (D := D) (ci := 4) (v := .ref mlongs) (C := RX4) (T := TX4) (N := 39) hx hb hts kin_X4_step_X4 hown hK hP 0 rfl rfl 5 (by decide) (hts _ kw_X4_step__fieldLink_RX4_22_ActHouseModel_longs_I_) (fun _ h9 => h9) rfl dX4_step_126 ?_
                        refine lv_iload_n hx hb dX4_step_129 rfl (lv_at hl 3 rfl) ?_
                        have hi130 : vp_in x 8 := (k_in (by omega) (by omega))
                        refine va_iald hx hb hK hP 1 0 rfl rfl hi130 dX4_step_130 ?_
                        refine W.eq (g2 := F0 m 131 ls [.int 1]) (by simp only [pk_us]) ?_
                        have hP := hP.sub (ws' := []) [] rfl
                        have hD := hD.sub (ws' := []) [] (by decide) rfl
                        have hK := hK.sub (tys' := [(cI, .int)]) [0] rfl
                        refine W.widen (k := 0) (n := 0) (by decide) (by decide) ?_
                        exact W.iret (v := 1) hx hb hr (fun t ht hW => ⟨⟨1, ([], [(cI, .int)]), rfl, Or.inl ⟨rfl, rfl, (by omega), (by omega), (by unfold kv; split <;> omega)⟩, ⟨by rw [ht]; exact hP, va_K.moved hW.alike hK, hD⟩⟩, hS.F ht⟩) hS.2.2 dX4_step_131
                      · skip
                        have c32 := k_eq c32
                        have hl7 : (7 : Int32).toInt = 7 := by decide
                        refine lv_iload hx hb dX4_step_89 (lv_at hl 0 rfl) ?_
                        refine lv_bipush (v := 8) hx hb dX4_step_91 (by decide) ?_
                        refine lv_icmp_lt (tgt := 98) hx hb dX4_step_93 (by decide) (fun c35 => ?_) (fun c35 => ?_)
                        · skip
                          have c35 := k_lt c35
                          have hl8 : (8 : Int32).toInt = 8 := by decide
                          refine lv_aload_n hx hb dX4_step_98 rfl (lv_at hl 2 rfl) ?_
                          refine va_get (D := D) (ci := 4) (v := .ref msteps) (C := RX4) (T := TX4) (N := 39) hx hb hts kin_X4_step_X4 hown hK hP 0 rfl rfl 6 (by decide) (hts _ kw_X4_step__fieldLink_RX4_25_ActHouseModel_steps_I_) (fun _ h9 => h9) rfl dX4_step_99 ?_
                          refine lv_bipush (v := 12) hx hb dX4_step_102 (by decide) ?_
                          refine lv_iload_n hx hb dX4_step_104 rfl (lv_at hl 3 rfl) ?_
                          refine lv_imul hx hb dX4_step_105 ?_
                          refine lv_aload_n hx hb dX4_step_106 rfl (lv_at hl 2 rfl) ?_
                          refine va_get (D := D) (ci := 4) (v := .ref mlongs) (C := RX4) (T := TX4) (N := 39) hx hb hts kin_X4_step_X4 hown hK hP 0 rfl rfl 5 (by decide) (hts _ kw_X4_step__fieldLink_RX4_22_ActHouseModel_longs_I_) (fun _ h9 => h9) rfl dX4_step_107 ?_
                          refine lv_iload_n hx hb dX4_step_110 rfl (lv_at hl 3 rfl) ?_
                          have hi111 : vp_in x 8 := (k_in (by omega) (by omega))
                          refine va_iald hx hb hK hP 1 0 rfl rfl hi111 dX4_step_111 ?_
                          refine lv_iadd hx hb dX4_step_112 ?_
                          refine lv_iload_n hx hb dX4_step_113 rfl (lv_at hl 4 rfl) ?_
                          have hl12 : (12 : Int32).toInt = 12 := by decide
                          have ef36 := k_mul2 (x := 12) (y := x) (N := 12) (by decide) (by omega) (by omega)
                          have hl0 : (0 : Int32).toInt = 0 := by decide
                          have ef37 := k_add (x := (12 * x)) (y := 0) (by omega) (by omega)
                          have hi114 : vp_in ((12 * x) + 0) 96 := (k_in (by omega) (by omega))
                          refine va_iast hx hb hK hP hD hS 2 0 rfl rfl hi114 dX4_step_114 (fun H locs hP hD hS => ?_)
                          have hP : va_P D vwCl [(h, .inr (4, [.int 0, .ref mcells, .ref mcounters, .ref mfloors, .ref mlimits, .ref mlongs, .ref msteps, .int 0, .ref mprogram, .ref mkind, .ref mrank, .ref mstate, .ref mactLong, .ref mactSteps, .ref mat, .ref mregister, .ref misHeld, .ref mdoneIn, .ref mundone, .ref mby, .ref mbegunIn, .ref misVoid, .ref misAgain, .ref mholds, .ref mwrites, .ref mgives, .ref mbelow, .ref mqueued, .ref mqueuedMany, .int 0, .ref mdone, .int 0, .int 0, .ref mlog, .int 0, .int 0, .ref morder, .ref misReached, .ref mqueue])), (mlongs, .inl (cI, 8, .inl (fun _ => 0))), (msteps, .inl (cI, 96, .inl (upd (fun _ => 0) ((12 * x) + 0).toNatClampNeg y)))] H := hP
                          have hD : va_D A [(h, .inr (4, [.int 0, .ref mcells, .ref mcounters, .ref mfloors, .ref mlimits, .ref mlongs, .ref msteps, .int 0, .ref mprogram, .ref mkind, .ref mrank, .ref mstate, .ref mactLong, .ref mactSteps, .ref mat, .ref mregister, .ref misHeld, .ref mdoneIn, .ref mundone, .ref mby, .ref mbegunIn, .ref misVoid, .ref misAgain, .ref mholds, .ref mwrites, .ref mgives, .ref mbelow, .ref mqueued, .ref mqueuedMany, .int 0, .ref mdone, .int 0, .int 0, .ref mlog, .int 0, .int 0, .ref morder, .ref misReached, .ref mqueue])), (mlongs, .inl (cI, 8, .inl (fun _ => 0))), (msteps, .inl (cI, 96, .inl (upd (fun _ => 0) ((12 * x) + 0).toNatClampNeg y)))] := hD
                          refine lv_aload_n hx hb dX4_step_115 rfl (lv_at hl 2 rfl) ?_
                          refine va_get (D := D) (ci := 4) (v := .ref mlongs) (C := RX4) (T := TX4) (N := 39) hx hb hts kin_X4_step_X4 hown hK hP 0 rfl rfl 5 (by decide) (hts _ kw_X4_step__fieldLink_RX4_22_ActHouseModel_longs_I_) (fun _ h9 => h9) rfl dX4_step_116 ?_
                          refine lv_iload_n hx hb dX4_step_119 rfl (lv_at hl 3 rfl) ?_
                          refine lv_dup2_11 hx hb dX4_step_120 rfl rfl ?_
                          have hi121 : vp_in x 8 := (k_in (by omega) (by omega))
                          refine va_iald hx hb hK hP 1 0 rfl rfl hi121 dX4_step_121 ?_
                          refine lv_iconst (v := 1) hx hb dX4_step_122 (by decide) ?_
                          refine lv_iadd hx hb dX4_step_123 ?_
                          refine W.eq (g2 := F0 m 124 ls [.int 1, .int x, .ref mlongs]) (by first | rfl | (congr 2; decide)) ?_
                          have hi124 : vp_in x 8 := (k_in (by omega) (by omega))
                          refine va_iast hx hb hK hP hD hS 1 0 rfl rfl hi124 dX4_step_124 (fun H locs hP hD hS => ?_)
                          have hP : va_P D vwCl [(h, .inr (4, [.int 0, .ref mcells, .ref mcounters, .ref mfloors, .ref mlimits, .ref mlongs, .ref msteps, .int 0, .ref mprogram, .ref mkind, .ref mrank, .ref mstate, .ref mactLong, .ref mactSteps, .ref mat, .ref mregister, .ref misHeld, .ref mdoneIn, .ref mundone, .ref mby, .ref mbegunIn, .ref misVoid, .ref misAgain, .ref mholds, .ref mwrites, .ref mgives, .ref mbelow, .ref mqueued, .ref mqueuedMany, .int 0, .ref mdone, .int 0, .int 0, .ref mlog, .int 0, .int 0, .ref morder, .ref misReached, .ref mqueue])), (mlongs, .inl (cI, 8, .inl (upd (fun _ => 0) x.toNatClampNeg 1))), (msteps, .inl (cI, 96, .inl (upd (fun _ => 0) ((12 * x) + 0).toNatClampNeg y)))] H := hP
                          have hD : va_D A [(h, .inr (4, [.int 0, .ref mcells, .ref mcounters, .ref mfloors, .ref mlimits, .ref mlongs, .ref msteps, .int 0, .ref mprogram, .ref mkind, .ref mrank, .ref mstate, .ref mactLong, .ref mactSteps, .ref mat, .ref mregister, .ref misHeld, .ref mdoneIn, .ref mundone, .ref mby, .ref mbegunIn, .ref misVoid, .ref misAgain, .ref mholds, .ref mwrites, .ref mgives, .ref mbelow, .ref mqueued, .ref mqueuedMany, .int 0, .ref mdone, .int 0, .int 0, .ref mlog, .int 0, .int 0, .ref morder, .ref misReached, .ref mqueue])), (mlongs, .inl (cI, 8, .inl (upd (fun _ => 0) x.toNatClampNeg 1))), (msteps, .inl (cI, 96, .inl (upd (fun _ => 0) ((12 * x) + 0).toNatClampNeg y)))] := hD
                          refine lv_aload_n hx hb dX4_step_125 rfl (lv_at hl 2 rfl) ?_
                          refine va_get (D := D) (ci := 4) (v := .ref mlongs) (C := RX4) (T := TX4) (N := 39) hx hb hts kin_X4_step_X4 hown hK hP 0 rfl rfl 5 (by decide) (hts _ kw_X4_step__fieldLink_RX4_22_ActHouseModel_longs_I_) (fun _ h9 => h9) rfl dX4_step_126 ?_
                          refine lv_iload_n hx hb dX4_step_129 rfl (lv_at hl 3 rfl) ?_
                          have hi130 : vp_in x 8 := (k_in (by omega) (by omega))
                          refine va_iald hx hb hK hP 1 0 rfl rfl hi130 dX4_step_130 ?_
                          refine W.eq (g2 := F0 m 131 ls [.int 1]) (by simp only [pk_us]) ?_
                          have hP := hP.sub (ws' := []) [] rfl
                          have hD := hD.sub (ws' := []) [] (by decide) rfl
                          have hK := hK.sub (tys' := [(cI, .int)]) [0] rfl
                          refine W.widen (k := 0) (n := 0) (by decide) (by decide) ?_
                          exact W.iret (v := 1) hx hb hr (fun t ht hW => ⟨⟨1, ([], [(cI, .int)]), rfl, Or.inl ⟨rfl, rfl, (by omega), (by omega), (by unfold kv; split <;> omega)⟩, ⟨by rw [ht]; exact hP, va_K.moved hW.alike hK, hD⟩⟩, hS.F ht⟩) hS.2.2 dX4_step_131
                        · skip
                          have c35 := k_nlt c35
                          have hl8 : (8 : Int32).toInt = 8 := by decide
                          refine lv_iconst (v := (-1)) hx hb dX4_step_96 (by decide) ?_
                          have hP := hP.sub (ws' := []) [] rfl
                          have hD := hD.sub (ws' := []) [] (by decide) rfl
                          have hK := hK.sub (tys' := [(cI, .int)]) [0] rfl
                          refine W.widen (k := 0) (n := 0) (by decide) (by decide) ?_
                          exact W.iret (v := (-1)) hx hb hr (fun t ht hW => ⟨⟨(-1), ([], [(cI, .int)]), rfl, Or.inr (⟨rfl, rfl, (by first | omega | (right; right; unfold kv; split <;> omega))⟩), ⟨by rw [ht]; exact hP, va_K.moved hW.alike hK, hD⟩⟩, hS.F ht⟩) hS.2.2 dX4_step_97
              · skip
                have c22 := k_ne c22
                have hl3 : (3 : Int32).toInt = 3 := by decide
                refine lv_iload_n hx hb dX4_step_58 rfl (lv_at hl 1 rfl) ?_
                refine lv_iconst (v := 4) hx hb dX4_step_59 (by decide) ?_
                refine lv_icmp_ne (tgt := 70) hx hb dX4_step_60 (by decide) (fun c38 => ?_) (fun c38 => ?_)
                · skip
                  have c38 := k_ne c38
                  have hl4 : (4 : Int32).toInt = 4 := by decide
                  refine lv_iload_n hx hb dX4_step_70 rfl (lv_at hl 1 rfl) ?_
                  refine lv_bipush (v := 6) hx hb dX4_step_71 (by decide) ?_
                  refine lv_icmp_ne (tgt := 83) hx hb dX4_step_73 (by decide) (fun c39 => ?_) (fun c39 => ?_)
                  · skip
                    have c39 := k_ne c39
                    have hl6 : (6 : Int32).toInt = 6 := by decide
                    refine lv_iload_n hx hb dX4_step_83 rfl (lv_at hl 1 rfl) ?_
                    refine lv_bipush (v := 7) hx hb dX4_step_84 (by decide) ?_
                    refine lv_icmp_ne (tgt := 98) hx hb dX4_step_86 (by decide) (fun c40 => ?_) (fun c40 => ?_)
                    · skip
                      have c40 := k_ne c40
                      have hl7 : (7 : Int32).toInt = 7 := by decide
                      refine lv_aload_n hx hb dX4_step_98 rfl (lv_at hl 2 rfl) ?_
                      refine va_get (D := D) (ci := 4) (v := .ref msteps) (C := RX4) (T := TX4) (N := 39) hx hb hts kin_X4_step_X4 hown hK hP 0 rfl rfl 6 (by decide) (hts _ kw_X4_step__fieldLink_RX4_25_ActHouseModel_steps_I_) (fun _ h9 => h9) rfl dX4_step_99 ?_
                      refine lv_bipush (v := 12) hx hb dX4_step_102 (by decide) ?_
                      refine lv_iload_n hx hb dX4_step_104 rfl (lv_at hl 3 rfl) ?_
                      refine lv_imul hx hb dX4_step_105 ?_
                      refine lv_aload_n hx hb dX4_step_106 rfl (lv_at hl 2 rfl) ?_
                      refine va_get (D := D) (ci := 4) (v := .ref mlongs) (C := RX4) (T := TX4) (N := 39) hx hb hts kin_X4_step_X4 hown hK hP 0 rfl rfl 5 (by decide) (hts _ kw_X4_step__fieldLink_RX4_22_ActHouseModel_longs_I_) (fun _ h9 => h9) rfl dX4_step_107 ?_
                      refine lv_iload_n hx hb dX4_step_110 rfl (lv_at hl 3 rfl) ?_
                      have hi111 : vp_in x 8 := (k_in (by omega) (by omega))
                      refine va_iald hx hb hK hP 1 0 rfl rfl hi111 dX4_step_111 ?_
                      refine lv_iadd hx hb dX4_step_112 ?_
                      refine lv_iload_n hx hb dX4_step_113 rfl (lv_at hl 4 rfl) ?_
                      have hl12 : (12 : Int32).toInt = 12 := by decide
                      have ef41 := k_mul2 (x := 12) (y := x) (N := 12) (by decide) (by omega) (by omega)
                      have hl0 : (0 : Int32).toInt = 0 := by decide
                      have ef42 := k_add (x := (12 * x)) (y := 0) (by omega) (by omega)
                      have hi114 : vp_in ((12 * x) + 0) 96 := (k_in (by omega) (by omega))
                      refine va_iast hx hb hK hP hD hS 2 0 rfl rfl hi114 dX4_step_114 (fun H locs hP hD hS => ?_)
                      have hP : va_P D vwCl [(h, .inr (4, [.int 0, .ref mcells, .ref mcounters, .ref mfloors, .ref mlimits, .ref mlongs, .ref msteps, .int 0, .ref mprogram, .ref mkind, .ref mrank, .ref mstate, .ref mactLong, .ref mactSteps, .ref mat, .ref mregister, .ref misHeld, .ref mdoneIn, .ref mundone, .ref mby, .ref mbegunIn, .ref misVoid, .ref misAgain, .ref mholds, .ref mwrites, .ref mgives, .ref mbelow, .ref mqueued, .ref mqueuedMany, .int 0, .ref mdone, .int 0, .int 0, .ref mlog, .int 0, .int 0, .ref morder, .ref misReached, .ref mqueue])), (mlongs, .inl (cI, 8, .inl (fun _ => 0))), (msteps, .inl (cI, 96, .inl (upd (fun _ => 0) ((12 * x) + 0).toNatClampNeg y)))] H := hP
                      have hD : va_D A [(h, .inr (4, [.int 0, .ref mcells, .ref mcounters, .ref mfloors, .ref mlimits, .ref mlongs, .ref msteps, .int 0, .ref mprogram, .ref mkind, .ref mrank, .ref mstate, .ref mactLong, .ref mactSteps, .ref mat, .ref mregister, .ref misHeld, .ref mdoneIn, .ref mundone, .ref mby, .ref mbegunIn, .ref misVoid, .ref misAgain, .ref mholds, .ref mwrites, .ref mgives, .ref mbelow, .ref mqueued, .ref mqueuedMany, .int 0, .ref mdone, .int 0, .int 0, .ref mlog, .int 0, .int 0, .ref morder, .ref misReached, .ref mqueue])), (mlongs, .inl (cI, 8, .inl (fun _ => 0))), (msteps, .inl (cI, 96, .inl (upd (fun _ => 0) ((12 * x) + 0).toNatClampNeg y)))] := hD
                      refine lv_aload_n hx hb dX4_step_115 rfl (lv_at hl 2 rfl) ?_
                      refine va_get (D := D) (ci := 4) (v := .ref mlongs) (C := RX4) (T := TX4) (N := 39) hx hb hts kin_X4_step_X4 hown hK hP 0 rfl rfl 5 (by decide) (hts _ kw_X4_step__fieldLink_RX4_22_ActHouseModel_longs_I_) (fun _ h9 => h9) rfl dX4_step_116 ?_
                      refine lv_iload_n hx hb dX4_step_119 rfl (lv_at hl 3 rfl) ?_
                      refine lv_dup2_11 hx hb dX4_step_120 rfl rfl ?_
                      have hi121 : vp_in x 8 := (k_in (by omega) (by omega))
                      refine va_iald hx hb hK hP 1 0 rfl rfl hi121 dX4_step_121 ?_
                      refine lv_iconst (v := 1) hx hb dX4_step_122 (by decide) ?_
                      refine lv_iadd hx hb dX4_step_123 ?_
                      refine W.eq (g2 := F0 m 124 ls [.int 1, .int x, .ref mlongs]) (by first | rfl | (congr 2; decide)) ?_
                      have hi124 : vp_in x 8 := (k_in (by omega) (by omega))
                      refine va_iast hx hb hK hP hD hS 1 0 rfl rfl hi124 dX4_step_124 (fun H locs hP hD hS => ?_)
                      have hP : va_P D vwCl [(h, .inr (4, [.int 0, .ref mcells, .ref mcounters, .ref mfloors, .ref mlimits, .ref mlongs, .ref msteps, .int 0, .ref mprogram, .ref mkind, .ref mrank, .ref mstate, .ref mactLong, .ref mactSteps, .ref mat, .ref mregister, .ref misHeld, .ref mdoneIn, .ref mundone, .ref mby, .ref mbegunIn, .ref misVoid, .ref misAgain, .ref mholds, .ref mwrites, .ref mgives, .ref mbelow, .ref mqueued, .ref mqueuedMany, .int 0, .ref mdone, .int 0, .int 0, .ref mlog, .int 0, .int 0, .ref morder, .ref misReached, .ref mqueue])), (mlongs, .inl (cI, 8, .inl (upd (fun _ => 0) x.toNatClampNeg 1))), (msteps, .inl (cI, 96, .inl (upd (fun _ => 0) ((12 * x) + 0).toNatClampNeg y)))] H := hP
                      have hD : va_D A [(h, .inr (4, [.int 0, .ref mcells, .ref mcounters, .ref mfloors, .ref mlimits, .ref mlongs, .ref msteps, .int 0, .ref mprogram, .ref mkind, .ref mrank, .ref mstate, .ref mactLong, .ref mactSteps, .ref mat, .ref mregister, .ref misHeld, .ref mdoneIn, .ref mundone, .ref mby, .ref mbegunIn, .ref misVoid, .ref misAgain, .ref mholds, .ref mwrites, .ref mgives, .ref mbelow, .ref mqueued, .ref mqueuedMany, .int 0, .ref mdone, .int 0, .int 0, .ref mlog, .int 0, .int 0, .ref morder, .ref misReached, .ref mqueue])), (mlongs, .inl (cI, 8, .inl (upd (fun _ => 0) x.toNatClampNeg 1))), (msteps, .inl (cI, 96, .inl (upd (fun _ => 0) ((12 * x) + 0).toNatClampNeg y)))] := hD
                      refine lv_aload_n hx hb dX4_step_125 rfl (lv_at hl 2 rfl) ?_
                      refine va_get (D := D) (ci := 4) (v := .ref mlongs) (C := RX4) (T := TX4) (N := 39) hx hb hts kin_X4_step_X4 hown hK hP 0 rfl rfl 5 (by decide) (hts _ kw_X4_step__fieldLink_RX4_22_ActHouseModel_longs_I_) (fun _ h9 => h9) rfl dX4_step_126 ?_
                      refine lv_iload_n hx hb dX4_step_129 rfl (lv_at hl 3 rfl) ?_
                      have hi130 : vp_in x 8 := (k_in (by omega) (by omega))
                      refine va_iald hx hb hK hP 1 0 rfl rfl hi130 dX4_step_130 ?_
                      refine W.eq (g2 := F0 m 131 ls [.int 1]) (by simp only [pk_us]) ?_
                      have hP := hP.sub (ws' := []) [] rfl
                      have hD := hD.sub (ws' := []) [] (by decide) rfl
                      have hK := hK.sub (tys' := [(cI, .int)]) [0] rfl
                      refine W.widen (k := 0) (n := 0) (by decide) (by decide) ?_
                      exact W.iret (v := 1) hx hb hr (fun t ht hW => ⟨⟨1, ([], [(cI, .int)]), rfl, Or.inl ⟨rfl, rfl, (by omega), (by omega), (by unfold kv; split <;> omega)⟩, ⟨by rw [ht]; exact hP, va_K.moved hW.alike hK, hD⟩⟩, hS.F ht⟩) hS.2.2 dX4_step_131
                    · skip
                      have c40 := k_eq c40
                      have hl7 : (7 : Int32).toInt = 7 := by decide
                      refine lv_iload hx hb dX4_step_89 (lv_at hl 0 rfl) ?_
                      refine lv_bipush (v := 8) hx hb dX4_step_91 (by decide) ?_
                      refine lv_icmp_lt (tgt := 98) hx hb dX4_step_93 (by decide) (fun c43 => ?_) (fun c43 => ?_)
                      · skip
                        have c43 := k_lt c43
                        have hl8 : (8 : Int32).toInt = 8 := by decide
                        refine lv_aload_n hx hb dX4_step_98 rfl (lv_at hl 2 rfl) ?_
                        refine va_get (D := D) (ci := 4) (v := .ref msteps) (C := RX4) (T := TX4) (N := 39) hx hb hts kin_X4_step_X4 hown hK hP 0 rfl rfl 6 (by decide) (hts _ kw_X4_step__fieldLink_RX4_25_ActHouseModel_steps_I_) (fun _ h9 => h9) rfl dX4_step_99 ?_
                        refine lv_bipush (v := 12) hx hb dX4_step_102 (by decide) ?_
                        refine lv_iload_n hx hb dX4_step_104 rfl (lv_at hl 3 rfl) ?_
                        refine lv_imul hx hb dX4_step_105 ?_
                        refine lv_aload_n hx hb dX4_step_106 rfl (lv_at hl 2 rfl) ?_
                        refine va_get (D := D) (ci := 4) (v := .ref mlongs) (C := RX4) (T := TX4) (N := 39) hx hb hts kin_X4_step_X4 hown hK hP 0 rfl rfl 5 (by decide) (hts _ kw_X4_step__fieldLink_RX4_22_ActHouseModel_longs_I_) (fun _ h9 => h9) rfl dX4_step_107 ?_
                        refine lv_iload_n hx hb dX4_step_110 rfl (lv_at hl 3 rfl) ?_
                        have hi111 : vp_in x 8 := (k_in (by omega) (by omega))
                        refine va_iald hx hb hK hP 1 0 rfl rfl hi111 dX4_step_111 ?_
                        refine lv_iadd hx hb dX4_step_112 ?_
                        refine lv_iload_n hx hb dX4_step_113 rfl (lv_at hl 4 rfl) ?_
                        have hl12 : (12 : Int32).toInt = 12 := by decide
                        have ef44 := k_mul2 (x := 12) (y := x) (N := 12) (by decide) (by omega) (by omega)
                        have hl0 : (0 : Int32).toInt = 0 := by decide
                        have ef45 := k_add (x := (12 * x)) (y := 0) (by omega) (by omega)
                        have hi114 : vp_in ((12 * x) + 0) 96 := (k_in (by omega) (by omega))
                        refine va_iast hx hb hK hP hD hS 2 0 rfl rfl hi114 dX4_step_114 (fun H locs hP hD hS => ?_)
                        have hP : va_P D vwCl [(h, .inr (4, [.int 0, .ref mcells, .ref mcounters, .ref mfloors, .ref mlimits, .ref mlongs, .ref msteps, .int 0, .ref mprogram, .ref mkind, .ref mrank, .ref mstate, .ref mactLong, .ref mactSteps, .ref mat, .ref mregister, .ref misHeld, .ref mdoneIn, .ref mundone, .ref mby, .ref mbegunIn, .ref misVoid, .ref misAgain, .ref mholds, .ref mwrites, .ref mgives, .ref mbelow, .ref mqueued, .ref mqueuedMany, .int 0, .ref mdone, .int 0, .int 0, .ref mlog, .int 0, .int 0, .ref morder, .ref misReached, .ref mqueue])), (mlongs, .inl (cI, 8, .inl (fun _ => 0))), (msteps, .inl (cI, 96, .inl (upd (fun _ => 0) ((12 * x) + 0).toNatClampNeg y)))] H := hP
                        have hD : va_D A [(h, .inr (4, [.int 0, .ref mcells, .ref mcounters, .ref mfloors, .ref mlimits, .ref mlongs, .ref msteps, .int 0, .ref mprogram, .ref mkind, .ref mrank, .ref mstate, .ref mactLong, .ref mactSteps, .ref mat, .ref mregister, .ref misHeld, .ref mdoneIn, .ref mundone, .ref mby, .ref mbegunIn, .ref misVoid, .ref misAgain, .ref mholds, .ref mwrites, .ref mgives, .ref mbelow, .ref mqueued, .ref mqueuedMany, .int 0, .ref mdone, .int 0, .int 0, .ref mlog, .int 0, .int 0, .ref morder, .ref misReached, .ref mqueue])), (mlongs, .inl (cI, 8, .inl (fun _ => 0))), (msteps, .inl (cI, 96, .inl (upd (fun _ => 0) ((12 * x) + 0).toNatClampNeg y)))] := hD
                        refine lv_aload_n hx hb dX4_step_115 rfl (lv_at hl 2 rfl) ?_
                        refine va_get (D := D) (ci := 4) (v := .ref mlongs) (C := RX4) (T := TX4) (N := 39) hx hb hts kin_X4_step_X4 hown hK hP 0 rfl rfl 5 (by decide) (hts _ kw_X4_step__fieldLink_RX4_22_ActHouseModel_longs_I_) (fun _ h9 => h9) rfl dX4_step_116 ?_
                        refine lv_iload_n hx hb dX4_step_119 rfl (lv_at hl 3 rfl) ?_
                        refine lv_dup2_11 hx hb dX4_step_120 rfl rfl ?_
                        have hi121 : vp_in x 8 := (k_in (by omega) (by omega))
                        refine va_iald hx hb hK hP 1 0 rfl rfl hi121 dX4_step_121 ?_
                        refine lv_iconst (v := 1) hx hb dX4_step_122 (by decide) ?_
                        refine lv_iadd hx hb dX4_step_123 ?_
                        refine W.eq (g2 := F0 m 124 ls [.int 1, .int x, .ref mlongs]) (by first | rfl | (congr 2; decide)) ?_
                        have hi124 : vp_in x 8 := (k_in (by omega) (by omega))
                        refine va_iast hx hb hK hP hD hS 1 0 rfl rfl hi124 dX4_step_124 (fun H locs hP hD hS => ?_)
                        have hP : va_P D vwCl [(h, .inr (4, [.int 0, .ref mcells, .ref mcounters, .ref mfloors, .ref mlimits, .ref mlongs, .ref msteps, .int 0, .ref mprogram, .ref mkind, .ref mrank, .ref mstate, .ref mactLong, .ref mactSteps, .ref mat, .ref mregister, .ref misHeld, .ref mdoneIn, .ref mundone, .ref mby, .ref mbegunIn, .ref misVoid, .ref misAgain, .ref mholds, .ref mwrites, .ref mgives, .ref mbelow, .ref mqueued, .ref mqueuedMany, .int 0, .ref mdone, .int 0, .int 0, .ref mlog, .int 0, .int 0, .ref morder, .ref misReached, .ref mqueue])), (mlongs, .inl (cI, 8, .inl (upd (fun _ => 0) x.toNatClampNeg 1))), (msteps, .inl (cI, 96, .inl (upd (fun _ => 0) ((12 * x) + 0).toNatClampNeg y)))] H := hP
                        have hD : va_D A [(h, .inr (4, [.int 0, .ref mcells, .ref mcounters, .ref mfloors, .ref mlimits, .ref mlongs, .ref msteps, .int 0, .ref mprogram, .ref mkind, .ref mrank, .ref mstate, .ref mactLong, .ref mactSteps, .ref mat, .ref mregister, .ref misHeld, .ref mdoneIn, .ref mundone, .ref mby, .ref mbegunIn, .ref misVoid, .ref misAgain, .ref mholds, .ref mwrites, .ref mgives, .ref mbelow, .ref mqueued, .ref mqueuedMany, .int 0, .ref mdone, .int 0, .int 0, .ref mlog, .int 0, .int 0, .ref morder, .ref misReached, .ref mqueue])), (mlongs, .inl (cI, 8, .inl (upd (fun _ => 0) x.toNatClampNeg 1))), (msteps, .inl (cI, 96, .inl (upd (fun _ => 0) ((12 * x) + 0).toNatClampNeg y)))] := hD
                        refine lv_aload_n hx hb dX4_step_125 rfl (lv_at hl 2 rfl) ?_
                        refine va_get (D := D) (ci := 4) (v := .ref mlongs) (C := RX4) (T := TX4) (N := 39) hx hb hts kin_X4_step_X4 hown hK hP 0 rfl rfl 5 (by decide) (hts _ kw_X4_step__fieldLink_RX4_22_ActHouseModel_longs_I_) (fun _ h9 => h9) rfl dX4_step_126 ?_
                        refine lv_iload_n hx hb dX4_step_129 rfl (lv_at hl 3 rfl) ?_
                        have hi130 : vp_in x 8 := (k_in (by omega) (by omega))
                        refine va_iald hx hb hK hP 1 0 rfl rfl hi130 dX4_step_130 ?_
                        refine W.eq (g2 := F0 m 131 ls [.int 1]) (by simp only [pk_us]) ?_
                        have hP := hP.sub (ws' := []) [] rfl
                        have hD := hD.sub (ws' := []) [] (by decide) rfl
                        have hK := hK.sub (tys' := [(cI, .int)]) [0] rfl
                        refine W.widen (k := 0) (n := 0) (by decide) (by decide) ?_
                        exact W.iret (v := 1) hx hb hr (fun t ht hW => ⟨⟨1, ([], [(cI, .int)]), rfl, Or.inl ⟨rfl, rfl, (by omega), (by omega), (by unfold kv; split <;> omega)⟩, ⟨by rw [ht]; exact hP, va_K.moved hW.alike hK, hD⟩⟩, hS.F ht⟩) hS.2.2 dX4_step_131
                      · skip
                        have c43 := k_nlt c43
                        have hl8 : (8 : Int32).toInt = 8 := by decide
                        refine lv_iconst (v := (-1)) hx hb dX4_step_96 (by decide) ?_
                        have hP := hP.sub (ws' := []) [] rfl
                        have hD := hD.sub (ws' := []) [] (by decide) rfl
                        have hK := hK.sub (tys' := [(cI, .int)]) [0] rfl
                        refine W.widen (k := 0) (n := 0) (by decide) (by decide) ?_
                        exact W.iret (v := (-1)) hx hb hr (fun t ht hW => ⟨⟨(-1), ([], [(cI, .int)]), rfl, Or.inr (⟨rfl, rfl, (by first | omega | (right; right; unfold kv; split <;> omega))⟩), ⟨by rw [ht]; exact hP, va_K.moved hW.alike hK, hD⟩⟩, hS.F ht⟩) hS.2.2 dX4_step_97
                  · skip
                    have c39 := k_eq c39
                    have hl6 : (6 : Int32).toInt = 6 := by decide
                    refine lv_iload hx hb dX4_step_76 (lv_at hl 0 rfl) ?_
                    refine lv_bipush (v := 8) hx hb dX4_step_78 (by decide) ?_
                    refine lv_icmp_ge (tgt := 96) hx hb dX4_step_80 (by decide) (fun c46 => ?_) (fun c46 => ?_)
                    · skip
                      have c46 := k_le c46
                      have hl8 : (8 : Int32).toInt = 8 := by decide
                      refine lv_iconst (v := (-1)) hx hb dX4_step_96 (by decide) ?_
                      have hP := hP.sub (ws' := []) [] rfl
                      have hD := hD.sub (ws' := []) [] (by decide) rfl
                      have hK := hK.sub (tys' := [(cI, .int)]) [0] rfl
                      refine W.widen (k := 0) (n := 0) (by decide) (by decide) ?_
                      exact W.iret (v := (-1)) hx hb hr (fun t ht hW => ⟨⟨(-1), ([], [(cI, .int)]), rfl, Or.inr (⟨rfl, rfl, (by first | omega | (right; right; unfold kv; split <;> omega))⟩), ⟨by rw [ht]; exact hP, va_K.moved hW.alike hK, hD⟩⟩, hS.F ht⟩) hS.2.2 dX4_step_97
                    · skip
                      have c46 := k_nle c46
                      have hl8 : (8 : Int32).toInt = 8 := by decide
                      refine lv_iload_n hx hb dX4_step_83 rfl (lv_at hl 1 rfl) ?_
                      refine lv_bipush (v := 7) hx hb dX4_step_84 (by decide) ?_
                      refine lv_icmp_ne (tgt := 98) hx hb dX4_step_86 (by decide) (fun c47 => ?_) (fun c47 => ?_)
                      · skip
                        have c47 := k_ne c47
                        have hl7 : (7 : Int32).toInt = 7 := by decide
                        refine lv_aload_n hx hb dX4_step_98 rfl (lv_at hl 2 rfl) ?_
                        refine va_get (D := D) (ci := 4) (v := .ref msteps) (C := RX4) (T := TX4) (N := 39) hx hb hts kin_X4_step_X4 hown hK hP 0 rfl rfl 6 (by decide) (hts _ kw_X4_step__fieldLink_RX4_25_ActHouseModel_steps_I_) (fun _ h9 => h9) rfl dX4_step_99 ?_
                        refine lv_bipush (v := 12) hx hb dX4_step_102 (by decide) ?_
                        refine lv_iload_n hx hb dX4_step_104 rfl (lv_at hl 3 rfl) ?_
                        refine lv_imul hx hb dX4_step_105 ?_
                        refine lv_aload_n hx hb dX4_step_106 rfl (lv_at hl 2 rfl) ?_
                        refine va_get (D := D) (ci := 4) (v := .ref mlongs) (C := RX4) (T := TX4) (N := 39) hx hb hts kin_X4_step_X4 hown hK hP 0 rfl rfl 5 (by decide) (hts _ kw_X4_step__fieldLink_RX4_22_ActHouseModel_longs_I_) (fun _ h9 => h9) rfl dX4_step_107 ?_
                        refine lv_iload_n hx hb dX4_step_110 rfl (lv_at hl 3 rfl) ?_
                        have hi111 : vp_in x 8 := (k_in (by omega) (by omega))
                        refine va_iald hx hb hK hP 1 0 rfl rfl hi111 dX4_step_111 ?_
                        refine lv_iadd hx hb dX4_step_112 ?_
                        refine lv_iload_n hx hb dX4_step_113 rfl (lv_at hl 4 rfl) ?_
                        have hl12 : (12 : Int32).toInt = 12 := by decide
                        have ef48 := k_mul2 (x := 12) (y := x) (N := 12) (by decide) (by omega) (by omega)
                        have hl0 : (0 : Int32).toInt = 0 := by decide
                        have ef49 := k_add (x := (12 * x)) (y := 0) (by omega) (by omega)
                        have hi114 : vp_in ((12 * x) + 0) 96 := (k_in (by omega) (by omega))
                        refine va_iast hx hb hK hP hD hS 2 0 rfl rfl hi114 dX4_step_114 (fun H locs hP hD hS => ?_)
                        have hP : va_P D vwCl [(h, .inr (4, [.int 0, .ref mcells, .ref mcounters, .ref mfloors, .ref mlimits, .ref mlongs, .ref msteps, .int 0, .ref mprogram, .ref mkind, .ref mrank, .ref mstate, .ref mactLong, .ref mactSteps, .ref mat, .ref mregister, .ref misHeld, .ref mdoneIn, .ref mundone, .ref mby, .ref mbegunIn, .ref misVoid, .ref misAgain, .ref mholds, .ref mwrites, .ref mgives, .ref mbelow, .ref mqueued, .ref mqueuedMany, .int 0, .ref mdone, .int 0, .int 0, .ref mlog, .int 0, .int 0, .ref morder, .ref misReached, .ref mqueue])), (mlongs, .inl (cI, 8, .inl (fun _ => 0))), (msteps, .inl (cI, 96, .inl (upd (fun _ => 0) ((12 * x) + 0).toNatClampNeg y)))] H := hP
                        have hD : va_D A [(h, .inr (4, [.int 0, .ref mcells, .ref mcounters, .ref mfloors, .ref mlimits, .ref mlongs, .ref msteps, .int 0, .ref mprogram, .ref mkind, .ref mrank, .ref mstate, .ref mactLong, .ref mactSteps, .ref mat, .ref mregister, .ref misHeld, .ref mdoneIn, .ref mundone, .ref mby, .ref mbegunIn, .ref misVoid, .ref misAgain, .ref mholds, .ref mwrites, .ref mgives, .ref mbelow, .ref mqueued, .ref mqueuedMany, .int 0, .ref mdone, .int 0, .int 0, .ref mlog, .int 0, .int 0, .ref morder, .ref misReached, .ref mqueue])), (mlongs, .inl (cI, 8, .inl (fun _ => 0))), (msteps, .inl (cI, 96, .inl (upd (fun _ => 0) ((12 * x) + 0).toNatClampNeg y)))] := hD
                        refine lv_aload_n hx hb dX4_step_115 rfl (lv_at hl 2 rfl) ?_
                        refine va_get (D := D) (ci := 4) (v := .ref mlongs) (C := RX4) (T := TX4) (N := 39) hx hb hts kin_X4_step_X4 hown hK hP 0 rfl rfl 5 (by decide) (hts _ kw_X4_step__fieldLink_RX4_22_ActHouseModel_longs_I_) (fun _ h9 => h9) rfl dX4_step_116 ?_
                        refine lv_iload_n hx hb dX4_step_119 rfl (lv_at hl 3 rfl) ?_
                        refine lv_dup2_11 hx hb dX4_step_120 rfl rfl ?_
                        have hi121 : vp_in x 8 := (k_in (by omega) (by omega))
                        refine va_iald hx hb hK hP 1 0 rfl rfl hi121 dX4_step_121 ?_
                        refine lv_iconst (v := 1) hx hb dX4_step_122 (by decide) ?_
                        refine lv_iadd hx hb dX4_step_123 ?_
                        refine W.eq (g2 := F0 m 124 ls [.int 1, .int x, .ref mlongs]) (by first | rfl | (congr 2; decide)) ?_
                        have hi124 : vp_in x 8 := (k_in (by omega) (by omega))
                        refine va_iast hx hb hK hP hD hS 1 0 rfl rfl hi124 dX4_step_124 (fun H locs hP hD hS => ?_)
                        have hP : va_P D vwCl [(h, .inr (4, [.int 0, .ref mcells, .ref mcounters, .ref mfloors, .ref mlimits, .ref mlongs, .ref msteps, .int 0, .ref mprogram, .ref mkind, .ref mrank, .ref mstate, .ref mactLong, .ref mactSteps, .ref mat, .ref mregister, .ref misHeld, .ref mdoneIn, .ref mundone, .ref mby, .ref mbegunIn, .ref misVoid, .ref misAgain, .ref mholds, .ref mwrites, .ref mgives, .ref mbelow, .ref mqueued, .ref mqueuedMany, .int 0, .ref mdone, .int 0, .int 0, .ref mlog, .int 0, .int 0, .ref morder, .ref misReached, .ref mqueue])), (mlongs, .inl (cI, 8, .inl (upd (fun _ => 0) x.toNatClampNeg 1))), (msteps, .inl (cI, 96, .inl (upd (fun _ => 0) ((12 * x) + 0).toNatClampNeg y)))] H := hP
                        have hD : va_D A [(h, .inr (4, [.int 0, .ref mcells, .ref mcounters, .ref mfloors, .ref mlimits, .ref mlongs, .ref msteps, .int 0, .ref mprogram, .ref mkind, .ref mrank, .ref mstate, .ref mactLong, .ref mactSteps, .ref mat, .ref mregister, .ref misHeld, .ref mdoneIn, .ref mundone, .ref mby, .ref mbegunIn, .ref misVoid, .ref misAgain, .ref mholds, .ref mwrites, .ref mgives, .ref mbelow, .ref mqueued, .ref mqueuedMany, .int 0, .ref mdone, .int 0, .int 0, .ref mlog, .int 0, .int 0, .ref morder, .ref misReached, .ref mqueue])), (mlongs, .inl (cI, 8, .inl (upd (fun _ => 0) x.toNatClampNeg 1))), (msteps, .inl (cI, 96, .inl (upd (fun _ => 0) ((12 * x) + 0).toNatClampNeg y)))] := hD
                        refine lv_aload_n hx hb dX4_step_125 rfl (lv_at hl 2 rfl) ?_
                        refine va_get (D := D) (ci := 4) (v := .ref mlongs) (C := RX4) (T := TX4) (N := 39) hx hb hts kin_X4_step_X4 hown hK hP 0 rfl rfl 5 (by decide) (hts _ kw_X4_step__fieldLink_RX4_22_ActHouseModel_longs_I_) (fun _ h9 => h9) rfl dX4_step_126 ?_
                        refine lv_iload_n hx hb dX4_step_129 rfl (lv_at hl 3 rfl) ?_
                        have hi130 : vp_in x 8 := (k_in (by omega) (by omega))
                        refine va_iald hx hb hK hP 1 0 rfl rfl hi130 dX4_step_130 ?_
                        refine W.eq (g2 := F0 m 131 ls [.int 1]) (by simp only [pk_us]) ?_
                        have hP := hP.sub (ws' := []) [] rfl
                        have hD := hD.sub (ws' := []) [] (by decide) rfl
                        have hK := hK.sub (tys' := [(cI, .int)]) [0] rfl
                        refine W.widen (k := 0) (n := 0) (by decide) (by decide) ?_
                        exact W.iret (v := 1) hx hb hr (fun t ht hW => ⟨⟨1, ([], [(cI, .int)]), rfl, Or.inl ⟨rfl, rfl, (by omega), (by omega), (by unfold kv; split <;> omega)⟩, ⟨by rw [ht]; exact hP, va_K.moved hW.alike hK, hD⟩⟩, hS.F ht⟩) hS.2.2 dX4_step_131
                      · skip
                        have c47 := k_eq c47
                        have hl7 : (7 : Int32).toInt = 7 := by decide
                        refine lv_iload hx hb dX4_step_89 (lv_at hl 0 rfl) ?_
                        refine lv_bipush (v := 8) hx hb dX4_step_91 (by decide) ?_
                        refine lv_icmp_lt (tgt := 98) hx hb dX4_step_93 (by decide) (fun c50 => ?_) (fun c50 => ?_)
                        · skip
                          have c50 := k_lt c50
                          have hl8 : (8 : Int32).toInt = 8 := by decide
                          refine lv_aload_n hx hb dX4_step_98 rfl (lv_at hl 2 rfl) ?_
                          refine va_get (D := D) (ci := 4) (v := .ref msteps) (C := RX4) (T := TX4) (N := 39) hx hb hts kin_X4_step_X4 hown hK hP 0 rfl rfl 6 (by decide) (hts _ kw_X4_step__fieldLink_RX4_25_ActHouseModel_steps_I_) (fun _ h9 => h9) rfl dX4_step_99 ?_
                          refine lv_bipush (v := 12) hx hb dX4_step_102 (by decide) ?_
                          refine lv_iload_n hx hb dX4_step_104 rfl (lv_at hl 3 rfl) ?_
                          refine lv_imul hx hb dX4_step_105 ?_
                          refine lv_aload_n hx hb dX4_step_106 rfl (lv_at hl 2 rfl) ?_
                          refine va_get (D := D) (ci := 4) (v := .ref mlongs) (C := RX4) (T := TX4) (N := 39) hx hb hts kin_X4_step_X4 hown hK hP 0 rfl rfl 5 (by decide) (hts _ kw_X4_step__fieldLink_RX4_22_ActHouseModel_longs_I_) (fun _ h9 => h9) rfl dX4_step_107 ?_
                          refine lv_iload_n hx hb dX4_step_110 rfl (lv_at hl 3 rfl) ?_
                          have hi111 : vp_in x 8 := (k_in (by omega) (by omega))
                          refine va_iald hx hb hK hP 1 0 rfl rfl hi111 dX4_step_111 ?_
                          refine lv_iadd hx hb dX4_step_112 ?_
                          refine lv_iload_n hx hb dX4_step_113 rfl (lv_at hl 4 rfl) ?_
                          have hl12 : (12 : Int32).toInt = 12 := by decide
                          have ef51 := k_mul2 (x := 12) (y := x) (N := 12) (by decide) (by omega) (by omega)
                          have hl0 : (0 : Int32).toInt = 0 := by decide
                          have ef52 := k_add (x := (12 * x)) (y := 0) (by omega) (by omega)
                          have hi114 : vp_in ((12 * x) + 0) 96 := (k_in (by omega) (by omega))
                          refine va_iast hx hb hK hP hD hS 2 0 rfl rfl hi114 dX4_step_114 (fun H locs hP hD hS => ?_)
                          have hP : va_P D vwCl [(h, .inr (4, [.int 0, .ref mcells, .ref mcounters, .ref mfloors, .ref mlimits, .ref mlongs, .ref msteps, .int 0, .ref mprogram, .ref mkind, .ref mrank, .ref mstate, .ref mactLong, .ref mactSteps, .ref mat, .ref mregister, .ref misHeld, .ref mdoneIn, .ref mundone, .ref mby, .ref mbegunIn, .ref misVoid, .ref misAgain, .ref mholds, .ref mwrites, .ref mgives, .ref mbelow, .ref mqueued, .ref mqueuedMany, .int 0, .ref mdone, .int 0, .int 0, .ref mlog, .int 0, .int 0, .ref morder, .ref misReached, .ref mqueue])), (mlongs, .inl (cI, 8, .inl (fun _ => 0))), (msteps, .inl (cI, 96, .inl (upd (fun _ => 0) ((12 * x) + 0).toNatClampNeg y)))] H := hP
                          have hD : va_D A [(h, .inr (4, [.int 0, .ref mcells, .ref mcounters, .ref mfloors, .ref mlimits, .ref mlongs, .ref msteps, .int 0, .ref mprogram, .ref mkind, .ref mrank, .ref mstate, .ref mactLong, .ref mactSteps, .ref mat, .ref mregister, .ref misHeld, .ref mdoneIn, .ref mundone, .ref mby, .ref mbegunIn, .ref misVoid, .ref misAgain, .ref mholds, .ref mwrites, .ref mgives, .ref mbelow, .ref mqueued, .ref mqueuedMany, .int 0, .ref mdone, .int 0, .int 0, .ref mlog, .int 0, .int 0, .ref morder, .ref misReached, .ref mqueue])), (mlongs, .inl (cI, 8, .inl (fun _ => 0))), (msteps, .inl (cI, 96, .inl (upd (fun _ => 0) ((12 * x) + 0).toNatClampNeg y)))] := hD
                          refine lv_aload_n hx hb dX4_step_115 rfl (lv_at hl 2 rfl) ?_
                          refine va_get (D := D) (ci := 4) (v := .ref mlongs) (C := RX4) (T := TX4) (N := 39) hx hb hts kin_X4_step_X4 hown hK hP 0 rfl rfl 5 (by decide) (hts _ kw_X4_step__fieldLink_RX4_22_ActHouseModel_longs_I_) (fun _ h9 => h9) rfl dX4_step_116 ?_
                          refine lv_iload_n hx hb dX4_step_119 rfl (lv_at hl 3 rfl) ?_
                          refine lv_dup2_11 hx hb dX4_step_120 rfl rfl ?_
                          have hi121 : vp_in x 8 := (k_in (by omega) (by omega))
                          refine va_iald hx hb hK hP 1 0 rfl rfl hi121 dX4_step_121 ?_
                          refine lv_iconst (v := 1) hx hb dX4_step_122 (by decide) ?_
                          refine lv_iadd hx hb dX4_step_123 ?_
                          refine W.eq (g2 := F0 m 124 ls [.int 1, .int x, .ref mlongs]) (by first | rfl | (congr 2; decide)) ?_
                          have hi124 : vp_in x 8 := (k_in (by omega) (by omega))
                          refine va_iast hx hb hK hP hD hS 1 0 rfl rfl hi124 dX4_step_124 (fun H locs hP hD hS => ?_)
                          have hP : va_P D vwCl [(h, .inr (4, [.int 0, .ref mcells, .ref mcounters, .ref mfloors, .ref mlimits, .ref mlongs, .ref msteps, .int 0, .ref mprogram, .ref mkind, .ref mrank, .ref mstate, .ref mactLong, .ref mactSteps, .ref mat, .ref mregister, .ref misHeld, .ref mdoneIn, .ref mundone, .ref mby, .ref mbegunIn, .ref misVoid, .ref misAgain, .ref mholds, .ref mwrites, .ref mgives, .ref mbelow, .ref mqueued, .ref mqueuedMany, .int 0, .ref mdone, .int 0, .int 0, .ref mlog, .int 0, .int 0, .ref morder, .ref misReached, .ref mqueue])), (mlongs, .inl (cI, 8, .inl (upd (fun _ => 0) x.toNatClampNeg 1))), (msteps, .inl (cI, 96, .inl (upd (fun _ => 0) ((12 * x) + 0).toNatClampNeg y)))] H := hP
                          have hD : va_D A [(h, .inr (4, [.int 0, .ref mcells, .ref mcounters, .ref mfloors, .ref mlimits, .ref mlongs, .ref msteps, .int 0, .ref mprogram, .ref mkind, .ref mrank, .ref mstate, .ref mactLong, .ref mactSteps, .ref mat, .ref mregister, .ref misHeld, .ref mdoneIn, .ref mundone, .ref mby, .ref mbegunIn, .ref misVoid, .ref misAgain, .ref mholds, .ref mwrites, .ref mgives, .ref mbelow, .ref mqueued, .ref mqueuedMany, .int 0, .ref mdone, .int 0, .int 0, .ref mlog, .int 0, .int 0, .ref morder, .ref misReached, .ref mqueue])), (mlongs, .inl (cI, 8, .inl (upd (fun _ => 0) x.toNatClampNeg 1))), (msteps, .inl (cI, 96, .inl (upd (fun _ => 0) ((12 * x) + 0).toNatClampNeg y)))] := hD
                          refine lv_aload_n hx hb dX4_step_125 rfl (lv_at hl 2 rfl) ?_
                          refine va_get (D := D) (ci := 4) (v := .ref mlongs) (C := RX4) (T := TX4) (N := 39) hx hb hts kin_X4_step_X4 hown hK hP 0 rfl rfl 5 (by decide) (hts _ kw_X4_step__fieldLink_RX4_22_ActHouseModel_longs_I_) (fun _ h9 => h9) rfl dX4_step_126 ?_
                          refine lv_iload_n hx hb dX4_step_129 rfl (lv_at hl 3 rfl) ?_
                          have hi130 : vp_in x 8 := (k_in (by omega) (by omega))
                          refine va_iald hx hb hK hP 1 0 rfl rfl hi130 dX4_step_130 ?_
                          refine W.eq (g2 := F0 m 131 ls [.int 1]) (by simp only [pk_us]) ?_
                          have hP := hP.sub (ws' := []) [] rfl
                          have hD := hD.sub (ws' := []) [] (by decide) rfl
                          have hK := hK.sub (tys' := [(cI, .int)]) [0] rfl
                          refine W.widen (k := 0) (n := 0) (by decide) (by decide) ?_
                          exact W.iret (v := 1) hx hb hr (fun t ht hW => ⟨⟨1, ([], [(cI, .int)]), rfl, Or.inl ⟨rfl, rfl, (by omega), (by omega), (by unfold kv; split <;> omega)⟩, ⟨by rw [ht]; exact hP, va_K.moved hW.alike hK, hD⟩⟩, hS.F ht⟩) hS.2.2 dX4_step_131
                        · skip
                          have c50 := k_nlt c50
                          have hl8 : (8 : Int32).toInt = 8 := by decide
                          refine lv_iconst (v := (-1)) hx hb dX4_step_96 (by decide) ?_
                          have hP := hP.sub (ws' := []) [] rfl
                          have hD := hD.sub (ws' := []) [] (by decide) rfl
                          have hK := hK.sub (tys' := [(cI, .int)]) [0] rfl
                          refine W.widen (k := 0) (n := 0) (by decide) (by decide) ?_
                          exact W.iret (v := (-1)) hx hb hr (fun t ht hW => ⟨⟨(-1), ([], [(cI, .int)]), rfl, Or.inr (⟨rfl, rfl, (by first | omega | (right; right; unfold kv; split <;> omega))⟩), ⟨by rw [ht]; exact hP, va_K.moved hW.alike hK, hD⟩⟩, hS.F ht⟩) hS.2.2 dX4_step_97
                · skip
                  have c38 := k_eq c38
                  have hl4 : (4 : Int32).toInt = 4 := by decide
                  refine lv_iload hx hb dX4_step_63 (lv_at hl 0 rfl) ?_
                  refine lv_bipush (v := 24) hx hb dX4_step_65 (by decide) ?_
                  refine lv_icmp_ge (tgt := 96) hx hb dX4_step_67 (by decide) (fun c53 => ?_) (fun c53 => ?_)
                  · skip
                    have c53 := k_le c53
                    have hl24 : (24 : Int32).toInt = 24 := by decide
                    refine lv_iconst (v := (-1)) hx hb dX4_step_96 (by decide) ?_
                    have hP := hP.sub (ws' := []) [] rfl
                    have hD := hD.sub (ws' := []) [] (by decide) rfl
                    have hK := hK.sub (tys' := [(cI, .int)]) [0] rfl
                    refine W.widen (k := 0) (n := 0) (by decide) (by decide) ?_
                    exact W.iret (v := (-1)) hx hb hr (fun t ht hW => ⟨⟨(-1), ([], [(cI, .int)]), rfl, Or.inr (⟨rfl, rfl, (by first | omega | (right; right; unfold kv; split <;> omega))⟩), ⟨by rw [ht]; exact hP, va_K.moved hW.alike hK, hD⟩⟩, hS.F ht⟩) hS.2.2 dX4_step_97
                  · skip
                    have c53 := k_nle c53
                    have hl24 : (24 : Int32).toInt = 24 := by decide
                    refine lv_iload_n hx hb dX4_step_70 rfl (lv_at hl 1 rfl) ?_
                    refine lv_bipush (v := 6) hx hb dX4_step_71 (by decide) ?_
                    refine lv_icmp_ne (tgt := 83) hx hb dX4_step_73 (by decide) (fun c54 => ?_) (fun c54 => ?_)
                    · skip
                      have c54 := k_ne c54
                      have hl6 : (6 : Int32).toInt = 6 := by decide
                      refine lv_iload_n hx hb dX4_step_83 rfl (lv_at hl 1 rfl) ?_
                      refine lv_bipush (v := 7) hx hb dX4_step_84 (by decide) ?_
                      refine lv_icmp_ne (tgt := 98) hx hb dX4_step_86 (by decide) (fun c55 => ?_) (fun c55 => ?_)
                      · skip
                        have c55 := k_ne c55
                        have hl7 : (7 : Int32).toInt = 7 := by decide
                        refine lv_aload_n hx hb dX4_step_98 rfl (lv_at hl 2 rfl) ?_
                        refine va_get (D := D) (ci := 4) (v := .ref msteps) (C := RX4) (T := TX4) (N := 39) hx hb hts kin_X4_step_X4 hown hK hP 0 rfl rfl 6 (by decide) (hts _ kw_X4_step__fieldLink_RX4_25_ActHouseModel_steps_I_) (fun _ h9 => h9) rfl dX4_step_99 ?_
                        refine lv_bipush (v := 12) hx hb dX4_step_102 (by decide) ?_
                        refine lv_iload_n hx hb dX4_step_104 rfl (lv_at hl 3 rfl) ?_
                        refine lv_imul hx hb dX4_step_105 ?_
                        refine lv_aload_n hx hb dX4_step_106 rfl (lv_at hl 2 rfl) ?_
                        refine va_get (D := D) (ci := 4) (v := .ref mlongs) (C := RX4) (T := TX4) (N := 39) hx hb hts kin_X4_step_X4 hown hK hP 0 rfl rfl 5 (by decide) (hts _ kw_X4_step__fieldLink_RX4_22_ActHouseModel_longs_I_) (fun _ h9 => h9) rfl dX4_step_107 ?_
                        refine lv_iload_n hx hb dX4_step_110 rfl (lv_at hl 3 rfl) ?_
                        have hi111 : vp_in x 8 := (k_in (by omega) (by omega))
                        refine va_iald hx hb hK hP 1 0 rfl rfl hi111 dX4_step_111 ?_
                        refine lv_iadd hx hb dX4_step_112 ?_
                        refine lv_iload_n hx hb dX4_step_113 rfl (lv_at hl 4 rfl) ?_
                        have hl12 : (12 : Int32).toInt = 12 := by decide
                        have ef56 := k_mul2 (x := 12) (y := x) (N := 12) (by decide) (by omega) (by omega)
                        have hl0 : (0 : Int32).toInt = 0 := by decide
                        have ef57 := k_add (x := (12 * x)) (y := 0) (by omega) (by omega)
                        have hi114 : vp_in ((12 * x) + 0) 96 := (k_in (by omega) (by omega))
                        refine va_iast hx hb hK hP hD hS 2 0 rfl rfl hi114 dX4_step_114 (fun H locs hP hD hS => ?_)
                        have hP : va_P D vwCl [(h, .inr (4, [.int 0, .ref mcells, .ref mcounters, .ref mfloors, .ref mlimits, .ref mlongs, .ref msteps, .int 0, .ref mprogram, .ref mkind, .ref mrank, .ref mstate, .ref mactLong, .ref mactSteps, .ref mat, .ref mregister, .ref misHeld, .ref mdoneIn, .ref mundone, .ref mby, .ref mbegunIn, .ref misVoid, .ref misAgain, .ref mholds, .ref mwrites, .ref mgives, .ref mbelow, .ref mqueued, .ref mqueuedMany, .int 0, .ref mdone, .int 0, .int 0, .ref mlog, .int 0, .int 0, .ref morder, .ref misReached, .ref mqueue])), (mlongs, .inl (cI, 8, .inl (fun _ => 0))), (msteps, .inl (cI, 96, .inl (upd (fun _ => 0) ((12 * x) + 0).toNatClampNeg y)))] H := hP
                        have hD : va_D A [(h, .inr (4, [.int 0, .ref mcells, .ref mcounters, .ref mfloors, .ref mlimits, .ref mlongs, .ref msteps, .int 0, .ref mprogram, .ref mkind, .ref mrank, .ref mstate, .ref mactLong, .ref mactSteps, .ref mat, .ref mregister, .ref misHeld, .ref mdoneIn, .ref mundone, .ref mby, .ref mbegunIn, .ref misVoid, .ref misAgain, .ref mholds, .ref mwrites, .ref mgives, .ref mbelow, .ref mqueued, .ref mqueuedMany, .int 0, .ref mdone, .int 0, .int 0, .ref mlog, .int 0, .int 0, .ref morder, .ref misReached, .ref mqueue])), (mlongs, .inl (cI, 8, .inl (fun _ => 0))), (msteps, .inl (cI, 96, .inl (upd (fun _ => 0) ((12 * x) + 0).toNatClampNeg y)))] := hD
                        refine lv_aload_n hx hb dX4_step_115 rfl (lv_at hl 2 rfl) ?_
                        refine va_get (D := D) (ci := 4) (v := .ref mlongs) (C := RX4) (T := TX4) (N := 39) hx hb hts kin_X4_step_X4 hown hK hP 0 rfl rfl 5 (by decide) (hts _ kw_X4_step__fieldLink_RX4_22_ActHouseModel_longs_I_) (fun _ h9 => h9) rfl dX4_step_116 ?_
                        refine lv_iload_n hx hb dX4_step_119 rfl (lv_at hl 3 rfl) ?_
                        refine lv_dup2_11 hx hb dX4_step_120 rfl rfl ?_
                        have hi121 : vp_in x 8 := (k_in (by omega) (by omega))
                        refine va_iald hx hb hK hP 1 0 rfl rfl hi121 dX4_step_121 ?_
                        refine lv_iconst (v := 1) hx hb dX4_step_122 (by decide) ?_
                        refine lv_iadd hx hb dX4_step_123 ?_
                        refine W.eq (g2 := F0 m 124 ls [.int 1, .int x, .ref mlongs]) (by first | rfl | (congr 2; decide)) ?_
                        have hi124 : vp_in x 8 := (k_in (by omega) (by omega))
                        refine va_iast hx hb hK hP hD hS 1 0 rfl rfl hi124 dX4_step_124 (fun H locs hP hD hS => ?_)
                        have hP : va_P D vwCl [(h, .inr (4, [.int 0, .ref mcells, .ref mcounters, .ref mfloors, .ref mlimits, .ref mlongs, .ref msteps, .int 0, .ref mprogram, .ref mkind, .ref mrank, .ref mstate, .ref mactLong, .ref mactSteps, .ref mat, .ref mregister, .ref misHeld, .ref mdoneIn, .ref mundone, .ref mby, .ref mbegunIn, .ref misVoid, .ref misAgain, .ref mholds, .ref mwrites, .ref mgives, .ref mbelow, .ref mqueued, .ref mqueuedMany, .int 0, .ref mdone, .int 0, .int 0, .ref mlog, .int 0, .int 0, .ref morder, .ref misReached, .ref mqueue])), (mlongs, .inl (cI, 8, .inl (upd (fun _ => 0) x.toNatClampNeg 1))), (msteps, .inl (cI, 96, .inl (upd (fun _ => 0) ((12 * x) + 0).toNatClampNeg y)))] H := hP
                        have hD : va_D A [(h, .inr (4, [.int 0, .ref mcells, .ref mcounters, .ref mfloors, .ref mlimits, .ref mlongs, .ref msteps, .int 0, .ref mprogram, .ref mkind, .ref mrank, .ref mstate, .ref mactLong, .ref mactSteps, .ref mat, .ref mregister, .ref misHeld, .ref mdoneIn, .ref mundone, .ref mby, .ref mbegunIn, .ref misVoid, .ref misAgain, .ref mholds, .ref mwrites, .ref mgives, .ref mbelow, .ref mqueued, .ref mqueuedMany, .int 0, .ref mdone, .int 0, .int 0, .ref mlog, .int 0, .int 0, .ref morder, .ref misReached, .ref mqueue])), (mlongs, .inl (cI, 8, .inl (upd (fun _ => 0) x.toNatClampNeg 1))), (msteps, .inl (cI, 96, .inl (upd (fun _ => 0) ((12 * x) + 0).toNatClampNeg y)))] := hD
                        refine lv_aload_n hx hb dX4_step_125 rfl (lv_at hl 2 rfl) ?_
                        refine va_get (D := D) (ci := 4) (v := .ref mlongs) (C := RX4) (T := TX4) (N := 39) hx hb hts kin_X4_step_X4 hown hK hP 0 rfl rfl 5 (by decide) (hts _ kw_X4_step__fieldLink_RX4_22_ActHouseModel_longs_I_) (fun _ h9 => h9) rfl dX4_step_126 ?_
                        refine lv_iload_n hx hb dX4_step_129 rfl (lv_at hl 3 rfl) ?_
                        have hi130 : vp_in x 8 := (k_in (by omega) (by omega))
                        refine va_iald hx hb hK hP 1 0 rfl rfl hi130 dX4_step_130 ?_
                        refine W.eq (g2 := F0 m 131 ls [.int 1]) (by simp only [pk_us]) ?_
                        have hP := hP.sub (ws' := []) [] rfl
                        have hD := hD.sub (ws' := []) [] (by decide) rfl
                        have hK := hK.sub (tys' := [(cI, .int)]) [0] rfl
                        refine W.widen (k := 0) (n := 0) (by decide) (by decide) ?_
                        exact W.iret (v := 1) hx hb hr (fun t ht hW => ⟨⟨1, ([], [(cI, .int)]), rfl, Or.inl ⟨rfl, rfl, (by omega), (by omega), (by unfold kv; split <;> omega)⟩, ⟨by rw [ht]; exact hP, va_K.moved hW.alike hK, hD⟩⟩, hS.F ht⟩) hS.2.2 dX4_step_131
                      · skip
                        have c55 := k_eq c55
                        have hl7 : (7 : Int32).toInt = 7 := by decide
                        refine lv_iload hx hb dX4_step_89 (lv_at hl 0 rfl) ?_
                        refine lv_bipush (v := 8) hx hb dX4_step_91 (by decide) ?_
                        refine lv_icmp_lt (tgt := 98) hx hb dX4_step_93 (by decide) (fun c58 => ?_) (fun c58 => ?_)
                        · skip
                          have c58 := k_lt c58
                          have hl8 : (8 : Int32).toInt = 8 := by decide
                          refine lv_aload_n hx hb dX4_step_98 rfl (lv_at hl 2 rfl) ?_
                          refine va_get (D := D) (ci := 4) (v := .ref msteps) (C := RX4) (T := TX4) (N := 39) hx hb hts kin_X4_step_X4 hown hK hP 0 rfl rfl 6 (by decide) (hts _ kw_X4_step__fieldLink_RX4_25_ActHouseModel_steps_I_) (fun _ h9 => h9) rfl dX4_step_99 ?_
                          refine lv_bipush (v := 12) hx hb dX4_step_102 (by decide) ?_
                          refine lv_iload_n hx hb dX4_step_104 rfl (lv_at hl 3 rfl) ?_
                          refine lv_imul hx hb dX4_step_105 ?_
                          refine lv_aload_n hx hb dX4_step_106 rfl (lv_at hl 2 rfl) ?_
                          refine va_get (D := D) (ci := 4) (v := .ref mlongs) (C := RX4) (T := TX4) (N := 39) hx hb hts kin_X4_step_X4 hown hK hP 0 rfl rfl 5 (by decide) (hts _ kw_X4_step__fieldLink_RX4_22_ActHouseModel_longs_I_) (fun _ h9 => h9) rfl dX4_step_107 ?_
                          refine lv_iload_n hx hb dX4_step_110 rfl (lv_at hl 3 rfl) ?_
                          have hi111 : vp_in x 8 := (k_in (by omega) (by omega))
                          refine va_iald hx hb hK hP 1 0 rfl rfl hi111 dX4_step_111 ?_
                          refine lv_iadd hx hb dX4_step_112 ?_
                          refine lv_iload_n hx hb dX4_step_113 rfl (lv_at hl 4 rfl) ?_
                          have hl12 : (12 : Int32).toInt = 12 := by decide
                          have ef59 := k_mul2 (x := 12) (y := x) (N := 12) (by decide) (by omega) (by omega)
                          have hl0 : (0 : Int32).toInt = 0 := by decide
                          have ef60 := k_add (x := (12 * x)) (y := 0) (by omega) (by omega)
                          have hi114 : vp_in ((12 * x) + 0) 96 := (k_in (by omega) (by omega))
                          refine va_iast hx hb hK hP hD hS 2 0 rfl rfl hi114 dX4_step_114 (fun H locs hP hD hS => ?_)
                          have hP : va_P D vwCl [(h, .inr (4, [.int 0, .ref mcells, .ref mcounters, .ref mfloors, .ref mlimits, .ref mlongs, .ref msteps, .int 0, .ref mprogram, .ref mkind, .ref mrank, .ref mstate, .ref mactLong, .ref mactSteps, .ref mat, .ref mregister, .ref misHeld, .ref mdoneIn, .ref mundone, .ref mby, .ref mbegunIn, .ref misVoid, .ref misAgain, .ref mholds, .ref mwrites, .ref mgives, .ref mbelow, .ref mqueued, .ref mqueuedMany, .int 0, .ref mdone, .int 0, .int 0, .ref mlog, .int 0, .int 0, .ref morder, .ref misReached, .ref mqueue])), (mlongs, .inl (cI, 8, .inl (fun _ => 0))), (msteps, .inl (cI, 96, .inl (upd (fun _ => 0) ((12 * x) + 0).toNatClampNeg y)))] H := hP
                          have hD : va_D A [(h, .inr (4, [.int 0, .ref mcells, .ref mcounters, .ref mfloors, .ref mlimits, .ref mlongs, .ref msteps, .int 0, .ref mprogram, .ref mkind, .ref mrank, .ref mstate, .ref mactLong, .ref mactSteps, .ref mat, .ref mregister, .ref misHeld, .ref mdoneIn, .ref mundone, .ref mby, .ref mbegunIn, .ref misVoid, .ref misAgain, .ref mholds, .ref mwrites, .ref mgives, .ref mbelow, .ref mqueued, .ref mqueuedMany, .int 0, .ref mdone, .int 0, .int 0, .ref mlog, .int 0, .int 0, .ref morder, .ref misReached, .ref mqueue])), (mlongs, .inl (cI, 8, .inl (fun _ => 0))), (msteps, .inl (cI, 96, .inl (upd (fun _ => 0) ((12 * x) + 0).toNatClampNeg y)))] := hD
                          refine lv_aload_n hx hb dX4_step_115 rfl (lv_at hl 2 rfl) ?_
                          refine va_get (D := D) (ci := 4) (v := .ref mlongs) (C := RX4) (T := TX4) (N := 39) hx hb hts kin_X4_step_X4 hown hK hP 0 rfl rfl 5 (by decide) (hts _ kw_X4_step__fieldLink_RX4_22_ActHouseModel_longs_I_) (fun _ h9 => h9) rfl dX4_step_116 ?_
                          refine lv_iload_n hx hb dX4_step_119 rfl (lv_at hl 3 rfl) ?_
                          refine lv_dup2_11 hx hb dX4_step_120 rfl rfl ?_
                          have hi121 : vp_in x 8 := (k_in (by omega) (by omega))
                          refine va_iald hx hb hK hP 1 0 rfl rfl hi121 dX4_step_121 ?_
                          refine lv_iconst (v := 1) hx hb dX4_step_122 (by decide) ?_
                          refine lv_iadd hx hb dX4_step_123 ?_
                          refine W.eq (g2 := F0 m 124 ls [.int 1, .int x, .ref mlongs]) (by first | rfl | (congr 2; decide)) ?_
                          have hi124 : vp_in x 8 := (k_in (by omega) (by omega))
                          refine va_iast hx hb hK hP hD hS 1 0 rfl rfl hi124 dX4_step_124 (fun H locs hP hD hS => ?_)
                          have hP : va_P D vwCl [(h, .inr (4, [.int 0, .ref mcells, .ref mcounters, .ref mfloors, .ref mlimits, .ref mlongs, .ref msteps, .int 0, .ref mprogram, .ref mkind, .ref mrank, .ref mstate, .ref mactLong, .ref mactSteps, .ref mat, .ref mregister, .ref misHeld, .ref mdoneIn, .ref mundone, .ref mby, .ref mbegunIn, .ref misVoid, .ref misAgain, .ref mholds, .ref mwrites, .ref mgives, .ref mbelow, .ref mqueued, .ref mqueuedMany, .int 0, .ref mdone, .int 0, .int 0, .ref mlog, .int 0, .int 0, .ref morder, .ref misReached, .ref mqueue])), (mlongs, .inl (cI, 8, .inl (upd (fun _ => 0) x.toNatClampNeg 1))), (msteps, .inl (cI, 96, .inl (upd (fun _ => 0) ((12 * x) + 0).toNatClampNeg y)))] H := hP
                          have hD : va_D A [(h, .inr (4, [.int 0, .ref mcells, .ref mcounters, .ref mfloors, .ref mlimits, .ref mlongs, .ref msteps, .int 0, .ref mprogram, .ref mkind, .ref mrank, .ref mstate, .ref mactLong, .ref mactSteps, .ref mat, .ref mregister, .ref misHeld, .ref mdoneIn, .ref mundone, .ref mby, .ref mbegunIn, .ref misVoid, .ref misAgain, .ref mholds, .ref mwrites, .ref mgives, .ref mbelow, .ref mqueued, .ref mqueuedMany, .int 0, .ref mdone, .int 0, .int 0, .ref mlog, .int 0, .int 0, .ref morder, .ref misReached, .ref mqueue])), (mlongs, .inl (cI, 8, .inl (upd (fun _ => 0) x.toNatClampNeg 1))), (msteps, .inl (cI, 96, .inl (upd (fun _ => 0) ((12 * x) + 0).toNatClampNeg y)))] := hD
                          refine lv_aload_n hx hb dX4_step_125 rfl (lv_at hl 2 rfl) ?_
                          refine va_get (D := D) (ci := 4) (v := .ref mlongs) (C := RX4) (T := TX4) (N := 39) hx hb hts kin_X4_step_X4 hown hK hP 0 rfl rfl 5 (by decide) (hts _ kw_X4_step__fieldLink_RX4_22_ActHouseModel_longs_I_) (fun _ h9 => h9) rfl dX4_step_126 ?_
                          refine lv_iload_n hx hb dX4_step_129 rfl (lv_at hl 3 rfl) ?_
                          have hi130 : vp_in x 8 := (k_in (by omega) (by omega))
                          refine va_iald hx hb hK hP 1 0 rfl rfl hi130 dX4_step_130 ?_
                          refine W.eq (g2 := F0 m 131 ls [.int 1]) (by simp only [pk_us]) ?_
                          have hP := hP.sub (ws' := []) [] rfl
                          have hD := hD.sub (ws' := []) [] (by decide) rfl
                          have hK := hK.sub (tys' := [(cI, .int)]) [0] rfl
                          refine W.widen (k := 0) (n := 0) (by decide) (by decide) ?_
                          exact W.iret (v := 1) hx hb hr (fun t ht hW => ⟨⟨1, ([], [(cI, .int)]), rfl, Or.inl ⟨rfl, rfl, (by omega), (by omega), (by unfold kv; split <;> omega)⟩, ⟨by rw [ht]; exact hP, va_K.moved hW.alike hK, hD⟩⟩, hS.F ht⟩) hS.2.2 dX4_step_131
                        · skip
                          have c58 := k_nlt c58
                          have hl8 : (8 : Int32).toInt = 8 := by decide
                          refine lv_iconst (v := (-1)) hx hb dX4_step_96 (by decide) ?_
                          have hP := hP.sub (ws' := []) [] rfl
                          have hD := hD.sub (ws' := []) [] (by decide) rfl
                          have hK := hK.sub (tys' := [(cI, .int)]) [0] rfl
                          refine W.widen (k := 0) (n := 0) (by decide) (by decide) ?_
                          exact W.iret (v := (-1)) hx hb hr (fun t ht hW => ⟨⟨(-1), ([], [(cI, .int)]), rfl, Or.inr (⟨rfl, rfl, (by first | omega | (right; right; unfold kv; split <;> omega))⟩), ⟨by rw [ht]; exact hP, va_K.moved hW.alike hK, hD⟩⟩, hS.F ht⟩) hS.2.2 dX4_step_97
                    · skip
                      have c54 := k_eq c54
                      have hl6 : (6 : Int32).toInt = 6 := by decide
                      refine lv_iload hx hb dX4_step_76 (lv_at hl 0 rfl) ?_
                      refine lv_bipush (v := 8) hx hb dX4_step_78 (by decide) ?_
                      refine lv_icmp_ge (tgt := 96) hx hb dX4_step_80 (by decide) (fun c61 => ?_) (fun c61 => ?_)
                      · skip
                        have c61 := k_le c61
                        have hl8 : (8 : Int32).toInt = 8 := by decide
                        refine lv_iconst (v := (-1)) hx hb dX4_step_96 (by decide) ?_
                        have hP := hP.sub (ws' := []) [] rfl
                        have hD := hD.sub (ws' := []) [] (by decide) rfl
                        have hK := hK.sub (tys' := [(cI, .int)]) [0] rfl
                        refine W.widen (k := 0) (n := 0) (by decide) (by decide) ?_
                        exact W.iret (v := (-1)) hx hb hr (fun t ht hW => ⟨⟨(-1), ([], [(cI, .int)]), rfl, Or.inr (⟨rfl, rfl, (by first | omega | (right; right; unfold kv; split <;> omega))⟩), ⟨by rw [ht]; exact hP, va_K.moved hW.alike hK, hD⟩⟩, hS.F ht⟩) hS.2.2 dX4_step_97
                      · skip
                        have c61 := k_nle c61
                        have hl8 : (8 : Int32).toInt = 8 := by decide
                        refine lv_iload_n hx hb dX4_step_83 rfl (lv_at hl 1 rfl) ?_
                        refine lv_bipush (v := 7) hx hb dX4_step_84 (by decide) ?_
                        refine lv_icmp_ne (tgt := 98) hx hb dX4_step_86 (by decide) (fun c62 => ?_) (fun c62 => ?_)
                        · skip
                          have c62 := k_ne c62
                          have hl7 : (7 : Int32).toInt = 7 := by decide
                          refine lv_aload_n hx hb dX4_step_98 rfl (lv_at hl 2 rfl) ?_
                          refine va_get (D := D) (ci := 4) (v := .ref msteps) (C := RX4) (T := TX4) (N := 39) hx hb hts kin_X4_step_X4 hown hK hP 0 rfl rfl 6 (by decide) (hts _ kw_X4_step__fieldLink_RX4_25_ActHouseModel_steps_I_) (fun _ h9 => h9) rfl dX4_step_99 ?_
                          refine lv_bipush (v := 12) hx hb dX4_step_102 (by decide) ?_
                          refine lv_iload_n hx hb dX4_step_104 rfl (lv_at hl 3 rfl) ?_
                          refine lv_imul hx hb dX4_step_105 ?_
                          refine lv_aload_n hx hb dX4_step_106 rfl (lv_at hl 2 rfl) ?_
                          refine va_get (D := D) (ci := 4) (v := .ref mlongs) (C := RX4) (T := TX4) (N := 39) hx hb hts kin_X4_step_X4 hown hK hP 0 rfl rfl 5 (by decide) (hts _ kw_X4_step__fieldLink_RX4_22_ActHouseModel_longs_I_) (fun _ h9 => h9) rfl dX4_step_107 ?_
                          refine lv_iload_n hx hb dX4_step_110 rfl (lv_at hl 3 rfl) ?_
                          have hi111 : vp_in x 8 := (k_in (by omega) (by omega))
                          refine va_iald hx hb hK hP 1 0 rfl rfl hi111 dX4_step_111 ?_
                          refine lv_iadd hx hb dX4_step_112 ?_
                          refine lv_iload_n hx hb dX4_step_113 rfl (lv_at hl 4 rfl) ?_
                          have hl12 : (12 : Int32).toInt = 12 := by decide
                          have ef63 := k_mul2 (x := 12) (y := x) (N := 12) (by decide) (by omega) (by omega)
                          have hl0 : (0 : Int32).toInt = 0 := by decide
                          have ef64 := k_add (x := (12 * x)) (y := 0) (by omega) (by omega)
                          have hi114 : vp_in ((12 * x) + 0) 96 := (k_in (by omega) (by omega))
                          refine va_iast hx hb hK hP hD hS 2 0 rfl rfl hi114 dX4_step_114 (fun H locs hP hD hS => ?_)
                          have hP : va_P D vwCl [(h, .inr (4, [.int 0, .ref mcells, .ref mcounters, .ref mfloors, .ref mlimits, .ref mlongs, .ref msteps, .int 0, .ref mprogram, .ref mkind, .ref mrank, .ref mstate, .ref mactLong, .ref mactSteps, .ref mat, .ref mregister, .ref misHeld, .ref mdoneIn, .ref mundone, .ref mby, .ref mbegunIn, .ref misVoid, .ref misAgain, .ref mholds, .ref mwrites, .ref mgives, .ref mbelow, .ref mqueued, .ref mqueuedMany, .int 0, .ref mdone, .int 0, .int 0, .ref mlog, .int 0, .int 0, .ref morder, .ref misReached, .ref mqueue])), (mlongs, .inl (cI, 8, .inl (fun _ => 0))), (msteps, .inl (cI, 96, .inl (upd (fun _ => 0) ((12 * x) + 0).toNatClampNeg y)))] H := hP
                          have hD : va_D A [(h, .inr (4, [.int 0, .ref mcells, .ref mcounters, .ref mfloors, .ref mlimits, .ref mlongs, .ref msteps, .int 0, .ref mprogram, .ref mkind, .ref mrank, .ref mstate, .ref mactLong, .ref mactSteps, .ref mat, .ref mregister, .ref misHeld, .ref mdoneIn, .ref mundone, .ref mby, .ref mbegunIn, .ref misVoid, .ref misAgain, .ref mholds, .ref mwrites, .ref mgives, .ref mbelow, .ref mqueued, .ref mqueuedMany, .int 0, .ref mdone, .int 0, .int 0, .ref mlog, .int 0, .int 0, .ref morder, .ref misReached, .ref mqueue])), (mlongs, .inl (cI, 8, .inl (fun _ => 0))), (msteps, .inl (cI, 96, .inl (upd (fun _ => 0) ((12 * x) + 0).toNatClampNeg y)))] := hD
                          refine lv_aload_n hx hb dX4_step_115 rfl (lv_at hl 2 rfl) ?_
                          refine va_get (D := D) (ci := 4) (v := .ref mlongs) (C := RX4) (T := TX4) (N := 39) hx hb hts kin_X4_step_X4 hown hK hP 0 rfl rfl 5 (by decide) (hts _ kw_X4_step__fieldLink_RX4_22_ActHouseModel_longs_I_) (fun _ h9 => h9) rfl dX4_step_116 ?_
                          refine lv_iload_n hx hb dX4_step_119 rfl (lv_at hl 3 rfl) ?_
                          refine lv_dup2_11 hx hb dX4_step_120 rfl rfl ?_
                          have hi121 : vp_in x 8 := (k_in (by omega) (by omega))
                          refine va_iald hx hb hK hP 1 0 rfl rfl hi121 dX4_step_121 ?_
                          refine lv_iconst (v := 1) hx hb dX4_step_122 (by decide) ?_
                          refine lv_iadd hx hb dX4_step_123 ?_
                          refine W.eq (g2 := F0 m 124 ls [.int 1, .int x, .ref mlongs]) (by first | rfl | (congr 2; decide)) ?_
                          have hi124 : vp_in x 8 := (k_in (by omega) (by omega))
                          refine va_iast hx hb hK hP hD hS 1 0 rfl rfl hi124 dX4_step_124 (fun H locs hP hD hS => ?_)
                          have hP : va_P D vwCl [(h, .inr (4, [.int 0, .ref mcells, .ref mcounters, .ref mfloors, .ref mlimits, .ref mlongs, .ref msteps, .int 0, .ref mprogram, .ref mkind, .ref mrank, .ref mstate, .ref mactLong, .ref mactSteps, .ref mat, .ref mregister, .ref misHeld, .ref mdoneIn, .ref mundone, .ref mby, .ref mbegunIn, .ref misVoid, .ref misAgain, .ref mholds, .ref mwrites, .ref mgives, .ref mbelow, .ref mqueued, .ref mqueuedMany, .int 0, .ref mdone, .int 0, .int 0, .ref mlog, .int 0, .int 0, .ref morder, .ref misReached, .ref mqueue])), (mlongs, .inl (cI, 8, .inl (upd (fun _ => 0) x.toNatClampNeg 1))), (msteps, .inl (cI, 96, .inl (upd (fun _ => 0) ((12 * x) + 0).toNatClampNeg y)))] H := hP
                          have hD : va_D A [(h, .inr (4, [.int 0, .ref mcells, .ref mcounters, .ref mfloors, .ref mlimits, .ref mlongs, .ref msteps, .int 0, .ref mprogram, .ref mkind, .ref mrank, .ref mstate, .ref mactLong, .ref mactSteps, .ref mat, .ref mregister, .ref misHeld, .ref mdoneIn, .ref mundone, .ref mby, .ref mbegunIn, .ref misVoid, .ref misAgain, .ref mholds, .ref mwrites, .ref mgives, .ref mbelow, .ref mqueued, .ref mqueuedMany, .int 0, .ref mdone, .int 0, .int 0, .ref mlog, .int 0, .int 0, .ref morder, .ref misReached, .ref mqueue])), (mlongs, .inl (cI, 8, .inl (upd (fun _ => 0) x.toNatClampNeg 1))), (msteps, .inl (cI, 96, .inl (upd (fun _ => 0) ((12 * x) + 0).toNatClampNeg y)))] := hD
                          refine lv_aload_n hx hb dX4_step_125 rfl (lv_at hl 2 rfl) ?_
                          refine va_get (D := D) (ci := 4) (v := .ref mlongs) (C := RX4) (T := TX4) (N := 39) hx hb hts kin_X4_step_X4 hown hK hP 0 rfl rfl 5 (by decide) (hts _ kw_X4_step__fieldLink_RX4_22_ActHouseModel_longs_I_) (fun _ h9 => h9) rfl dX4_step_126 ?_
                          refine lv_iload_n hx hb dX4_step_129 rfl (lv_at hl 3 rfl) ?_
                          have hi130 : vp_in x 8 := (k_in (by omega) (by omega))
                          refine va_iald hx hb hK hP 1 0 rfl rfl hi130 dX4_step_130 ?_
                          refine W.eq (g2 := F0 m 131 ls [.int 1]) (by simp only [pk_us]) ?_
                          have hP := hP.sub (ws' := []) [] rfl
                          have hD := hD.sub (ws' := []) [] (by decide) rfl
                          have hK := hK.sub (tys' := [(cI, .int)]) [0] rfl
                          refine W.widen (k := 0) (n := 0) (by decide) (by decide) ?_
                          exact W.iret (v := 1) hx hb hr (fun t ht hW => ⟨⟨1, ([], [(cI, .int)]), rfl, Or.inl ⟨rfl, rfl, (by omega), (by omega), (by unfold kv; split <;> omega)⟩, ⟨by rw [ht]; exact hP, va_K.moved hW.alike hK, hD⟩⟩, hS.F ht⟩) hS.2.2 dX4_step_131
                        · skip
                          have c62 := k_eq c62
                          have hl7 : (7 : Int32).toInt = 7 := by decide
                          refine lv_iload hx hb dX4_step_89 (lv_at hl 0 rfl) ?_
                          refine lv_bipush (v := 8) hx hb dX4_step_91 (by decide) ?_
                          refine lv_icmp_lt (tgt := 98) hx hb dX4_step_93 (by decide) (fun c65 => ?_) (fun c65 => ?_)
                          · skip
                            have c65 := k_lt c65
                            have hl8 : (8 : Int32).toInt = 8 := by decide
                            refine lv_aload_n hx hb dX4_step_98 rfl (lv_at hl 2 rfl) ?_
                            refine va_get (D := D) (ci := 4) (v := .ref msteps) (C := RX4) (T := TX4) (N := 39) hx hb hts kin_X4_step_X4 hown hK hP 0 rfl rfl 6 (by decide) (hts _ kw_X4_step__fieldLink_RX4_25_ActHouseModel_steps_I_) (fun _ h9 => h9) rfl dX4_step_99 ?_
                            refine lv_bipush (v := 12) hx hb dX4_step_102 (by decide) ?_
                            refine lv_iload_n hx hb dX4_step_104 rfl (lv_at hl 3 rfl) ?_
                            refine lv_imul hx hb dX4_step_105 ?_
                            refine lv_aload_n hx hb dX4_step_106 rfl (lv_at hl 2 rfl) ?_
                            refine va_get (D := D) (ci := 4) (v := .ref mlongs) (C := RX4) (T := TX4) (N := 39) hx hb hts kin_X4_step_X4 hown hK hP 0 rfl rfl 5 (by decide) (hts _ kw_X4_step__fieldLink_RX4_22_ActHouseModel_longs_I_) (fun _ h9 => h9) rfl dX4_step_107 ?_
                            refine lv_iload_n hx hb dX4_step_110 rfl (lv_at hl 3 rfl) ?_
                            have hi111 : vp_in x 8 := (k_in (by omega) (by omega))
                            refine va_iald hx hb hK hP 1 0 rfl rfl hi111 dX4_step_111 ?_
                            refine lv_iadd hx hb dX4_step_112 ?_
                            refine lv_iload_n hx hb dX4_step_113 rfl (lv_at hl 4 rfl) ?_
                            have hl12 : (12 : Int32).toInt = 12 := by decide
                            have ef66 := k_mul2 (x := 12) (y := x) (N := 12) (by decide) (by omega) (by omega)
                            have hl0 : (0 : Int32).toInt = 0 := by decide
                            have ef67 := k_add (x := (12 * x)) (y := 0) (by omega) (by omega)
                            have hi114 : vp_in ((12 * x) + 0) 96 := (k_in (by omega) (by omega))
                            refine va_iast hx hb hK hP hD hS 2 0 rfl rfl hi114 dX4_step_114 (fun H locs hP hD hS => ?_)
                            have hP : va_P D vwCl [(h, .inr (4, [.int 0, .ref mcells, .ref mcounters, .ref mfloors, .ref mlimits, .ref mlongs, .ref msteps, .int 0, .ref mprogram, .ref mkind, .ref mrank, .ref mstate, .ref mactLong, .ref mactSteps, .ref mat, .ref mregister, .ref misHeld, .ref mdoneIn, .ref mundone, .ref mby, .ref mbegunIn, .ref misVoid, .ref misAgain, .ref mholds, .ref mwrites, .ref mgives, .ref mbelow, .ref mqueued, .ref mqueuedMany, .int 0, .ref mdone, .int 0, .int 0, .ref mlog, .int 0, .int 0, .ref morder, .ref misReached, .ref mqueue])), (mlongs, .inl (cI, 8, .inl (fun _ => 0))), (msteps, .inl (cI, 96, .inl (upd (fun _ => 0) ((12 * x) + 0).toNatClampNeg y)))] H := hP
                            have hD : va_D A [(h, .inr (4, [.int 0, .ref mcells, .ref mcounters, .ref mfloors, .ref mlimits, .ref mlongs, .ref msteps, .int 0, .ref mprogram, .ref mkind, .ref mrank, .ref mstate, .ref mactLong, .ref mactSteps, .ref mat, .ref mregister, .ref misHeld, .ref mdoneIn, .ref mundone, .ref mby, .ref mbegunIn, .ref misVoid, .ref misAgain, .ref mholds, .ref mwrites, .ref mgives, .ref mbelow, .ref mqueued, .ref mqueuedMany, .int 0, .ref mdone, .int 0, .int 0, .ref mlog, .int 0, .int 0, .ref morder, .ref misReached, .ref mqueue])), (mlongs, .inl (cI, 8, .inl (fun _ => 0))), (msteps, .inl (cI, 96, .inl (upd (fun _ => 0) ((12 * x) + 0).toNatClampNeg y)))] := hD
                            refine lv_aload_n hx hb dX4_step_115 rfl (lv_at hl 2 rfl) ?_
                            refine va_get (D := D) (ci := 4) (v := .ref mlongs) (C := RX4) (T := TX4) (N := 39) hx hb hts kin_X4_step_X4 hown hK hP 0 rfl rfl 5 (by decide) (hts _ kw_X4_step__fieldLink_RX4_22_ActHouseModel_longs_I_) (fun _ h9 => h9) rfl dX4_step_116 ?_
                            refine lv_iload_n hx hb dX4_step_119 rfl (lv_at hl 3 rfl) ?_
                            refine lv_dup2_11 hx hb dX4_step_120 rfl rfl ?_
                            have hi121 : vp_in x 8 := (k_in (by omega) (by omega))
                            refine va_iald hx hb hK hP 1 0 rfl rfl hi121 dX4_step_121 ?_
                            refine lv_iconst (v := 1) hx hb dX4_step_122 (by decide) ?_
                            refine lv_iadd hx hb dX4_step_123 ?_
                            refine W.eq (g2 := F0 m 124 ls [.int 1, .int x, .ref mlongs]) (by first | rfl | (congr 2; decide)) ?_
                            have hi124 : vp_in x 8 := (k_in (by omega) (by omega))
                            refine va_iast hx hb hK hP hD hS 1 0 rfl rfl hi124 dX4_step_124 (fun H locs hP hD hS => ?_)
                            have hP : va_P D vwCl [(h, .inr (4, [.int 0, .ref mcells, .ref mcounters, .ref mfloors, .ref mlimits, .ref mlongs, .ref msteps, .int 0, .ref mprogram, .ref mkind, .ref mrank, .ref mstate, .ref mactLong, .ref mactSteps, .ref mat, .ref mregister, .ref misHeld, .ref mdoneIn, .ref mundone, .ref mby, .ref mbegunIn, .ref misVoid, .ref misAgain, .ref mholds, .ref mwrites, .ref mgives, .ref mbelow, .ref mqueued, .ref mqueuedMany, .int 0, .ref mdone, .int 0, .int 0, .ref mlog, .int 0, .int 0, .ref morder, .ref misReached, .ref mqueue])), (mlongs, .inl (cI, 8, .inl (upd (fun _ => 0) x.toNatClampNeg 1))), (msteps, .inl (cI, 96, .inl (upd (fun _ => 0) ((12 * x) + 0).toNatClampNeg y)))] H := hP
                            have hD : va_D A [(h, .inr (4, [.int 0, .ref mcells, .ref mcounters, .ref mfloors, .ref mlimits, .ref mlongs, .ref msteps, .int 0, .ref mprogram, .ref mkind, .ref mrank, .ref mstate, .ref mactLong, .ref mactSteps, .ref mat, .ref mregister, .ref misHeld, .ref mdoneIn, .ref mundone, .ref mby, .ref mbegunIn, .ref misVoid, .ref misAgain, .ref mholds, .ref mwrites, .ref mgives, .ref mbelow, .ref mqueued, .ref mqueuedMany, .int 0, .ref mdone, .int 0, .int 0, .ref mlog, .int 0, .int 0, .ref morder, .ref misReached, .ref mqueue])), (mlongs, .inl (cI, 8, .inl (upd (fun _ => 0) x.toNatClampNeg 1))), (msteps, .inl (cI, 96, .inl (upd (fun _ => 0) ((12 * x) + 0).toNatClampNeg y)))] := hD
                            refine lv_aload_n hx hb dX4_step_125 rfl (lv_at hl 2 rfl) ?_
                            refine va_get (D := D) (ci := 4) (v := .ref mlongs) (C := RX4) (T := TX4) (N := 39) hx hb hts kin_X4_step_X4 hown hK hP 0 rfl rfl 5 (by decide) (hts _ kw_X4_step__fieldLink_RX4_22_ActHouseModel_longs_I_) (fun _ h9 => h9) rfl dX4_step_126 ?_
                            refine lv_iload_n hx hb dX4_step_129 rfl (lv_at hl 3 rfl) ?_
                            have hi130 : vp_in x 8 := (k_in (by omega) (by omega))
                            refine va_iald hx hb hK hP 1 0 rfl rfl hi130 dX4_step_130 ?_
                            refine W.eq (g2 := F0 m 131 ls [.int 1]) (by simp only [pk_us]) ?_
                            have hP := hP.sub (ws' := []) [] rfl
                            have hD := hD.sub (ws' := []) [] (by decide) rfl
                            have hK := hK.sub (tys' := [(cI, .int)]) [0] rfl
                            refine W.widen (k := 0) (n := 0) (by decide) (by decide) ?_
                            exact W.iret (v := 1) hx hb hr (fun t ht hW => ⟨⟨1, ([], [(cI, .int)]), rfl, Or.inl ⟨rfl, rfl, (by omega), (by omega), (by unfold kv; split <;> omega)⟩, ⟨by rw [ht]; exact hP, va_K.moved hW.alike hK, hD⟩⟩, hS.F ht⟩) hS.2.2 dX4_step_131
                          · skip
                            have c65 := k_nlt c65
                            have hl8 : (8 : Int32).toInt = 8 := by decide
                            refine lv_iconst (v := (-1)) hx hb dX4_step_96 (by decide) ?_
                            have hP := hP.sub (ws' := []) [] rfl
                            have hD := hD.sub (ws' := []) [] (by decide) rfl
                            have hK := hK.sub (tys' := [(cI, .int)]) [0] rfl
                            refine W.widen (k := 0) (n := 0) (by decide) (by decide) ?_
                            exact W.iret (v := (-1)) hx hb hr (fun t ht hW => ⟨⟨(-1), ([], [(cI, .int)]), rfl, Or.inr (⟨rfl, rfl, (by first | omega | (right; right; unfold kv; split <;> omega))⟩), ⟨by rw [ht]; exact hP, va_K.moved hW.alike hK, hD⟩⟩, hS.F ht⟩) hS.2.2 dX4_step_97
          · skip
            have c5 := k_nle c5
            have hl8 : (8 : Int32).toInt = 8 := by decide
            refine lv_iconst (v := (-1)) hx hb dX4_step_32 (by decide) ?_
            have hP := hP.sub (ws' := []) [] rfl
            have hD := hD.sub (ws' := []) [] (by decide) rfl
            have hK := hK.sub (tys' := [(cI, .int)]) [0] rfl
            refine W.widen (k := 0) (n := 0) (by decide) (by decide) ?_
            exact W.iret (v := (-1)) hx hb hr (fun t ht hW => ⟨⟨(-1), ([], [(cI, .int)]), rfl, Or.inr (⟨rfl, rfl, (by first | omega | (right; right; unfold kv; split <;> omega))⟩), ⟨by rw [ht]; exact hP, va_K.moved hW.alike hK, hD⟩⟩, hS.F ht⟩) hS.2.2 dX4_step_33
  · skip
    obtain ⟨hP1, hK1, hD1⟩ := hB
    rw [ht] at hP1
    have hK1 := va_K.moved hvm.symm hK1
    obtain ⟨hP, hD⟩ := va_join (wr := [(h, .inr (4, [.int 0, .ref mcells, .ref mcounters, .ref mfloors, .ref mlimits, .ref mlongs, .ref msteps, .int 0, .ref mprogram, .ref mkind, .ref mrank, .ref mstate, .ref mactLong, .ref mactSteps, .ref mat, .ref mregister, .ref misHeld, .ref mdoneIn, .ref mundone, .ref mby, .ref mbegunIn, .ref misVoid, .ref misAgain, .ref mholds, .ref mwrites, .ref mgives, .ref mbelow, .ref mqueued, .ref mqueuedMany, .int 0, .ref mdone, .int 0, .int 0, .ref mlog, .int 0, .int 0, .ref morder, .ref misReached, .ref mqueue])), (mlongs, .inl (cI, 8, .inl (fun _ => 0))), (msteps, .inl (cI, 96, .inl (fun _ => 0)))]) (w1 := []) hP hD [] [0, 1, 2] rfl rfl (by decide) (by decide) hk1 hFc hP1 hD1
    generalize H1 = H at hP hS ⊢
    have hP : va_P D vwCl [(h, .inr (4, [.int 0, .ref mcells, .ref mcounters, .ref mfloors, .ref mlimits, .ref mlongs, .ref msteps, .int 0, .ref mprogram, .ref mkind, .ref mrank, .ref mstate, .ref mactLong, .ref mactSteps, .ref mat, .ref mregister, .ref misHeld, .ref mdoneIn, .ref mundone, .ref mby, .ref mbegunIn, .ref misVoid, .ref misAgain, .ref mholds, .ref mwrites, .ref mgives, .ref mbelow, .ref mqueued, .ref mqueuedMany, .int 0, .ref mdone, .int 0, .int 0, .ref mlog, .int 0, .int 0, .ref morder, .ref misReached, .ref mqueue])), (mlongs, .inl (cI, 8, .inl (fun _ => 0))), (msteps, .inl (cI, 96, .inl (fun _ => 0)))] H := hP
    have hD : va_D A [(h, .inr (4, [.int 0, .ref mcells, .ref mcounters, .ref mfloors, .ref mlimits, .ref mlongs, .ref msteps, .int 0, .ref mprogram, .ref mkind, .ref mrank, .ref mstate, .ref mactLong, .ref mactSteps, .ref mat, .ref mregister, .ref misHeld, .ref mdoneIn, .ref mundone, .ref mby, .ref mbegunIn, .ref misVoid, .ref misAgain, .ref mholds, .ref mwrites, .ref mgives, .ref mbelow, .ref mqueued, .ref mqueuedMany, .int 0, .ref mdone, .int 0, .int 0, .ref mlog, .int 0, .int 0, .ref morder, .ref misReached, .ref mqueue])), (mlongs, .inl (cI, 8, .inl (fun _ => 0))), (msteps, .inl (cI, 96, .inl (fun _ => 0)))] := hD
    refine lv_if_eq (tgt := 32) hx hb dX4_step_4 (by decide) (fun c68 => ?_) (fun c68 => ?_)
    · skip
      refine lv_iconst (v := (-1)) hx hb dX4_step_32 (by decide) ?_
      have hP := hP.sub (ws' := []) [] rfl
      have hD := hD.sub (ws' := []) [] (by decide) rfl
      have hK := hK.sub (tys' := [(cI, .int)]) [0] rfl
      refine W.widen (k := 0) (n := 0) (by decide) (by decide) ?_
      exact W.iret (v := (-1)) hx hb hr (fun t ht hW => ⟨⟨(-1), ([], [(cI, .int)]), rfl, Or.inr (⟨rfl, rfl, (by first | omega | (right; right; unfold kv; split <;> omega))⟩), ⟨by rw [ht]; exact hP, va_K.moved hW.alike hK, hD⟩⟩, hS.F ht⟩) hS.2.2 dX4_step_33
    · skip
      exact absurd c68 (by decide)
set_option maxRecDepth 100000 in
theorem kw_X4_newAct__fieldLink_RX4_111_ActHouseModel_acts_I_ : (.fieldLink RX4 111 "ActHouseModel" "acts" "I" : Cond) ∈ wsX4_newAct := by decide +kernel
set_option maxRecDepth 100000 in
theorem kin_X4_newAct_X4 : ∀ w ∈ u_ws RX4 TX4 39, w ∈ wsX4_newAct := by decide +kernel
set_option maxRecDepth 100000 in
theorem kw_X4_newAct__fieldLink_RX4_28_ActHouseModel_program_I_ : (.fieldLink RX4 28 "ActHouseModel" "program" "[I" : Cond) ∈ wsX4_newAct := by decide +kernel
set_option maxRecDepth 100000 in
theorem kw_X4_newAct__fieldLink_RX4_31_ActHouseModel_kind_I_ : (.fieldLink RX4 31 "ActHouseModel" "kind" "[I" : Cond) ∈ wsX4_newAct := by decide +kernel
set_option maxRecDepth 100000 in
theorem kw_X4_newAct__fieldLink_RX4_34_ActHouseModel_rank_I_ : (.fieldLink RX4 34 "ActHouseModel" "rank" "[I" : Cond) ∈ wsX4_newAct := by decide +kernel
set_option maxRecDepth 100000 in
theorem kw_X4_newAct__fieldLink_RX4_62_ActHouseModel_by_I_ : (.fieldLink RX4 62 "ActHouseModel" "by" "[I" : Cond) ∈ wsX4_newAct := by decide +kernel
set_option maxRecDepth 100000 in
theorem kw_X4_newAct__fieldLink_RX4_56_ActHouseModel_doneIn_I_ : (.fieldLink RX4 56 "ActHouseModel" "doneIn" "[I" : Cond) ∈ wsX4_newAct := by decide +kernel
set_option maxRecDepth 100000 in
theorem kw_X4_newAct__fieldLink_RX4_65_ActHouseModel_begunIn_I_ : (.fieldLink RX4 65 "ActHouseModel" "begunIn" "[I" : Cond) ∈ wsX4_newAct := by decide +kernel
set_option maxHeartbeats 4000000 in
set_option maxRecDepth 100000 in
theorem c_X4_newAct {l : Launch} {D : va_G} {sz : Nat} {h : Nat} {mcells : Nat} {mcounters : Nat} {mfloors : Nat} {mlimits : Nat} {mlongs : Nat} {msteps : Nat} {mprogram : Nat} {mkind : Nat} {mrank : Nat} {mstate : Nat} {mactLong : Nat} {mactSteps : Nat} {mat : Nat} {mregister : Nat} {misHeld : Nat} {mdoneIn : Nat} {mundone : Nat} {mby : Nat} {mbegunIn : Nat} {misVoid : Nat} {misAgain : Nat} {mholds : Nat} {mwrites : Nat} {mgives : Nat} {mbelow : Nat} {mqueued : Nat} {mqueuedMany : Nat} {mdone : Nat} {mlog : Nat} {morder : Nat} {misReached : Nat} {mqueue : Nat} {x : Int32} {y : Int32} {z : Int32} {w : Int32} {cI : ClassId}  : Met l yX4_newAct wsX4_newAct ({ frames := 0, cells := 0, slots := 0, locals := 0 }) (va_Pc [.ref h, .int x, .int y, .int z, .int w] (k_Pre D [(cI, .int)] [(h, .inr (4, [.int 0, .ref mcells, .ref mcounters, .ref mfloors, .ref mlimits, .ref mlongs, .ref msteps, .int 0, .ref mprogram, .ref mkind, .ref mrank, .ref mstate, .ref mactLong, .ref mactSteps, .ref mat, .ref mregister, .ref misHeld, .ref mdoneIn, .ref mundone, .ref mby, .ref mbegunIn, .ref misVoid, .ref misAgain, .ref mholds, .ref mwrites, .ref mgives, .ref mbelow, .ref mqueued, .ref mqueuedMany, .int 0, .ref mdone, .int 0, .int 0, .ref mlog, .int 0, .int 0, .ref morder, .ref misReached, .ref mqueue])), (mprogram, .inl (cI, 80, .inl (fun _ => 0))), (mkind, .inl (cI, 80, .inl (fun _ => 0))), (mrank, .inl (cI, 80, .inl (fun _ => 0))), (mby, .inl (cI, 80, .inl (fun _ => 0))), (mdoneIn, .inl (cI, 80, .inl (fun _ => 0))), (mbegunIn, .inl (cI, 80, .inl (fun _ => 0)))] sz)) (va_Qi (fun (r : Int32) (u : va_W × List (ClassId × FieldType)) => (r = 0 ∧ u = ([], [(cI, .int)]))) (k_B D (va_A [(h, .inr (4, [.int 0, .ref mcells, .ref mcounters, .ref mfloors, .ref mlimits, .ref mlongs, .ref msteps, .int 0, .ref mprogram, .ref mkind, .ref mrank, .ref mstate, .ref mactLong, .ref mactSteps, .ref mat, .ref mregister, .ref misHeld, .ref mdoneIn, .ref mundone, .ref mby, .ref mbegunIn, .ref misVoid, .ref misAgain, .ref mholds, .ref mwrites, .ref mgives, .ref mbelow, .ref mqueued, .ref mqueuedMany, .int 0, .ref mdone, .int 0, .int 0, .ref mlog, .int 0, .int 0, .ref morder, .ref misReached, .ref mqueue])), (mprogram, .inl (cI, 80, .inl (fun _ => 0))), (mkind, .inl (cI, 80, .inl (fun _ => 0))), (mrank, .inl (cI, 80, .inl (fun _ => 0))), (mby, .inl (cI, 80, .inl (fun _ => 0))), (mdoneIn, .inl (cI, 80, .inl (fun _ => 0))), (mbegunIn, .inl (cI, 80, .inl (fun _ => 0)))] sz)) (va_A [(h, .inr (4, [.int 0, .ref mcells, .ref mcounters, .ref mfloors, .ref mlimits, .ref mlongs, .ref msteps, .int 0, .ref mprogram, .ref mkind, .ref mrank, .ref mstate, .ref mactLong, .ref mactSteps, .ref mat, .ref mregister, .ref misHeld, .ref mdoneIn, .ref mundone, .ref mby, .ref mbegunIn, .ref misVoid, .ref misAgain, .ref mholds, .ref mwrites, .ref mgives, .ref mbelow, .ref mqueued, .ref mqueuedMany, .int 0, .ref mdone, .int 0, .int 0, .ref mlog, .int 0, .int 0, .ref morder, .ref misReached, .ref mqueue])), (mprogram, .inl (cI, 80, .inl (fun _ => 0))), (mkind, .inl (cI, 80, .inl (fun _ => 0))), (mrank, .inl (cI, 80, .inl (fun _ => 0))), (mby, .inl (cI, 80, .inl (fun _ => 0))), (mdoneIn, .inl (cI, 80, .inl (fun _ => 0))), (mbegunIn, .inl (cI, 80, .inl (fun _ => 0)))] sz)) 0 0 (va_A [(h, .inr (4, [.int 0, .ref mcells, .ref mcounters, .ref mfloors, .ref mlimits, .ref mlongs, .ref msteps, .int 0, .ref mprogram, .ref mkind, .ref mrank, .ref mstate, .ref mactLong, .ref mactSteps, .ref mat, .ref mregister, .ref misHeld, .ref mdoneIn, .ref mundone, .ref mby, .ref mbegunIn, .ref misVoid, .ref misAgain, .ref mholds, .ref mwrites, .ref mgives, .ref mbelow, .ref mqueued, .ref mqueuedMany, .int 0, .ref mdone, .int 0, .int 0, .ref mlog, .int 0, .int 0, .ref morder, .ref misReached, .ref mqueue])), (mprogram, .inl (cI, 80, .inl (fun _ => 0))), (mkind, .inl (cI, 80, .inl (fun _ => 0))), (mrank, .inl (cI, 80, .inl (fun _ => 0))), (mby, .inl (cI, 80, .inl (fun _ => 0))), (mdoneIn, .inl (cI, 80, .inl (fun _ => 0))), (mbegunIn, .inl (cI, 80, .inl (fun _ => 0)))] sz) := by
  refine Met.ofW (cc := cX4_newAct) (maxL := 5) (ret := (some .int)) (by decide) rfl ?_
  intro p e s m args below meth c s₁ B hml hv
  obtain ⟨rfl, hsz, hP, hK, hD0⟩ := hv
  have hx := B.exec
  have hb := B.bytes
  have hr := B.returns
  have hts := atoms_spec (ws := wsX4_newAct) B.pre
  have hown : s.vm.findClass RX4 = some m.cls := findClass_of_methodNamed B.named
  have hlocks := B.notSynchronized
  subst hsz
  have hD := hD0.self (sz := s.heap.size)
  generalize hAe : va_A [(h, .inr (4, [.int 0, .ref mcells, .ref mcounters, .ref mfloors, .ref mlimits, .ref mlongs, .ref msteps, .int 0, .ref mprogram, .ref mkind, .ref mrank, .ref mstate, .ref mactLong, .ref mactSteps, .ref mat, .ref mregister, .ref misHeld, .ref mdoneIn, .ref mundone, .ref mby, .ref mbegunIn, .ref misVoid, .ref misAgain, .ref mholds, .ref mwrites, .ref mgives, .ref mbelow, .ref mqueued, .ref mqueuedMany, .int 0, .ref mdone, .int 0, .int 0, .ref mlog, .int 0, .int 0, .ref morder, .ref misReached, .ref mqueue])), (mprogram, .inl (cI, 80, .inl (fun _ => 0))), (mkind, .inl (cI, 80, .inl (fun _ => 0))), (mrank, .inl (cI, 80, .inl (fun _ => 0))), (mby, .inl (cI, 80, .inl (fun _ => 0))), (mdoneIn, .inl (cI, 80, .inl (fun _ => 0))), (mbegunIn, .inl (cI, 80, .inl (fun _ => 0)))] s.heap.size = A at hD ⊢
  have hA : ∀ q : Nat, s.heap.size ≤ q → A q := fun q h => by rw [← hAe]; exact Or.inr h
  have hS : va_S A s.heap s.heap [] := va_S.rf
  have hl := lv_entry ([.ref h, .int x, .int y, .int z, .int w]) (n := 5) (Nat.le_of_ble_eq_true rfl)
  rw [lg_entry_eq]
  generalize (lg_sl ([.ref h, .int x, .int y, .int z, .int w]) ++ List.replicate (5 - (lg_sl ([.ref h, .int x, .int y, .int z, .int w])).length) Slot.unset).toArray = ls at hl ⊢
  have hl : lv_has ls 5 [(0, .ref h), (1, .int x), (2, .int y), (3, .int z), (4, .int w)] := hl
  refine lv_aload_n hx hb dX4_newAct_0 rfl (lv_at hl 0 rfl) ?_
  refine va_get (D := D) (ci := 4) (v := .int 0) (C := RX4) (T := TX4) (N := 39) hx hb hts kin_X4_newAct_X4 hown hK hP 0 rfl rfl 7 (by decide) (hts _ kw_X4_newAct__fieldLink_RX4_111_ActHouseModel_acts_I_) (fun _ h9 => h9) rfl dX4_newAct_1 ?_
  refine lv_bipush (v := 80) hx hb dX4_newAct_4 (by decide) ?_
  refine lv_icmp_ne (tgt := 11) hx hb dX4_newAct_6 (by decide) (fun c1 => ?_) (fun c1 => ?_)
  · skip
    refine lv_aload_n hx hb dX4_newAct_11 rfl (lv_at hl 0 rfl) ?_
    refine va_get (D := D) (ci := 4) (v := .ref mprogram) (C := RX4) (T := TX4) (N := 39) hx hb hts kin_X4_newAct_X4 hown hK hP 0 rfl rfl 8 (by decide) (hts _ kw_X4_newAct__fieldLink_RX4_28_ActHouseModel_program_I_) (fun _ h9 => h9) rfl dX4_newAct_12 ?_
    refine lv_aload_n hx hb dX4_newAct_15 rfl (lv_at hl 0 rfl) ?_
    refine va_get (D := D) (ci := 4) (v := .int 0) (C := RX4) (T := TX4) (N := 39) hx hb hts kin_X4_newAct_X4 hown hK hP 0 rfl rfl 7 (by decide) (hts _ kw_X4_newAct__fieldLink_RX4_111_ActHouseModel_acts_I_) (fun _ h9 => h9) rfl dX4_newAct_16 ?_
    refine lv_iload_n hx hb dX4_newAct_19 rfl (lv_at hl 1 rfl) ?_
    have hi20 : vp_in 0 80 := (k_in (by decide) (by decide))
    refine va_iast hx hb hK hP hD hS 1 0 rfl rfl hi20 dX4_newAct_20 (fun H locs hP hD hS => ?_)
    have hP : va_P D vwCl [(h, .inr (4, [.int 0, .ref mcells, .ref mcounters, .ref mfloors, .ref mlimits, .ref mlongs, .ref msteps, .int 0, .ref mprogram, .ref mkind, .ref mrank, .ref mstate, .ref mactLong, .ref mactSteps, .ref mat, .ref mregister, .ref misHeld, .ref mdoneIn, .ref mundone, .ref mby, .ref mbegunIn, .ref misVoid, .ref misAgain, .ref mholds, .ref mwrites, .ref mgives, .ref mbelow, .ref mqueued, .ref mqueuedMany, .int 0, .ref mdone, .int 0, .int 0, .ref mlog, .int 0, .int 0, .ref morder, .ref misReached, .ref mqueue])), (mprogram, .inl (cI, 80, .inl (upd (fun _ => 0) (0 : Int32).toNatClampNeg x))), (mkind, .inl (cI, 80, .inl (fun _ => 0))), (mrank, .inl (cI, 80, .inl (fun _ => 0))), (mby, .inl (cI, 80, .inl (fun _ => 0))), (mdoneIn, .inl (cI, 80, .inl (fun _ => 0))), (mbegunIn, .inl (cI, 80, .inl (fun _ => 0)))] H := hP
    have hD : va_D A [(h, .inr (4, [.int 0, .ref mcells, .ref mcounters, .ref mfloors, .ref mlimits, .ref mlongs, .ref msteps, .int 0, .ref mprogram, .ref mkind, .ref mrank, .ref mstate, .ref mactLong, .ref mactSteps, .ref mat, .ref mregister, .ref misHeld, .ref mdoneIn, .ref mundone, .ref mby, .ref mbegunIn, .ref misVoid, .ref misAgain, .ref mholds, .ref mwrites, .ref mgives, .ref mbelow, .ref mqueued, .ref mqueuedMany, .int 0, .ref mdone, .int 0, .int 0, .ref mlog, .int 0, .int 0, .ref morder, .ref misReached, .ref mqueue])), (mprogram, .inl (cI, 80, .inl (upd (fun _ => 0) (0 : Int32).toNatClampNeg x))), (mkind, .inl (cI, 80, .inl (fun _ => 0))), (mrank, .inl (cI, 80, .inl (fun _ => 0))), (mby, .inl (cI, 80, .inl (fun _ => 0))), (mdoneIn, .inl (cI, 80, .inl (fun _ => 0))), (mbegunIn, .inl (cI, 80, .inl (fun _ => 0)))] := hD
    refine lv_aload_n hx hb dX4_newAct_21 rfl (lv_at hl 0 rfl) ?_
    refine va_get (D := D) (ci := 4) (v := .ref mkind) (C := RX4) (T := TX4) (N := 39) hx hb hts kin_X4_newAct_X4 hown hK hP 0 rfl rfl 9 (by decide) (hts _ kw_X4_newAct__fieldLink_RX4_31_ActHouseModel_kind_I_) (fun _ h9 => h9) rfl dX4_newAct_22 ?_
    refine lv_aload_n hx hb dX4_newAct_25 rfl (lv_at hl 0 rfl) ?_
    refine va_get (D := D) (ci := 4) (v := .int 0) (C := RX4) (T := TX4) (N := 39) hx hb hts kin_X4_newAct_X4 hown hK hP 0 rfl rfl 7 (by decide) (hts _ kw_X4_newAct__fieldLink_RX4_111_ActHouseModel_acts_I_) (fun _ h9 => h9) rfl dX4_newAct_26 ?_
    refine lv_iload_n hx hb dX4_newAct_29 rfl (lv_at hl 2 rfl) ?_
    have hi30 : vp_in 0 80 := (k_in (by decide) (by decide))
    refine va_iast hx hb hK hP hD hS 2 0 rfl rfl hi30 dX4_newAct_30 (fun H locs hP hD hS => ?_)
    have hP : va_P D vwCl [(h, .inr (4, [.int 0, .ref mcells, .ref mcounters, .ref mfloors, .ref mlimits, .ref mlongs, .ref msteps, .int 0, .ref mprogram, .ref mkind, .ref mrank, .ref mstate, .ref mactLong, .ref mactSteps, .ref mat, .ref mregister, .ref misHeld, .ref mdoneIn, .ref mundone, .ref mby, .ref mbegunIn, .ref misVoid, .ref misAgain, .ref mholds, .ref mwrites, .ref mgives, .ref mbelow, .ref mqueued, .ref mqueuedMany, .int 0, .ref mdone, .int 0, .int 0, .ref mlog, .int 0, .int 0, .ref morder, .ref misReached, .ref mqueue])), (mprogram, .inl (cI, 80, .inl (upd (fun _ => 0) (0 : Int32).toNatClampNeg x))), (mkind, .inl (cI, 80, .inl (upd (fun _ => 0) (0 : Int32).toNatClampNeg y))), (mrank, .inl (cI, 80, .inl (fun _ => 0))), (mby, .inl (cI, 80, .inl (fun _ => 0))), (mdoneIn, .inl (cI, 80, .inl (fun _ => 0))), (mbegunIn, .inl (cI, 80, .inl (fun _ => 0)))] H := hP
    have hD : va_D A [(h, .inr (4, [.int 0, .ref mcells, .ref mcounters, .ref mfloors, .ref mlimits, .ref mlongs, .ref msteps, .int 0, .ref mprogram, .ref mkind, .ref mrank, .ref mstate, .ref mactLong, .ref mactSteps, .ref mat, .ref mregister, .ref misHeld, .ref mdoneIn, .ref mundone, .ref mby, .ref mbegunIn, .ref misVoid, .ref misAgain, .ref mholds, .ref mwrites, .ref mgives, .ref mbelow, .ref mqueued, .ref mqueuedMany, .int 0, .ref mdone, .int 0, .int 0, .ref mlog, .int 0, .int 0, .ref morder, .ref misReached, .ref mqueue])), (mprogram, .inl (cI, 80, .inl (upd (fun _ => 0) (0 : Int32).toNatClampNeg x))), (mkind, .inl (cI, 80, .inl (upd (fun _ => 0) (0 : Int32).toNatClampNeg y))), (mrank, .inl (cI, 80, .inl (fun _ => 0))), (mby, .inl (cI, 80, .inl (fun _ => 0))), (mdoneIn, .inl (cI, 80, .inl (fun _ => 0))), (mbegunIn, .inl (cI, 80, .inl (fun _ => 0)))] := hD
    refine lv_aload_n hx hb dX4_newAct_31 rfl (lv_at hl 0 rfl) ?_
    refine va_get (D := D) (ci := 4) (v := .ref mrank) (C := RX4) (T := TX4) (N := 39) hx hb hts kin_X4_newAct_X4 hown hK hP 0 rfl rfl 10 (by decide) (hts _ kw_X4_newAct__fieldLink_RX4_34_ActHouseModel_rank_I_) (fun _ h9 => h9) rfl dX4_newAct_32 ?_
    refine lv_aload_n hx hb dX4_newAct_35 rfl (lv_at hl 0 rfl) ?_
    refine va_get (D := D) (ci := 4) (v := .int 0) (C := RX4) (T := TX4) (N := 39) hx hb hts kin_X4_newAct_X4 hown hK hP 0 rfl rfl 7 (by decide) (hts _ kw_X4_newAct__fieldLink_RX4_111_ActHouseModel_acts_I_) (fun _ h9 => h9) rfl dX4_newAct_36 ?_
    refine lv_iload_n hx hb dX4_newAct_39 rfl (lv_at hl 3 rfl) ?_
    have hi40 : vp_in 0 80 := (k_in (by decide) (by decide))
    refine va_iast hx hb hK hP hD hS 3 0 rfl rfl hi40 dX4_newAct_40 (fun H locs hP hD hS => ?_)
    have hP : va_P D vwCl [(h, .inr (4, [.int 0, .ref mcells, .ref mcounters, .ref mfloors, .ref mlimits, .ref mlongs, .ref msteps, .int 0, .ref mprogram, .ref mkind, .ref mrank, .ref mstate, .ref mactLong, .ref mactSteps, .ref mat, .ref mregister, .ref misHeld, .ref mdoneIn, .ref mundone, .ref mby, .ref mbegunIn, .ref misVoid, .ref misAgain, .ref mholds, .ref mwrites, .ref mgives, .ref mbelow, .ref mqueued, .ref mqueuedMany, .int 0, .ref mdone, .int 0, .int 0, .ref mlog, .int 0, .int 0, .ref morder, .ref misReached, .ref mqueue])), (mprogram, .inl (cI, 80, .inl (upd (fun _ => 0) (0 : Int32).toNatClampNeg x))), (mkind, .inl (cI, 80, .inl (upd (fun _ => 0) (0 : Int32).toNatClampNeg y))), (mrank, .inl (cI, 80, .inl (upd (fun _ => 0) (0 : Int32).toNatClampNeg z))), (mby, .inl (cI, 80, .inl (fun _ => 0))), (mdoneIn, .inl (cI, 80, .inl (fun _ => 0))), (mbegunIn, .inl (cI, 80, .inl (fun _ => 0)))] H := hP
    have hD : va_D A [(h, .inr (4, [.int 0, .ref mcells, .ref mcounters, .ref mfloors, .ref mlimits, .ref mlongs, .ref msteps, .int 0, .ref mprogram, .ref mkind, .ref mrank, .ref mstate, .ref mactLong, .ref mactSteps, .ref mat, .ref mregister, .ref misHeld, .ref mdoneIn, .ref mundone, .ref mby, .ref mbegunIn, .ref misVoid, .ref misAgain, .ref mholds, .ref mwrites, .ref mgives, .ref mbelow, .ref mqueued, .ref mqueuedMany, .int 0, .ref mdone, .int 0, .int 0, .ref mlog, .int 0, .int 0, .ref morder, .ref misReached, .ref mqueue])), (mprogram, .inl (cI, 80, .inl (upd (fun _ => 0) (0 : Int32).toNatClampNeg x))), (mkind, .inl (cI, 80, .inl (upd (fun _ => 0) (0 : Int32).toNatClampNeg y))), (mrank, .inl (cI, 80, .inl (upd (fun _ => 0) (0 : Int32).toNatClampNeg z))), (mby, .inl (cI, 80, .inl (fun _ => 0))), (mdoneIn, .inl (cI, 80, .inl (fun _ => 0))), (mbegunIn, .inl (cI, 80, .inl (fun _ => 0)))] := hD
    refine lv_aload_n hx hb dX4_newAct_41 rfl (lv_at hl 0 rfl) ?_
    refine va_get (D := D) (ci := 4) (v := .ref mby) (C := RX4) (T := TX4) (N := 39) hx hb hts kin_X4_newAct_X4 hown hK hP 0 rfl rfl 19 (by decide) (hts _ kw_X4_newAct__fieldLink_RX4_62_ActHouseModel_by_I_) (fun _ h9 => h9) rfl dX4_newAct_42 ?_
    refine lv_aload_n hx hb dX4_newAct_45 rfl (lv_at hl 0 rfl) ?_
    refine va_get (D := D) (ci := 4) (v := .int 0) (C := RX4) (T := TX4) (N := 39) hx hb hts kin_X4_newAct_X4 hown hK hP 0 rfl rfl 7 (by decide) (hts _ kw_X4_newAct__fieldLink_RX4_111_ActHouseModel_acts_I_) (fun _ h9 => h9) rfl dX4_newAct_46 ?_
    refine lv_iload hx hb dX4_newAct_49 (lv_at hl 4 rfl) ?_
    have hi51 : vp_in 0 80 := (k_in (by decide) (by decide))
    refine va_iast hx hb hK hP hD hS 4 0 rfl rfl hi51 dX4_newAct_51 (fun H locs hP hD hS => ?_)
    have hP : va_P D vwCl [(h, .inr (4, [.int 0, .ref mcells, .ref mcounters, .ref mfloors, .ref mlimits, .ref mlongs, .ref msteps, .int 0, .ref mprogram, .ref mkind, .ref mrank, .ref mstate, .ref mactLong, .ref mactSteps, .ref mat, .ref mregister, .ref misHeld, .ref mdoneIn, .ref mundone, .ref mby, .ref mbegunIn, .ref misVoid, .ref misAgain, .ref mholds, .ref mwrites, .ref mgives, .ref mbelow, .ref mqueued, .ref mqueuedMany, .int 0, .ref mdone, .int 0, .int 0, .ref mlog, .int 0, .int 0, .ref morder, .ref misReached, .ref mqueue])), (mprogram, .inl (cI, 80, .inl (upd (fun _ => 0) (0 : Int32).toNatClampNeg x))), (mkind, .inl (cI, 80, .inl (upd (fun _ => 0) (0 : Int32).toNatClampNeg y))), (mrank, .inl (cI, 80, .inl (upd (fun _ => 0) (0 : Int32).toNatClampNeg z))), (mby, .inl (cI, 80, .inl (upd (fun _ => 0) (0 : Int32).toNatClampNeg w))), (mdoneIn, .inl (cI, 80, .inl (fun _ => 0))), (mbegunIn, .inl (cI, 80, .inl (fun _ => 0)))] H := hP
    have hD : va_D A [(h, .inr (4, [.int 0, .ref mcells, .ref mcounters, .ref mfloors, .ref mlimits, .ref mlongs, .ref msteps, .int 0, .ref mprogram, .ref mkind, .ref mrank, .ref mstate, .ref mactLong, .ref mactSteps, .ref mat, .ref mregister, .ref misHeld, .ref mdoneIn, .ref mundone, .ref mby, .ref mbegunIn, .ref misVoid, .ref misAgain, .ref mholds, .ref mwrites, .ref mgives, .ref mbelow, .ref mqueued, .ref mqueuedMany, .int 0, .ref mdone, .int 0, .int 0, .ref mlog, .int 0, .int 0, .ref morder, .ref misReached, .ref mqueue])), (mprogram, .inl (cI, 80, .inl (upd (fun _ => 0) (0 : Int32).toNatClampNeg x))), (mkind, .inl (cI, 80, .inl (upd (fun _ => 0) (0 : Int32).toNatClampNeg y))), (mrank, .inl (cI, 80, .inl (upd (fun _ => 0) (0 : Int32).toNatClampNeg z))), (mby, .inl (cI, 80, .inl (upd (fun _ => 0) (0 : Int32).toNatClampNeg w))), (mdoneIn, .inl (cI, 80, .inl (fun _ => 0))), (mbegunIn, .inl (cI, 80, .inl (fun _ => 0)))] := hD
    refine lv_aload_n hx hb dX4_newAct_52 rfl (lv_at hl 0 rfl) ?_
    refine va_get (D := D) (ci := 4) (v := .ref mdoneIn) (C := RX4) (T := TX4) (N := 39) hx hb hts kin_X4_newAct_X4 hown hK hP 0 rfl rfl 17 (by decide) (hts _ kw_X4_newAct__fieldLink_RX4_56_ActHouseModel_doneIn_I_) (fun _ h9 => h9) rfl dX4_newAct_53 ?_
    refine lv_aload_n hx hb dX4_newAct_56 rfl (lv_at hl 0 rfl) ?_
    refine va_get (D := D) (ci := 4) (v := .int 0) (C := RX4) (T := TX4) (N := 39) hx hb hts kin_X4_newAct_X4 hown hK hP 0 rfl rfl 7 (by decide) (hts _ kw_X4_newAct__fieldLink_RX4_111_ActHouseModel_acts_I_) (fun _ h9 => h9) rfl dX4_newAct_57 ?_
    refine lv_iconst (v := (-1)) hx hb dX4_newAct_60 (by decide) ?_
    have hi61 : vp_in 0 80 := (k_in (by decide) (by decide))
    refine va_iast hx hb hK hP hD hS 5 0 rfl rfl hi61 dX4_newAct_61 (fun H locs hP hD hS => ?_)
    have hP : va_P D vwCl [(h, .inr (4, [.int 0, .ref mcells, .ref mcounters, .ref mfloors, .ref mlimits, .ref mlongs, .ref msteps, .int 0, .ref mprogram, .ref mkind, .ref mrank, .ref mstate, .ref mactLong, .ref mactSteps, .ref mat, .ref mregister, .ref misHeld, .ref mdoneIn, .ref mundone, .ref mby, .ref mbegunIn, .ref misVoid, .ref misAgain, .ref mholds, .ref mwrites, .ref mgives, .ref mbelow, .ref mqueued, .ref mqueuedMany, .int 0, .ref mdone, .int 0, .int 0, .ref mlog, .int 0, .int 0, .ref morder, .ref misReached, .ref mqueue])), (mprogram, .inl (cI, 80, .inl (upd (fun _ => 0) (0 : Int32).toNatClampNeg x))), (mkind, .inl (cI, 80, .inl (upd (fun _ => 0) (0 : Int32).toNatClampNeg y))), (mrank, .inl (cI, 80, .inl (upd (fun _ => 0) (0 : Int32).toNatClampNeg z))), (mby, .inl (cI, 80, .inl (upd (fun _ => 0) (0 : Int32).toNatClampNeg w))), (mdoneIn, .inl (cI, 80, .inl (upd (fun _ => 0) (0 : Int32).toNatClampNeg (-1)))), (mbegunIn, .inl (cI, 80, .inl (fun _ => 0)))] H := hP
    have hD : va_D A [(h, .inr (4, [.int 0, .ref mcells, .ref mcounters, .ref mfloors, .ref mlimits, .ref mlongs, .ref msteps, .int 0, .ref mprogram, .ref mkind, .ref mrank, .ref mstate, .ref mactLong, .ref mactSteps, .ref mat, .ref mregister, .ref misHeld, .ref mdoneIn, .ref mundone, .ref mby, .ref mbegunIn, .ref misVoid, .ref misAgain, .ref mholds, .ref mwrites, .ref mgives, .ref mbelow, .ref mqueued, .ref mqueuedMany, .int 0, .ref mdone, .int 0, .int 0, .ref mlog, .int 0, .int 0, .ref morder, .ref misReached, .ref mqueue])), (mprogram, .inl (cI, 80, .inl (upd (fun _ => 0) (0 : Int32).toNatClampNeg x))), (mkind, .inl (cI, 80, .inl (upd (fun _ => 0) (0 : Int32).toNatClampNeg y))), (mrank, .inl (cI, 80, .inl (upd (fun _ => 0) (0 : Int32).toNatClampNeg z))), (mby, .inl (cI, 80, .inl (upd (fun _ => 0) (0 : Int32).toNatClampNeg w))), (mdoneIn, .inl (cI, 80, .inl (upd (fun _ => 0) (0 : Int32).toNatClampNeg (-1)))), (mbegunIn, .inl (cI, 80, .inl (fun _ => 0)))] := hD
    refine lv_aload_n hx hb dX4_newAct_62 rfl (lv_at hl 0 rfl) ?_
    refine va_get (D := D) (ci := 4) (v := .ref mbegunIn) (C := RX4) (T := TX4) (N := 39) hx hb hts kin_X4_newAct_X4 hown hK hP 0 rfl rfl 20 (by decide) (hts _ kw_X4_newAct__fieldLink_RX4_65_ActHouseModel_begunIn_I_) (fun _ h9 => h9) rfl dX4_newAct_63 ?_
    refine lv_aload_n hx hb dX4_newAct_66 rfl (lv_at hl 0 rfl) ?_
    refine va_get (D := D) (ci := 4) (v := .int 0) (C := RX4) (T := TX4) (N := 39) hx hb hts kin_X4_newAct_X4 hown hK hP 0 rfl rfl 7 (by decide) (hts _ kw_X4_newAct__fieldLink_RX4_111_ActHouseModel_acts_I_) (fun _ h9 => h9) rfl dX4_newAct_67 ?_
    refine lv_iconst (v := (-1)) hx hb dX4_newAct_70 (by decide) ?_
    have hi71 : vp_in 0 80 := (k_in (by decide) (by decide))
    refine va_iast hx hb hK hP hD hS 6 0 rfl rfl hi71 dX4_newAct_71 (fun H locs hP hD hS => ?_)
    have hP : va_P D vwCl [(h, .inr (4, [.int 0, .ref mcells, .ref mcounters, .ref mfloors, .ref mlimits, .ref mlongs, .ref msteps, .int 0, .ref mprogram, .ref mkind, .ref mrank, .ref mstate, .ref mactLong, .ref mactSteps, .ref mat, .ref mregister, .ref misHeld, .ref mdoneIn, .ref mundone, .ref mby, .ref mbegunIn, .ref misVoid, .ref misAgain, .ref mholds, .ref mwrites, .ref mgives, .ref mbelow, .ref mqueued, .ref mqueuedMany, .int 0, .ref mdone, .int 0, .int 0, .ref mlog, .int 0, .int 0, .ref morder, .ref misReached, .ref mqueue])), (mprogram, .inl (cI, 80, .inl (upd (fun _ => 0) (0 : Int32).toNatClampNeg x))), (mkind, .inl (cI, 80, .inl (upd (fun _ => 0) (0 : Int32).toNatClampNeg y))), (mrank, .inl (cI, 80, .inl (upd (fun _ => 0) (0 : Int32).toNatClampNeg z))), (mby, .inl (cI, 80, .inl (upd (fun _ => 0) (0 : Int32).toNatClampNeg w))), (mdoneIn, .inl (cI, 80, .inl (upd (fun _ => 0) (0 : Int32).toNatClampNeg (-1)))), (mbegunIn, .inl (cI, 80, .inl (upd (fun _ => 0) (0 : Int32).toNatClampNeg (-1))))] H := hP
    have hD : va_D A [(h, .inr (4, [.int 0, .ref mcells, .ref mcounters, .ref mfloors, .ref mlimits, .ref mlongs, .ref msteps, .int 0, .ref mprogram, .ref mkind, .ref mrank, .ref mstate, .ref mactLong, .ref mactSteps, .ref mat, .ref mregister, .ref misHeld, .ref mdoneIn, .ref mundone, .ref mby, .ref mbegunIn, .ref misVoid, .ref misAgain, .ref mholds, .ref mwrites, .ref mgives, .ref mbelow, .ref mqueued, .ref mqueuedMany, .int 0, .ref mdone, .int 0, .int 0, .ref mlog, .int 0, .int 0, .ref morder, .ref misReached, .ref mqueue])), (mprogram, .inl (cI, 80, .inl (upd (fun _ => 0) (0 : Int32).toNatClampNeg x))), (mkind, .inl (cI, 80, .inl (upd (fun _ => 0) (0 : Int32).toNatClampNeg y))), (mrank, .inl (cI, 80, .inl (upd (fun _ => 0) (0 : Int32).toNatClampNeg z))), (mby, .inl (cI, 80, .inl (upd (fun _ => 0) (0 : Int32).toNatClampNeg w))), (mdoneIn, .inl (cI, 80, .inl (upd (fun _ => 0) (0 : Int32).toNatClampNeg (-1)))), (mbegunIn, .inl (cI, 80, .inl (upd (fun _ => 0) (0 : Int32).toNatClampNeg (-1))))] := hD
    refine lv_aload_n hx hb dX4_newAct_72 rfl (lv_at hl 0 rfl) ?_
    refine lv_dup hx hb dX4_newAct_73 rfl ?_
    refine va_get (D := D) (ci := 4) (v := .int 0) (C := RX4) (T := TX4) (N := 39) hx hb hts kin_X4_newAct_X4 hown hK hP 0 rfl rfl 7 (by decide) (hts _ kw_X4_newAct__fieldLink_RX4_111_ActHouseModel_acts_I_) (fun _ h9 => h9) rfl dX4_newAct_74 ?_
    refine lv_iconst (v := 1) hx hb dX4_newAct_77 (by decide) ?_
    refine lv_iadd hx hb dX4_newAct_78 ?_
    refine W.eq (g2 := F0 m 79 ls [.int 1, .ref h]) (by first | rfl | (congr 2; decide)) ?_
    refine va_put (D := D) (ci := 4) (v := .int 1) (ty := .int) (C := RX4) (T := TX4) (N := 39) hx hb hts kin_X4_newAct_X4 tyX4 tyX4_ok nmX4 hown hK hP hD hS 0 rfl rfl 7 (by decide) (hts _ kw_X4_newAct__fieldLink_RX4_111_ActHouseModel_acts_I_) (fun _ h9 => h9) rfl (by decide +kernel) rfl rfl (Nat.le_of_ble_eq_true rfl) dX4_newAct_79 (fun H locs hP hD hS => ?_)
    have hP : va_P D vwCl [(h, .inr (4, [.int 0, .ref mcells, .ref mcounters, .ref mfloors, .ref mlimits, .ref mlongs, .ref msteps, .int 1, .ref mprogram, .ref mkind, .ref mrank, .ref mstate, .ref mactLong, .ref mactSteps, .ref mat, .ref mregister, .ref misHeld, .ref mdoneIn, .ref mundone, .ref mby, .ref mbegunIn, .ref misVoid, .ref misAgain, .ref mholds, .ref mwrites, .ref mgives, .ref mbelow, .ref mqueued, .ref mqueuedMany, .int 0, .ref mdone, .int 0, .int 0, .ref mlog, .int 0, .int 0, .ref morder, .ref misReached, .ref mqueue])), (mprogram, .inl (cI, 80, .inl (upd (fun _ => 0) (0 : Int32).toNatClampNeg x))), (mkind, .inl (cI, 80, .inl (upd (fun _ => 0) (0 : Int32).toNatClampNeg y))), (mrank, .inl (cI, 80, .inl (upd (fun _ => 0) (0 : Int32).toNatClampNeg z))), (mby, .inl (cI, 80, .inl (upd (fun _ => 0) (0 : Int32).toNatClampNeg w))), (mdoneIn, .inl (cI, 80, .inl (upd (fun _ => 0) (0 : Int32).toNatClampNeg (-1)))), (mbegunIn, .inl (cI, 80, .inl (upd (fun _ => 0) (0 : Int32).toNatClampNeg (-1))))] H := hP
    have hD : va_D A [(h, .inr (4, [.int 0, .ref mcells, .ref mcounters, .ref mfloors, .ref mlimits, .ref mlongs, .ref msteps, .int 1, .ref mprogram, .ref mkind, .ref mrank, .ref mstate, .ref mactLong, .ref mactSteps, .ref mat, .ref mregister, .ref misHeld, .ref mdoneIn, .ref mundone, .ref mby, .ref mbegunIn, .ref misVoid, .ref misAgain, .ref mholds, .ref mwrites, .ref mgives, .ref mbelow, .ref mqueued, .ref mqueuedMany, .int 0, .ref mdone, .int 0, .int 0, .ref mlog, .int 0, .int 0, .ref morder, .ref misReached, .ref mqueue])), (mprogram, .inl (cI, 80, .inl (upd (fun _ => 0) (0 : Int32).toNatClampNeg x))), (mkind, .inl (cI, 80, .inl (upd (fun _ => 0) (0 : Int32).toNatClampNeg y))), (mrank, .inl (cI, 80, .inl (upd (fun _ => 0) (0 : Int32).toNatClampNeg z))), (mby, .inl (cI, 80, .inl (upd (fun _ => 0) (0 : Int32).toNatClampNeg w))), (mdoneIn, .inl (cI, 80, .inl (upd (fun _ => 0) (0 : Int32).toNatClampNeg (-1)))), (mbegunIn, .inl (cI, 80, .inl (upd (fun _ => 0) (0 : Int32).toNatClampNeg (-1))))] := hD
    refine lv_aload_n hx hb dX4_newAct_82 rfl (lv_at hl 0 rfl) ?_
    refine va_get (D := D) (ci := 4) (v := .int 1) (C := RX4) (T := TX4) (N := 39) hx hb hts kin_X4_newAct_X4 hown hK hP 0 rfl rfl 7 (by decide) (hts _ kw_X4_newAct__fieldLink_RX4_111_ActHouseModel_acts_I_) (fun _ h9 => h9) rfl dX4_newAct_83 ?_
    refine lv_iconst (v := 1) hx hb dX4_newAct_86 (by decide) ?_
    refine lv_isub hx hb dX4_newAct_87 ?_
    refine W.eq (g2 := F0 m 88 ls [.int 0]) (by first | rfl | (congr 2; decide)) ?_
    have hP := hP.sub (ws' := []) [] rfl
    have hD := hD.sub (ws' := []) [] (by decide) rfl
    have hK := hK.sub (tys' := [(cI, .int)]) [0] rfl
    refine W.widen (k := 0) (n := 0) (by decide) (by decide) ?_
    exact W.iret (v := 0) hx hb hr (fun t ht hW => ⟨⟨0, ([], [(cI, .int)]), rfl, ⟨rfl, rfl⟩, ⟨by rw [ht]; exact hP, va_K.moved hW.alike hK, hD⟩⟩, hS.F ht⟩) hS.2.2 dX4_newAct_88
  · skip
    exact absurd c1 (by decide)
set_option maxHeartbeats 4000000 in
set_option maxRecDepth 100000 in
theorem c_X4_act {l : Launch} {D : va_G} {sz : Nat} {h : Nat} {mcells : Nat} {mcounters : Nat} {mfloors : Nat} {mlimits : Nat} {mlongs : Nat} {msteps : Nat} {mprogram : Nat} {mkind : Nat} {mrank : Nat} {mstate : Nat} {mactLong : Nat} {mactSteps : Nat} {mat : Nat} {mregister : Nat} {misHeld : Nat} {mdoneIn : Nat} {mundone : Nat} {mby : Nat} {mbegunIn : Nat} {misVoid : Nat} {misAgain : Nat} {mholds : Nat} {mwrites : Nat} {mgives : Nat} {mbelow : Nat} {mqueued : Nat} {mqueuedMany : Nat} {mdone : Nat} {mlog : Nat} {morder : Nat} {misReached : Nat} {mqueue : Nat} {x : Int32} {y : Int32} {z : Int32} {cI : ClassId}  : Met l yX4_act wsX4_act ({ frames := 2, cells := 0, slots := 0, locals := 42 }) (va_Pc [.ref h, .int x, .int y, .int z] (k_Pre D [(cI, .int)] [(h, .inr (4, [.int 0, .ref mcells, .ref mcounters, .ref mfloors, .ref mlimits, .ref mlongs, .ref msteps, .int 0, .ref mprogram, .ref mkind, .ref mrank, .ref mstate, .ref mactLong, .ref mactSteps, .ref mat, .ref mregister, .ref misHeld, .ref mdoneIn, .ref mundone, .ref mby, .ref mbegunIn, .ref misVoid, .ref misAgain, .ref mholds, .ref mwrites, .ref mgives, .ref mbelow, .ref mqueued, .ref mqueuedMany, .int 0, .ref mdone, .int 0, .int 0, .ref mlog, .int 0, .int 0, .ref morder, .ref misReached, .ref mqueue])), (mprogram, .inl (cI, 80, .inl (fun _ => 0))), (mkind, .inl (cI, 80, .inl (fun _ => 0))), (mrank, .inl (cI, 80, .inl (fun _ => 0))), (mby, .inl (cI, 80, .inl (fun _ => 0))), (mdoneIn, .inl (cI, 80, .inl (fun _ => 0))), (mbegunIn, .inl (cI, 80, .inl (fun _ => 0)))] sz)) (va_Qi (fun (r : Int32) (u : va_W × List (ClassId × FieldType)) => (r = 0 ∧ u = ([], [(cI, .int)]) ∧ 0 ≤ x.toInt ∧ x.toInt ≤ 7 ∧ 0 ≤ y.toInt ∧ y.toInt ≤ 3 ∧ 0 ≤ z.toInt ∧ z.toInt ≤ 9) ∨ (r = (-1) ∧ u = ([], [(cI, .int)]) ∧ (x.toInt < 0 ∨ 7 < x.toInt ∨ y.toInt < 0 ∨ 3 < y.toInt ∨ z.toInt < 0 ∨ 9 < z.toInt))) (k_B D (va_A [(h, .inr (4, [.int 0, .ref mcells, .ref mcounters, .ref mfloors, .ref mlimits, .ref mlongs, .ref msteps, .int 0, .ref mprogram, .ref mkind, .ref mrank, .ref mstate, .ref mactLong, .ref mactSteps, .ref mat, .ref mregister, .ref misHeld, .ref mdoneIn, .ref mundone, .ref mby, .ref mbegunIn, .ref misVoid, .ref misAgain, .ref mholds, .ref mwrites, .ref mgives, .ref mbelow, .ref mqueued, .ref mqueuedMany, .int 0, .ref mdone, .int 0, .int 0, .ref mlog, .int 0, .int 0, .ref morder, .ref misReached, .ref mqueue])), (mprogram, .inl (cI, 80, .inl (fun _ => 0))), (mkind, .inl (cI, 80, .inl (fun _ => 0))), (mrank, .inl (cI, 80, .inl (fun _ => 0))), (mby, .inl (cI, 80, .inl (fun _ => 0))), (mdoneIn, .inl (cI, 80, .inl (fun _ => 0))), (mbegunIn, .inl (cI, 80, .inl (fun _ => 0)))] sz)) (va_A [(h, .inr (4, [.int 0, .ref mcells, .ref mcounters, .ref mfloors, .ref mlimits, .ref mlongs, .ref msteps, .int 0, .ref mprogram, .ref mkind, .ref mrank, .ref mstate, .ref mactLong, .ref mactSteps, .ref mat, .ref mregister, .ref misHeld, .ref mdoneIn, .ref mundone, .ref mby, .ref mbegunIn, .ref misVoid, .ref misAgain, .ref mholds, .ref mwrites, .ref mgives, .ref mbelow, .ref mqueued, .ref mqueuedMany, .int 0, .ref mdone, .int 0, .int 0, .ref mlog, .int 0, .int 0, .ref morder, .ref misReached, .ref mqueue])), (mprogram, .inl (cI, 80, .inl (fun _ => 0))), (mkind, .inl (cI, 80, .inl (fun _ => 0))), (mrank, .inl (cI, 80, .inl (fun _ => 0))), (mby, .inl (cI, 80, .inl (fun _ => 0))), (mdoneIn, .inl (cI, 80, .inl (fun _ => 0))), (mbegunIn, .inl (cI, 80, .inl (fun _ => 0)))] sz)) 0 0 (va_A [(h, .inr (4, [.int 0, .ref mcells, .ref mcounters, .ref mfloors, .ref mlimits, .ref mlongs, .ref msteps, .int 0, .ref mprogram, .ref mkind, .ref mrank, .ref mstate, .ref mactLong, .ref mactSteps, .ref mat, .ref mregister, .ref misHeld, .ref mdoneIn, .ref mundone, .ref mby, .ref mbegunIn, .ref misVoid, .ref misAgain, .ref mholds, .ref mwrites, .ref mgives, .ref mbelow, .ref mqueued, .ref mqueuedMany, .int 0, .ref mdone, .int 0, .int 0, .ref mlog, .int 0, .int 0, .ref morder, .ref misReached, .ref mqueue])), (mprogram, .inl (cI, 80, .inl (fun _ => 0))), (mkind, .inl (cI, 80, .inl (fun _ => 0))), (mrank, .inl (cI, 80, .inl (fun _ => 0))), (mby, .inl (cI, 80, .inl (fun _ => 0))), (mdoneIn, .inl (cI, 80, .inl (fun _ => 0))), (mbegunIn, .inl (cI, 80, .inl (fun _ => 0)))] sz) := by
  refine Met.ofW (cc := cX4_act) (maxL := 4) (ret := (some .int)) (by decide) rfl ?_
  intro p e s m args below meth c s₁ B hml hv
  obtain ⟨rfl, hsz, hP, hK, hD0⟩ := hv
  have hx := B.exec
  have hb := B.bytes
  have hr := B.returns
  have hts := atoms_spec (ws := wsX4_act) B.pre
  have hown : s.vm.findClass RX4 = some m.cls := findClass_of_methodNamed B.named
  have hlocks := B.notSynchronized
  subst hsz
  have hD := hD0.self (sz := s.heap.size)
  generalize hAe : va_A [(h, .inr (4, [.int 0, .ref mcells, .ref mcounters, .ref mfloors, .ref mlimits, .ref mlongs, .ref msteps, .int 0, .ref mprogram, .ref mkind, .ref mrank, .ref mstate, .ref mactLong, .ref mactSteps, .ref mat, .ref mregister, .ref misHeld, .ref mdoneIn, .ref mundone, .ref mby, .ref mbegunIn, .ref misVoid, .ref misAgain, .ref mholds, .ref mwrites, .ref mgives, .ref mbelow, .ref mqueued, .ref mqueuedMany, .int 0, .ref mdone, .int 0, .int 0, .ref mlog, .int 0, .int 0, .ref morder, .ref misReached, .ref mqueue])), (mprogram, .inl (cI, 80, .inl (fun _ => 0))), (mkind, .inl (cI, 80, .inl (fun _ => 0))), (mrank, .inl (cI, 80, .inl (fun _ => 0))), (mby, .inl (cI, 80, .inl (fun _ => 0))), (mdoneIn, .inl (cI, 80, .inl (fun _ => 0))), (mbegunIn, .inl (cI, 80, .inl (fun _ => 0)))] s.heap.size = A at hD ⊢
  have hA : ∀ q : Nat, s.heap.size ≤ q → A q := fun q h => by rw [← hAe]; exact Or.inr h
  have hS : va_S A s.heap s.heap [] := va_S.rf
  have hl := lv_entry ([.ref h, .int x, .int y, .int z]) (n := 4) (Nat.le_of_ble_eq_true rfl)
  rw [lg_entry_eq]
  generalize (lg_sl ([.ref h, .int x, .int y, .int z]) ++ List.replicate (4 - (lg_sl ([.ref h, .int x, .int y, .int z])).length) Slot.unset).toArray = ls at hl ⊢
  have hl : lv_has ls 4 [(0, .ref h), (1, .int x), (2, .int y), (3, .int z)] := hl
  refine lv_iload_n hx hb dX4_act_0 rfl (lv_at hl 1 rfl) ?_
  have hPc := hP.sub (ws' := []) [] rfl
  have hDc := hD.sub (ws' := []) [] (by decide) rfl
  have hKc := hK.sub (tys' := []) [] rfl
  have hFc := va_free (wc := []) hD hS hA [] rfl
  refine va_calli (va_runS (As := [.int x]) (rest := []) ⟨hx, hb, hml, hown, hts⟩ (c_X4_isProgram (l := l) (D := D) (x := x) ) (va_cwS 1 hts gX4_act_X4_isProgram rfl rfl rfl (by decide +kernel) ⟨Nat.le_of_ble_eq_true rfl, Nat.le_of_ble_eq_true rfl⟩) ⟨k_blind, fun U hU hW => ⟨rfl, k_pre hU hW hPc hKc hDc⟩⟩ rfl rfl hl.1 rfl (lv_room (Nat.le_of_ble_eq_true rfl)) dX4_act_1 ⟨by decide, by decide⟩) hS (fun q _ h => hFc q h) hFc (fun r1 u t H1 locs ht hvm hw hB hz1 hk1 hS => ?_)
  refine W.widen (k := 0) (n := 0) (Nat.le_refl _) (Nat.le_refl _) ?_
  rcases hw with ⟨rfl, rfl, ha_1, hb_1⟩ | ⟨rfl, rfl, ha_1⟩
  · skip
    obtain ⟨hP1, hK1, hD1⟩ := hB
    rw [ht] at hP1
    have hK1 := va_K.moved hvm.symm hK1
    obtain ⟨hP, hD⟩ := va_join (wr := [(h, .inr (4, [.int 0, .ref mcells, .ref mcounters, .ref mfloors, .ref mlimits, .ref mlongs, .ref msteps, .int 0, .ref mprogram, .ref mkind, .ref mrank, .ref mstate, .ref mactLong, .ref mactSteps, .ref mat, .ref mregister, .ref misHeld, .ref mdoneIn, .ref mundone, .ref mby, .ref mbegunIn, .ref misVoid, .ref misAgain, .ref mholds, .ref mwrites, .ref mgives, .ref mbelow, .ref mqueued, .ref mqueuedMany, .int 0, .ref mdone, .int 0, .int 0, .ref mlog, .int 0, .int 0, .ref morder, .ref misReached, .ref mqueue])), (mprogram, .inl (cI, 80, .inl (fun _ => 0))), (mkind, .inl (cI, 80, .inl (fun _ => 0))), (mrank, .inl (cI, 80, .inl (fun _ => 0))), (mby, .inl (cI, 80, .inl (fun _ => 0))), (mdoneIn, .inl (cI, 80, .inl (fun _ => 0))), (mbegunIn, .inl (cI, 80, .inl (fun _ => 0)))]) (w1 := []) hP hD [] [0, 1, 2, 3, 4, 5, 6] rfl rfl (by decide) (by decide) hk1 hFc hP1 hD1
    generalize H1 = H at hP hS ⊢
    have hP : va_P D vwCl [(h, .inr (4, [.int 0, .ref mcells, .ref mcounters, .ref mfloors, .ref mlimits, .ref mlongs, .ref msteps, .int 0, .ref mprogram, .ref mkind, .ref mrank, .ref mstate, .ref mactLong, .ref mactSteps, .ref mat, .ref mregister, .ref misHeld, .ref mdoneIn, .ref mundone, .ref mby, .ref mbegunIn, .ref misVoid, .ref misAgain, .ref mholds, .ref mwrites, .ref mgives, .ref mbelow, .ref mqueued, .ref mqueuedMany, .int 0, .ref mdone, .int 0, .int 0, .ref mlog, .int 0, .int 0, .ref morder, .ref misReached, .ref mqueue])), (mprogram, .inl (cI, 80, .inl (fun _ => 0))), (mkind, .inl (cI, 80, .inl (fun _ => 0))), (mrank, .inl (cI, 80, .inl (fun _ => 0))), (mby, .inl (cI, 80, .inl (fun _ => 0))), (mdoneIn, .inl (cI, 80, .inl (fun _ => 0))), (mbegunIn, .inl (cI, 80, .inl (fun _ => 0)))] H := hP
    have hD : va_D A [(h, .inr (4, [.int 0, .ref mcells, .ref mcounters, .ref mfloors, .ref mlimits, .ref mlongs, .ref msteps, .int 0, .ref mprogram, .ref mkind, .ref mrank, .ref mstate, .ref mactLong, .ref mactSteps, .ref mat, .ref mregister, .ref misHeld, .ref mdoneIn, .ref mundone, .ref mby, .ref mbegunIn, .ref misVoid, .ref misAgain, .ref mholds, .ref mwrites, .ref mgives, .ref mbelow, .ref mqueued, .ref mqueuedMany, .int 0, .ref mdone, .int 0, .int 0, .ref mlog, .int 0, .int 0, .ref morder, .ref misReached, .ref mqueue])), (mprogram, .inl (cI, 80, .inl (fun _ => 0))), (mkind, .inl (cI, 80, .inl (fun _ => 0))), (mrank, .inl (cI, 80, .inl (fun _ => 0))), (mby, .inl (cI, 80, .inl (fun _ => 0))), (mdoneIn, .inl (cI, 80, .inl (fun _ => 0))), (mbegunIn, .inl (cI, 80, .inl (fun _ => 0)))] := hD
    refine lv_if_eq (tgt := 37) hx hb dX4_act_4 (by decide) (fun c2 => ?_) (fun c2 => ?_)
    · skip
      exact absurd c2 (by decide)
    · skip
      refine lv_iload_n hx hb dX4_act_7 rfl (lv_at hl 2 rfl) ?_
      refine lv_iconst (v := 0) hx hb dX4_act_8 (by decide) ?_
      refine lv_iconst (v := 3) hx hb dX4_act_9 (by decide) ?_
      have hPc := hP.sub (ws' := []) [] rfl
      have hDc := hD.sub (ws' := []) [] (by decide) rfl
      have hKc := hK.sub (tys' := []) [] rfl
      have hFc := va_free (wc := []) hD hS hA [] rfl
      refine va_calli (va_runS (As := [.int y, .int 0, .int 3]) (rest := []) ⟨hx, hb, hml, hown, hts⟩ (c_X4_in (l := l) (D := D) (x := y) (y := 0) (z := 3) ) (va_cwS 3 hts gX4_act_X4_in rfl rfl rfl (by decide +kernel) ⟨Nat.le_of_ble_eq_true rfl, Nat.le_of_ble_eq_true rfl⟩) ⟨k_blind, fun U hU hW => ⟨rfl, k_pre hU hW hPc hKc hDc⟩⟩ rfl rfl hl.1 rfl (lv_room (Nat.le_of_ble_eq_true rfl)) dX4_act_10 ⟨by decide, by decide⟩) hS (fun q _ h => hFc q h) hFc (fun r3 u t H1 locs ht hvm hw hB hz1 hk1 hS => ?_)
      refine W.widen (k := 0) (n := 0) (Nat.le_refl _) (Nat.le_refl _) ?_
      have hl0 : (0 : Int32).toInt = 0 := by decide
      have hl3 : (3 : Int32).toInt = 3 := by decide
      rcases hw with ⟨rfl, rfl, ha_3, hb_3⟩ | ⟨rfl, rfl, ha_3⟩
      · skip
        obtain ⟨hP1, hK1, hD1⟩ := hB
        rw [ht] at hP1
        have hK1 := va_K.moved hvm.symm hK1
        obtain ⟨hP, hD⟩ := va_join (wr := [(h, .inr (4, [.int 0, .ref mcells, .ref mcounters, .ref mfloors, .ref mlimits, .ref mlongs, .ref msteps, .int 0, .ref mprogram, .ref mkind, .ref mrank, .ref mstate, .ref mactLong, .ref mactSteps, .ref mat, .ref mregister, .ref misHeld, .ref mdoneIn, .ref mundone, .ref mby, .ref mbegunIn, .ref misVoid, .ref misAgain, .ref mholds, .ref mwrites, .ref mgives, .ref mbelow, .ref mqueued, .ref mqueuedMany, .int 0, .ref mdone, .int 0, .int 0, .ref mlog, .int 0, .int 0, .ref morder, .ref misReached, .ref mqueue])), (mprogram, .inl (cI, 80, .inl (fun _ => 0))), (mkind, .inl (cI, 80, .inl (fun _ => 0))), (mrank, .inl (cI, 80, .inl (fun _ => 0))), (mby, .inl (cI, 80, .inl (fun _ => 0))), (mdoneIn, .inl (cI, 80, .inl (fun _ => 0))), (mbegunIn, .inl (cI, 80, .inl (fun _ => 0)))]) (w1 := []) hP hD [] [0, 1, 2, 3, 4, 5, 6] rfl rfl (by decide) (by decide) hk1 hFc hP1 hD1
        generalize H1 = H at hP hS ⊢
        have hP : va_P D vwCl [(h, .inr (4, [.int 0, .ref mcells, .ref mcounters, .ref mfloors, .ref mlimits, .ref mlongs, .ref msteps, .int 0, .ref mprogram, .ref mkind, .ref mrank, .ref mstate, .ref mactLong, .ref mactSteps, .ref mat, .ref mregister, .ref misHeld, .ref mdoneIn, .ref mundone, .ref mby, .ref mbegunIn, .ref misVoid, .ref misAgain, .ref mholds, .ref mwrites, .ref mgives, .ref mbelow, .ref mqueued, .ref mqueuedMany, .int 0, .ref mdone, .int 0, .int 0, .ref mlog, .int 0, .int 0, .ref morder, .ref misReached, .ref mqueue])), (mprogram, .inl (cI, 80, .inl (fun _ => 0))), (mkind, .inl (cI, 80, .inl (fun _ => 0))), (mrank, .inl (cI, 80, .inl (fun _ => 0))), (mby, .inl (cI, 80, .inl (fun _ => 0))), (mdoneIn, .inl (cI, 80, .inl (fun _ => 0))), (mbegunIn, .inl (cI, 80, .inl (fun _ => 0)))] H := hP
        have hD : va_D A [(h, .inr (4, [.int 0, .ref mcells, .ref mcounters, .ref mfloors, .ref mlimits, .ref mlongs, .ref msteps, .int 0, .ref mprogram, .ref mkind, .ref mrank, .ref mstate, .ref mactLong, .ref mactSteps, .ref mat, .ref mregister, .ref misHeld, .ref mdoneIn, .ref mundone, .ref mby, .ref mbegunIn, .ref misVoid, .ref misAgain, .ref mholds, .ref mwrites, .ref mgives, .ref mbelow, .ref mqueued, .ref mqueuedMany, .int 0, .ref mdone, .int 0, .int 0, .ref mlog, .int 0, .int 0, .ref morder, .ref misReached, .ref mqueue])), (mprogram, .inl (cI, 80, .inl (fun _ => 0))), (mkind, .inl (cI, 80, .inl (fun _ => 0))), (mrank, .inl (cI, 80, .inl (fun _ => 0))), (mby, .inl (cI, 80, .inl (fun _ => 0))), (mdoneIn, .inl (cI, 80, .inl (fun _ => 0))), (mbegunIn, .inl (cI, 80, .inl (fun _ => 0)))] := hD
        refine lv_if_eq (tgt := 37) hx hb dX4_act_13 (by decide) (fun c4 => ?_) (fun c4 => ?_)
        · skip
          exact absurd c4 (by decide)
        · skip
          refine lv_iload_n hx hb dX4_act_16 rfl (lv_at hl 3 rfl) ?_
          refine lv_iconst (v := 0) hx hb dX4_act_17 (by decide) ?_
          refine lv_bipush (v := 9) hx hb dX4_act_18 (by decide) ?_
          have hPc := hP.sub (ws' := []) [] rfl
          have hDc := hD.sub (ws' := []) [] (by decide) rfl
          have hKc := hK.sub (tys' := []) [] rfl
          have hFc := va_free (wc := []) hD hS hA [] rfl
          refine va_calli (va_runS (As := [.int z, .int 0, .int 9]) (rest := []) ⟨hx, hb, hml, hown, hts⟩ (c_X4_in (l := l) (D := D) (x := z) (y := 0) (z := 9) ) (va_cwS 3 hts gX4_act_X4_in rfl rfl rfl (by decide +kernel) ⟨Nat.le_of_ble_eq_true rfl, Nat.le_of_ble_eq_true rfl⟩) ⟨k_blind, fun U hU hW => ⟨rfl, k_pre hU hW hPc hKc hDc⟩⟩ rfl rfl hl.1 rfl (lv_room (Nat.le_of_ble_eq_true rfl)) dX4_act_20 ⟨by decide, by decide⟩) hS (fun q _ h => hFc q h) hFc (fun r5 u t H1 locs ht hvm hw hB hz1 hk1 hS => ?_)
          refine W.widen (k := 0) (n := 0) (Nat.le_refl _) (Nat.le_refl _) ?_
          have hl0 : (0 : Int32).toInt = 0 := by decide
          have hl9 : (9 : Int32).toInt = 9 := by decide
          rcases hw with ⟨rfl, rfl, ha_5, hb_5⟩ | ⟨rfl, rfl, ha_5⟩
          · skip
            obtain ⟨hP1, hK1, hD1⟩ := hB
            rw [ht] at hP1
            have hK1 := va_K.moved hvm.symm hK1
            obtain ⟨hP, hD⟩ := va_join (wr := [(h, .inr (4, [.int 0, .ref mcells, .ref mcounters, .ref mfloors, .ref mlimits, .ref mlongs, .ref msteps, .int 0, .ref mprogram, .ref mkind, .ref mrank, .ref mstate, .ref mactLong, .ref mactSteps, .ref mat, .ref mregister, .ref misHeld, .ref mdoneIn, .ref mundone, .ref mby, .ref mbegunIn, .ref misVoid, .ref misAgain, .ref mholds, .ref mwrites, .ref mgives, .ref mbelow, .ref mqueued, .ref mqueuedMany, .int 0, .ref mdone, .int 0, .int 0, .ref mlog, .int 0, .int 0, .ref morder, .ref misReached, .ref mqueue])), (mprogram, .inl (cI, 80, .inl (fun _ => 0))), (mkind, .inl (cI, 80, .inl (fun _ => 0))), (mrank, .inl (cI, 80, .inl (fun _ => 0))), (mby, .inl (cI, 80, .inl (fun _ => 0))), (mdoneIn, .inl (cI, 80, .inl (fun _ => 0))), (mbegunIn, .inl (cI, 80, .inl (fun _ => 0)))]) (w1 := []) hP hD [] [0, 1, 2, 3, 4, 5, 6] rfl rfl (by decide) (by decide) hk1 hFc hP1 hD1
            generalize H1 = H at hP hS ⊢
            have hP : va_P D vwCl [(h, .inr (4, [.int 0, .ref mcells, .ref mcounters, .ref mfloors, .ref mlimits, .ref mlongs, .ref msteps, .int 0, .ref mprogram, .ref mkind, .ref mrank, .ref mstate, .ref mactLong, .ref mactSteps, .ref mat, .ref mregister, .ref misHeld, .ref mdoneIn, .ref mundone, .ref mby, .ref mbegunIn, .ref misVoid, .ref misAgain, .ref mholds, .ref mwrites, .ref mgives, .ref mbelow, .ref mqueued, .ref mqueuedMany, .int 0, .ref mdone, .int 0, .int 0, .ref mlog, .int 0, .int 0, .ref morder, .ref misReached, .ref mqueue])), (mprogram, .inl (cI, 80, .inl (fun _ => 0))), (mkind, .inl (cI, 80, .inl (fun _ => 0))), (mrank, .inl (cI, 80, .inl (fun _ => 0))), (mby, .inl (cI, 80, .inl (fun _ => 0))), (mdoneIn, .inl (cI, 80, .inl (fun _ => 0))), (mbegunIn, .inl (cI, 80, .inl (fun _ => 0)))] H := hP
            have hD : va_D A [(h, .inr (4, [.int 0, .ref mcells, .ref mcounters, .ref mfloors, .ref mlimits, .ref mlongs, .ref msteps, .int 0, .ref mprogram, .ref mkind, .ref mrank, .ref mstate, .ref mactLong, .ref mactSteps, .ref mat, .ref mregister, .ref misHeld, .ref mdoneIn, .ref mundone, .ref mby, .ref mbegunIn, .ref misVoid, .ref misAgain, .ref mholds, .ref mwrites, .ref mgives, .ref mbelow, .ref mqueued, .ref mqueuedMany, .int 0, .ref mdone, .int 0, .int 0, .ref mlog, .int 0, .int 0, .ref morder, .ref misReached, .ref mqueue])), (mprogram, .inl (cI, 80, .inl (fun _ => 0))), (mkind, .inl (cI, 80, .inl (fun _ => 0))), (mrank, .inl (cI, 80, .inl (fun _ => 0))), (mby, .inl (cI, 80, .inl (fun _ => 0))), (mdoneIn, .inl (cI, 80, .inl (fun _ => 0))), (mbegunIn, .inl (cI, 80, .inl (fun _ => 0)))] := hD
            refine lv_if_eq (tgt := 37) hx hb dX4_act_23 (by decide) (fun c6 => ?_) (fun c6 => ?_)
            · skip
              exact absurd c6 (by decide)
            · skip
              refine lv_aload_n hx hb dX4_act_26 rfl (lv_at hl 0 rfl) ?_
              refine lv_iload_n hx hb dX4_act_27 rfl (lv_at hl 1 rfl) ?_
              refine lv_iload_n hx hb dX4_act_28 rfl (lv_at hl 2 rfl) ?_
              refine lv_iload_n hx hb dX4_act_29 rfl (lv_at hl 3 rfl) ?_
              refine lv_iconst (v := (-1)) hx hb dX4_act_30 (by decide) ?_
              have hPc := hP.sub (ws' := [(h, .inr (4, [.int 0, .ref mcells, .ref mcounters, .ref mfloors, .ref mlimits, .ref mlongs, .ref msteps, .int 0, .ref mprogram, .ref mkind, .ref mrank, .ref mstate, .ref mactLong, .ref mactSteps, .ref mat, .ref mregister, .ref misHeld, .ref mdoneIn, .ref mundone, .ref mby, .ref mbegunIn, .ref misVoid, .ref misAgain, .ref mholds, .ref mwrites, .ref mgives, .ref mbelow, .ref mqueued, .ref mqueuedMany, .int 0, .ref mdone, .int 0, .int 0, .ref mlog, .int 0, .int 0, .ref morder, .ref misReached, .ref mqueue])), (mprogram, .inl (cI, 80, .inl (fun _ => 0))), (mkind, .inl (cI, 80, .inl (fun _ => 0))), (mrank, .inl (cI, 80, .inl (fun _ => 0))), (mby, .inl (cI, 80, .inl (fun _ => 0))), (mdoneIn, .inl (cI, 80, .inl (fun _ => 0))), (mbegunIn, .inl (cI, 80, .inl (fun _ => 0)))]) [0, 1, 2, 3, 4, 5, 6] rfl
              have hDc := hD.sub (ws' := [(h, .inr (4, [.int 0, .ref mcells, .ref mcounters, .ref mfloors, .ref mlimits, .ref mlongs, .ref msteps, .int 0, .ref mprogram, .ref mkind, .ref mrank, .ref mstate, .ref mactLong, .ref mactSteps, .ref mat, .ref mregister, .ref misHeld, .ref mdoneIn, .ref mundone, .ref mby, .ref mbegunIn, .ref misVoid, .ref misAgain, .ref mholds, .ref mwrites, .ref mgives, .ref mbelow, .ref mqueued, .ref mqueuedMany, .int 0, .ref mdone, .int 0, .int 0, .ref mlog, .int 0, .int 0, .ref morder, .ref misReached, .ref mqueue])), (mprogram, .inl (cI, 80, .inl (fun _ => 0))), (mkind, .inl (cI, 80, .inl (fun _ => 0))), (mrank, .inl (cI, 80, .inl (fun _ => 0))), (mby, .inl (cI, 80, .inl (fun _ => 0))), (mdoneIn, .inl (cI, 80, .inl (fun _ => 0))), (mbegunIn, .inl (cI, 80, .inl (fun _ => 0)))]) [0, 1, 2, 3, 4, 5, 6] (by decide) rfl
              have hKc := hK.sub (tys' := [(cI, .int)]) [0] rfl
              have hFc := va_free (wc := [(h, .inr (4, [.int 0, .ref mcells, .ref mcounters, .ref mfloors, .ref mlimits, .ref mlongs, .ref msteps, .int 0, .ref mprogram, .ref mkind, .ref mrank, .ref mstate, .ref mactLong, .ref mactSteps, .ref mat, .ref mregister, .ref misHeld, .ref mdoneIn, .ref mundone, .ref mby, .ref mbegunIn, .ref misVoid, .ref misAgain, .ref mholds, .ref mwrites, .ref mgives, .ref mbelow, .ref mqueued, .ref mqueuedMany, .int 0, .ref mdone, .int 0, .int 0, .ref mlog, .int 0, .int 0, .ref morder, .ref misReached, .ref mqueue])), (mprogram, .inl (cI, 80, .inl (fun _ => 0))), (mkind, .inl (cI, 80, .inl (fun _ => 0))), (mrank, .inl (cI, 80, .inl (fun _ => 0))), (mby, .inl (cI, 80, .inl (fun _ => 0))), (mdoneIn, .inl (cI, 80, .inl (fun _ => 0))), (mbegunIn, .inl (cI, 80, .inl (fun _ => 0)))]) hD hS hA [0, 1, 2, 3, 4, 5, 6] rfl
              refine va_calli (va_runV (As := [.int x, .int y, .int z, .int (-1)]) (rest := []) ⟨hx, hb, hml, hown, hts⟩ (c_X4_newAct (l := l) (D := D) (h := h) (mcells := mcells) (mcounters := mcounters) (mfloors := mfloors) (mlimits := mlimits) (mlongs := mlongs) (msteps := msteps) (mprogram := mprogram) (mkind := mkind) (mrank := mrank) (mstate := mstate) (mactLong := mactLong) (mactSteps := mactSteps) (mat := mat) (mregister := mregister) (misHeld := misHeld) (mdoneIn := mdoneIn) (mundone := mundone) (mby := mby) (mbegunIn := mbegunIn) (misVoid := misVoid) (misAgain := misAgain) (mholds := mholds) (mwrites := mwrites) (mgives := mgives) (mbelow := mbelow) (mqueued := mqueued) (mqueuedMany := mqueuedMany) (mdone := mdone) (mlog := mlog) (morder := morder) (misReached := misReached) (mqueue := mqueue) (x := x) (y := y) (z := z) (w := (-1)) (cI := cI) ) (cwV 4 hts gX4_act_X4_newAct rfl rfl rfl (by decide +kernel) ⟨Nat.le_of_ble_eq_true rfl, Nat.le_of_ble_eq_true rfl⟩) ⟨k_blind, va_recv hKc hPc (ci := 4) (q0 := 0) rfl rfl, fun U hU hW => ⟨rfl, k_pre hU hW hPc hKc hDc⟩⟩ rfl rfl hl.1 rfl (lv_room (Nat.le_of_ble_eq_true rfl)) dX4_act_31 ⟨by decide, by decide⟩) hS (fun q _ h => hFc q h) hFc (fun r7 u t H1 locs ht hvm hw hB hz1 hk1 hS => ?_)
              refine W.widen (k := 0) (n := 0) (Nat.le_refl _) (Nat.le_refl _) ?_
              have hlm1 : ((-1) : Int32).toInt = -1 := by decide
              obtain ⟨rfl, rfl⟩ := hw
              obtain ⟨hP1, hK1, hD1⟩ := hB
              rw [ht] at hP1
              have hK1 := va_K.moved hvm.symm hK1
              obtain ⟨hP, hD⟩ := va_join (wr := []) (w1 := []) hP hD [0, 1, 2, 3, 4, 5, 6] [] rfl rfl (by decide) (by decide) hk1 hFc hP1 hD1
              generalize H1 = H at hP hS ⊢
              have hP : va_P D vwCl [] H := hP
              have hD : va_D A [] := hD
              refine lv_goto (tgt := 38) hx hb dX4_act_34 (by decide) ?_
              have hP := hP.sub (ws' := []) [] rfl
              have hD := hD.sub (ws' := []) [] (by decide) rfl
              have hK := hK.sub (tys' := [(cI, .int)]) [0] rfl
              refine W.widen (k := 0) (n := 0) (by decide) (by decide) ?_
              exact W.iret (v := 0) hx hb hr (fun t ht hW => ⟨⟨0, ([], [(cI, .int)]), rfl, Or.inl ⟨rfl, rfl, (by omega), (by omega), (by omega), (by omega), (by omega), (by omega)⟩, ⟨by rw [ht]; exact hP, va_K.moved hW.alike hK, hD⟩⟩, hS.F ht⟩) hS.2.2 dX4_act_38
          · skip
            obtain ⟨hP1, hK1, hD1⟩ := hB
            rw [ht] at hP1
            have hK1 := va_K.moved hvm.symm hK1
            obtain ⟨hP, hD⟩ := va_join (wr := [(h, .inr (4, [.int 0, .ref mcells, .ref mcounters, .ref mfloors, .ref mlimits, .ref mlongs, .ref msteps, .int 0, .ref mprogram, .ref mkind, .ref mrank, .ref mstate, .ref mactLong, .ref mactSteps, .ref mat, .ref mregister, .ref misHeld, .ref mdoneIn, .ref mundone, .ref mby, .ref mbegunIn, .ref misVoid, .ref misAgain, .ref mholds, .ref mwrites, .ref mgives, .ref mbelow, .ref mqueued, .ref mqueuedMany, .int 0, .ref mdone, .int 0, .int 0, .ref mlog, .int 0, .int 0, .ref morder, .ref misReached, .ref mqueue])), (mprogram, .inl (cI, 80, .inl (fun _ => 0))), (mkind, .inl (cI, 80, .inl (fun _ => 0))), (mrank, .inl (cI, 80, .inl (fun _ => 0))), (mby, .inl (cI, 80, .inl (fun _ => 0))), (mdoneIn, .inl (cI, 80, .inl (fun _ => 0))), (mbegunIn, .inl (cI, 80, .inl (fun _ => 0)))]) (w1 := []) hP hD [] [0, 1, 2, 3, 4, 5, 6] rfl rfl (by decide) (by decide) hk1 hFc hP1 hD1
            generalize H1 = H at hP hS ⊢
            have hP : va_P D vwCl [(h, .inr (4, [.int 0, .ref mcells, .ref mcounters, .ref mfloors, .ref mlimits, .ref mlongs, .ref msteps, .int 0, .ref mprogram, .ref mkind, .ref mrank, .ref mstate, .ref mactLong, .ref mactSteps, .ref mat, .ref mregister, .ref misHeld, .ref mdoneIn, .ref mundone, .ref mby, .ref mbegunIn, .ref misVoid, .ref misAgain, .ref mholds, .ref mwrites, .ref mgives, .ref mbelow, .ref mqueued, .ref mqueuedMany, .int 0, .ref mdone, .int 0, .int 0, .ref mlog, .int 0, .int 0, .ref morder, .ref misReached, .ref mqueue])), (mprogram, .inl (cI, 80, .inl (fun _ => 0))), (mkind, .inl (cI, 80, .inl (fun _ => 0))), (mrank, .inl (cI, 80, .inl (fun _ => 0))), (mby, .inl (cI, 80, .inl (fun _ => 0))), (mdoneIn, .inl (cI, 80, .inl (fun _ => 0))), (mbegunIn, .inl (cI, 80, .inl (fun _ => 0)))] H := hP
            have hD : va_D A [(h, .inr (4, [.int 0, .ref mcells, .ref mcounters, .ref mfloors, .ref mlimits, .ref mlongs, .ref msteps, .int 0, .ref mprogram, .ref mkind, .ref mrank, .ref mstate, .ref mactLong, .ref mactSteps, .ref mat, .ref mregister, .ref misHeld, .ref mdoneIn, .ref mundone, .ref mby, .ref mbegunIn, .ref misVoid, .ref misAgain, .ref mholds, .ref mwrites, .ref mgives, .ref mbelow, .ref mqueued, .ref mqueuedMany, .int 0, .ref mdone, .int 0, .int 0, .ref mlog, .int 0, .int 0, .ref morder, .ref misReached, .ref mqueue])), (mprogram, .inl (cI, 80, .inl (fun _ => 0))), (mkind, .inl (cI, 80, .inl (fun _ => 0))), (mrank, .inl (cI, 80, .inl (fun _ => 0))), (mby, .inl (cI, 80, .inl (fun _ => 0))), (mdoneIn, .inl (cI, 80, .inl (fun _ => 0))), (mbegunIn, .inl (cI, 80, .inl (fun _ => 0)))] := hD
            refine lv_if_eq (tgt := 37) hx hb dX4_act_23 (by decide) (fun c8 => ?_) (fun c8 => ?_)
            · skip
              refine lv_iconst (v := (-1)) hx hb dX4_act_37 (by decide) ?_
              have hP := hP.sub (ws' := []) [] rfl
              have hD := hD.sub (ws' := []) [] (by decide) rfl
              have hK := hK.sub (tys' := [(cI, .int)]) [0] rfl
              refine W.widen (k := 0) (n := 0) (by decide) (by decide) ?_
              exact W.iret (v := (-1)) hx hb hr (fun t ht hW => ⟨⟨(-1), ([], [(cI, .int)]), rfl, Or.inr (⟨rfl, rfl, (by omega)⟩), ⟨by rw [ht]; exact hP, va_K.moved hW.alike hK, hD⟩⟩, hS.F ht⟩) hS.2.2 dX4_act_38
            · skip
              exact absurd c8 (by decide)
      · skip
        obtain ⟨hP1, hK1, hD1⟩ := hB
        rw [ht] at hP1
        have hK1 := va_K.moved hvm.symm hK1
        obtain ⟨hP, hD⟩ := va_join (wr := [(h, .inr (4, [.int 0, .ref mcells, .ref mcounters, .ref mfloors, .ref mlimits, .ref mlongs, .ref msteps, .int 0, .ref mprogram, .ref mkind, .ref mrank, .ref mstate, .ref mactLong, .ref mactSteps, .ref mat, .ref mregister, .ref misHeld, .ref mdoneIn, .ref mundone, .ref mby, .ref mbegunIn, .ref misVoid, .ref misAgain, .ref mholds, .ref mwrites, .ref mgives, .ref mbelow, .ref mqueued, .ref mqueuedMany, .int 0, .ref mdone, .int 0, .int 0, .ref mlog, .int 0, .int 0, .ref morder, .ref misReached, .ref mqueue])), (mprogram, .inl (cI, 80, .inl (fun _ => 0))), (mkind, .inl (cI, 80, .inl (fun _ => 0))), (mrank, .inl (cI, 80, .inl (fun _ => 0))), (mby, .inl (cI, 80, .inl (fun _ => 0))), (mdoneIn, .inl (cI, 80, .inl (fun _ => 0))), (mbegunIn, .inl (cI, 80, .inl (fun _ => 0)))]) (w1 := []) hP hD [] [0, 1, 2, 3, 4, 5, 6] rfl rfl (by decide) (by decide) hk1 hFc hP1 hD1
        generalize H1 = H at hP hS ⊢
        have hP : va_P D vwCl [(h, .inr (4, [.int 0, .ref mcells, .ref mcounters, .ref mfloors, .ref mlimits, .ref mlongs, .ref msteps, .int 0, .ref mprogram, .ref mkind, .ref mrank, .ref mstate, .ref mactLong, .ref mactSteps, .ref mat, .ref mregister, .ref misHeld, .ref mdoneIn, .ref mundone, .ref mby, .ref mbegunIn, .ref misVoid, .ref misAgain, .ref mholds, .ref mwrites, .ref mgives, .ref mbelow, .ref mqueued, .ref mqueuedMany, .int 0, .ref mdone, .int 0, .int 0, .ref mlog, .int 0, .int 0, .ref morder, .ref misReached, .ref mqueue])), (mprogram, .inl (cI, 80, .inl (fun _ => 0))), (mkind, .inl (cI, 80, .inl (fun _ => 0))), (mrank, .inl (cI, 80, .inl (fun _ => 0))), (mby, .inl (cI, 80, .inl (fun _ => 0))), (mdoneIn, .inl (cI, 80, .inl (fun _ => 0))), (mbegunIn, .inl (cI, 80, .inl (fun _ => 0)))] H := hP
        have hD : va_D A [(h, .inr (4, [.int 0, .ref mcells, .ref mcounters, .ref mfloors, .ref mlimits, .ref mlongs, .ref msteps, .int 0, .ref mprogram, .ref mkind, .ref mrank, .ref mstate, .ref mactLong, .ref mactSteps, .ref mat, .ref mregister, .ref misHeld, .ref mdoneIn, .ref mundone, .ref mby, .ref mbegunIn, .ref misVoid, .ref misAgain, .ref mholds, .ref mwrites, .ref mgives, .ref mbelow, .ref mqueued, .ref mqueuedMany, .int 0, .ref mdone, .int 0, .int 0, .ref mlog, .int 0, .int 0, .ref morder, .ref misReached, .ref mqueue])), (mprogram, .inl (cI, 80, .inl (fun _ => 0))), (mkind, .inl (cI, 80, .inl (fun _ => 0))), (mrank, .inl (cI, 80, .inl (fun _ => 0))), (mby, .inl (cI, 80, .inl (fun _ => 0))), (mdoneIn, .inl (cI, 80, .inl (fun _ => 0))), (mbegunIn, .inl (cI, 80, .inl (fun _ => 0)))] := hD
        refine lv_if_eq (tgt := 37) hx hb dX4_act_13 (by decide) (fun c9 => ?_) (fun c9 => ?_)
        · skip
          refine lv_iconst (v := (-1)) hx hb dX4_act_37 (by decide) ?_
          have hP := hP.sub (ws' := []) [] rfl
          have hD := hD.sub (ws' := []) [] (by decide) rfl
          have hK := hK.sub (tys' := [(cI, .int)]) [0] rfl
          refine W.widen (k := 0) (n := 0) (by decide) (by decide) ?_
          exact W.iret (v := (-1)) hx hb hr (fun t ht hW => ⟨⟨(-1), ([], [(cI, .int)]), rfl, Or.inr (⟨rfl, rfl, (by omega)⟩), ⟨by rw [ht]; exact hP, va_K.moved hW.alike hK, hD⟩⟩, hS.F ht⟩) hS.2.2 dX4_act_38
        · skip
          exact absurd c9 (by decide)
  · skip
    obtain ⟨hP1, hK1, hD1⟩ := hB
    rw [ht] at hP1
    have hK1 := va_K.moved hvm.symm hK1
    obtain ⟨hP, hD⟩ := va_join (wr := [(h, .inr (4, [.int 0, .ref mcells, .ref mcounters, .ref mfloors, .ref mlimits, .ref mlongs, .ref msteps, .int 0, .ref mprogram, .ref mkind, .ref mrank, .ref mstate, .ref mactLong, .ref mactSteps, .ref mat, .ref mregister, .ref misHeld, .ref mdoneIn, .ref mundone, .ref mby, .ref mbegunIn, .ref misVoid, .ref misAgain, .ref mholds, .ref mwrites, .ref mgives, .ref mbelow, .ref mqueued, .ref mqueuedMany, .int 0, .ref mdone, .int 0, .int 0, .ref mlog, .int 0, .int 0, .ref morder, .ref misReached, .ref mqueue])), (mprogram, .inl (cI, 80, .inl (fun _ => 0))), (mkind, .inl (cI, 80, .inl (fun _ => 0))), (mrank, .inl (cI, 80, .inl (fun _ => 0))), (mby, .inl (cI, 80, .inl (fun _ => 0))), (mdoneIn, .inl (cI, 80, .inl (fun _ => 0))), (mbegunIn, .inl (cI, 80, .inl (fun _ => 0)))]) (w1 := []) hP hD [] [0, 1, 2, 3, 4, 5, 6] rfl rfl (by decide) (by decide) hk1 hFc hP1 hD1
    generalize H1 = H at hP hS ⊢
    have hP : va_P D vwCl [(h, .inr (4, [.int 0, .ref mcells, .ref mcounters, .ref mfloors, .ref mlimits, .ref mlongs, .ref msteps, .int 0, .ref mprogram, .ref mkind, .ref mrank, .ref mstate, .ref mactLong, .ref mactSteps, .ref mat, .ref mregister, .ref misHeld, .ref mdoneIn, .ref mundone, .ref mby, .ref mbegunIn, .ref misVoid, .ref misAgain, .ref mholds, .ref mwrites, .ref mgives, .ref mbelow, .ref mqueued, .ref mqueuedMany, .int 0, .ref mdone, .int 0, .int 0, .ref mlog, .int 0, .int 0, .ref morder, .ref misReached, .ref mqueue])), (mprogram, .inl (cI, 80, .inl (fun _ => 0))), (mkind, .inl (cI, 80, .inl (fun _ => 0))), (mrank, .inl (cI, 80, .inl (fun _ => 0))), (mby, .inl (cI, 80, .inl (fun _ => 0))), (mdoneIn, .inl (cI, 80, .inl (fun _ => 0))), (mbegunIn, .inl (cI, 80, .inl (fun _ => 0)))] H := hP
    have hD : va_D A [(h, .inr (4, [.int 0, .ref mcells, .ref mcounters, .ref mfloors, .ref mlimits, .ref mlongs, .ref msteps, .int 0, .ref mprogram, .ref mkind, .ref mrank, .ref mstate, .ref mactLong, .ref mactSteps, .ref mat, .ref mregister, .ref misHeld, .ref mdoneIn, .ref mundone, .ref mby, .ref mbegunIn, .ref misVoid, .ref misAgain, .ref mholds, .ref mwrites, .ref mgives, .ref mbelow, .ref mqueued, .ref mqueuedMany, .int 0, .ref mdone, .int 0, .int 0, .ref mlog, .int 0, .int 0, .ref morder, .ref misReached, .ref mqueue])), (mprogram, .inl (cI, 80, .inl (fun _ => 0))), (mkind, .inl (cI, 80, .inl (fun _ => 0))), (mrank, .inl (cI, 80, .inl (fun _ => 0))), (mby, .inl (cI, 80, .inl (fun _ => 0))), (mdoneIn, .inl (cI, 80, .inl (fun _ => 0))), (mbegunIn, .inl (cI, 80, .inl (fun _ => 0)))] := hD
    refine lv_if_eq (tgt := 37) hx hb dX4_act_4 (by decide) (fun c10 => ?_) (fun c10 => ?_)
    · skip
      refine lv_iconst (v := (-1)) hx hb dX4_act_37 (by decide) ?_
      have hP := hP.sub (ws' := []) [] rfl
      have hD := hD.sub (ws' := []) [] (by decide) rfl
      have hK := hK.sub (tys' := [(cI, .int)]) [0] rfl
      refine W.widen (k := 0) (n := 0) (by decide) (by decide) ?_
      exact W.iret (v := (-1)) hx hb hr (fun t ht hW => ⟨⟨(-1), ([], [(cI, .int)]), rfl, Or.inr (⟨rfl, rfl, (by omega)⟩), ⟨by rw [ht]; exact hP, va_K.moved hW.alike hK, hD⟩⟩, hS.F ht⟩) hS.2.2 dX4_act_38
    · skip
      exact absurd c10 (by decide)
set_option maxRecDepth 100000 in
theorem kw_X4_limit__fieldLink_RX4_19_ActHouseModel_limits_I_ : (.fieldLink RX4 19 "ActHouseModel" "limits" "[I" : Cond) ∈ wsX4_limit := by decide +kernel
set_option maxRecDepth 100000 in
theorem kin_X4_limit_X4 : ∀ w ∈ u_ws RX4 TX4 39, w ∈ wsX4_limit := by decide +kernel
set_option maxHeartbeats 4000000 in
set_option maxRecDepth 100000 in
theorem c_X4_limit {l : Launch} {D : va_G} {sz : Nat} {h : Nat} {mcells : Nat} {mcounters : Nat} {mfloors : Nat} {mlimits : Nat} {mlongs : Nat} {msteps : Nat} {mprogram : Nat} {mkind : Nat} {mrank : Nat} {mstate : Nat} {mactLong : Nat} {mactSteps : Nat} {mat : Nat} {mregister : Nat} {misHeld : Nat} {mdoneIn : Nat} {mundone : Nat} {mby : Nat} {mbegunIn : Nat} {misVoid : Nat} {misAgain : Nat} {mholds : Nat} {mwrites : Nat} {mgives : Nat} {mbelow : Nat} {mqueued : Nat} {mqueuedMany : Nat} {mdone : Nat} {mlog : Nat} {morder : Nat} {misReached : Nat} {mqueue : Nat} {x : Int32} {y : Int32} {f : Nat → Int32} {cI : ClassId}  : Met l yX4_limit wsX4_limit ({ frames := 1, cells := 0, slots := 0, locals := 22 }) (va_Pc [.ref h, .int x, .int y] (k_Pre D [(cI, .int)] [(h, .inr (4, [.int 0, .ref mcells, .ref mcounters, .ref mfloors, .ref mlimits, .ref mlongs, .ref msteps, .int 0, .ref mprogram, .ref mkind, .ref mrank, .ref mstate, .ref mactLong, .ref mactSteps, .ref mat, .ref mregister, .ref misHeld, .ref mdoneIn, .ref mundone, .ref mby, .ref mbegunIn, .ref misVoid, .ref misAgain, .ref mholds, .ref mwrites, .ref mgives, .ref mbelow, .ref mqueued, .ref mqueuedMany, .int 0, .ref mdone, .int 0, .int 0, .ref mlog, .int 0, .int 0, .ref morder, .ref misReached, .ref mqueue])), (mlimits, .inl (cI, 4, .inl f))] sz)) (va_Qi (fun (r : Int32) (u : va_W × List (ClassId × FieldType)) => (r = 1 ∧ u = ([], [(cI, .int)]) ∧ 0 ≤ x.toInt ∧ x.toInt ≤ 3 ∧ 0 ≤ y.toInt ∧ y.toInt ≤ 9) ∨ (r = 0 ∧ u = ([], [(cI, .int)]) ∧ (x.toInt < 0 ∨ 3 < x.toInt ∨ y.toInt < 0 ∨ 9 < y.toInt))) (k_B D (va_A [(h, .inr (4, [.int 0, .ref mcells, .ref mcounters, .ref mfloors, .ref mlimits, .ref mlongs, .ref msteps, .int 0, .ref mprogram, .ref mkind, .ref mrank, .ref mstate, .ref mactLong, .ref mactSteps, .ref mat, .ref mregister, .ref misHeld, .ref mdoneIn, .ref mundone, .ref mby, .ref mbegunIn, .ref misVoid, .ref misAgain, .ref mholds, .ref mwrites, .ref mgives, .ref mbelow, .ref mqueued, .ref mqueuedMany, .int 0, .ref mdone, .int 0, .int 0, .ref mlog, .int 0, .int 0, .ref morder, .ref misReached, .ref mqueue])), (mlimits, .inl (cI, 4, .inl f))] sz)) (va_A [(h, .inr (4, [.int 0, .ref mcells, .ref mcounters, .ref mfloors, .ref mlimits, .ref mlongs, .ref msteps, .int 0, .ref mprogram, .ref mkind, .ref mrank, .ref mstate, .ref mactLong, .ref mactSteps, .ref mat, .ref mregister, .ref misHeld, .ref mdoneIn, .ref mundone, .ref mby, .ref mbegunIn, .ref misVoid, .ref misAgain, .ref mholds, .ref mwrites, .ref mgives, .ref mbelow, .ref mqueued, .ref mqueuedMany, .int 0, .ref mdone, .int 0, .int 0, .ref mlog, .int 0, .int 0, .ref morder, .ref misReached, .ref mqueue])), (mlimits, .inl (cI, 4, .inl f))] sz)) 0 0 (va_A [(h, .inr (4, [.int 0, .ref mcells, .ref mcounters, .ref mfloors, .ref mlimits, .ref mlongs, .ref msteps, .int 0, .ref mprogram, .ref mkind, .ref mrank, .ref mstate, .ref mactLong, .ref mactSteps, .ref mat, .ref mregister, .ref misHeld, .ref mdoneIn, .ref mundone, .ref mby, .ref mbegunIn, .ref misVoid, .ref misAgain, .ref mholds, .ref mwrites, .ref mgives, .ref mbelow, .ref mqueued, .ref mqueuedMany, .int 0, .ref mdone, .int 0, .int 0, .ref mlog, .int 0, .int 0, .ref morder, .ref misReached, .ref mqueue])), (mlimits, .inl (cI, 4, .inl f))] sz) := by
  refine Met.ofW (cc := cX4_limit) (maxL := 3) (ret := (some .boolean)) (by decide) rfl ?_
  intro p e s m args below meth c s₁ B hml hv
  obtain ⟨rfl, hsz, hP, hK, hD0⟩ := hv
  have hx := B.exec
  have hb := B.bytes
  have hr := B.returns
  have hts := atoms_spec (ws := wsX4_limit) B.pre
  have hown : s.vm.findClass RX4 = some m.cls := findClass_of_methodNamed B.named
  have hlocks := B.notSynchronized
  subst hsz
  have hD := hD0.self (sz := s.heap.size)
  generalize hAe : va_A [(h, .inr (4, [.int 0, .ref mcells, .ref mcounters, .ref mfloors, .ref mlimits, .ref mlongs, .ref msteps, .int 0, .ref mprogram, .ref mkind, .ref mrank, .ref mstate, .ref mactLong, .ref mactSteps, .ref mat, .ref mregister, .ref misHeld, .ref mdoneIn, .ref mundone, .ref mby, .ref mbegunIn, .ref misVoid, .ref misAgain, .ref mholds, .ref mwrites, .ref mgives, .ref mbelow, .ref mqueued, .ref mqueuedMany, .int 0, .ref mdone, .int 0, .int 0, .ref mlog, .int 0, .int 0, .ref morder, .ref misReached, .ref mqueue])), (mlimits, .inl (cI, 4, .inl f))] s.heap.size = A at hD ⊢
  have hA : ∀ q : Nat, s.heap.size ≤ q → A q := fun q h => by rw [← hAe]; exact Or.inr h
  have hS : va_S A s.heap s.heap [] := va_S.rf
  have hl := lv_entry ([.ref h, .int x, .int y]) (n := 3) (Nat.le_of_ble_eq_true rfl)
  rw [lg_entry_eq]
  generalize (lg_sl ([.ref h, .int x, .int y]) ++ List.replicate (3 - (lg_sl ([.ref h, .int x, .int y])).length) Slot.unset).toArray = ls at hl ⊢
  have hl : lv_has ls 3 [(0, .ref h), (1, .int x), (2, .int y)] := hl
  refine lv_iload_n hx hb dX4_limit_0 rfl (lv_at hl 1 rfl) ?_
  refine lv_iconst (v := 0) hx hb dX4_limit_1 (by decide) ?_
  refine lv_iconst (v := 3) hx hb dX4_limit_2 (by decide) ?_
  have hPc := hP.sub (ws' := []) [] rfl
  have hDc := hD.sub (ws' := []) [] (by decide) rfl
  have hKc := hK.sub (tys' := []) [] rfl
  have hFc := va_free (wc := []) hD hS hA [] rfl
  refine va_calli (va_runS (As := [.int x, .int 0, .int 3]) (rest := []) ⟨hx, hb, hml, hown, hts⟩ (c_X4_in (l := l) (D := D) (x := x) (y := 0) (z := 3) ) (va_cwS 3 hts gX4_limit_X4_in rfl rfl rfl (by decide +kernel) ⟨Nat.le_of_ble_eq_true rfl, Nat.le_of_ble_eq_true rfl⟩) ⟨k_blind, fun U hU hW => ⟨rfl, k_pre hU hW hPc hKc hDc⟩⟩ rfl rfl hl.1 rfl (lv_room (Nat.le_of_ble_eq_true rfl)) dX4_limit_3 ⟨by decide, by decide⟩) hS (fun q _ h => hFc q h) hFc (fun r1 u t H1 locs ht hvm hw hB hz1 hk1 hS => ?_)
  refine W.widen (k := 0) (n := 0) (Nat.le_refl _) (Nat.le_refl _) ?_
  have hl0 : (0 : Int32).toInt = 0 := by decide
  have hl3 : (3 : Int32).toInt = 3 := by decide
  rcases hw with ⟨rfl, rfl, ha_1, hb_1⟩ | ⟨rfl, rfl, ha_1⟩
  · skip
    obtain ⟨hP1, hK1, hD1⟩ := hB
    rw [ht] at hP1
    have hK1 := va_K.moved hvm.symm hK1
    obtain ⟨hP, hD⟩ := va_join (wr := [(h, .inr (4, [.int 0, .ref mcells, .ref mcounters, .ref mfloors, .ref mlimits, .ref mlongs, .ref msteps, .int 0, .ref mprogram, .ref mkind, .ref mrank, .ref mstate, .ref mactLong, .ref mactSteps, .ref mat, .ref mregister, .ref misHeld, .ref mdoneIn, .ref mundone, .ref mby, .ref mbegunIn, .ref misVoid, .ref misAgain, .ref mholds, .ref mwrites, .ref mgives, .ref mbelow, .ref mqueued, .ref mqueuedMany, .int 0, .ref mdone, .int 0, .int 0, .ref mlog, .int 0, .int 0, .ref morder, .ref misReached, .ref mqueue])), (mlimits, .inl (cI, 4, .inl f))]) (w1 := []) hP hD [] [0, 1] rfl rfl (by decide) (by decide) hk1 hFc hP1 hD1
    generalize H1 = H at hP hS ⊢
    have hP : va_P D vwCl [(h, .inr (4, [.int 0, .ref mcells, .ref mcounters, .ref mfloors, .ref mlimits, .ref mlongs, .ref msteps, .int 0, .ref mprogram, .ref mkind, .ref mrank, .ref mstate, .ref mactLong, .ref mactSteps, .ref mat, .ref mregister, .ref misHeld, .ref mdoneIn, .ref mundone, .ref mby, .ref mbegunIn, .ref misVoid, .ref misAgain, .ref mholds, .ref mwrites, .ref mgives, .ref mbelow, .ref mqueued, .ref mqueuedMany, .int 0, .ref mdone, .int 0, .int 0, .ref mlog, .int 0, .int 0, .ref morder, .ref misReached, .ref mqueue])), (mlimits, .inl (cI, 4, .inl f))] H := hP
    have hD : va_D A [(h, .inr (4, [.int 0, .ref mcells, .ref mcounters, .ref mfloors, .ref mlimits, .ref mlongs, .ref msteps, .int 0, .ref mprogram, .ref mkind, .ref mrank, .ref mstate, .ref mactLong, .ref mactSteps, .ref mat, .ref mregister, .ref misHeld, .ref mdoneIn, .ref mundone, .ref mby, .ref mbegunIn, .ref misVoid, .ref misAgain, .ref mholds, .ref mwrites, .ref mgives, .ref mbelow, .ref mqueued, .ref mqueuedMany, .int 0, .ref mdone, .int 0, .int 0, .ref mlog, .int 0, .int 0, .ref morder, .ref misReached, .ref mqueue])), (mlimits, .inl (cI, 4, .inl f))] := hD
    refine lv_if_eq (tgt := 19) hx hb dX4_limit_6 (by decide) (fun c2 => ?_) (fun c2 => ?_)
    · skip
      exact absurd c2 (by decide)
    · skip
      refine lv_iload_n hx hb dX4_limit_9 rfl (lv_at hl 2 rfl) ?_
      refine lv_iconst (v := 0) hx hb dX4_limit_10 (by decide) ?_
      refine lv_bipush (v := 9) hx hb dX4_limit_11 (by decide) ?_
      have hPc := hP.sub (ws' := []) [] rfl
      have hDc := hD.sub (ws' := []) [] (by decide) rfl
      have hKc := hK.sub (tys' := []) [] rfl
      have hFc := va_free (wc := []) hD hS hA [] rfl
      refine va_calli (va_runS (As := [.int y, .int 0, .int 9]) (rest := []) ⟨hx, hb, hml, hown, hts⟩ (c_X4_in (l := l) (D := D) (x := y) (y := 0) (z := 9) ) (va_cwS 3 hts gX4_limit_X4_in rfl rfl rfl (by decide +kernel) ⟨Nat.le_of_ble_eq_true rfl, Nat.le_of_ble_eq_true rfl⟩) ⟨k_blind, fun U hU hW => ⟨rfl, k_pre hU hW hPc hKc hDc⟩⟩ rfl rfl hl.1 rfl (lv_room (Nat.le_of_ble_eq_true rfl)) dX4_limit_13 ⟨by decide, by decide⟩) hS (fun q _ h => hFc q h) hFc (fun r3 u t H1 locs ht hvm hw hB hz1 hk1 hS => ?_)
      refine W.widen (k := 0) (n := 0) (Nat.le_refl _) (Nat.le_refl _) ?_
      have hl0 : (0 : Int32).toInt = 0 := by decide
      have hl9 : (9 : Int32).toInt = 9 := by decide
      rcases hw with ⟨rfl, rfl, ha_3, hb_3⟩ | ⟨rfl, rfl, ha_3⟩
      · skip
        obtain ⟨hP1, hK1, hD1⟩ := hB
        rw [ht] at hP1
        have hK1 := va_K.moved hvm.symm hK1
        obtain ⟨hP, hD⟩ := va_join (wr := [(h, .inr (4, [.int 0, .ref mcells, .ref mcounters, .ref mfloors, .ref mlimits, .ref mlongs, .ref msteps, .int 0, .ref mprogram, .ref mkind, .ref mrank, .ref mstate, .ref mactLong, .ref mactSteps, .ref mat, .ref mregister, .ref misHeld, .ref mdoneIn, .ref mundone, .ref mby, .ref mbegunIn, .ref misVoid, .ref misAgain, .ref mholds, .ref mwrites, .ref mgives, .ref mbelow, .ref mqueued, .ref mqueuedMany, .int 0, .ref mdone, .int 0, .int 0, .ref mlog, .int 0, .int 0, .ref morder, .ref misReached, .ref mqueue])), (mlimits, .inl (cI, 4, .inl f))]) (w1 := []) hP hD [] [0, 1] rfl rfl (by decide) (by decide) hk1 hFc hP1 hD1
        generalize H1 = H at hP hS ⊢
        have hP : va_P D vwCl [(h, .inr (4, [.int 0, .ref mcells, .ref mcounters, .ref mfloors, .ref mlimits, .ref mlongs, .ref msteps, .int 0, .ref mprogram, .ref mkind, .ref mrank, .ref mstate, .ref mactLong, .ref mactSteps, .ref mat, .ref mregister, .ref misHeld, .ref mdoneIn, .ref mundone, .ref mby, .ref mbegunIn, .ref misVoid, .ref misAgain, .ref mholds, .ref mwrites, .ref mgives, .ref mbelow, .ref mqueued, .ref mqueuedMany, .int 0, .ref mdone, .int 0, .int 0, .ref mlog, .int 0, .int 0, .ref morder, .ref misReached, .ref mqueue])), (mlimits, .inl (cI, 4, .inl f))] H := hP
        have hD : va_D A [(h, .inr (4, [.int 0, .ref mcells, .ref mcounters, .ref mfloors, .ref mlimits, .ref mlongs, .ref msteps, .int 0, .ref mprogram, .ref mkind, .ref mrank, .ref mstate, .ref mactLong, .ref mactSteps, .ref mat, .ref mregister, .ref misHeld, .ref mdoneIn, .ref mundone, .ref mby, .ref mbegunIn, .ref misVoid, .ref misAgain, .ref mholds, .ref mwrites, .ref mgives, .ref mbelow, .ref mqueued, .ref mqueuedMany, .int 0, .ref mdone, .int 0, .int 0, .ref mlog, .int 0, .int 0, .ref morder, .ref misReached, .ref mqueue])), (mlimits, .inl (cI, 4, .inl f))] := hD
        refine lv_if_ne (tgt := 21) hx hb dX4_limit_16 (by decide) (fun c4 => ?_) (fun c4 => ?_)
        · skip
          refine lv_aload_n hx hb dX4_limit_21 rfl (lv_at hl 0 rfl) ?_
          refine va_get (D := D) (ci := 4) (v := .ref mlimits) (C := RX4) (T := TX4) (N := 39) hx hb hts kin_X4_limit_X4 hown hK hP 0 rfl rfl 4 (by decide) (hts _ kw_X4_limit__fieldLink_RX4_19_ActHouseModel_limits_I_) (fun _ h9 => h9) rfl dX4_limit_22 ?_
          refine lv_iload_n hx hb dX4_limit_25 rfl (lv_at hl 1 rfl) ?_
          refine lv_iload_n hx hb dX4_limit_26 rfl (lv_at hl 2 rfl) ?_
          have hi27 : vp_in x 4 := (k_in (by omega) (by omega))
          refine va_iast hx hb hK hP hD hS 1 0 rfl rfl hi27 dX4_limit_27 (fun H locs hP hD hS => ?_)
          have hP : va_P D vwCl [(h, .inr (4, [.int 0, .ref mcells, .ref mcounters, .ref mfloors, .ref mlimits, .ref mlongs, .ref msteps, .int 0, .ref mprogram, .ref mkind, .ref mrank, .ref mstate, .ref mactLong, .ref mactSteps, .ref mat, .ref mregister, .ref misHeld, .ref mdoneIn, .ref mundone, .ref mby, .ref mbegunIn, .ref misVoid, .ref misAgain, .ref mholds, .ref mwrites, .ref mgives, .ref mbelow, .ref mqueued, .ref mqueuedMany, .int 0, .ref mdone, .int 0, .int 0, .ref mlog, .int 0, .int 0, .ref morder, .ref misReached, .ref mqueue])), (mlimits, .inl (cI, 4, .inl (upd f x.toNatClampNeg y)))] H := hP
          have hD : va_D A [(h, .inr (4, [.int 0, .ref mcells, .ref mcounters, .ref mfloors, .ref mlimits, .ref mlongs, .ref msteps, .int 0, .ref mprogram, .ref mkind, .ref mrank, .ref mstate, .ref mactLong, .ref mactSteps, .ref mat, .ref mregister, .ref misHeld, .ref mdoneIn, .ref mundone, .ref mby, .ref mbegunIn, .ref misVoid, .ref misAgain, .ref mholds, .ref mwrites, .ref mgives, .ref mbelow, .ref mqueued, .ref mqueuedMany, .int 0, .ref mdone, .int 0, .int 0, .ref mlog, .int 0, .int 0, .ref morder, .ref misReached, .ref mqueue])), (mlimits, .inl (cI, 4, .inl (upd f x.toNatClampNeg y)))] := hD
          refine lv_iconst (v := 1) hx hb dX4_limit_28 (by decide) ?_
          have hP := hP.sub (ws' := []) [] rfl
          have hD := hD.sub (ws' := []) [] (by decide) rfl
          have hK := hK.sub (tys' := [(cI, .int)]) [0] rfl
          refine W.widen (k := 0) (n := 0) (by decide) (by decide) ?_
          exact W.zret (v := 1) hx hb hr (by decide) (fun t ht hW => ⟨⟨1, ([], [(cI, .int)]), rfl, Or.inl ⟨rfl, rfl, (by omega), (by omega), (by omega), (by omega)⟩, ⟨by rw [ht]; exact hP, va_K.moved hW.alike hK, hD⟩⟩, hS.F ht⟩) hS.2.2 dX4_limit_29
        · skip
          exact absurd c4 (by decide)
      · skip
        obtain ⟨hP1, hK1, hD1⟩ := hB
        rw [ht] at hP1
        have hK1 := va_K.moved hvm.symm hK1
        obtain ⟨hP, hD⟩ := va_join (wr := [(h, .inr (4, [.int 0, .ref mcells, .ref mcounters, .ref mfloors, .ref mlimits, .ref mlongs, .ref msteps, .int 0, .ref mprogram, .ref mkind, .ref mrank, .ref mstate, .ref mactLong, .ref mactSteps, .ref mat, .ref mregister, .ref misHeld, .ref mdoneIn, .ref mundone, .ref mby, .ref mbegunIn, .ref misVoid, .ref misAgain, .ref mholds, .ref mwrites, .ref mgives, .ref mbelow, .ref mqueued, .ref mqueuedMany, .int 0, .ref mdone, .int 0, .int 0, .ref mlog, .int 0, .int 0, .ref morder, .ref misReached, .ref mqueue])), (mlimits, .inl (cI, 4, .inl f))]) (w1 := []) hP hD [] [0, 1] rfl rfl (by decide) (by decide) hk1 hFc hP1 hD1
        generalize H1 = H at hP hS ⊢
        have hP : va_P D vwCl [(h, .inr (4, [.int 0, .ref mcells, .ref mcounters, .ref mfloors, .ref mlimits, .ref mlongs, .ref msteps, .int 0, .ref mprogram, .ref mkind, .ref mrank, .ref mstate, .ref mactLong, .ref mactSteps, .ref mat, .ref mregister, .ref misHeld, .ref mdoneIn, .ref mundone, .ref mby, .ref mbegunIn, .ref misVoid, .ref misAgain, .ref mholds, .ref mwrites, .ref mgives, .ref mbelow, .ref mqueued, .ref mqueuedMany, .int 0, .ref mdone, .int 0, .int 0, .ref mlog, .int 0, .int 0, .ref morder, .ref misReached, .ref mqueue])), (mlimits, .inl (cI, 4, .inl f))] H := hP
        have hD : va_D A [(h, .inr (4, [.int 0, .ref mcells, .ref mcounters, .ref mfloors, .ref mlimits, .ref mlongs, .ref msteps, .int 0, .ref mprogram, .ref mkind, .ref mrank, .ref mstate, .ref mactLong, .ref mactSteps, .ref mat, .ref mregister, .ref misHeld, .ref mdoneIn, .ref mundone, .ref mby, .ref mbegunIn, .ref misVoid, .ref misAgain, .ref mholds, .ref mwrites, .ref mgives, .ref mbelow, .ref mqueued, .ref mqueuedMany, .int 0, .ref mdone, .int 0, .int 0, .ref mlog, .int 0, .int 0, .ref morder, .ref misReached, .ref mqueue])), (mlimits, .inl (cI, 4, .inl f))] := hD
        refine lv_if_ne (tgt := 21) hx hb dX4_limit_16 (by decide) (fun c5 => ?_) (fun c5 => ?_)
        · skip
          exact absurd c5 (by decide)
        · skip
          refine lv_iconst (v := 0) hx hb dX4_limit_19 (by decide) ?_
          have hP := hP.sub (ws' := []) [] rfl
          have hD := hD.sub (ws' := []) [] (by decide) rfl
          have hK := hK.sub (tys' := [(cI, .int)]) [0] rfl
          refine W.widen (k := 0) (n := 0) (by decide) (by decide) ?_
          exact W.zret (v := 0) hx hb hr (by decide) (fun t ht hW => ⟨⟨0, ([], [(cI, .int)]), rfl, Or.inr (⟨rfl, rfl, (by omega)⟩), ⟨by rw [ht]; exact hP, va_K.moved hW.alike hK, hD⟩⟩, hS.F ht⟩) hS.2.2 dX4_limit_20
  · skip
    obtain ⟨hP1, hK1, hD1⟩ := hB
    rw [ht] at hP1
    have hK1 := va_K.moved hvm.symm hK1
    obtain ⟨hP, hD⟩ := va_join (wr := [(h, .inr (4, [.int 0, .ref mcells, .ref mcounters, .ref mfloors, .ref mlimits, .ref mlongs, .ref msteps, .int 0, .ref mprogram, .ref mkind, .ref mrank, .ref mstate, .ref mactLong, .ref mactSteps, .ref mat, .ref mregister, .ref misHeld, .ref mdoneIn, .ref mundone, .ref mby, .ref mbegunIn, .ref misVoid, .ref misAgain, .ref mholds, .ref mwrites, .ref mgives, .ref mbelow, .ref mqueued, .ref mqueuedMany, .int 0, .ref mdone, .int 0, .int 0, .ref mlog, .int 0, .int 0, .ref morder, .ref misReached, .ref mqueue])), (mlimits, .inl (cI, 4, .inl f))]) (w1 := []) hP hD [] [0, 1] rfl rfl (by decide) (by decide) hk1 hFc hP1 hD1
    generalize H1 = H at hP hS ⊢
    have hP : va_P D vwCl [(h, .inr (4, [.int 0, .ref mcells, .ref mcounters, .ref mfloors, .ref mlimits, .ref mlongs, .ref msteps, .int 0, .ref mprogram, .ref mkind, .ref mrank, .ref mstate, .ref mactLong, .ref mactSteps, .ref mat, .ref mregister, .ref misHeld, .ref mdoneIn, .ref mundone, .ref mby, .ref mbegunIn, .ref misVoid, .ref misAgain, .ref mholds, .ref mwrites, .ref mgives, .ref mbelow, .ref mqueued, .ref mqueuedMany, .int 0, .ref mdone, .int 0, .int 0, .ref mlog, .int 0, .int 0, .ref morder, .ref misReached, .ref mqueue])), (mlimits, .inl (cI, 4, .inl f))] H := hP
    have hD : va_D A [(h, .inr (4, [.int 0, .ref mcells, .ref mcounters, .ref mfloors, .ref mlimits, .ref mlongs, .ref msteps, .int 0, .ref mprogram, .ref mkind, .ref mrank, .ref mstate, .ref mactLong, .ref mactSteps, .ref mat, .ref mregister, .ref misHeld, .ref mdoneIn, .ref mundone, .ref mby, .ref mbegunIn, .ref misVoid, .ref misAgain, .ref mholds, .ref mwrites, .ref mgives, .ref mbelow, .ref mqueued, .ref mqueuedMany, .int 0, .ref mdone, .int 0, .int 0, .ref mlog, .int 0, .int 0, .ref morder, .ref misReached, .ref mqueue])), (mlimits, .inl (cI, 4, .inl f))] := hD
    refine lv_if_eq (tgt := 19) hx hb dX4_limit_6 (by decide) (fun c6 => ?_) (fun c6 => ?_)
    · skip
      refine lv_iconst (v := 0) hx hb dX4_limit_19 (by decide) ?_
      have hP := hP.sub (ws' := []) [] rfl
      have hD := hD.sub (ws' := []) [] (by decide) rfl
      have hK := hK.sub (tys' := [(cI, .int)]) [0] rfl
      refine W.widen (k := 0) (n := 0) (by decide) (by decide) ?_
      exact W.zret (v := 0) hx hb hr (by decide) (fun t ht hW => ⟨⟨0, ([], [(cI, .int)]), rfl, Or.inr (⟨rfl, rfl, (by omega)⟩), ⟨by rw [ht]; exact hP, va_K.moved hW.alike hK, hD⟩⟩, hS.F ht⟩) hS.2.2 dX4_limit_20
    · skip
      exact absurd c6 (by decide)
set_option maxRecDepth 100000 in
theorem kw_X4_least__fieldLink_RX4_13_ActHouseModel_counters_I_ : (.fieldLink RX4 13 "ActHouseModel" "counters" "[I" : Cond) ∈ wsX4_least := by decide +kernel
set_option maxRecDepth 100000 in
theorem kin_X4_least_X4 : ∀ w ∈ u_ws RX4 TX4 39, w ∈ wsX4_least := by decide +kernel
set_option maxRecDepth 100000 in
theorem kw_X4_least__fieldLink_RX4_111_ActHouseModel_acts_I_ : (.fieldLink RX4 111 "ActHouseModel" "acts" "I" : Cond) ∈ wsX4_least := by decide +kernel
set_option maxHeartbeats 4000000 in
set_option maxRecDepth 100000 in
theorem c_X4_least {l : Launch} {D : va_G} {sz : Nat} {h : Nat} {mcells : Nat} {mcounters : Nat} {mfloors : Nat} {mlimits : Nat} {mlongs : Nat} {msteps : Nat} {mprogram : Nat} {mkind : Nat} {mrank : Nat} {mstate : Nat} {mactLong : Nat} {mactSteps : Nat} {mat : Nat} {mregister : Nat} {misHeld : Nat} {mdoneIn : Nat} {mundone : Nat} {mby : Nat} {mbegunIn : Nat} {misVoid : Nat} {misAgain : Nat} {mholds : Nat} {mwrites : Nat} {mgives : Nat} {mbelow : Nat} {mqueued : Nat} {mqueuedMany : Nat} {mdone : Nat} {mlog : Nat} {morder : Nat} {misReached : Nat} {mqueue : Nat} {x : Int32} {cI : ClassId} (hx0 : 0 ≤ x.toInt) (hx1 : x.toInt < 8) : Met l yX4_least wsX4_least ({ frames := 0, cells := 0, slots := 0, locals := 0 }) (va_Pc [.ref h, .int x] (k_Pre D [(cI, .int)] [(h, .inr (4, [.int 0, .ref mcells, .ref mcounters, .ref mfloors, .ref mlimits, .ref mlongs, .ref msteps, .int 0, .ref mprogram, .ref mkind, .ref mrank, .ref mstate, .ref mactLong, .ref mactSteps, .ref mat, .ref mregister, .ref misHeld, .ref mdoneIn, .ref mundone, .ref mby, .ref mbegunIn, .ref misVoid, .ref misAgain, .ref mholds, .ref mwrites, .ref mgives, .ref mbelow, .ref mqueued, .ref mqueuedMany, .int 0, .ref mdone, .int 0, .int 0, .ref mlog, .int 0, .int 0, .ref morder, .ref misReached, .ref mqueue])), (mcounters, .inl (cI, 8, .inl (fun _ => 0)))] sz)) (va_Qi (fun (r : Int32) (u : va_W × List (ClassId × FieldType)) => (r = 0 ∧ u = ([(h, .inr (4, [.int 0, .ref mcells, .ref mcounters, .ref mfloors, .ref mlimits, .ref mlongs, .ref msteps, .int 0, .ref mprogram, .ref mkind, .ref mrank, .ref mstate, .ref mactLong, .ref mactSteps, .ref mat, .ref mregister, .ref misHeld, .ref mdoneIn, .ref mundone, .ref mby, .ref mbegunIn, .ref misVoid, .ref misAgain, .ref mholds, .ref mwrites, .ref mgives, .ref mbelow, .ref mqueued, .ref mqueuedMany, .int 0, .ref mdone, .int 0, .int 0, .ref mlog, .int 0, .int 0, .ref morder, .ref misReached, .ref mqueue])), (mcounters, .inl (cI, 8, .inl (fun _ => 0)))], [(cI, .int)]))) (k_B D (va_A [(h, .inr (4, [.int 0, .ref mcells, .ref mcounters, .ref mfloors, .ref mlimits, .ref mlongs, .ref msteps, .int 0, .ref mprogram, .ref mkind, .ref mrank, .ref mstate, .ref mactLong, .ref mactSteps, .ref mat, .ref mregister, .ref misHeld, .ref mdoneIn, .ref mundone, .ref mby, .ref mbegunIn, .ref misVoid, .ref misAgain, .ref mholds, .ref mwrites, .ref mgives, .ref mbelow, .ref mqueued, .ref mqueuedMany, .int 0, .ref mdone, .int 0, .int 0, .ref mlog, .int 0, .int 0, .ref morder, .ref misReached, .ref mqueue])), (mcounters, .inl (cI, 8, .inl (fun _ => 0)))] sz)) (va_A [(h, .inr (4, [.int 0, .ref mcells, .ref mcounters, .ref mfloors, .ref mlimits, .ref mlongs, .ref msteps, .int 0, .ref mprogram, .ref mkind, .ref mrank, .ref mstate, .ref mactLong, .ref mactSteps, .ref mat, .ref mregister, .ref misHeld, .ref mdoneIn, .ref mundone, .ref mby, .ref mbegunIn, .ref misVoid, .ref misAgain, .ref mholds, .ref mwrites, .ref mgives, .ref mbelow, .ref mqueued, .ref mqueuedMany, .int 0, .ref mdone, .int 0, .int 0, .ref mlog, .int 0, .int 0, .ref morder, .ref misReached, .ref mqueue])), (mcounters, .inl (cI, 8, .inl (fun _ => 0)))] sz)) 0 0 (va_A [(h, .inr (4, [.int 0, .ref mcells, .ref mcounters, .ref mfloors, .ref mlimits, .ref mlongs, .ref msteps, .int 0, .ref mprogram, .ref mkind, .ref mrank, .ref mstate, .ref mactLong, .ref mactSteps, .ref mat, .ref mregister, .ref misHeld, .ref mdoneIn, .ref mundone, .ref mby, .ref mbegunIn, .ref misVoid, .ref misAgain, .ref mholds, .ref mwrites, .ref mgives, .ref mbelow, .ref mqueued, .ref mqueuedMany, .int 0, .ref mdone, .int 0, .int 0, .ref mlog, .int 0, .int 0, .ref morder, .ref misReached, .ref mqueue])), (mcounters, .inl (cI, 8, .inl (fun _ => 0)))] sz) := by
  refine Met.ofW (cc := cX4_least) (maxL := 4) (ret := (some .int)) (by decide) rfl ?_
  intro p e s m args below meth c s₁ B hml hv
  obtain ⟨rfl, hsz, hP, hK, hD0⟩ := hv
  have hx := B.exec
  have hb := B.bytes
  have hr := B.returns
  have hts := atoms_spec (ws := wsX4_least) B.pre
  have hown : s.vm.findClass RX4 = some m.cls := findClass_of_methodNamed B.named
  have hlocks := B.notSynchronized
  subst hsz
  have hD := hD0.self (sz := s.heap.size)
  generalize hAe : va_A [(h, .inr (4, [.int 0, .ref mcells, .ref mcounters, .ref mfloors, .ref mlimits, .ref mlongs, .ref msteps, .int 0, .ref mprogram, .ref mkind, .ref mrank, .ref mstate, .ref mactLong, .ref mactSteps, .ref mat, .ref mregister, .ref misHeld, .ref mdoneIn, .ref mundone, .ref mby, .ref mbegunIn, .ref misVoid, .ref misAgain, .ref mholds, .ref mwrites, .ref mgives, .ref mbelow, .ref mqueued, .ref mqueuedMany, .int 0, .ref mdone, .int 0, .int 0, .ref mlog, .int 0, .int 0, .ref morder, .ref misReached, .ref mqueue])), (mcounters, .inl (cI, 8, .inl (fun _ => 0)))] s.heap.size = A at hD ⊢
  have hA : ∀ q : Nat, s.heap.size ≤ q → A q := fun q h => by rw [← hAe]; exact Or.inr h
  have hS : va_S A s.heap s.heap [] := va_S.rf
  have hl := lv_entry ([.ref h, .int x]) (n := 4) (Nat.le_of_ble_eq_true rfl)
  rw [lg_entry_eq]
  generalize (lg_sl ([.ref h, .int x]) ++ List.replicate (4 - (lg_sl ([.ref h, .int x])).length) Slot.unset).toArray = ls at hl ⊢
  have hl : lv_has ls 4 [(0, .ref h), (1, .int x)] := hl
  refine lv_aload_n hx hb dX4_least_0 rfl (lv_at hl 0 rfl) ?_
  refine va_get (D := D) (ci := 4) (v := .ref mcounters) (C := RX4) (T := TX4) (N := 39) hx hb hts kin_X4_least_X4 hown hK hP 0 rfl rfl 2 (by decide) (hts _ kw_X4_least__fieldLink_RX4_13_ActHouseModel_counters_I_) (fun _ h9 => h9) rfl dX4_least_1 ?_
  refine lv_iload_n hx hb dX4_least_4 rfl (lv_at hl 1 rfl) ?_
  have hi5 : vp_in x 8 := (k_in (by omega) (by omega))
  refine va_iald hx hb hK hP 1 0 rfl rfl hi5 dX4_least_5 ?_
  refine lv_istore_n (lv' := [(2, .int 0), (0, .ref h), (1, .int x)]) hx hb dX4_least_6 rfl hl (by decide) rfl (fun ls hl => ?_)
  refine lv_iconst (v := 0) hx hb dX4_least_7 (by decide) ?_
  refine lv_istore_n (lv' := [(3, .int 0), (2, .int 0), (0, .ref h), (1, .int x)]) hx hb dX4_least_8 rfl hl (by decide) rfl (fun ls hl => ?_)
  refine lv_iload_n hx hb dX4_least_9 rfl (lv_at hl 0 rfl) ?_
  refine lv_aload_n hx hb dX4_least_10 rfl (lv_at hl 2 rfl) ?_
  refine va_get (D := D) (ci := 4) (v := .int 0) (C := RX4) (T := TX4) (N := 39) hx hb hts kin_X4_least_X4 hown hK hP 0 rfl rfl 7 (by decide) (hts _ kw_X4_least__fieldLink_RX4_111_ActHouseModel_acts_I_) (fun _ h9 => h9) rfl dX4_least_11 ?_
  refine lv_icmp_ge (tgt := 51) hx hb dX4_least_14 (by decide) (fun c1 => ?_) (fun c1 => ?_)
  · skip
    refine lv_iload_n hx hb dX4_least_51 rfl (lv_at hl 1 rfl) ?_
    have hP := hP.sub (ws' := [(h, .inr (4, [.int 0, .ref mcells, .ref mcounters, .ref mfloors, .ref mlimits, .ref mlongs, .ref msteps, .int 0, .ref mprogram, .ref mkind, .ref mrank, .ref mstate, .ref mactLong, .ref mactSteps, .ref mat, .ref mregister, .ref misHeld, .ref mdoneIn, .ref mundone, .ref mby, .ref mbegunIn, .ref misVoid, .ref misAgain, .ref mholds, .ref mwrites, .ref mgives, .ref mbelow, .ref mqueued, .ref mqueuedMany, .int 0, .ref mdone, .int 0, .int 0, .ref mlog, .int 0, .int 0, .ref morder, .ref misReached, .ref mqueue])), (mcounters, .inl (cI, 8, .inl (fun _ => 0)))]) [0, 1] rfl
    have hD := hD.sub (ws' := [(h, .inr (4, [.int 0, .ref mcells, .ref mcounters, .ref mfloors, .ref mlimits, .ref mlongs, .ref msteps, .int 0, .ref mprogram, .ref mkind, .ref mrank, .ref mstate, .ref mactLong, .ref mactSteps, .ref mat, .ref mregister, .ref misHeld, .ref mdoneIn, .ref mundone, .ref mby, .ref mbegunIn, .ref misVoid, .ref misAgain, .ref mholds, .ref mwrites, .ref mgives, .ref mbelow, .ref mqueued, .ref mqueuedMany, .int 0, .ref mdone, .int 0, .int 0, .ref mlog, .int 0, .int 0, .ref morder, .ref misReached, .ref mqueue])), (mcounters, .inl (cI, 8, .inl (fun _ => 0)))]) [0, 1] (by decide) rfl
    have hK := hK.sub (tys' := [(cI, .int)]) [0] rfl
    refine W.widen (k := 0) (n := 0) (by decide) (by decide) ?_
    exact W.iret (v := 0) hx hb hr (fun t ht hW => ⟨⟨0, ([(h, .inr (4, [.int 0, .ref mcells, .ref mcounters, .ref mfloors, .ref mlimits, .ref mlongs, .ref msteps, .int 0, .ref mprogram, .ref mkind, .ref mrank, .ref mstate, .ref mactLong, .ref mactSteps, .ref mat, .ref mregister, .ref misHeld, .ref mdoneIn, .ref mundone, .ref mby, .ref mbegunIn, .ref misVoid, .ref misAgain, .ref mholds, .ref mwrites, .ref mgives, .ref mbelow, .ref mqueued, .ref mqueuedMany, .int 0, .ref mdone, .int 0, .int 0, .ref mlog, .int 0, .int 0, .ref morder, .ref misReached, .ref mqueue])), (mcounters, .inl (cI, 8, .inl (fun _ => 0)))], [(cI, .int)]), rfl, ⟨rfl, rfl⟩, ⟨by rw [ht]; exact hP, va_K.moved hW.alike hK, hD⟩⟩, hS.F ht⟩) hS.2.2 dX4_least_52
  · skip
    exact absurd c1 (by decide)
set_option maxRecDepth 100000 in
theorem kw_X4_floor__fieldLink_RX4_16_ActHouseModel_floors_I_ : (.fieldLink RX4 16 "ActHouseModel" "floors" "[I" : Cond) ∈ wsX4_floor := by decide +kernel
set_option maxRecDepth 100000 in
theorem kin_X4_floor_X4 : ∀ w ∈ u_ws RX4 TX4 39, w ∈ wsX4_floor := by decide +kernel
set_option maxHeartbeats 4000000 in
set_option maxRecDepth 100000 in
theorem c_X4_floor {l : Launch} {D : va_G} {sz : Nat} {h : Nat} {mcells : Nat} {mcounters : Nat} {mfloors : Nat} {mlimits : Nat} {mlongs : Nat} {msteps : Nat} {mprogram : Nat} {mkind : Nat} {mrank : Nat} {mstate : Nat} {mactLong : Nat} {mactSteps : Nat} {mat : Nat} {mregister : Nat} {misHeld : Nat} {mdoneIn : Nat} {mundone : Nat} {mby : Nat} {mbegunIn : Nat} {misVoid : Nat} {misAgain : Nat} {mholds : Nat} {mwrites : Nat} {mgives : Nat} {mbelow : Nat} {mqueued : Nat} {mqueuedMany : Nat} {mdone : Nat} {mlog : Nat} {morder : Nat} {misReached : Nat} {mqueue : Nat} {x : Int32} {y : Int32} {cI : ClassId}  : Met l yX4_floor wsX4_floor ({ frames := 1, cells := 0, slots := 0, locals := 23 }) (va_Pc [.ref h, .int x, .int y] (k_Pre D [(cI, .int)] [(h, .inr (4, [.int 0, .ref mcells, .ref mcounters, .ref mfloors, .ref mlimits, .ref mlongs, .ref msteps, .int 0, .ref mprogram, .ref mkind, .ref mrank, .ref mstate, .ref mactLong, .ref mactSteps, .ref mat, .ref mregister, .ref misHeld, .ref mdoneIn, .ref mundone, .ref mby, .ref mbegunIn, .ref misVoid, .ref misAgain, .ref mholds, .ref mwrites, .ref mgives, .ref mbelow, .ref mqueued, .ref mqueuedMany, .int 0, .ref mdone, .int 0, .int 0, .ref mlog, .int 0, .int 0, .ref morder, .ref misReached, .ref mqueue])), (mcounters, .inl (cI, 8, .inl (fun _ => 0))), (mfloors, .inl (cI, 8, .inl (fun _ => 0)))] sz)) (va_Qi (fun (r : Int32) (u : va_W × List (ClassId × FieldType)) => (r = 1 ∧ u = ([], [(cI, .int)]) ∧ 0 ≤ x.toInt ∧ x.toInt ≤ 7 ∧ -1000 ≤ y.toInt ∧ y.toInt ≤ 0) ∨ (r = 0 ∧ u = ([], [(cI, .int)]) ∧ (x.toInt < 0 ∨ 7 < x.toInt ∨ y.toInt < -1000 ∨ 0 < y.toInt))) (k_B D (va_A [(h, .inr (4, [.int 0, .ref mcells, .ref mcounters, .ref mfloors, .ref mlimits, .ref mlongs, .ref msteps, .int 0, .ref mprogram, .ref mkind, .ref mrank, .ref mstate, .ref mactLong, .ref mactSteps, .ref mat, .ref mregister, .ref misHeld, .ref mdoneIn, .ref mundone, .ref mby, .ref mbegunIn, .ref misVoid, .ref misAgain, .ref mholds, .ref mwrites, .ref mgives, .ref mbelow, .ref mqueued, .ref mqueuedMany, .int 0, .ref mdone, .int 0, .int 0, .ref mlog, .int 0, .int 0, .ref morder, .ref misReached, .ref mqueue])), (mcounters, .inl (cI, 8, .inl (fun _ => 0))), (mfloors, .inl (cI, 8, .inl (fun _ => 0)))] sz)) (va_A [(h, .inr (4, [.int 0, .ref mcells, .ref mcounters, .ref mfloors, .ref mlimits, .ref mlongs, .ref msteps, .int 0, .ref mprogram, .ref mkind, .ref mrank, .ref mstate, .ref mactLong, .ref mactSteps, .ref mat, .ref mregister, .ref misHeld, .ref mdoneIn, .ref mundone, .ref mby, .ref mbegunIn, .ref misVoid, .ref misAgain, .ref mholds, .ref mwrites, .ref mgives, .ref mbelow, .ref mqueued, .ref mqueuedMany, .int 0, .ref mdone, .int 0, .int 0, .ref mlog, .int 0, .int 0, .ref morder, .ref misReached, .ref mqueue])), (mcounters, .inl (cI, 8, .inl (fun _ => 0))), (mfloors, .inl (cI, 8, .inl (fun _ => 0)))] sz)) 0 0 (va_A [(h, .inr (4, [.int 0, .ref mcells, .ref mcounters, .ref mfloors, .ref mlimits, .ref mlongs, .ref msteps, .int 0, .ref mprogram, .ref mkind, .ref mrank, .ref mstate, .ref mactLong, .ref mactSteps, .ref mat, .ref mregister, .ref misHeld, .ref mdoneIn, .ref mundone, .ref mby, .ref mbegunIn, .ref misVoid, .ref misAgain, .ref mholds, .ref mwrites, .ref mgives, .ref mbelow, .ref mqueued, .ref mqueuedMany, .int 0, .ref mdone, .int 0, .int 0, .ref mlog, .int 0, .int 0, .ref morder, .ref misReached, .ref mqueue])), (mcounters, .inl (cI, 8, .inl (fun _ => 0))), (mfloors, .inl (cI, 8, .inl (fun _ => 0)))] sz) := by
  refine Met.ofW (cc := cX4_floor) (maxL := 3) (ret := (some .boolean)) (by decide) rfl ?_
  intro p e s m args below meth c s₁ B hml hv
  obtain ⟨rfl, hsz, hP, hK, hD0⟩ := hv
  have hx := B.exec
  have hb := B.bytes
  have hr := B.returns
  have hts := atoms_spec (ws := wsX4_floor) B.pre
  have hown : s.vm.findClass RX4 = some m.cls := findClass_of_methodNamed B.named
  have hlocks := B.notSynchronized
  subst hsz
  have hD := hD0.self (sz := s.heap.size)
  generalize hAe : va_A [(h, .inr (4, [.int 0, .ref mcells, .ref mcounters, .ref mfloors, .ref mlimits, .ref mlongs, .ref msteps, .int 0, .ref mprogram, .ref mkind, .ref mrank, .ref mstate, .ref mactLong, .ref mactSteps, .ref mat, .ref mregister, .ref misHeld, .ref mdoneIn, .ref mundone, .ref mby, .ref mbegunIn, .ref misVoid, .ref misAgain, .ref mholds, .ref mwrites, .ref mgives, .ref mbelow, .ref mqueued, .ref mqueuedMany, .int 0, .ref mdone, .int 0, .int 0, .ref mlog, .int 0, .int 0, .ref morder, .ref misReached, .ref mqueue])), (mcounters, .inl (cI, 8, .inl (fun _ => 0))), (mfloors, .inl (cI, 8, .inl (fun _ => 0)))] s.heap.size = A at hD ⊢
  have hA : ∀ q : Nat, s.heap.size ≤ q → A q := fun q h => by rw [← hAe]; exact Or.inr h
  have hS : va_S A s.heap s.heap [] := va_S.rf
  have hl := lv_entry ([.ref h, .int x, .int y]) (n := 3) (Nat.le_of_ble_eq_true rfl)
  rw [lg_entry_eq]
  generalize (lg_sl ([.ref h, .int x, .int y]) ++ List.replicate (3 - (lg_sl ([.ref h, .int x, .int y])).length) Slot.unset).toArray = ls at hl ⊢
  have hl : lv_has ls 3 [(0, .ref h), (1, .int x), (2, .int y)] := hl
  refine lv_iload_n hx hb dX4_floor_0 rfl (lv_at hl 1 rfl) ?_
  refine lv_iconst (v := 0) hx hb dX4_floor_1 (by decide) ?_
  refine lv_bipush (v := 7) hx hb dX4_floor_2 (by decide) ?_
  have hPc := hP.sub (ws' := []) [] rfl
  have hDc := hD.sub (ws' := []) [] (by decide) rfl
  have hKc := hK.sub (tys' := []) [] rfl
  have hFc := va_free (wc := []) hD hS hA [] rfl
  refine va_calli (va_runS (As := [.int x, .int 0, .int 7]) (rest := []) ⟨hx, hb, hml, hown, hts⟩ (c_X4_in (l := l) (D := D) (x := x) (y := 0) (z := 7) ) (va_cwS 3 hts gX4_floor_X4_in rfl rfl rfl (by decide +kernel) ⟨Nat.le_of_ble_eq_true rfl, Nat.le_of_ble_eq_true rfl⟩) ⟨k_blind, fun U hU hW => ⟨rfl, k_pre hU hW hPc hKc hDc⟩⟩ rfl rfl hl.1 rfl (lv_room (Nat.le_of_ble_eq_true rfl)) dX4_floor_4 ⟨by decide, by decide⟩) hS (fun q _ h => hFc q h) hFc (fun r1 u t H1 locs ht hvm hw hB hz1 hk1 hS => ?_)
  refine W.widen (k := 0) (n := 0) (Nat.le_refl _) (Nat.le_refl _) ?_
  have hl0 : (0 : Int32).toInt = 0 := by decide
  have hl7 : (7 : Int32).toInt = 7 := by decide
  rcases hw with ⟨rfl, rfl, ha_1, hb_1⟩ | ⟨rfl, rfl, ha_1⟩
  · skip
    obtain ⟨hP1, hK1, hD1⟩ := hB
    rw [ht] at hP1
    have hK1 := va_K.moved hvm.symm hK1
    obtain ⟨hP, hD⟩ := va_join (wr := [(h, .inr (4, [.int 0, .ref mcells, .ref mcounters, .ref mfloors, .ref mlimits, .ref mlongs, .ref msteps, .int 0, .ref mprogram, .ref mkind, .ref mrank, .ref mstate, .ref mactLong, .ref mactSteps, .ref mat, .ref mregister, .ref misHeld, .ref mdoneIn, .ref mundone, .ref mby, .ref mbegunIn, .ref misVoid, .ref misAgain, .ref mholds, .ref mwrites, .ref mgives, .ref mbelow, .ref mqueued, .ref mqueuedMany, .int 0, .ref mdone, .int 0, .int 0, .ref mlog, .int 0, .int 0, .ref morder, .ref misReached, .ref mqueue])), (mcounters, .inl (cI, 8, .inl (fun _ => 0))), (mfloors, .inl (cI, 8, .inl (fun _ => 0)))]) (w1 := []) hP hD [] [0, 1, 2] rfl rfl (by decide) (by decide) hk1 hFc hP1 hD1
    generalize H1 = H at hP hS ⊢
    have hP : va_P D vwCl [(h, .inr (4, [.int 0, .ref mcells, .ref mcounters, .ref mfloors, .ref mlimits, .ref mlongs, .ref msteps, .int 0, .ref mprogram, .ref mkind, .ref mrank, .ref mstate, .ref mactLong, .ref mactSteps, .ref mat, .ref mregister, .ref misHeld, .ref mdoneIn, .ref mundone, .ref mby, .ref mbegunIn, .ref misVoid, .ref misAgain, .ref mholds, .ref mwrites, .ref mgives, .ref mbelow, .ref mqueued, .ref mqueuedMany, .int 0, .ref mdone, .int 0, .int 0, .ref mlog, .int 0, .int 0, .ref morder, .ref misReached, .ref mqueue])), (mcounters, .inl (cI, 8, .inl (fun _ => 0))), (mfloors, .inl (cI, 8, .inl (fun _ => 0)))] H := hP
    have hD : va_D A [(h, .inr (4, [.int 0, .ref mcells, .ref mcounters, .ref mfloors, .ref mlimits, .ref mlongs, .ref msteps, .int 0, .ref mprogram, .ref mkind, .ref mrank, .ref mstate, .ref mactLong, .ref mactSteps, .ref mat, .ref mregister, .ref misHeld, .ref mdoneIn, .ref mundone, .ref mby, .ref mbegunIn, .ref misVoid, .ref misAgain, .ref mholds, .ref mwrites, .ref mgives, .ref mbelow, .ref mqueued, .ref mqueuedMany, .int 0, .ref mdone, .int 0, .int 0, .ref mlog, .int 0, .int 0, .ref morder, .ref misReached, .ref mqueue])), (mcounters, .inl (cI, 8, .inl (fun _ => 0))), (mfloors, .inl (cI, 8, .inl (fun _ => 0)))] := hD
    refine lv_if_eq (tgt := 30) hx hb dX4_floor_7 (by decide) (fun c2 => ?_) (fun c2 => ?_)
    · skip
      exact absurd c2 (by decide)
    · skip
      refine lv_iload_n hx hb dX4_floor_10 rfl (lv_at hl 2 rfl) ?_
      refine lv_sipush (v := (-1000)) hx hb dX4_floor_11 (by decide) ?_
      refine lv_iconst (v := 0) hx hb dX4_floor_14 (by decide) ?_
      have hPc := hP.sub (ws' := []) [] rfl
      have hDc := hD.sub (ws' := []) [] (by decide) rfl
      have hKc := hK.sub (tys' := []) [] rfl
      have hFc := va_free (wc := []) hD hS hA [] rfl
      refine va_calli (va_runS (As := [.int y, .int (-1000), .int 0]) (rest := []) ⟨hx, hb, hml, hown, hts⟩ (c_X4_in (l := l) (D := D) (x := y) (y := (-1000)) (z := 0) ) (va_cwS 3 hts gX4_floor_X4_in rfl rfl rfl (by decide +kernel) ⟨Nat.le_of_ble_eq_true rfl, Nat.le_of_ble_eq_true rfl⟩) ⟨k_blind, fun U hU hW => ⟨rfl, k_pre hU hW hPc hKc hDc⟩⟩ rfl rfl hl.1 rfl (lv_room (Nat.le_of_ble_eq_true rfl)) dX4_floor_15 ⟨by decide, by decide⟩) hS (fun q _ h => hFc q h) hFc (fun r3 u t H1 locs ht hvm hw hB hz1 hk1 hS => ?_)
      refine W.widen (k := 0) (n := 0) (Nat.le_refl _) (Nat.le_refl _) ?_
      have hlm1000 : ((-1000) : Int32).toInt = -1000 := by decide
      have hl0 : (0 : Int32).toInt = 0 := by decide
      rcases hw with ⟨rfl, rfl, ha_3, hb_3⟩ | ⟨rfl, rfl, ha_3⟩
      · skip
        obtain ⟨hP1, hK1, hD1⟩ := hB
        rw [ht] at hP1
        have hK1 := va_K.moved hvm.symm hK1
        obtain ⟨hP, hD⟩ := va_join (wr := [(h, .inr (4, [.int 0, .ref mcells, .ref mcounters, .ref mfloors, .ref mlimits, .ref mlongs, .ref msteps, .int 0, .ref mprogram, .ref mkind, .ref mrank, .ref mstate, .ref mactLong, .ref mactSteps, .ref mat, .ref mregister, .ref misHeld, .ref mdoneIn, .ref mundone, .ref mby, .ref mbegunIn, .ref misVoid, .ref misAgain, .ref mholds, .ref mwrites, .ref mgives, .ref mbelow, .ref mqueued, .ref mqueuedMany, .int 0, .ref mdone, .int 0, .int 0, .ref mlog, .int 0, .int 0, .ref morder, .ref misReached, .ref mqueue])), (mcounters, .inl (cI, 8, .inl (fun _ => 0))), (mfloors, .inl (cI, 8, .inl (fun _ => 0)))]) (w1 := []) hP hD [] [0, 1, 2] rfl rfl (by decide) (by decide) hk1 hFc hP1 hD1
        generalize H1 = H at hP hS ⊢
        have hP : va_P D vwCl [(h, .inr (4, [.int 0, .ref mcells, .ref mcounters, .ref mfloors, .ref mlimits, .ref mlongs, .ref msteps, .int 0, .ref mprogram, .ref mkind, .ref mrank, .ref mstate, .ref mactLong, .ref mactSteps, .ref mat, .ref mregister, .ref misHeld, .ref mdoneIn, .ref mundone, .ref mby, .ref mbegunIn, .ref misVoid, .ref misAgain, .ref mholds, .ref mwrites, .ref mgives, .ref mbelow, .ref mqueued, .ref mqueuedMany, .int 0, .ref mdone, .int 0, .int 0, .ref mlog, .int 0, .int 0, .ref morder, .ref misReached, .ref mqueue])), (mcounters, .inl (cI, 8, .inl (fun _ => 0))), (mfloors, .inl (cI, 8, .inl (fun _ => 0)))] H := hP
        have hD : va_D A [(h, .inr (4, [.int 0, .ref mcells, .ref mcounters, .ref mfloors, .ref mlimits, .ref mlongs, .ref msteps, .int 0, .ref mprogram, .ref mkind, .ref mrank, .ref mstate, .ref mactLong, .ref mactSteps, .ref mat, .ref mregister, .ref misHeld, .ref mdoneIn, .ref mundone, .ref mby, .ref mbegunIn, .ref misVoid, .ref misAgain, .ref mholds, .ref mwrites, .ref mgives, .ref mbelow, .ref mqueued, .ref mqueuedMany, .int 0, .ref mdone, .int 0, .int 0, .ref mlog, .int 0, .int 0, .ref morder, .ref misReached, .ref mqueue])), (mcounters, .inl (cI, 8, .inl (fun _ => 0))), (mfloors, .inl (cI, 8, .inl (fun _ => 0)))] := hD
        refine lv_if_eq (tgt := 30) hx hb dX4_floor_18 (by decide) (fun c4 => ?_) (fun c4 => ?_)
        · skip
          exact absurd c4 (by decide)
        · skip
          refine lv_aload_n hx hb dX4_floor_21 rfl (lv_at hl 0 rfl) ?_
          refine lv_iload_n hx hb dX4_floor_22 rfl (lv_at hl 1 rfl) ?_
          have hPc := hP.sub (ws' := [(h, .inr (4, [.int 0, .ref mcells, .ref mcounters, .ref mfloors, .ref mlimits, .ref mlongs, .ref msteps, .int 0, .ref mprogram, .ref mkind, .ref mrank, .ref mstate, .ref mactLong, .ref mactSteps, .ref mat, .ref mregister, .ref misHeld, .ref mdoneIn, .ref mundone, .ref mby, .ref mbegunIn, .ref misVoid, .ref misAgain, .ref mholds, .ref mwrites, .ref mgives, .ref mbelow, .ref mqueued, .ref mqueuedMany, .int 0, .ref mdone, .int 0, .int 0, .ref mlog, .int 0, .int 0, .ref morder, .ref misReached, .ref mqueue])), (mcounters, .inl (cI, 8, .inl (fun _ => 0)))]) [0, 1] rfl
          have hDc := hD.sub (ws' := [(h, .inr (4, [.int 0, .ref mcells, .ref mcounters, .ref mfloors, .ref mlimits, .ref mlongs, .ref msteps, .int 0, .ref mprogram, .ref mkind, .ref mrank, .ref mstate, .ref mactLong, .ref mactSteps, .ref mat, .ref mregister, .ref misHeld, .ref mdoneIn, .ref mundone, .ref mby, .ref mbegunIn, .ref misVoid, .ref misAgain, .ref mholds, .ref mwrites, .ref mgives, .ref mbelow, .ref mqueued, .ref mqueuedMany, .int 0, .ref mdone, .int 0, .int 0, .ref mlog, .int 0, .int 0, .ref morder, .ref misReached, .ref mqueue])), (mcounters, .inl (cI, 8, .inl (fun _ => 0)))]) [0, 1] (by decide) rfl
          have hKc := hK.sub (tys' := [(cI, .int)]) [0] rfl
          have hFc := va_free (wc := [(h, .inr (4, [.int 0, .ref mcells, .ref mcounters, .ref mfloors, .ref mlimits, .ref mlongs, .ref msteps, .int 0, .ref mprogram, .ref mkind, .ref mrank, .ref mstate, .ref mactLong, .ref mactSteps, .ref mat, .ref mregister, .ref misHeld, .ref mdoneIn, .ref mundone, .ref mby, .ref mbegunIn, .ref misVoid, .ref misAgain, .ref mholds, .ref mwrites, .ref mgives, .ref mbelow, .ref mqueued, .ref mqueuedMany, .int 0, .ref mdone, .int 0, .int 0, .ref mlog, .int 0, .int 0, .ref morder, .ref misReached, .ref mqueue])), (mcounters, .inl (cI, 8, .inl (fun _ => 0)))]) hD hS hA [0, 1] rfl
          refine va_calli (va_runV (As := [.int x]) (rest := []) ⟨hx, hb, hml, hown, hts⟩ (c_X4_least (l := l) (D := D) (h := h) (mcells := mcells) (mcounters := mcounters) (mfloors := mfloors) (mlimits := mlimits) (mlongs := mlongs) (msteps := msteps) (mprogram := mprogram) (mkind := mkind) (mrank := mrank) (mstate := mstate) (mactLong := mactLong) (mactSteps := mactSteps) (mat := mat) (mregister := mregister) (misHeld := misHeld) (mdoneIn := mdoneIn) (mundone := mundone) (mby := mby) (mbegunIn := mbegunIn) (misVoid := misVoid) (misAgain := misAgain) (mholds := mholds) (mwrites := mwrites) (mgives := mgives) (mbelow := mbelow) (mqueued := mqueued) (mqueuedMany := mqueuedMany) (mdone := mdone) (mlog := mlog) (morder := morder) (misReached := misReached) (mqueue := mqueue) (x := x) (cI := cI) (by omega) (by omega)) (cwV 1 hts gX4_floor_X4_least rfl rfl rfl (by decide +kernel) ⟨Nat.le_of_ble_eq_true rfl, Nat.le_of_ble_eq_true rfl⟩) ⟨k_blind, va_recv hKc hPc (ci := 4) (q0 := 0) rfl rfl, fun U hU hW => ⟨rfl, k_pre hU hW hPc hKc hDc⟩⟩ rfl rfl hl.1 rfl (lv_room (Nat.le_of_ble_eq_true rfl)) dX4_floor_23 ⟨by decide, by decide⟩) hS (fun q _ h => hFc q h) hFc (fun r5 u t H1 locs ht hvm hw hB hz1 hk1 hS => ?_)
          refine W.widen (k := 0) (n := 0) (Nat.le_refl _) (Nat.le_refl _) ?_
          obtain ⟨rfl, rfl⟩ := hw
          obtain ⟨hP1, hK1, hD1⟩ := hB
          rw [ht] at hP1
          have hK1 := va_K.moved hvm.symm hK1
          obtain ⟨hP, hD⟩ := va_join (wr := [(mfloors, .inl (cI, 8, .inl (fun _ => 0)))]) (w1 := [(h, .inr (4, [.int 0, .ref mcells, .ref mcounters, .ref mfloors, .ref mlimits, .ref mlongs, .ref msteps, .int 0, .ref mprogram, .ref mkind, .ref mrank, .ref mstate, .ref mactLong, .ref mactSteps, .ref mat, .ref mregister, .ref misHeld, .ref mdoneIn, .ref mundone, .ref mby, .ref mbegunIn, .ref misVoid, .ref misAgain, .ref mholds, .ref mwrites, .ref mgives, .ref mbelow, .ref mqueued, .ref mqueuedMany, .int 0, .ref mdone, .int 0, .int 0, .ref mlog, .int 0, .int 0, .ref morder, .ref misReached, .ref mqueue])), (mcounters, .inl (cI, 8, .inl (fun _ => 0)))]) hP hD [0, 1] [2] rfl rfl (by decide) (by decide) hk1 hFc hP1 hD1
          generalize H1 = H at hP hS ⊢
          have hP : va_P D vwCl [(mfloors, .inl (cI, 8, .inl (fun _ => 0))), (h, .inr (4, [.int 0, .ref mcells, .ref mcounters, .ref mfloors, .ref mlimits, .ref mlongs, .ref msteps, .int 0, .ref mprogram, .ref mkind, .ref mrank, .ref mstate, .ref mactLong, .ref mactSteps, .ref mat, .ref mregister, .ref misHeld, .ref mdoneIn, .ref mundone, .ref mby, .ref mbegunIn, .ref misVoid, .ref misAgain, .ref mholds, .ref mwrites, .ref mgives, .ref mbelow, .ref mqueued, .ref mqueuedMany, .int 0, .ref mdone, .int 0, .int 0, .ref mlog, .int 0, .int 0, .ref morder, .ref misReached, .ref mqueue])), (mcounters, .inl (cI, 8, .inl (fun _ => 0)))] H := hP
          have hD : va_D A [(mfloors, .inl (cI, 8, .inl (fun _ => 0))), (h, .inr (4, [.int 0, .ref mcells, .ref mcounters, .ref mfloors, .ref mlimits, .ref mlongs, .ref msteps, .int 0, .ref mprogram, .ref mkind, .ref mrank, .ref mstate, .ref mactLong, .ref mactSteps, .ref mat, .ref mregister, .ref misHeld, .ref mdoneIn, .ref mundone, .ref mby, .ref mbegunIn, .ref misVoid, .ref misAgain, .ref mholds, .ref mwrites, .ref mgives, .ref mbelow, .ref mqueued, .ref mqueuedMany, .int 0, .ref mdone, .int 0, .int 0, .ref mlog, .int 0, .int 0, .ref morder, .ref misReached, .ref mqueue])), (mcounters, .inl (cI, 8, .inl (fun _ => 0)))] := hD
          refine lv_iload_n hx hb dX4_floor_26 rfl (lv_at hl 2 rfl) ?_
          refine lv_icmp_ge (tgt := 32) hx hb dX4_floor_27 (by decide) (fun c6 => ?_) (fun c6 => ?_)
          · skip
            have c6 := k_le c6
            have hl0 : (0 : Int32).toInt = 0 := by decide
            refine lv_aload_n hx hb dX4_floor_32 rfl (lv_at hl 0 rfl) ?_
            refine va_get (D := D) (ci := 4) (v := .ref mfloors) (C := RX4) (T := TX4) (N := 39) hx hb hts kin_X4_floor_X4 hown hK hP 1 rfl rfl 3 (by decide) (hts _ kw_X4_floor__fieldLink_RX4_16_ActHouseModel_floors_I_) (fun _ h9 => h9) rfl dX4_floor_33 ?_
            refine lv_iload_n hx hb dX4_floor_36 rfl (lv_at hl 1 rfl) ?_
            refine lv_iload_n hx hb dX4_floor_37 rfl (lv_at hl 2 rfl) ?_
            have hi38 : vp_in x 8 := (k_in (by omega) (by omega))
            refine va_iast hx hb hK hP hD hS 0 0 rfl rfl hi38 dX4_floor_38 (fun H locs hP hD hS => ?_)
            have hP : va_P D vwCl [(mfloors, .inl (cI, 8, .inl (upd (fun _ => 0) x.toNatClampNeg y))), (h, .inr (4, [.int 0, .ref mcells, .ref mcounters, .ref mfloors, .ref mlimits, .ref mlongs, .ref msteps, .int 0, .ref mprogram, .ref mkind, .ref mrank, .ref mstate, .ref mactLong, .ref mactSteps, .ref mat, .ref mregister, .ref misHeld, .ref mdoneIn, .ref mundone, .ref mby, .ref mbegunIn, .ref misVoid, .ref misAgain, .ref mholds, .ref mwrites, .ref mgives, .ref mbelow, .ref mqueued, .ref mqueuedMany, .int 0, .ref mdone, .int 0, .int 0, .ref mlog, .int 0, .int 0, .ref morder, .ref misReached, .ref mqueue])), (mcounters, .inl (cI, 8, .inl (fun _ => 0)))] H := hP
            have hD : va_D A [(mfloors, .inl (cI, 8, .inl (upd (fun _ => 0) x.toNatClampNeg y))), (h, .inr (4, [.int 0, .ref mcells, .ref mcounters, .ref mfloors, .ref mlimits, .ref mlongs, .ref msteps, .int 0, .ref mprogram, .ref mkind, .ref mrank, .ref mstate, .ref mactLong, .ref mactSteps, .ref mat, .ref mregister, .ref misHeld, .ref mdoneIn, .ref mundone, .ref mby, .ref mbegunIn, .ref misVoid, .ref misAgain, .ref mholds, .ref mwrites, .ref mgives, .ref mbelow, .ref mqueued, .ref mqueuedMany, .int 0, .ref mdone, .int 0, .int 0, .ref mlog, .int 0, .int 0, .ref morder, .ref misReached, .ref mqueue])), (mcounters, .inl (cI, 8, .inl (fun _ => 0)))] := hD
            refine lv_iconst (v := 1) hx hb dX4_floor_39 (by decide) ?_
            have hP := hP.sub (ws' := []) [] rfl
            have hD := hD.sub (ws' := []) [] (by decide) rfl
            have hK := hK.sub (tys' := [(cI, .int)]) [0] rfl
            refine W.widen (k := 0) (n := 0) (by decide) (by decide) ?_
            exact W.zret (v := 1) hx hb hr (by decide) (fun t ht hW => ⟨⟨1, ([], [(cI, .int)]), rfl, Or.inl ⟨rfl, rfl, (by omega), (by omega), (by omega), (by omega)⟩, ⟨by rw [ht]; exact hP, va_K.moved hW.alike hK, hD⟩⟩, hS.F ht⟩) hS.2.2 dX4_floor_40
          · skip
            have c6 := k_nle c6
            have hl0 : (0 : Int32).toInt = 0 := by decide
            refine lv_iconst (v := 0) hx hb dX4_floor_30 (by decide) ?_
            have hP := hP.sub (ws' := []) [] rfl
            have hD := hD.sub (ws' := []) [] (by decide) rfl
            have hK := hK.sub (tys' := [(cI, .int)]) [0] rfl
            refine W.widen (k := 0) (n := 0) (by decide) (by decide) ?_
            exact W.zret (v := 0) hx hb hr (by decide) (fun t ht hW => ⟨⟨0, ([], [(cI, .int)]), rfl, Or.inr (⟨rfl, rfl, (by omega)⟩), ⟨by rw [ht]; exact hP, va_K.moved hW.alike hK, hD⟩⟩, hS.F ht⟩) hS.2.2 dX4_floor_31
      · skip
        obtain ⟨hP1, hK1, hD1⟩ := hB
        rw [ht] at hP1
        have hK1 := va_K.moved hvm.symm hK1
        obtain ⟨hP, hD⟩ := va_join (wr := [(h, .inr (4, [.int 0, .ref mcells, .ref mcounters, .ref mfloors, .ref mlimits, .ref mlongs, .ref msteps, .int 0, .ref mprogram, .ref mkind, .ref mrank, .ref mstate, .ref mactLong, .ref mactSteps, .ref mat, .ref mregister, .ref misHeld, .ref mdoneIn, .ref mundone, .ref mby, .ref mbegunIn, .ref misVoid, .ref misAgain, .ref mholds, .ref mwrites, .ref mgives, .ref mbelow, .ref mqueued, .ref mqueuedMany, .int 0, .ref mdone, .int 0, .int 0, .ref mlog, .int 0, .int 0, .ref morder, .ref misReached, .ref mqueue])), (mcounters, .inl (cI, 8, .inl (fun _ => 0))), (mfloors, .inl (cI, 8, .inl (fun _ => 0)))]) (w1 := []) hP hD [] [0, 1, 2] rfl rfl (by decide) (by decide) hk1 hFc hP1 hD1
        generalize H1 = H at hP hS ⊢
        have hP : va_P D vwCl [(h, .inr (4, [.int 0, .ref mcells, .ref mcounters, .ref mfloors, .ref mlimits, .ref mlongs, .ref msteps, .int 0, .ref mprogram, .ref mkind, .ref mrank, .ref mstate, .ref mactLong, .ref mactSteps, .ref mat, .ref mregister, .ref misHeld, .ref mdoneIn, .ref mundone, .ref mby, .ref mbegunIn, .ref misVoid, .ref misAgain, .ref mholds, .ref mwrites, .ref mgives, .ref mbelow, .ref mqueued, .ref mqueuedMany, .int 0, .ref mdone, .int 0, .int 0, .ref mlog, .int 0, .int 0, .ref morder, .ref misReached, .ref mqueue])), (mcounters, .inl (cI, 8, .inl (fun _ => 0))), (mfloors, .inl (cI, 8, .inl (fun _ => 0)))] H := hP
        have hD : va_D A [(h, .inr (4, [.int 0, .ref mcells, .ref mcounters, .ref mfloors, .ref mlimits, .ref mlongs, .ref msteps, .int 0, .ref mprogram, .ref mkind, .ref mrank, .ref mstate, .ref mactLong, .ref mactSteps, .ref mat, .ref mregister, .ref misHeld, .ref mdoneIn, .ref mundone, .ref mby, .ref mbegunIn, .ref misVoid, .ref misAgain, .ref mholds, .ref mwrites, .ref mgives, .ref mbelow, .ref mqueued, .ref mqueuedMany, .int 0, .ref mdone, .int 0, .int 0, .ref mlog, .int 0, .int 0, .ref morder, .ref misReached, .ref mqueue])), (mcounters, .inl (cI, 8, .inl (fun _ => 0))), (mfloors, .inl (cI, 8, .inl (fun _ => 0)))] := hD
        refine lv_if_eq (tgt := 30) hx hb dX4_floor_18 (by decide) (fun c7 => ?_) (fun c7 => ?_)
        · skip
          refine lv_iconst (v := 0) hx hb dX4_floor_30 (by decide) ?_
          have hP := hP.sub (ws' := []) [] rfl
          have hD := hD.sub (ws' := []) [] (by decide) rfl
          have hK := hK.sub (tys' := [(cI, .int)]) [0] rfl
          refine W.widen (k := 0) (n := 0) (by decide) (by decide) ?_
          exact W.zret (v := 0) hx hb hr (by decide) (fun t ht hW => ⟨⟨0, ([], [(cI, .int)]), rfl, Or.inr (⟨rfl, rfl, (by omega)⟩), ⟨by rw [ht]; exact hP, va_K.moved hW.alike hK, hD⟩⟩, hS.F ht⟩) hS.2.2 dX4_floor_31
        · skip
          exact absurd c7 (by decide)
  · skip
    obtain ⟨hP1, hK1, hD1⟩ := hB
    rw [ht] at hP1
    have hK1 := va_K.moved hvm.symm hK1
    obtain ⟨hP, hD⟩ := va_join (wr := [(h, .inr (4, [.int 0, .ref mcells, .ref mcounters, .ref mfloors, .ref mlimits, .ref mlongs, .ref msteps, .int 0, .ref mprogram, .ref mkind, .ref mrank, .ref mstate, .ref mactLong, .ref mactSteps, .ref mat, .ref mregister, .ref misHeld, .ref mdoneIn, .ref mundone, .ref mby, .ref mbegunIn, .ref misVoid, .ref misAgain, .ref mholds, .ref mwrites, .ref mgives, .ref mbelow, .ref mqueued, .ref mqueuedMany, .int 0, .ref mdone, .int 0, .int 0, .ref mlog, .int 0, .int 0, .ref morder, .ref misReached, .ref mqueue])), (mcounters, .inl (cI, 8, .inl (fun _ => 0))), (mfloors, .inl (cI, 8, .inl (fun _ => 0)))]) (w1 := []) hP hD [] [0, 1, 2] rfl rfl (by decide) (by decide) hk1 hFc hP1 hD1
    generalize H1 = H at hP hS ⊢
    have hP : va_P D vwCl [(h, .inr (4, [.int 0, .ref mcells, .ref mcounters, .ref mfloors, .ref mlimits, .ref mlongs, .ref msteps, .int 0, .ref mprogram, .ref mkind, .ref mrank, .ref mstate, .ref mactLong, .ref mactSteps, .ref mat, .ref mregister, .ref misHeld, .ref mdoneIn, .ref mundone, .ref mby, .ref mbegunIn, .ref misVoid, .ref misAgain, .ref mholds, .ref mwrites, .ref mgives, .ref mbelow, .ref mqueued, .ref mqueuedMany, .int 0, .ref mdone, .int 0, .int 0, .ref mlog, .int 0, .int 0, .ref morder, .ref misReached, .ref mqueue])), (mcounters, .inl (cI, 8, .inl (fun _ => 0))), (mfloors, .inl (cI, 8, .inl (fun _ => 0)))] H := hP
    have hD : va_D A [(h, .inr (4, [.int 0, .ref mcells, .ref mcounters, .ref mfloors, .ref mlimits, .ref mlongs, .ref msteps, .int 0, .ref mprogram, .ref mkind, .ref mrank, .ref mstate, .ref mactLong, .ref mactSteps, .ref mat, .ref mregister, .ref misHeld, .ref mdoneIn, .ref mundone, .ref mby, .ref mbegunIn, .ref misVoid, .ref misAgain, .ref mholds, .ref mwrites, .ref mgives, .ref mbelow, .ref mqueued, .ref mqueuedMany, .int 0, .ref mdone, .int 0, .int 0, .ref mlog, .int 0, .int 0, .ref morder, .ref misReached, .ref mqueue])), (mcounters, .inl (cI, 8, .inl (fun _ => 0))), (mfloors, .inl (cI, 8, .inl (fun _ => 0)))] := hD
    refine lv_if_eq (tgt := 30) hx hb dX4_floor_7 (by decide) (fun c8 => ?_) (fun c8 => ?_)
    · skip
      refine lv_iconst (v := 0) hx hb dX4_floor_30 (by decide) ?_
      have hP := hP.sub (ws' := []) [] rfl
      have hD := hD.sub (ws' := []) [] (by decide) rfl
      have hK := hK.sub (tys' := [(cI, .int)]) [0] rfl
      refine W.widen (k := 0) (n := 0) (by decide) (by decide) ?_
      exact W.zret (v := 0) hx hb hr (by decide) (fun t ht hW => ⟨⟨0, ([], [(cI, .int)]), rfl, Or.inr (⟨rfl, rfl, (by omega)⟩), ⟨by rw [ht]; exact hP, va_K.moved hW.alike hK, hD⟩⟩, hS.F ht⟩) hS.2.2 dX4_floor_31
    · skip
      exact absurd c8 (by decide)
