set_option maxHeartbeats 4000000 in
set_option maxRecDepth 100000 in
theorem c_X4_told {l : Launch} {D : va_G} {sz : Nat} {h : Nat} {mcells : Nat} {mcounters : Nat} {mfloors : Nat} {mlimits : Nat} {mlongs : Nat} {msteps : Nat} {mprogram : Nat} {mkind : Nat} {mrank : Nat} {mstate : Nat} {mactLong : Nat} {mactSteps : Nat} {mat : Nat} {mregister : Nat} {misHeld : Nat} {mdoneIn : Nat} {mundone : Nat} {mby : Nat} {mbegunIn : Nat} {misVoid : Nat} {misAgain : Nat} {mholds : Nat} {mwrites : Nat} {mgives : Nat} {mbelow : Nat} {mqueued : Nat} {mqueuedMany : Nat} {mdone : Nat} {mlog : Nat} {morder : Nat} {misReached : Nat} {mqueue : Nat} {x : Int32} {y : Int32}  : Met l yX4_told wsX4_told ({ frames := 2, cells := 0, slots := 0, locals := 43 }) (va_Pc [.ref h, .int x, .int y] (k_Pre D [] [(h, .inr (4, [.int 0, .ref mcells, .ref mcounters, .ref mfloors, .ref mlimits, .ref mlongs, .ref msteps, .int 0, .ref mprogram, .ref mkind, .ref mrank, .ref mstate, .ref mactLong, .ref mactSteps, .ref mat, .ref mregister, .ref misHeld, .ref mdoneIn, .ref mundone, .ref mby, .ref mbegunIn, .ref misVoid, .ref misAgain, .ref mholds, .ref mwrites, .ref mgives, .ref mbelow, .ref mqueued, .ref mqueuedMany, .int 0, .ref mdone, .int 0, .int 0, .ref mlog, .int 0, .int 0, .ref morder, .ref misReached, .ref mqueue]))] sz)) (va_Qi (fun (r : Int32) (u : va_W × List (ClassId × FieldType)) => (r = (-1) ∧ u = ([], []))) (k_B D (va_A [(h, .inr (4, [.int 0, .ref mcells, .ref mcounters, .ref mfloors, .ref mlimits, .ref mlongs, .ref msteps, .int 0, .ref mprogram, .ref mkind, .ref mrank, .ref mstate, .ref mactLong, .ref mactSteps, .ref mat, .ref mregister, .ref misHeld, .ref mdoneIn, .ref mundone, .ref mby, .ref mbegunIn, .ref misVoid, .ref misAgain, .ref mholds, .ref mwrites, .ref mgives, .ref mbelow, .ref mqueued, .ref mqueuedMany, .int 0, .ref mdone, .int 0, .int 0, .ref mlog, .int 0, .int 0, .ref morder, .ref misReached, .ref mqueue]))] sz)) (va_A [(h, .inr (4, [.int 0, .ref mcells, .ref mcounters, .ref mfloors, .ref mlimits, .ref mlongs, .ref msteps, .int 0, .ref mprogram, .ref mkind, .ref mrank, .ref mstate, .ref mactLong, .ref mactSteps, .ref mat, .ref mregister, .ref misHeld, .ref mdoneIn, .ref mundone, .ref mby, .ref mbegunIn, .ref misVoid, .ref misAgain, .ref mholds, .ref mwrites, .ref mgives, .ref mbelow, .ref mqueued, .ref mqueuedMany, .int 0, .ref mdone, .int 0, .int 0, .ref mlog, .int 0, .int 0, .ref morder, .ref misReached, .ref mqueue]))] sz)) 0 0 (va_A [(h, .inr (4, [.int 0, .ref mcells, .ref mcounters, .ref mfloors, .ref mlimits, .ref mlongs, .ref msteps, .int 0, .ref mprogram, .ref mkind, .ref mrank, .ref mstate, .ref mactLong, .ref mactSteps, .ref mat, .ref mregister, .ref misHeld, .ref mdoneIn, .ref mundone, .ref mby, .ref mbegunIn, .ref misVoid, .ref misAgain, .ref mholds, .ref mwrites, .ref mgives, .ref mbelow, .ref mqueued, .ref mqueuedMany, .int 0, .ref mdone, .int 0, .int 0, .ref mlog, .int 0, .int 0, .ref morder, .ref misReached, .ref mqueue]))] sz) := by
  refine Met.ofW (cc := cX4_told) (maxL := 4) (ret := (some .int)) (by decide) rfl ?_
  intro p e s m args below meth c s₁ B hml hv
  obtain ⟨rfl, hsz, hP, hK, hD0⟩ := hv
  have hx := B.exec
  have hb := B.bytes
  have hr := B.returns
  have hts := atoms_spec (ws := wsX4_told) B.pre
  have hown : s.vm.findClass RX4 = some m.cls := findClass_of_methodNamed B.named
  have hlocks := B.notSynchronized
  subst hsz
  have hD := hD0.self (sz := s.heap.size)
  generalize hAe : va_A [(h, .inr (4, [.int 0, .ref mcells, .ref mcounters, .ref mfloors, .ref mlimits, .ref mlongs, .ref msteps, .int 0, .ref mprogram, .ref mkind, .ref mrank, .ref mstate, .ref mactLong, .ref mactSteps, .ref mat, .ref mregister, .ref misHeld, .ref mdoneIn, .ref mundone, .ref mby, .ref mbegunIn, .ref misVoid, .ref misAgain, .ref mholds, .ref mwrites, .ref mgives, .ref mbelow, .ref mqueued, .ref mqueuedMany, .int 0, .ref mdone, .int 0, .int 0, .ref mlog, .int 0, .int 0, .ref morder, .ref misReached, .ref mqueue]))] s.heap.size = A at hD ⊢
  have hA : ∀ q : Nat, s.heap.size ≤ q → A q := fun q h => by rw [← hAe]; exact Or.inr h
  have hS : va_S A s.heap s.heap [] := va_S.rf
  have hl := lv_entry ([.ref h, .int x, .int y]) (n := 4) (Nat.le_of_ble_eq_true rfl)
  rw [lg_entry_eq]
  generalize (lg_sl ([.ref h, .int x, .int y]) ++ List.replicate (4 - (lg_sl ([.ref h, .int x, .int y])).length) Slot.unset).toArray = ls at hl ⊢
  have hl : lv_has ls 4 [(0, .ref h), (1, .int x), (2, .int y)] := hl
  refine lv_aload_n hx hb dX4_told_0 rfl (lv_at hl 0 rfl) ?_
  refine lv_iload_n hx hb dX4_told_1 rfl (lv_at hl 1 rfl) ?_
  have hPc := hP.sub (ws' := [(h, .inr (4, [.int 0, .ref mcells, .ref mcounters, .ref mfloors, .ref mlimits, .ref mlongs, .ref msteps, .int 0, .ref mprogram, .ref mkind, .ref mrank, .ref mstate, .ref mactLong, .ref mactSteps, .ref mat, .ref mregister, .ref misHeld, .ref mdoneIn, .ref mundone, .ref mby, .ref mbegunIn, .ref misVoid, .ref misAgain, .ref mholds, .ref mwrites, .ref mgives, .ref mbelow, .ref mqueued, .ref mqueuedMany, .int 0, .ref mdone, .int 0, .int 0, .ref mlog, .int 0, .int 0, .ref morder, .ref misReached, .ref mqueue]))]) [0] rfl
  have hDc := hD.sub (ws' := [(h, .inr (4, [.int 0, .ref mcells, .ref mcounters, .ref mfloors, .ref mlimits, .ref mlongs, .ref msteps, .int 0, .ref mprogram, .ref mkind, .ref mrank, .ref mstate, .ref mactLong, .ref mactSteps, .ref mat, .ref mregister, .ref misHeld, .ref mdoneIn, .ref mundone, .ref mby, .ref mbegunIn, .ref misVoid, .ref misAgain, .ref mholds, .ref mwrites, .ref mgives, .ref mbelow, .ref mqueued, .ref mqueuedMany, .int 0, .ref mdone, .int 0, .int 0, .ref mlog, .int 0, .int 0, .ref morder, .ref misReached, .ref mqueue]))]) [0] (by decide) rfl
  have hKc := hK.sub (tys' := []) [] rfl
  have hFc := va_free (wc := [(h, .inr (4, [.int 0, .ref mcells, .ref mcounters, .ref mfloors, .ref mlimits, .ref mlongs, .ref msteps, .int 0, .ref mprogram, .ref mkind, .ref mrank, .ref mstate, .ref mactLong, .ref mactSteps, .ref mat, .ref mregister, .ref misHeld, .ref mdoneIn, .ref mundone, .ref mby, .ref mbegunIn, .ref misVoid, .ref misAgain, .ref mholds, .ref mwrites, .ref mgives, .ref mbelow, .ref mqueued, .ref mqueuedMany, .int 0, .ref mdone, .int 0, .int 0, .ref mlog, .int 0, .int 0, .ref morder, .ref misReached, .ref mqueue]))]) hD hS hA [0] rfl
  refine va_calli (va_runV (As := [.int x]) (rest := []) ⟨hx, hb, hml, hown, hts⟩ (c_X4_isAct (l := l) (D := D) (h := h) (mcells := mcells) (mcounters := mcounters) (mfloors := mfloors) (mlimits := mlimits) (mlongs := mlongs) (msteps := msteps) (mprogram := mprogram) (mkind := mkind) (mrank := mrank) (mstate := mstate) (mactLong := mactLong) (mactSteps := mactSteps) (mat := mat) (mregister := mregister) (misHeld := misHeld) (mdoneIn := mdoneIn) (mundone := mundone) (mby := mby) (mbegunIn := mbegunIn) (misVoid := misVoid) (misAgain := misAgain) (mholds := mholds) (mwrites := mwrites) (mgives := mgives) (mbelow := mbelow) (mqueued := mqueued) (mqueuedMany := mqueuedMany) (mdone := mdone) (mlog := mlog) (morder := morder) (misReached := misReached) (mqueue := mqueue) (x := x) ) (cwV 1 hts gX4_told_X4_isAct rfl rfl rfl (by decide +kernel) ⟨Nat.le_of_ble_eq_true rfl, Nat.le_of_ble_eq_true rfl⟩) ⟨k_blind, va_recv hKc hPc (ci := 4) (q0 := 0) rfl rfl, fun U hU hW => ⟨rfl, k_pre hU hW hPc hKc hDc⟩⟩ rfl rfl hl.1 rfl (lv_room (Nat.le_of_ble_eq_true rfl)) dX4_told_2 ⟨by decide, by decide⟩) hS (fun q _ h => hFc q h) hFc (fun r1 u t H1 locs ht hvm hw hB hz1 hk1 hS => ?_)
  refine W.widen (k := 0) (n := 0) (Nat.le_refl _) (Nat.le_refl _) ?_
  obtain ⟨rfl, rfl⟩ := hw
  obtain ⟨hP1, hK1, hD1⟩ := hB
  rw [ht] at hP1
  have hK1 := va_K.moved hvm.symm hK1
  obtain ⟨hP, hD⟩ := va_join (wr := []) (w1 := [(h, .inr (4, [.int 0, .ref mcells, .ref mcounters, .ref mfloors, .ref mlimits, .ref mlongs, .ref msteps, .int 0, .ref mprogram, .ref mkind, .ref mrank, .ref mstate, .ref mactLong, .ref mactSteps, .ref mat, .ref mregister, .ref misHeld, .ref mdoneIn, .ref mundone, .ref mby, .ref mbegunIn, .ref misVoid, .ref misAgain, .ref mholds, .ref mwrites, .ref mgives, .ref mbelow, .ref mqueued, .ref mqueuedMany, .int 0, .ref mdone, .int 0, .int 0, .ref mlog, .int 0, .int 0, .ref morder, .ref misReached, .ref mqueue]))]) hP hD [0] [] rfl rfl (by decide) (by decide) hk1 hFc hP1 hD1
  generalize H1 = H at hP hS ⊢
  have hP : va_P D vwCl [(h, .inr (4, [.int 0, .ref mcells, .ref mcounters, .ref mfloors, .ref mlimits, .ref mlongs, .ref msteps, .int 0, .ref mprogram, .ref mkind, .ref mrank, .ref mstate, .ref mactLong, .ref mactSteps, .ref mat, .ref mregister, .ref misHeld, .ref mdoneIn, .ref mundone, .ref mby, .ref mbegunIn, .ref misVoid, .ref misAgain, .ref mholds, .ref mwrites, .ref mgives, .ref mbelow, .ref mqueued, .ref mqueuedMany, .int 0, .ref mdone, .int 0, .int 0, .ref mlog, .int 0, .int 0, .ref morder, .ref misReached, .ref mqueue]))] H := hP
  have hD : va_D A [(h, .inr (4, [.int 0, .ref mcells, .ref mcounters, .ref mfloors, .ref mlimits, .ref mlongs, .ref msteps, .int 0, .ref mprogram, .ref mkind, .ref mrank, .ref mstate, .ref mactLong, .ref mactSteps, .ref mat, .ref mregister, .ref misHeld, .ref mdoneIn, .ref mundone, .ref mby, .ref mbegunIn, .ref misVoid, .ref misAgain, .ref mholds, .ref mwrites, .ref mgives, .ref mbelow, .ref mqueued, .ref mqueuedMany, .int 0, .ref mdone, .int 0, .int 0, .ref mlog, .int 0, .int 0, .ref morder, .ref misReached, .ref mqueue]))] := hD
  refine lv_if_ne (tgt := 10) hx hb dX4_told_5 (by decide) (fun c2 => ?_) (fun c2 => ?_)
  · skip
    exact absurd c2 (by decide)
  · skip
    refine lv_iconst (v := (-1)) hx hb dX4_told_8 (by decide) ?_
    have hP := hP.sub (ws' := []) [] rfl
    have hD := hD.sub (ws' := []) [] (by decide) rfl
    have hK := hK.sub (tys' := []) [] rfl
    refine W.widen (k := 0) (n := 0) (by decide) (by decide) ?_
    exact W.iret (v := (-1)) hx hb hr (fun t ht hW => ⟨⟨(-1), ([], []), rfl, ⟨rfl, rfl⟩, ⟨by rw [ht]; exact hP, va_K.moved hW.alike hK, hD⟩⟩, hS.F ht⟩) hS.2.2 dX4_told_9
set_option maxRecDepth 100000 in
theorem kw_X4_register__constant_RX4_211_2147483648_ : (.constant RX4 211 (-2147483648) : Cond) ∈ wsX4_register := by decide +kernel
set_option maxHeartbeats 4000000 in
set_option maxRecDepth 100000 in
theorem c_X4_register {l : Launch} {D : va_G} {sz : Nat} {h : Nat} {mcells : Nat} {mcounters : Nat} {mfloors : Nat} {mlimits : Nat} {mlongs : Nat} {msteps : Nat} {mprogram : Nat} {mkind : Nat} {mrank : Nat} {mstate : Nat} {mactLong : Nat} {mactSteps : Nat} {mat : Nat} {mregister : Nat} {misHeld : Nat} {mdoneIn : Nat} {mundone : Nat} {mby : Nat} {mbegunIn : Nat} {misVoid : Nat} {misAgain : Nat} {mholds : Nat} {mwrites : Nat} {mgives : Nat} {mbelow : Nat} {mqueued : Nat} {mqueuedMany : Nat} {mdone : Nat} {mlog : Nat} {morder : Nat} {misReached : Nat} {mqueue : Nat} {x : Int32}  : Met l yX4_register wsX4_register ({ frames := 2, cells := 0, slots := 0, locals := 43 }) (va_Pc [.ref h, .int x] (k_Pre D [] [(h, .inr (4, [.int 0, .ref mcells, .ref mcounters, .ref mfloors, .ref mlimits, .ref mlongs, .ref msteps, .int 0, .ref mprogram, .ref mkind, .ref mrank, .ref mstate, .ref mactLong, .ref mactSteps, .ref mat, .ref mregister, .ref misHeld, .ref mdoneIn, .ref mundone, .ref mby, .ref mbegunIn, .ref misVoid, .ref misAgain, .ref mholds, .ref mwrites, .ref mgives, .ref mbelow, .ref mqueued, .ref mqueuedMany, .int 0, .ref mdone, .int 0, .int 0, .ref mlog, .int 0, .int 0, .ref morder, .ref misReached, .ref mqueue]))] sz)) (va_Qi (fun (r : Int32) (u : va_W × List (ClassId × FieldType)) => (r = (-2147483648) ∧ u = ([], []))) (k_B D (va_A [(h, .inr (4, [.int 0, .ref mcells, .ref mcounters, .ref mfloors, .ref mlimits, .ref mlongs, .ref msteps, .int 0, .ref mprogram, .ref mkind, .ref mrank, .ref mstate, .ref mactLong, .ref mactSteps, .ref mat, .ref mregister, .ref misHeld, .ref mdoneIn, .ref mundone, .ref mby, .ref mbegunIn, .ref misVoid, .ref misAgain, .ref mholds, .ref mwrites, .ref mgives, .ref mbelow, .ref mqueued, .ref mqueuedMany, .int 0, .ref mdone, .int 0, .int 0, .ref mlog, .int 0, .int 0, .ref morder, .ref misReached, .ref mqueue]))] sz)) (va_A [(h, .inr (4, [.int 0, .ref mcells, .ref mcounters, .ref mfloors, .ref mlimits, .ref mlongs, .ref msteps, .int 0, .ref mprogram, .ref mkind, .ref mrank, .ref mstate, .ref mactLong, .ref mactSteps, .ref mat, .ref mregister, .ref misHeld, .ref mdoneIn, .ref mundone, .ref mby, .ref mbegunIn, .ref misVoid, .ref misAgain, .ref mholds, .ref mwrites, .ref mgives, .ref mbelow, .ref mqueued, .ref mqueuedMany, .int 0, .ref mdone, .int 0, .int 0, .ref mlog, .int 0, .int 0, .ref morder, .ref misReached, .ref mqueue]))] sz)) 0 0 (va_A [(h, .inr (4, [.int 0, .ref mcells, .ref mcounters, .ref mfloors, .ref mlimits, .ref mlongs, .ref msteps, .int 0, .ref mprogram, .ref mkind, .ref mrank, .ref mstate, .ref mactLong, .ref mactSteps, .ref mat, .ref mregister, .ref misHeld, .ref mdoneIn, .ref mundone, .ref mby, .ref mbegunIn, .ref misVoid, .ref misAgain, .ref mholds, .ref mwrites, .ref mgives, .ref mbelow, .ref mqueued, .ref mqueuedMany, .int 0, .ref mdone, .int 0, .int 0, .ref mlog, .int 0, .int 0, .ref morder, .ref misReached, .ref mqueue]))] sz) := by
  refine Met.ofW (cc := cX4_register) (maxL := 2) (ret := (some .int)) (by decide) rfl ?_
  intro p e s m args below meth c s₁ B hml hv
  obtain ⟨rfl, hsz, hP, hK, hD0⟩ := hv
  have hx := B.exec
  have hb := B.bytes
  have hr := B.returns
  have hts := atoms_spec (ws := wsX4_register) B.pre
  have hown : s.vm.findClass RX4 = some m.cls := findClass_of_methodNamed B.named
  have hlocks := B.notSynchronized
  subst hsz
  have hD := hD0.self (sz := s.heap.size)
  generalize hAe : va_A [(h, .inr (4, [.int 0, .ref mcells, .ref mcounters, .ref mfloors, .ref mlimits, .ref mlongs, .ref msteps, .int 0, .ref mprogram, .ref mkind, .ref mrank, .ref mstate, .ref mactLong, .ref mactSteps, .ref mat, .ref mregister, .ref misHeld, .ref mdoneIn, .ref mundone, .ref mby, .ref mbegunIn, .ref misVoid, .ref misAgain, .ref mholds, .ref mwrites, .ref mgives, .ref mbelow, .ref mqueued, .ref mqueuedMany, .int 0, .ref mdone, .int 0, .int 0, .ref mlog, .int 0, .int 0, .ref morder, .ref misReached, .ref mqueue]))] s.heap.size = A at hD ⊢
  have hA : ∀ q : Nat, s.heap.size ≤ q → A q := fun q h => by rw [← hAe]; exact Or.inr h
  have hS : va_S A s.heap s.heap [] := va_S.rf
  have hl := lv_entry ([.ref h, .int x]) (n := 2) (Nat.le_of_ble_eq_true rfl)
  rw [lg_entry_eq]
  generalize (lg_sl ([.ref h, .int x]) ++ List.replicate (2 - (lg_sl ([.ref h, .int x])).length) Slot.unset).toArray = ls at hl ⊢
  have hl : lv_has ls 2 [(0, .ref h), (1, .int x)] := hl
  refine lv_aload_n hx hb dX4_register_0 rfl (lv_at hl 0 rfl) ?_
  refine lv_iload_n hx hb dX4_register_1 rfl (lv_at hl 1 rfl) ?_
  have hPc := hP.sub (ws' := [(h, .inr (4, [.int 0, .ref mcells, .ref mcounters, .ref mfloors, .ref mlimits, .ref mlongs, .ref msteps, .int 0, .ref mprogram, .ref mkind, .ref mrank, .ref mstate, .ref mactLong, .ref mactSteps, .ref mat, .ref mregister, .ref misHeld, .ref mdoneIn, .ref mundone, .ref mby, .ref mbegunIn, .ref misVoid, .ref misAgain, .ref mholds, .ref mwrites, .ref mgives, .ref mbelow, .ref mqueued, .ref mqueuedMany, .int 0, .ref mdone, .int 0, .int 0, .ref mlog, .int 0, .int 0, .ref morder, .ref misReached, .ref mqueue]))]) [0] rfl
  have hDc := hD.sub (ws' := [(h, .inr (4, [.int 0, .ref mcells, .ref mcounters, .ref mfloors, .ref mlimits, .ref mlongs, .ref msteps, .int 0, .ref mprogram, .ref mkind, .ref mrank, .ref mstate, .ref mactLong, .ref mactSteps, .ref mat, .ref mregister, .ref misHeld, .ref mdoneIn, .ref mundone, .ref mby, .ref mbegunIn, .ref misVoid, .ref misAgain, .ref mholds, .ref mwrites, .ref mgives, .ref mbelow, .ref mqueued, .ref mqueuedMany, .int 0, .ref mdone, .int 0, .int 0, .ref mlog, .int 0, .int 0, .ref morder, .ref misReached, .ref mqueue]))]) [0] (by decide) rfl
  have hKc := hK.sub (tys' := []) [] rfl
  have hFc := va_free (wc := [(h, .inr (4, [.int 0, .ref mcells, .ref mcounters, .ref mfloors, .ref mlimits, .ref mlongs, .ref msteps, .int 0, .ref mprogram, .ref mkind, .ref mrank, .ref mstate, .ref mactLong, .ref mactSteps, .ref mat, .ref mregister, .ref misHeld, .ref mdoneIn, .ref mundone, .ref mby, .ref mbegunIn, .ref misVoid, .ref misAgain, .ref mholds, .ref mwrites, .ref mgives, .ref mbelow, .ref mqueued, .ref mqueuedMany, .int 0, .ref mdone, .int 0, .int 0, .ref mlog, .int 0, .int 0, .ref morder, .ref misReached, .ref mqueue]))]) hD hS hA [0] rfl
  refine va_calli (va_runV (As := [.int x]) (rest := []) ⟨hx, hb, hml, hown, hts⟩ (c_X4_isAct (l := l) (D := D) (h := h) (mcells := mcells) (mcounters := mcounters) (mfloors := mfloors) (mlimits := mlimits) (mlongs := mlongs) (msteps := msteps) (mprogram := mprogram) (mkind := mkind) (mrank := mrank) (mstate := mstate) (mactLong := mactLong) (mactSteps := mactSteps) (mat := mat) (mregister := mregister) (misHeld := misHeld) (mdoneIn := mdoneIn) (mundone := mundone) (mby := mby) (mbegunIn := mbegunIn) (misVoid := misVoid) (misAgain := misAgain) (mholds := mholds) (mwrites := mwrites) (mgives := mgives) (mbelow := mbelow) (mqueued := mqueued) (mqueuedMany := mqueuedMany) (mdone := mdone) (mlog := mlog) (morder := morder) (misReached := misReached) (mqueue := mqueue) (x := x) ) (cwV 1 hts gX4_register_X4_isAct rfl rfl rfl (by decide +kernel) ⟨Nat.le_of_ble_eq_true rfl, Nat.le_of_ble_eq_true rfl⟩) ⟨k_blind, va_recv hKc hPc (ci := 4) (q0 := 0) rfl rfl, fun U hU hW => ⟨rfl, k_pre hU hW hPc hKc hDc⟩⟩ rfl rfl hl.1 rfl (lv_room (Nat.le_of_ble_eq_true rfl)) dX4_register_2 ⟨by decide, by decide⟩) hS (fun q _ h => hFc q h) hFc (fun r1 u t H1 locs ht hvm hw hB hz1 hk1 hS => ?_)
  refine W.widen (k := 0) (n := 0) (Nat.le_refl _) (Nat.le_refl _) ?_
  obtain ⟨rfl, rfl⟩ := hw
  obtain ⟨hP1, hK1, hD1⟩ := hB
  rw [ht] at hP1
  have hK1 := va_K.moved hvm.symm hK1
  obtain ⟨hP, hD⟩ := va_join (wr := []) (w1 := [(h, .inr (4, [.int 0, .ref mcells, .ref mcounters, .ref mfloors, .ref mlimits, .ref mlongs, .ref msteps, .int 0, .ref mprogram, .ref mkind, .ref mrank, .ref mstate, .ref mactLong, .ref mactSteps, .ref mat, .ref mregister, .ref misHeld, .ref mdoneIn, .ref mundone, .ref mby, .ref mbegunIn, .ref misVoid, .ref misAgain, .ref mholds, .ref mwrites, .ref mgives, .ref mbelow, .ref mqueued, .ref mqueuedMany, .int 0, .ref mdone, .int 0, .int 0, .ref mlog, .int 0, .int 0, .ref morder, .ref misReached, .ref mqueue]))]) hP hD [0] [] rfl rfl (by decide) (by decide) hk1 hFc hP1 hD1
  generalize H1 = H at hP hS ⊢
  have hP : va_P D vwCl [(h, .inr (4, [.int 0, .ref mcells, .ref mcounters, .ref mfloors, .ref mlimits, .ref mlongs, .ref msteps, .int 0, .ref mprogram, .ref mkind, .ref mrank, .ref mstate, .ref mactLong, .ref mactSteps, .ref mat, .ref mregister, .ref misHeld, .ref mdoneIn, .ref mundone, .ref mby, .ref mbegunIn, .ref misVoid, .ref misAgain, .ref mholds, .ref mwrites, .ref mgives, .ref mbelow, .ref mqueued, .ref mqueuedMany, .int 0, .ref mdone, .int 0, .int 0, .ref mlog, .int 0, .int 0, .ref morder, .ref misReached, .ref mqueue]))] H := hP
  have hD : va_D A [(h, .inr (4, [.int 0, .ref mcells, .ref mcounters, .ref mfloors, .ref mlimits, .ref mlongs, .ref msteps, .int 0, .ref mprogram, .ref mkind, .ref mrank, .ref mstate, .ref mactLong, .ref mactSteps, .ref mat, .ref mregister, .ref misHeld, .ref mdoneIn, .ref mundone, .ref mby, .ref mbegunIn, .ref misVoid, .ref misAgain, .ref mholds, .ref mwrites, .ref mgives, .ref mbelow, .ref mqueued, .ref mqueuedMany, .int 0, .ref mdone, .int 0, .int 0, .ref mlog, .int 0, .int 0, .ref morder, .ref misReached, .ref mqueue]))] := hD
  refine lv_if_eq (tgt := 27) hx hb dX4_register_5 (by decide) (fun c2 => ?_) (fun c2 => ?_)
  · skip
    refine lv_ldc (v := (-2147483648)) hx hb hown (hts _ kw_X4_register__constant_RX4_211_2147483648_) dX4_register_27 ?_
    have hP := hP.sub (ws' := []) [] rfl
    have hD := hD.sub (ws' := []) [] (by decide) rfl
    have hK := hK.sub (tys' := []) [] rfl
    refine W.widen (k := 0) (n := 0) (by decide) (by decide) ?_
    exact W.iret (v := (-2147483648)) hx hb hr (fun t ht hW => ⟨⟨(-2147483648), ([], []), rfl, ⟨rfl, rfl⟩, ⟨by rw [ht]; exact hP, va_K.moved hW.alike hK, hD⟩⟩, hS.F ht⟩) hS.2.2 dX4_register_29
  · skip
    exact absurd c2 (by decide)
set_option maxHeartbeats 4000000 in
set_option maxRecDepth 100000 in
theorem c_X4_holds {l : Launch} {D : va_G} {sz : Nat} {h : Nat} {mcells : Nat} {mcounters : Nat} {mfloors : Nat} {mlimits : Nat} {mlongs : Nat} {msteps : Nat} {mprogram : Nat} {mkind : Nat} {mrank : Nat} {mstate : Nat} {mactLong : Nat} {mactSteps : Nat} {mat : Nat} {mregister : Nat} {misHeld : Nat} {mdoneIn : Nat} {mundone : Nat} {mby : Nat} {mbegunIn : Nat} {misVoid : Nat} {misAgain : Nat} {mholds : Nat} {mwrites : Nat} {mgives : Nat} {mbelow : Nat} {mqueued : Nat} {mqueuedMany : Nat} {mdone : Nat} {mlog : Nat} {morder : Nat} {misReached : Nat} {mqueue : Nat} {x : Int32} {y : Int32}  : Met l yX4_holds wsX4_holds ({ frames := 2, cells := 0, slots := 0, locals := 43 }) (va_Pc [.ref h, .int x, .int y] (k_Pre D [] [(h, .inr (4, [.int 0, .ref mcells, .ref mcounters, .ref mfloors, .ref mlimits, .ref mlongs, .ref msteps, .int 0, .ref mprogram, .ref mkind, .ref mrank, .ref mstate, .ref mactLong, .ref mactSteps, .ref mat, .ref mregister, .ref misHeld, .ref mdoneIn, .ref mundone, .ref mby, .ref mbegunIn, .ref misVoid, .ref misAgain, .ref mholds, .ref mwrites, .ref mgives, .ref mbelow, .ref mqueued, .ref mqueuedMany, .int 0, .ref mdone, .int 0, .int 0, .ref mlog, .int 0, .int 0, .ref morder, .ref misReached, .ref mqueue]))] sz)) (va_Qi (fun (r : Int32) (u : va_W × List (ClassId × FieldType)) => (r = (-1) ∧ u = ([], []))) (k_B D (va_A [(h, .inr (4, [.int 0, .ref mcells, .ref mcounters, .ref mfloors, .ref mlimits, .ref mlongs, .ref msteps, .int 0, .ref mprogram, .ref mkind, .ref mrank, .ref mstate, .ref mactLong, .ref mactSteps, .ref mat, .ref mregister, .ref misHeld, .ref mdoneIn, .ref mundone, .ref mby, .ref mbegunIn, .ref misVoid, .ref misAgain, .ref mholds, .ref mwrites, .ref mgives, .ref mbelow, .ref mqueued, .ref mqueuedMany, .int 0, .ref mdone, .int 0, .int 0, .ref mlog, .int 0, .int 0, .ref morder, .ref misReached, .ref mqueue]))] sz)) (va_A [(h, .inr (4, [.int 0, .ref mcells, .ref mcounters, .ref mfloors, .ref mlimits, .ref mlongs, .ref msteps, .int 0, .ref mprogram, .ref mkind, .ref mrank, .ref mstate, .ref mactLong, .ref mactSteps, .ref mat, .ref mregister, .ref misHeld, .ref mdoneIn, .ref mundone, .ref mby, .ref mbegunIn, .ref misVoid, .ref misAgain, .ref mholds, .ref mwrites, .ref mgives, .ref mbelow, .ref mqueued, .ref mqueuedMany, .int 0, .ref mdone, .int 0, .int 0, .ref mlog, .int 0, .int 0, .ref morder, .ref misReached, .ref mqueue]))] sz)) 0 0 (va_A [(h, .inr (4, [.int 0, .ref mcells, .ref mcounters, .ref mfloors, .ref mlimits, .ref mlongs, .ref msteps, .int 0, .ref mprogram, .ref mkind, .ref mrank, .ref mstate, .ref mactLong, .ref mactSteps, .ref mat, .ref mregister, .ref misHeld, .ref mdoneIn, .ref mundone, .ref mby, .ref mbegunIn, .ref misVoid, .ref misAgain, .ref mholds, .ref mwrites, .ref mgives, .ref mbelow, .ref mqueued, .ref mqueuedMany, .int 0, .ref mdone, .int 0, .int 0, .ref mlog, .int 0, .int 0, .ref morder, .ref misReached, .ref mqueue]))] sz) := by
  refine Met.ofW (cc := cX4_holds) (maxL := 3) (ret := (some .int)) (by decide) rfl ?_
  intro p e s m args below meth c s₁ B hml hv
  obtain ⟨rfl, hsz, hP, hK, hD0⟩ := hv
  have hx := B.exec
  have hb := B.bytes
  have hr := B.returns
  have hts := atoms_spec (ws := wsX4_holds) B.pre
  have hown : s.vm.findClass RX4 = some m.cls := findClass_of_methodNamed B.named
  have hlocks := B.notSynchronized
  subst hsz
  have hD := hD0.self (sz := s.heap.size)
  generalize hAe : va_A [(h, .inr (4, [.int 0, .ref mcells, .ref mcounters, .ref mfloors, .ref mlimits, .ref mlongs, .ref msteps, .int 0, .ref mprogram, .ref mkind, .ref mrank, .ref mstate, .ref mactLong, .ref mactSteps, .ref mat, .ref mregister, .ref misHeld, .ref mdoneIn, .ref mundone, .ref mby, .ref mbegunIn, .ref misVoid, .ref misAgain, .ref mholds, .ref mwrites, .ref mgives, .ref mbelow, .ref mqueued, .ref mqueuedMany, .int 0, .ref mdone, .int 0, .int 0, .ref mlog, .int 0, .int 0, .ref morder, .ref misReached, .ref mqueue]))] s.heap.size = A at hD ⊢
  have hA : ∀ q : Nat, s.heap.size ≤ q → A q := fun q h => by rw [← hAe]; exact Or.inr h
  have hS : va_S A s.heap s.heap [] := va_S.rf
  have hl := lv_entry ([.ref h, .int x, .int y]) (n := 3) (Nat.le_of_ble_eq_true rfl)
  rw [lg_entry_eq]
  generalize (lg_sl ([.ref h, .int x, .int y]) ++ List.replicate (3 - (lg_sl ([.ref h, .int x, .int y])).length) Slot.unset).toArray = ls at hl ⊢
  have hl : lv_has ls 3 [(0, .ref h), (1, .int x), (2, .int y)] := hl
  refine lv_aload_n hx hb dX4_holds_0 rfl (lv_at hl 0 rfl) ?_
  refine lv_iload_n hx hb dX4_holds_1 rfl (lv_at hl 1 rfl) ?_
  have hPc := hP.sub (ws' := [(h, .inr (4, [.int 0, .ref mcells, .ref mcounters, .ref mfloors, .ref mlimits, .ref mlongs, .ref msteps, .int 0, .ref mprogram, .ref mkind, .ref mrank, .ref mstate, .ref mactLong, .ref mactSteps, .ref mat, .ref mregister, .ref misHeld, .ref mdoneIn, .ref mundone, .ref mby, .ref mbegunIn, .ref misVoid, .ref misAgain, .ref mholds, .ref mwrites, .ref mgives, .ref mbelow, .ref mqueued, .ref mqueuedMany, .int 0, .ref mdone, .int 0, .int 0, .ref mlog, .int 0, .int 0, .ref morder, .ref misReached, .ref mqueue]))]) [0] rfl
  have hDc := hD.sub (ws' := [(h, .inr (4, [.int 0, .ref mcells, .ref mcounters, .ref mfloors, .ref mlimits, .ref mlongs, .ref msteps, .int 0, .ref mprogram, .ref mkind, .ref mrank, .ref mstate, .ref mactLong, .ref mactSteps, .ref mat, .ref mregister, .ref misHeld, .ref mdoneIn, .ref mundone, .ref mby, .ref mbegunIn, .ref misVoid, .ref misAgain, .ref mholds, .ref mwrites, .ref mgives, .ref mbelow, .ref mqueued, .ref mqueuedMany, .int 0, .ref mdone, .int 0, .int 0, .ref mlog, .int 0, .int 0, .ref morder, .ref misReached, .ref mqueue]))]) [0] (by decide) rfl
  have hKc := hK.sub (tys' := []) [] rfl
  have hFc := va_free (wc := [(h, .inr (4, [.int 0, .ref mcells, .ref mcounters, .ref mfloors, .ref mlimits, .ref mlongs, .ref msteps, .int 0, .ref mprogram, .ref mkind, .ref mrank, .ref mstate, .ref mactLong, .ref mactSteps, .ref mat, .ref mregister, .ref misHeld, .ref mdoneIn, .ref mundone, .ref mby, .ref mbegunIn, .ref misVoid, .ref misAgain, .ref mholds, .ref mwrites, .ref mgives, .ref mbelow, .ref mqueued, .ref mqueuedMany, .int 0, .ref mdone, .int 0, .int 0, .ref mlog, .int 0, .int 0, .ref morder, .ref misReached, .ref mqueue]))]) hD hS hA [0] rfl
  refine va_calli (va_runV (As := [.int x]) (rest := []) ⟨hx, hb, hml, hown, hts⟩ (c_X4_isAct (l := l) (D := D) (h := h) (mcells := mcells) (mcounters := mcounters) (mfloors := mfloors) (mlimits := mlimits) (mlongs := mlongs) (msteps := msteps) (mprogram := mprogram) (mkind := mkind) (mrank := mrank) (mstate := mstate) (mactLong := mactLong) (mactSteps := mactSteps) (mat := mat) (mregister := mregister) (misHeld := misHeld) (mdoneIn := mdoneIn) (mundone := mundone) (mby := mby) (mbegunIn := mbegunIn) (misVoid := misVoid) (misAgain := misAgain) (mholds := mholds) (mwrites := mwrites) (mgives := mgives) (mbelow := mbelow) (mqueued := mqueued) (mqueuedMany := mqueuedMany) (mdone := mdone) (mlog := mlog) (morder := morder) (misReached := misReached) (mqueue := mqueue) (x := x) ) (cwV 1 hts gX4_holds_X4_isAct rfl rfl rfl (by decide +kernel) ⟨Nat.le_of_ble_eq_true rfl, Nat.le_of_ble_eq_true rfl⟩) ⟨k_blind, va_recv hKc hPc (ci := 4) (q0 := 0) rfl rfl, fun U hU hW => ⟨rfl, k_pre hU hW hPc hKc hDc⟩⟩ rfl rfl hl.1 rfl (lv_room (Nat.le_of_ble_eq_true rfl)) dX4_holds_2 ⟨by decide, by decide⟩) hS (fun q _ h => hFc q h) hFc (fun r1 u t H1 locs ht hvm hw hB hz1 hk1 hS => ?_)
  refine W.widen (k := 0) (n := 0) (Nat.le_refl _) (Nat.le_refl _) ?_
  obtain ⟨rfl, rfl⟩ := hw
  obtain ⟨hP1, hK1, hD1⟩ := hB
  rw [ht] at hP1
  have hK1 := va_K.moved hvm.symm hK1
  obtain ⟨hP, hD⟩ := va_join (wr := []) (w1 := [(h, .inr (4, [.int 0, .ref mcells, .ref mcounters, .ref mfloors, .ref mlimits, .ref mlongs, .ref msteps, .int 0, .ref mprogram, .ref mkind, .ref mrank, .ref mstate, .ref mactLong, .ref mactSteps, .ref mat, .ref mregister, .ref misHeld, .ref mdoneIn, .ref mundone, .ref mby, .ref mbegunIn, .ref misVoid, .ref misAgain, .ref mholds, .ref mwrites, .ref mgives, .ref mbelow, .ref mqueued, .ref mqueuedMany, .int 0, .ref mdone, .int 0, .int 0, .ref mlog, .int 0, .int 0, .ref morder, .ref misReached, .ref mqueue]))]) hP hD [0] [] rfl rfl (by decide) (by decide) hk1 hFc hP1 hD1
  generalize H1 = H at hP hS ⊢
  have hP : va_P D vwCl [(h, .inr (4, [.int 0, .ref mcells, .ref mcounters, .ref mfloors, .ref mlimits, .ref mlongs, .ref msteps, .int 0, .ref mprogram, .ref mkind, .ref mrank, .ref mstate, .ref mactLong, .ref mactSteps, .ref mat, .ref mregister, .ref misHeld, .ref mdoneIn, .ref mundone, .ref mby, .ref mbegunIn, .ref misVoid, .ref misAgain, .ref mholds, .ref mwrites, .ref mgives, .ref mbelow, .ref mqueued, .ref mqueuedMany, .int 0, .ref mdone, .int 0, .int 0, .ref mlog, .int 0, .int 0, .ref morder, .ref misReached, .ref mqueue]))] H := hP
  have hD : va_D A [(h, .inr (4, [.int 0, .ref mcells, .ref mcounters, .ref mfloors, .ref mlimits, .ref mlongs, .ref msteps, .int 0, .ref mprogram, .ref mkind, .ref mrank, .ref mstate, .ref mactLong, .ref mactSteps, .ref mat, .ref mregister, .ref misHeld, .ref mdoneIn, .ref mundone, .ref mby, .ref mbegunIn, .ref misVoid, .ref misAgain, .ref mholds, .ref mwrites, .ref mgives, .ref mbelow, .ref mqueued, .ref mqueuedMany, .int 0, .ref mdone, .int 0, .int 0, .ref mlog, .int 0, .int 0, .ref morder, .ref misReached, .ref mqueue]))] := hD
  refine lv_if_eq (tgt := 18) hx hb dX4_holds_5 (by decide) (fun c2 => ?_) (fun c2 => ?_)
  · skip
    refine lv_iconst (v := (-1)) hx hb dX4_holds_18 (by decide) ?_
    have hP := hP.sub (ws' := []) [] rfl
    have hD := hD.sub (ws' := []) [] (by decide) rfl
    have hK := hK.sub (tys' := []) [] rfl
    refine W.widen (k := 0) (n := 0) (by decide) (by decide) ?_
    exact W.iret (v := (-1)) hx hb hr (fun t ht hW => ⟨⟨(-1), ([], []), rfl, ⟨rfl, rfl⟩, ⟨by rw [ht]; exact hP, va_K.moved hW.alike hK, hD⟩⟩, hS.F ht⟩) hS.2.2 dX4_holds_19
  · skip
    exact absurd c2 (by decide)
set_option maxRecDepth 100000 in
theorem kw_X4_value__fieldLink_RX4_130_ActHouseModel_now_I_ : (.fieldLink RX4 130 "ActHouseModel" "now" "I" : Cond) ∈ wsX4_value := by decide +kernel
set_option maxRecDepth 100000 in
theorem kin_X4_value_X4 : ∀ w ∈ u_ws RX4 TX4 39, w ∈ wsX4_value := by decide +kernel
set_option maxRecDepth 100000 in
theorem kw_X4_value__fieldLink_RX4_168_ActHouseModel_dones_I_ : (.fieldLink RX4 168 "ActHouseModel" "dones" "I" : Cond) ∈ wsX4_value := by decide +kernel
set_option maxRecDepth 100000 in
theorem kw_X4_value__constant_RX4_211_2147483648_ : (.constant RX4 211 (-2147483648) : Cond) ∈ wsX4_value := by decide +kernel
set_option maxHeartbeats 4000000 in
set_option maxRecDepth 100000 in
theorem c_X4_value {l : Launch} {D : va_G} {sz : Nat} {h : Nat} {mcells : Nat} {mcounters : Nat} {mfloors : Nat} {mlimits : Nat} {mlongs : Nat} {msteps : Nat} {mprogram : Nat} {mkind : Nat} {mrank : Nat} {mstate : Nat} {mactLong : Nat} {mactSteps : Nat} {mat : Nat} {mregister : Nat} {misHeld : Nat} {mdoneIn : Nat} {mundone : Nat} {mby : Nat} {mbegunIn : Nat} {misVoid : Nat} {misAgain : Nat} {mholds : Nat} {mwrites : Nat} {mgives : Nat} {mbelow : Nat} {mqueued : Nat} {mqueuedMany : Nat} {mdone : Nat} {mlog : Nat} {morder : Nat} {misReached : Nat} {mqueue : Nat} {x : Int32} {y : Int32}  : Met l yX4_value wsX4_value ({ frames := 1, cells := 0, slots := 0, locals := 22 }) (va_Pc [.ref h, .int x, .int y] (k_Pre D [] [(h, .inr (4, [.int 0, .ref mcells, .ref mcounters, .ref mfloors, .ref mlimits, .ref mlongs, .ref msteps, .int 0, .ref mprogram, .ref mkind, .ref mrank, .ref mstate, .ref mactLong, .ref mactSteps, .ref mat, .ref mregister, .ref misHeld, .ref mdoneIn, .ref mundone, .ref mby, .ref mbegunIn, .ref misVoid, .ref misAgain, .ref mholds, .ref mwrites, .ref mgives, .ref mbelow, .ref mqueued, .ref mqueuedMany, .int 0, .ref mdone, .int 0, .int 0, .ref mlog, .int 0, .int 0, .ref morder, .ref misReached, .ref mqueue]))] sz)) (va_Qi (fun (r : Int32) (u : va_W × List (ClassId × FieldType)) => (r = 0 ∧ u = ([], []) ∧ 0 ≤ x.toInt ∧ x.toInt ≤ 31 ∧ y.toInt = 0) ∨ (r = (-2147483648) ∧ u = ([], []) ∧ (x.toInt < 0 ∨ 31 < x.toInt ∨ y.toInt < 0 ∨ 0 < y.toInt))) (k_B D (va_A [(h, .inr (4, [.int 0, .ref mcells, .ref mcounters, .ref mfloors, .ref mlimits, .ref mlongs, .ref msteps, .int 0, .ref mprogram, .ref mkind, .ref mrank, .ref mstate, .ref mactLong, .ref mactSteps, .ref mat, .ref mregister, .ref misHeld, .ref mdoneIn, .ref mundone, .ref mby, .ref mbegunIn, .ref misVoid, .ref misAgain, .ref mholds, .ref mwrites, .ref mgives, .ref mbelow, .ref mqueued, .ref mqueuedMany, .int 0, .ref mdone, .int 0, .int 0, .ref mlog, .int 0, .int 0, .ref morder, .ref misReached, .ref mqueue]))] sz)) (va_A [(h, .inr (4, [.int 0, .ref mcells, .ref mcounters, .ref mfloors, .ref mlimits, .ref mlongs, .ref msteps, .int 0, .ref mprogram, .ref mkind, .ref mrank, .ref mstate, .ref mactLong, .ref mactSteps, .ref mat, .ref mregister, .ref misHeld, .ref mdoneIn, .ref mundone, .ref mby, .ref mbegunIn, .ref misVoid, .ref misAgain, .ref mholds, .ref mwrites, .ref mgives, .ref mbelow, .ref mqueued, .ref mqueuedMany, .int 0, .ref mdone, .int 0, .int 0, .ref mlog, .int 0, .int 0, .ref morder, .ref misReached, .ref mqueue]))] sz)) 0 0 (va_A [(h, .inr (4, [.int 0, .ref mcells, .ref mcounters, .ref mfloors, .ref mlimits, .ref mlongs, .ref msteps, .int 0, .ref mprogram, .ref mkind, .ref mrank, .ref mstate, .ref mactLong, .ref mactSteps, .ref mat, .ref mregister, .ref misHeld, .ref mdoneIn, .ref mundone, .ref mby, .ref mbegunIn, .ref misVoid, .ref misAgain, .ref mholds, .ref mwrites, .ref mgives, .ref mbelow, .ref mqueued, .ref mqueuedMany, .int 0, .ref mdone, .int 0, .int 0, .ref mlog, .int 0, .int 0, .ref morder, .ref misReached, .ref mqueue]))] sz) := by
  refine Met.ofW (cc := cX4_value) (maxL := 6) (ret := (some .int)) (by decide) rfl ?_
  intro p e s m args below meth c s₁ B hml hv
  obtain ⟨rfl, hsz, hP, hK, hD0⟩ := hv
  have hx := B.exec
  have hb := B.bytes
  have hr := B.returns
  have hts := atoms_spec (ws := wsX4_value) B.pre
  have hown : s.vm.findClass RX4 = some m.cls := findClass_of_methodNamed B.named
  have hlocks := B.notSynchronized
  subst hsz
  have hD := hD0.self (sz := s.heap.size)
  generalize hAe : va_A [(h, .inr (4, [.int 0, .ref mcells, .ref mcounters, .ref mfloors, .ref mlimits, .ref mlongs, .ref msteps, .int 0, .ref mprogram, .ref mkind, .ref mrank, .ref mstate, .ref mactLong, .ref mactSteps, .ref mat, .ref mregister, .ref misHeld, .ref mdoneIn, .ref mundone, .ref mby, .ref mbegunIn, .ref misVoid, .ref misAgain, .ref mholds, .ref mwrites, .ref mgives, .ref mbelow, .ref mqueued, .ref mqueuedMany, .int 0, .ref mdone, .int 0, .int 0, .ref mlog, .int 0, .int 0, .ref morder, .ref misReached, .ref mqueue]))] s.heap.size = A at hD ⊢
  have hA : ∀ q : Nat, s.heap.size ≤ q → A q := fun q h => by rw [← hAe]; exact Or.inr h
  have hS : va_S A s.heap s.heap [] := va_S.rf
  have hl := lv_entry ([.ref h, .int x, .int y]) (n := 6) (Nat.le_of_ble_eq_true rfl)
  rw [lg_entry_eq]
  generalize (lg_sl ([.ref h, .int x, .int y]) ++ List.replicate (6 - (lg_sl ([.ref h, .int x, .int y])).length) Slot.unset).toArray = ls at hl ⊢
  have hl : lv_has ls 6 [(0, .ref h), (1, .int x), (2, .int y)] := hl
  refine lv_iload_n hx hb dX4_value_0 rfl (lv_at hl 1 rfl) ?_
  refine lv_iconst (v := 0) hx hb dX4_value_1 (by decide) ?_
  refine lv_bipush (v := 31) hx hb dX4_value_2 (by decide) ?_
  have hPc := hP.sub (ws' := []) [] rfl
  have hDc := hD.sub (ws' := []) [] (by decide) rfl
  have hKc := hK.sub (tys' := []) [] rfl
  have hFc := va_free (wc := []) hD hS hA [] rfl
  refine va_calli (va_runS (As := [.int x, .int 0, .int 31]) (rest := []) ⟨hx, hb, hml, hown, hts⟩ (c_X4_in (l := l) (D := D) (x := x) (y := 0) (z := 31) ) (va_cwS 3 hts gX4_value_X4_in rfl rfl rfl (by decide +kernel) ⟨Nat.le_of_ble_eq_true rfl, Nat.le_of_ble_eq_true rfl⟩) ⟨k_blind, fun U hU hW => ⟨rfl, k_pre hU hW hPc hKc hDc⟩⟩ rfl rfl hl.1 rfl (lv_room (Nat.le_of_ble_eq_true rfl)) dX4_value_4 ⟨by decide, by decide⟩) hS (fun q _ h => hFc q h) hFc (fun r1 u t H1 locs ht hvm hw hB hz1 hk1 hS => ?_)
  refine W.widen (k := 0) (n := 0) (Nat.le_refl _) (Nat.le_refl _) ?_
  have hl0 : (0 : Int32).toInt = 0 := by decide
  have hl31 : (31 : Int32).toInt = 31 := by decide
  rcases hw with ⟨rfl, rfl, ha_1, hb_1⟩ | ⟨rfl, rfl, ha_1⟩
  · skip
    obtain ⟨hP1, hK1, hD1⟩ := hB
    rw [ht] at hP1
    have hK1 := va_K.moved hvm.symm hK1
    obtain ⟨hP, hD⟩ := va_join (wr := [(h, .inr (4, [.int 0, .ref mcells, .ref mcounters, .ref mfloors, .ref mlimits, .ref mlongs, .ref msteps, .int 0, .ref mprogram, .ref mkind, .ref mrank, .ref mstate, .ref mactLong, .ref mactSteps, .ref mat, .ref mregister, .ref misHeld, .ref mdoneIn, .ref mundone, .ref mby, .ref mbegunIn, .ref misVoid, .ref misAgain, .ref mholds, .ref mwrites, .ref mgives, .ref mbelow, .ref mqueued, .ref mqueuedMany, .int 0, .ref mdone, .int 0, .int 0, .ref mlog, .int 0, .int 0, .ref morder, .ref misReached, .ref mqueue]))]) (w1 := []) hP hD [] [0] rfl rfl (by decide) (by decide) hk1 hFc hP1 hD1
    generalize H1 = H at hP hS ⊢
    have hP : va_P D vwCl [(h, .inr (4, [.int 0, .ref mcells, .ref mcounters, .ref mfloors, .ref mlimits, .ref mlongs, .ref msteps, .int 0, .ref mprogram, .ref mkind, .ref mrank, .ref mstate, .ref mactLong, .ref mactSteps, .ref mat, .ref mregister, .ref misHeld, .ref mdoneIn, .ref mundone, .ref mby, .ref mbegunIn, .ref misVoid, .ref misAgain, .ref mholds, .ref mwrites, .ref mgives, .ref mbelow, .ref mqueued, .ref mqueuedMany, .int 0, .ref mdone, .int 0, .int 0, .ref mlog, .int 0, .int 0, .ref morder, .ref misReached, .ref mqueue]))] H := hP
    have hD : va_D A [(h, .inr (4, [.int 0, .ref mcells, .ref mcounters, .ref mfloors, .ref mlimits, .ref mlongs, .ref msteps, .int 0, .ref mprogram, .ref mkind, .ref mrank, .ref mstate, .ref mactLong, .ref mactSteps, .ref mat, .ref mregister, .ref misHeld, .ref mdoneIn, .ref mundone, .ref mby, .ref mbegunIn, .ref misVoid, .ref misAgain, .ref mholds, .ref mwrites, .ref mgives, .ref mbelow, .ref mqueued, .ref mqueuedMany, .int 0, .ref mdone, .int 0, .int 0, .ref mlog, .int 0, .int 0, .ref morder, .ref misReached, .ref mqueue]))] := hD
    refine lv_if_eq (tgt := 22) hx hb dX4_value_7 (by decide) (fun c2 => ?_) (fun c2 => ?_)
    · skip
      exact absurd c2 (by decide)
    · skip
      refine lv_iload_n hx hb dX4_value_10 rfl (lv_at hl 2 rfl) ?_
      refine lv_iconst (v := 0) hx hb dX4_value_11 (by decide) ?_
      refine lv_aload_n hx hb dX4_value_12 rfl (lv_at hl 0 rfl) ?_
      refine va_get (D := D) (ci := 4) (v := .int 0) (C := RX4) (T := TX4) (N := 39) hx hb hts kin_X4_value_X4 hown hK hP 0 rfl rfl 0 (by decide) (hts _ kw_X4_value__fieldLink_RX4_130_ActHouseModel_now_I_) (fun _ h9 => h9) rfl dX4_value_13 ?_
      have hPc := hP.sub (ws' := []) [] rfl
      have hDc := hD.sub (ws' := []) [] (by decide) rfl
      have hKc := hK.sub (tys' := []) [] rfl
      have hFc := va_free (wc := []) hD hS hA [] rfl
      refine va_calli (va_runS (As := [.int y, .int 0, .int 0]) (rest := []) ⟨hx, hb, hml, hown, hts⟩ (c_X4_in (l := l) (D := D) (x := y) (y := 0) (z := 0) ) (va_cwS 3 hts gX4_value_X4_in rfl rfl rfl (by decide +kernel) ⟨Nat.le_of_ble_eq_true rfl, Nat.le_of_ble_eq_true rfl⟩) ⟨k_blind, fun U hU hW => ⟨rfl, k_pre hU hW hPc hKc hDc⟩⟩ rfl rfl hl.1 rfl (lv_room (Nat.le_of_ble_eq_true rfl)) dX4_value_16 ⟨by decide, by decide⟩) hS (fun q _ h => hFc q h) hFc (fun r3 u t H1 locs ht hvm hw hB hz1 hk1 hS => ?_)
      refine W.widen (k := 0) (n := 0) (Nat.le_refl _) (Nat.le_refl _) ?_
      have hl0 : (0 : Int32).toInt = 0 := by decide
      have hl0 : (0 : Int32).toInt = 0 := by decide
      rcases hw with ⟨rfl, rfl, ha_3, hb_3⟩ | ⟨rfl, rfl, ha_3⟩
      · skip
        obtain ⟨hP1, hK1, hD1⟩ := hB
        rw [ht] at hP1
        have hK1 := va_K.moved hvm.symm hK1
        obtain ⟨hP, hD⟩ := va_join (wr := [(h, .inr (4, [.int 0, .ref mcells, .ref mcounters, .ref mfloors, .ref mlimits, .ref mlongs, .ref msteps, .int 0, .ref mprogram, .ref mkind, .ref mrank, .ref mstate, .ref mactLong, .ref mactSteps, .ref mat, .ref mregister, .ref misHeld, .ref mdoneIn, .ref mundone, .ref mby, .ref mbegunIn, .ref misVoid, .ref misAgain, .ref mholds, .ref mwrites, .ref mgives, .ref mbelow, .ref mqueued, .ref mqueuedMany, .int 0, .ref mdone, .int 0, .int 0, .ref mlog, .int 0, .int 0, .ref morder, .ref misReached, .ref mqueue]))]) (w1 := []) hP hD [] [0] rfl rfl (by decide) (by decide) hk1 hFc hP1 hD1
        generalize H1 = H at hP hS ⊢
        have hP : va_P D vwCl [(h, .inr (4, [.int 0, .ref mcells, .ref mcounters, .ref mfloors, .ref mlimits, .ref mlongs, .ref msteps, .int 0, .ref mprogram, .ref mkind, .ref mrank, .ref mstate, .ref mactLong, .ref mactSteps, .ref mat, .ref mregister, .ref misHeld, .ref mdoneIn, .ref mundone, .ref mby, .ref mbegunIn, .ref misVoid, .ref misAgain, .ref mholds, .ref mwrites, .ref mgives, .ref mbelow, .ref mqueued, .ref mqueuedMany, .int 0, .ref mdone, .int 0, .int 0, .ref mlog, .int 0, .int 0, .ref morder, .ref misReached, .ref mqueue]))] H := hP
        have hD : va_D A [(h, .inr (4, [.int 0, .ref mcells, .ref mcounters, .ref mfloors, .ref mlimits, .ref mlongs, .ref msteps, .int 0, .ref mprogram, .ref mkind, .ref mrank, .ref mstate, .ref mactLong, .ref mactSteps, .ref mat, .ref mregister, .ref misHeld, .ref mdoneIn, .ref mundone, .ref mby, .ref mbegunIn, .ref misVoid, .ref misAgain, .ref mholds, .ref mwrites, .ref mgives, .ref mbelow, .ref mqueued, .ref mqueuedMany, .int 0, .ref mdone, .int 0, .int 0, .ref mlog, .int 0, .int 0, .ref morder, .ref misReached, .ref mqueue]))] := hD
        refine lv_if_ne (tgt := 25) hx hb dX4_value_19 (by decide) (fun c4 => ?_) (fun c4 => ?_)
        · skip
          refine lv_iconst (v := 0) hx hb dX4_value_25 (by decide) ?_
          refine lv_istore_n (lv' := [(3, .int 0), (0, .ref h), (1, .int x), (2, .int y)]) hx hb dX4_value_26 rfl hl (by decide) rfl (fun ls hl => ?_)
          refine lv_iconst (v := 0) hx hb dX4_value_27 (by decide) ?_
          refine lv_istore (lv' := [(4, .int 0), (3, .int 0), (0, .ref h), (1, .int x), (2, .int y)]) hx hb dX4_value_28 hl (by decide) rfl (fun ls hl => ?_)
          refine lv_iload hx hb dX4_value_30 (lv_at hl 0 rfl) ?_
          refine lv_aload_n hx hb dX4_value_32 rfl (lv_at hl 2 rfl) ?_
          refine va_get (D := D) (ci := 4) (v := .int 0) (C := RX4) (T := TX4) (N := 39) hx hb hts kin_X4_value_X4 hown hK hP 0 rfl rfl 29 (by decide) (hts _ kw_X4_value__fieldLink_RX4_168_ActHouseModel_dones_I_) (fun _ h9 => h9) rfl dX4_value_33 ?_
          refine lv_icmp_ge (tgt := 124) hx hb dX4_value_36 (by decide) (fun c5 => ?_) (fun c5 => ?_)
          · skip
            refine lv_iload_n hx hb dX4_value_124 rfl (lv_at hl 1 rfl) ?_
            have hP := hP.sub (ws' := []) [] rfl
            have hD := hD.sub (ws' := []) [] (by decide) rfl
            have hK := hK.sub (tys' := []) [] rfl
            refine W.widen (k := 0) (n := 0) (by decide) (by decide) ?_
            exact W.iret (v := 0) hx hb hr (fun t ht hW => ⟨⟨0, ([], []), rfl, Or.inl ⟨rfl, rfl, (by omega), (by omega), (by omega)⟩, ⟨by rw [ht]; exact hP, va_K.moved hW.alike hK, hD⟩⟩, hS.F ht⟩) hS.2.2 dX4_value_125
          · skip
            exact absurd c5 (by decide)
        · skip
          exact absurd c4 (by decide)
      · skip
        obtain ⟨hP1, hK1, hD1⟩ := hB
        rw [ht] at hP1
        have hK1 := va_K.moved hvm.symm hK1
        obtain ⟨hP, hD⟩ := va_join (wr := [(h, .inr (4, [.int 0, .ref mcells, .ref mcounters, .ref mfloors, .ref mlimits, .ref mlongs, .ref msteps, .int 0, .ref mprogram, .ref mkind, .ref mrank, .ref mstate, .ref mactLong, .ref mactSteps, .ref mat, .ref mregister, .ref misHeld, .ref mdoneIn, .ref mundone, .ref mby, .ref mbegunIn, .ref misVoid, .ref misAgain, .ref mholds, .ref mwrites, .ref mgives, .ref mbelow, .ref mqueued, .ref mqueuedMany, .int 0, .ref mdone, .int 0, .int 0, .ref mlog, .int 0, .int 0, .ref morder, .ref misReached, .ref mqueue]))]) (w1 := []) hP hD [] [0] rfl rfl (by decide) (by decide) hk1 hFc hP1 hD1
        generalize H1 = H at hP hS ⊢
        have hP : va_P D vwCl [(h, .inr (4, [.int 0, .ref mcells, .ref mcounters, .ref mfloors, .ref mlimits, .ref mlongs, .ref msteps, .int 0, .ref mprogram, .ref mkind, .ref mrank, .ref mstate, .ref mactLong, .ref mactSteps, .ref mat, .ref mregister, .ref misHeld, .ref mdoneIn, .ref mundone, .ref mby, .ref mbegunIn, .ref misVoid, .ref misAgain, .ref mholds, .ref mwrites, .ref mgives, .ref mbelow, .ref mqueued, .ref mqueuedMany, .int 0, .ref mdone, .int 0, .int 0, .ref mlog, .int 0, .int 0, .ref morder, .ref misReached, .ref mqueue]))] H := hP
        have hD : va_D A [(h, .inr (4, [.int 0, .ref mcells, .ref mcounters, .ref mfloors, .ref mlimits, .ref mlongs, .ref msteps, .int 0, .ref mprogram, .ref mkind, .ref mrank, .ref mstate, .ref mactLong, .ref mactSteps, .ref mat, .ref mregister, .ref misHeld, .ref mdoneIn, .ref mundone, .ref mby, .ref mbegunIn, .ref misVoid, .ref misAgain, .ref mholds, .ref mwrites, .ref mgives, .ref mbelow, .ref mqueued, .ref mqueuedMany, .int 0, .ref mdone, .int 0, .int 0, .ref mlog, .int 0, .int 0, .ref morder, .ref misReached, .ref mqueue]))] := hD
        refine lv_if_ne (tgt := 25) hx hb dX4_value_19 (by decide) (fun c6 => ?_) (fun c6 => ?_)
        · skip
          exact absurd c6 (by decide)
        · skip
          refine lv_ldc (v := (-2147483648)) hx hb hown (hts _ kw_X4_value__constant_RX4_211_2147483648_) dX4_value_22 ?_
          have hP := hP.sub (ws' := []) [] rfl
          have hD := hD.sub (ws' := []) [] (by decide) rfl
          have hK := hK.sub (tys' := []) [] rfl
          refine W.widen (k := 0) (n := 0) (by decide) (by decide) ?_
          exact W.iret (v := (-2147483648)) hx hb hr (fun t ht hW => ⟨⟨(-2147483648), ([], []), rfl, Or.inr (⟨rfl, rfl, (by omega)⟩), ⟨by rw [ht]; exact hP, va_K.moved hW.alike hK, hD⟩⟩, hS.F ht⟩) hS.2.2 dX4_value_24
  · skip
    obtain ⟨hP1, hK1, hD1⟩ := hB
    rw [ht] at hP1
    have hK1 := va_K.moved hvm.symm hK1
    obtain ⟨hP, hD⟩ := va_join (wr := [(h, .inr (4, [.int 0, .ref mcells, .ref mcounters, .ref mfloors, .ref mlimits, .ref mlongs, .ref msteps, .int 0, .ref mprogram, .ref mkind, .ref mrank, .ref mstate, .ref mactLong, .ref mactSteps, .ref mat, .ref mregister, .ref misHeld, .ref mdoneIn, .ref mundone, .ref mby, .ref mbegunIn, .ref misVoid, .ref misAgain, .ref mholds, .ref mwrites, .ref mgives, .ref mbelow, .ref mqueued, .ref mqueuedMany, .int 0, .ref mdone, .int 0, .int 0, .ref mlog, .int 0, .int 0, .ref morder, .ref misReached, .ref mqueue]))]) (w1 := []) hP hD [] [0] rfl rfl (by decide) (by decide) hk1 hFc hP1 hD1
    generalize H1 = H at hP hS ⊢
    have hP : va_P D vwCl [(h, .inr (4, [.int 0, .ref mcells, .ref mcounters, .ref mfloors, .ref mlimits, .ref mlongs, .ref msteps, .int 0, .ref mprogram, .ref mkind, .ref mrank, .ref mstate, .ref mactLong, .ref mactSteps, .ref mat, .ref mregister, .ref misHeld, .ref mdoneIn, .ref mundone, .ref mby, .ref mbegunIn, .ref misVoid, .ref misAgain, .ref mholds, .ref mwrites, .ref mgives, .ref mbelow, .ref mqueued, .ref mqueuedMany, .int 0, .ref mdone, .int 0, .int 0, .ref mlog, .int 0, .int 0, .ref morder, .ref misReached, .ref mqueue]))] H := hP
    have hD : va_D A [(h, .inr (4, [.int 0, .ref mcells, .ref mcounters, .ref mfloors, .ref mlimits, .ref mlongs, .ref msteps, .int 0, .ref mprogram, .ref mkind, .ref mrank, .ref mstate, .ref mactLong, .ref mactSteps, .ref mat, .ref mregister, .ref misHeld, .ref mdoneIn, .ref mundone, .ref mby, .ref mbegunIn, .ref misVoid, .ref misAgain, .ref mholds, .ref mwrites, .ref mgives, .ref mbelow, .ref mqueued, .ref mqueuedMany, .int 0, .ref mdone, .int 0, .int 0, .ref mlog, .int 0, .int 0, .ref morder, .ref misReached, .ref mqueue]))] := hD
    refine lv_if_eq (tgt := 22) hx hb dX4_value_7 (by decide) (fun c7 => ?_) (fun c7 => ?_)
    · skip
      refine lv_ldc (v := (-2147483648)) hx hb hown (hts _ kw_X4_value__constant_RX4_211_2147483648_) dX4_value_22 ?_
      have hP := hP.sub (ws' := []) [] rfl
      have hD := hD.sub (ws' := []) [] (by decide) rfl
      have hK := hK.sub (tys' := []) [] rfl
      refine W.widen (k := 0) (n := 0) (by decide) (by decide) ?_
      exact W.iret (v := (-2147483648)) hx hb hr (fun t ht hW => ⟨⟨(-2147483648), ([], []), rfl, Or.inr (⟨rfl, rfl, (by omega)⟩), ⟨by rw [ht]; exact hP, va_K.moved hW.alike hK, hD⟩⟩, hS.F ht⟩) hS.2.2 dX4_value_24
    · skip
      exact absurd c7 (by decide)
set_option maxRecDepth 100000 in
theorem kw_X4_done__fieldLink_RX4_168_ActHouseModel_dones_I_ : (.fieldLink RX4 168 "ActHouseModel" "dones" "I" : Cond) ∈ wsX4_done := by decide +kernel
set_option maxRecDepth 100000 in
theorem kin_X4_done_X4 : ∀ w ∈ u_ws RX4 TX4 39, w ∈ wsX4_done := by decide +kernel
set_option maxHeartbeats 4000000 in
set_option maxRecDepth 100000 in
theorem c_X4_done {l : Launch} {D : va_G} {sz : Nat} {h : Nat} {mcells : Nat} {mcounters : Nat} {mfloors : Nat} {mlimits : Nat} {mlongs : Nat} {msteps : Nat} {mprogram : Nat} {mkind : Nat} {mrank : Nat} {mstate : Nat} {mactLong : Nat} {mactSteps : Nat} {mat : Nat} {mregister : Nat} {misHeld : Nat} {mdoneIn : Nat} {mundone : Nat} {mby : Nat} {mbegunIn : Nat} {misVoid : Nat} {misAgain : Nat} {mholds : Nat} {mwrites : Nat} {mgives : Nat} {mbelow : Nat} {mqueued : Nat} {mqueuedMany : Nat} {mdone : Nat} {mlog : Nat} {morder : Nat} {misReached : Nat} {mqueue : Nat} {x : Int32}  : Met l yX4_done wsX4_done ({ frames := 1, cells := 0, slots := 0, locals := 22 }) (va_Pc [.ref h, .int x] (k_Pre D [] [(h, .inr (4, [.int 0, .ref mcells, .ref mcounters, .ref mfloors, .ref mlimits, .ref mlongs, .ref msteps, .int 0, .ref mprogram, .ref mkind, .ref mrank, .ref mstate, .ref mactLong, .ref mactSteps, .ref mat, .ref mregister, .ref misHeld, .ref mdoneIn, .ref mundone, .ref mby, .ref mbegunIn, .ref misVoid, .ref misAgain, .ref mholds, .ref mwrites, .ref mgives, .ref mbelow, .ref mqueued, .ref mqueuedMany, .int 0, .ref mdone, .int 0, .int 0, .ref mlog, .int 0, .int 0, .ref morder, .ref misReached, .ref mqueue]))] sz)) (va_Qi (fun (r : Int32) (u : va_W × List (ClassId × FieldType)) => (r = (-1) ∧ u = ([], []))) (k_B D (va_A [(h, .inr (4, [.int 0, .ref mcells, .ref mcounters, .ref mfloors, .ref mlimits, .ref mlongs, .ref msteps, .int 0, .ref mprogram, .ref mkind, .ref mrank, .ref mstate, .ref mactLong, .ref mactSteps, .ref mat, .ref mregister, .ref misHeld, .ref mdoneIn, .ref mundone, .ref mby, .ref mbegunIn, .ref misVoid, .ref misAgain, .ref mholds, .ref mwrites, .ref mgives, .ref mbelow, .ref mqueued, .ref mqueuedMany, .int 0, .ref mdone, .int 0, .int 0, .ref mlog, .int 0, .int 0, .ref morder, .ref misReached, .ref mqueue]))] sz)) (va_A [(h, .inr (4, [.int 0, .ref mcells, .ref mcounters, .ref mfloors, .ref mlimits, .ref mlongs, .ref msteps, .int 0, .ref mprogram, .ref mkind, .ref mrank, .ref mstate, .ref mactLong, .ref mactSteps, .ref mat, .ref mregister, .ref misHeld, .ref mdoneIn, .ref mundone, .ref mby, .ref mbegunIn, .ref misVoid, .ref misAgain, .ref mholds, .ref mwrites, .ref mgives, .ref mbelow, .ref mqueued, .ref mqueuedMany, .int 0, .ref mdone, .int 0, .int 0, .ref mlog, .int 0, .int 0, .ref morder, .ref misReached, .ref mqueue]))] sz)) 0 0 (va_A [(h, .inr (4, [.int 0, .ref mcells, .ref mcounters, .ref mfloors, .ref mlimits, .ref mlongs, .ref msteps, .int 0, .ref mprogram, .ref mkind, .ref mrank, .ref mstate, .ref mactLong, .ref mactSteps, .ref mat, .ref mregister, .ref misHeld, .ref mdoneIn, .ref mundone, .ref mby, .ref mbegunIn, .ref misVoid, .ref misAgain, .ref mholds, .ref mwrites, .ref mgives, .ref mbelow, .ref mqueued, .ref mqueuedMany, .int 0, .ref mdone, .int 0, .int 0, .ref mlog, .int 0, .int 0, .ref morder, .ref misReached, .ref mqueue]))] sz) := by
  refine Met.ofW (cc := cX4_done) (maxL := 2) (ret := (some .int)) (by decide) rfl ?_
  intro p e s m args below meth c s₁ B hml hv
  obtain ⟨rfl, hsz, hP, hK, hD0⟩ := hv
  have hx := B.exec
  have hb := B.bytes
  have hr := B.returns
  have hts := atoms_spec (ws := wsX4_done) B.pre
  have hown : s.vm.findClass RX4 = some m.cls := findClass_of_methodNamed B.named
  have hlocks := B.notSynchronized
  subst hsz
  have hD := hD0.self (sz := s.heap.size)
  generalize hAe : va_A [(h, .inr (4, [.int 0, .ref mcells, .ref mcounters, .ref mfloors, .ref mlimits, .ref mlongs, .ref msteps, .int 0, .ref mprogram, .ref mkind, .ref mrank, .ref mstate, .ref mactLong, .ref mactSteps, .ref mat, .ref mregister, .ref misHeld, .ref mdoneIn, .ref mundone, .ref mby, .ref mbegunIn, .ref misVoid, .ref misAgain, .ref mholds, .ref mwrites, .ref mgives, .ref mbelow, .ref mqueued, .ref mqueuedMany, .int 0, .ref mdone, .int 0, .int 0, .ref mlog, .int 0, .int 0, .ref morder, .ref misReached, .ref mqueue]))] s.heap.size = A at hD ⊢
  have hA : ∀ q : Nat, s.heap.size ≤ q → A q := fun q h => by rw [← hAe]; exact Or.inr h
  have hS : va_S A s.heap s.heap [] := va_S.rf
  have hl := lv_entry ([.ref h, .int x]) (n := 2) (Nat.le_of_ble_eq_true rfl)
  rw [lg_entry_eq]
  generalize (lg_sl ([.ref h, .int x]) ++ List.replicate (2 - (lg_sl ([.ref h, .int x])).length) Slot.unset).toArray = ls at hl ⊢
  have hl : lv_has ls 2 [(0, .ref h), (1, .int x)] := hl
  refine lv_iload_n hx hb dX4_done_0 rfl (lv_at hl 1 rfl) ?_
  refine lv_iconst (v := 0) hx hb dX4_done_1 (by decide) ?_
  refine lv_aload_n hx hb dX4_done_2 rfl (lv_at hl 0 rfl) ?_
  refine va_get (D := D) (ci := 4) (v := .int 0) (C := RX4) (T := TX4) (N := 39) hx hb hts kin_X4_done_X4 hown hK hP 0 rfl rfl 29 (by decide) (hts _ kw_X4_done__fieldLink_RX4_168_ActHouseModel_dones_I_) (fun _ h9 => h9) rfl dX4_done_3 ?_
  refine lv_iconst (v := 1) hx hb dX4_done_6 (by decide) ?_
  refine lv_isub hx hb dX4_done_7 ?_
  refine W.eq (g2 := F0 m 8 ls [.int (-1), .int 0, .int x]) (by first | rfl | (congr 2; decide)) ?_
  have hPc := hP.sub (ws' := []) [] rfl
  have hDc := hD.sub (ws' := []) [] (by decide) rfl
  have hKc := hK.sub (tys' := []) [] rfl
  have hFc := va_free (wc := []) hD hS hA [] rfl
  refine va_calli (va_runS (As := [.int x, .int 0, .int (-1)]) (rest := []) ⟨hx, hb, hml, hown, hts⟩ (c_X4_in (l := l) (D := D) (x := x) (y := 0) (z := (-1)) ) (va_cwS 3 hts gX4_done_X4_in rfl rfl rfl (by decide +kernel) ⟨Nat.le_of_ble_eq_true rfl, Nat.le_of_ble_eq_true rfl⟩) ⟨k_blind, fun U hU hW => ⟨rfl, k_pre hU hW hPc hKc hDc⟩⟩ rfl rfl hl.1 rfl (lv_room (Nat.le_of_ble_eq_true rfl)) dX4_done_8 ⟨by decide, by decide⟩) hS (fun q _ h => hFc q h) hFc (fun r1 u t H1 locs ht hvm hw hB hz1 hk1 hS => ?_)
  refine W.widen (k := 0) (n := 0) (Nat.le_refl _) (Nat.le_refl _) ?_
  have hl0 : (0 : Int32).toInt = 0 := by decide
  have hlm1 : ((-1) : Int32).toInt = -1 := by decide
  rcases hw with ⟨rfl, rfl, ha_1, hb_1⟩ | ⟨rfl, rfl, ha_1⟩
  · skip
    obtain ⟨hP1, hK1, hD1⟩ := hB
    rw [ht] at hP1
    have hK1 := va_K.moved hvm.symm hK1
    obtain ⟨hP, hD⟩ := va_join (wr := [(h, .inr (4, [.int 0, .ref mcells, .ref mcounters, .ref mfloors, .ref mlimits, .ref mlongs, .ref msteps, .int 0, .ref mprogram, .ref mkind, .ref mrank, .ref mstate, .ref mactLong, .ref mactSteps, .ref mat, .ref mregister, .ref misHeld, .ref mdoneIn, .ref mundone, .ref mby, .ref mbegunIn, .ref misVoid, .ref misAgain, .ref mholds, .ref mwrites, .ref mgives, .ref mbelow, .ref mqueued, .ref mqueuedMany, .int 0, .ref mdone, .int 0, .int 0, .ref mlog, .int 0, .int 0, .ref morder, .ref misReached, .ref mqueue]))]) (w1 := []) hP hD [] [0] rfl rfl (by decide) (by decide) hk1 hFc hP1 hD1
    generalize H1 = H at hP hS ⊢
    have hP : va_P D vwCl [(h, .inr (4, [.int 0, .ref mcells, .ref mcounters, .ref mfloors, .ref mlimits, .ref mlongs, .ref msteps, .int 0, .ref mprogram, .ref mkind, .ref mrank, .ref mstate, .ref mactLong, .ref mactSteps, .ref mat, .ref mregister, .ref misHeld, .ref mdoneIn, .ref mundone, .ref mby, .ref mbegunIn, .ref misVoid, .ref misAgain, .ref mholds, .ref mwrites, .ref mgives, .ref mbelow, .ref mqueued, .ref mqueuedMany, .int 0, .ref mdone, .int 0, .int 0, .ref mlog, .int 0, .int 0, .ref morder, .ref misReached, .ref mqueue]))] H := hP
    have hD : va_D A [(h, .inr (4, [.int 0, .ref mcells, .ref mcounters, .ref mfloors, .ref mlimits, .ref mlongs, .ref msteps, .int 0, .ref mprogram, .ref mkind, .ref mrank, .ref mstate, .ref mactLong, .ref mactSteps, .ref mat, .ref mregister, .ref misHeld, .ref mdoneIn, .ref mundone, .ref mby, .ref mbegunIn, .ref misVoid, .ref misAgain, .ref mholds, .ref mwrites, .ref mgives, .ref mbelow, .ref mqueued, .ref mqueuedMany, .int 0, .ref mdone, .int 0, .int 0, .ref mlog, .int 0, .int 0, .ref morder, .ref misReached, .ref mqueue]))] := hD
    refine lv_if_eq (tgt := 23) hx hb dX4_done_11 (by decide) (fun c2 => ?_) (fun c2 => ?_)
    · skip
      exact absurd c2 (by decide)
    · skip
      exfalso; omega
  · skip
    obtain ⟨hP1, hK1, hD1⟩ := hB
    rw [ht] at hP1
    have hK1 := va_K.moved hvm.symm hK1
    obtain ⟨hP, hD⟩ := va_join (wr := [(h, .inr (4, [.int 0, .ref mcells, .ref mcounters, .ref mfloors, .ref mlimits, .ref mlongs, .ref msteps, .int 0, .ref mprogram, .ref mkind, .ref mrank, .ref mstate, .ref mactLong, .ref mactSteps, .ref mat, .ref mregister, .ref misHeld, .ref mdoneIn, .ref mundone, .ref mby, .ref mbegunIn, .ref misVoid, .ref misAgain, .ref mholds, .ref mwrites, .ref mgives, .ref mbelow, .ref mqueued, .ref mqueuedMany, .int 0, .ref mdone, .int 0, .int 0, .ref mlog, .int 0, .int 0, .ref morder, .ref misReached, .ref mqueue]))]) (w1 := []) hP hD [] [0] rfl rfl (by decide) (by decide) hk1 hFc hP1 hD1
    generalize H1 = H at hP hS ⊢
    have hP : va_P D vwCl [(h, .inr (4, [.int 0, .ref mcells, .ref mcounters, .ref mfloors, .ref mlimits, .ref mlongs, .ref msteps, .int 0, .ref mprogram, .ref mkind, .ref mrank, .ref mstate, .ref mactLong, .ref mactSteps, .ref mat, .ref mregister, .ref misHeld, .ref mdoneIn, .ref mundone, .ref mby, .ref mbegunIn, .ref misVoid, .ref misAgain, .ref mholds, .ref mwrites, .ref mgives, .ref mbelow, .ref mqueued, .ref mqueuedMany, .int 0, .ref mdone, .int 0, .int 0, .ref mlog, .int 0, .int 0, .ref morder, .ref misReached, .ref mqueue]))] H := hP
    have hD : va_D A [(h, .inr (4, [.int 0, .ref mcells, .ref mcounters, .ref mfloors, .ref mlimits, .ref mlongs, .ref msteps, .int 0, .ref mprogram, .ref mkind, .ref mrank, .ref mstate, .ref mactLong, .ref mactSteps, .ref mat, .ref mregister, .ref misHeld, .ref mdoneIn, .ref mundone, .ref mby, .ref mbegunIn, .ref misVoid, .ref misAgain, .ref mholds, .ref mwrites, .ref mgives, .ref mbelow, .ref mqueued, .ref mqueuedMany, .int 0, .ref mdone, .int 0, .int 0, .ref mlog, .int 0, .int 0, .ref morder, .ref misReached, .ref mqueue]))] := hD
    refine lv_if_eq (tgt := 23) hx hb dX4_done_11 (by decide) (fun c3 => ?_) (fun c3 => ?_)
    · skip
      refine lv_iconst (v := (-1)) hx hb dX4_done_23 (by decide) ?_
      have hP := hP.sub (ws' := []) [] rfl
      have hD := hD.sub (ws' := []) [] (by decide) rfl
      have hK := hK.sub (tys' := []) [] rfl
      refine W.widen (k := 0) (n := 0) (by decide) (by decide) ?_
      exact W.iret (v := (-1)) hx hb hr (fun t ht hW => ⟨⟨(-1), ([], []), rfl, ⟨rfl, rfl⟩, ⟨by rw [ht]; exact hP, va_K.moved hW.alike hK, hD⟩⟩, hS.F ht⟩) hS.2.2 dX4_done_24
    · skip
      exact absurd c3 (by decide)
set_option maxRecDepth 100000 in
theorem kw_X4_log__fieldLink_RX4_127_ActHouseModel_entries_I_ : (.fieldLink RX4 127 "ActHouseModel" "entries" "I" : Cond) ∈ wsX4_log := by decide +kernel
set_option maxRecDepth 100000 in
theorem kin_X4_log_X4 : ∀ w ∈ u_ws RX4 TX4 39, w ∈ wsX4_log := by decide +kernel
set_option maxHeartbeats 4000000 in
set_option maxRecDepth 100000 in
theorem c_X4_log {l : Launch} {D : va_G} {sz : Nat} {h : Nat} {mcells : Nat} {mcounters : Nat} {mfloors : Nat} {mlimits : Nat} {mlongs : Nat} {msteps : Nat} {mprogram : Nat} {mkind : Nat} {mrank : Nat} {mstate : Nat} {mactLong : Nat} {mactSteps : Nat} {mat : Nat} {mregister : Nat} {misHeld : Nat} {mdoneIn : Nat} {mundone : Nat} {mby : Nat} {mbegunIn : Nat} {misVoid : Nat} {misAgain : Nat} {mholds : Nat} {mwrites : Nat} {mgives : Nat} {mbelow : Nat} {mqueued : Nat} {mqueuedMany : Nat} {mdone : Nat} {mlog : Nat} {morder : Nat} {misReached : Nat} {mqueue : Nat} {x : Int32} {y : Int32}  : Met l yX4_log wsX4_log ({ frames := 1, cells := 0, slots := 0, locals := 22 }) (va_Pc [.ref h, .int x, .int y] (k_Pre D [] [(h, .inr (4, [.int 0, .ref mcells, .ref mcounters, .ref mfloors, .ref mlimits, .ref mlongs, .ref msteps, .int 0, .ref mprogram, .ref mkind, .ref mrank, .ref mstate, .ref mactLong, .ref mactSteps, .ref mat, .ref mregister, .ref misHeld, .ref mdoneIn, .ref mundone, .ref mby, .ref mbegunIn, .ref misVoid, .ref misAgain, .ref mholds, .ref mwrites, .ref mgives, .ref mbelow, .ref mqueued, .ref mqueuedMany, .int 0, .ref mdone, .int 0, .int 0, .ref mlog, .int 0, .int 0, .ref morder, .ref misReached, .ref mqueue]))] sz)) (va_Qi (fun (r : Int32) (u : va_W × List (ClassId × FieldType)) => (r = (-1) ∧ u = ([], []))) (k_B D (va_A [(h, .inr (4, [.int 0, .ref mcells, .ref mcounters, .ref mfloors, .ref mlimits, .ref mlongs, .ref msteps, .int 0, .ref mprogram, .ref mkind, .ref mrank, .ref mstate, .ref mactLong, .ref mactSteps, .ref mat, .ref mregister, .ref misHeld, .ref mdoneIn, .ref mundone, .ref mby, .ref mbegunIn, .ref misVoid, .ref misAgain, .ref mholds, .ref mwrites, .ref mgives, .ref mbelow, .ref mqueued, .ref mqueuedMany, .int 0, .ref mdone, .int 0, .int 0, .ref mlog, .int 0, .int 0, .ref morder, .ref misReached, .ref mqueue]))] sz)) (va_A [(h, .inr (4, [.int 0, .ref mcells, .ref mcounters, .ref mfloors, .ref mlimits, .ref mlongs, .ref msteps, .int 0, .ref mprogram, .ref mkind, .ref mrank, .ref mstate, .ref mactLong, .ref mactSteps, .ref mat, .ref mregister, .ref misHeld, .ref mdoneIn, .ref mundone, .ref mby, .ref mbegunIn, .ref misVoid, .ref misAgain, .ref mholds, .ref mwrites, .ref mgives, .ref mbelow, .ref mqueued, .ref mqueuedMany, .int 0, .ref mdone, .int 0, .int 0, .ref mlog, .int 0, .int 0, .ref morder, .ref misReached, .ref mqueue]))] sz)) 0 0 (va_A [(h, .inr (4, [.int 0, .ref mcells, .ref mcounters, .ref mfloors, .ref mlimits, .ref mlongs, .ref msteps, .int 0, .ref mprogram, .ref mkind, .ref mrank, .ref mstate, .ref mactLong, .ref mactSteps, .ref mat, .ref mregister, .ref misHeld, .ref mdoneIn, .ref mundone, .ref mby, .ref mbegunIn, .ref misVoid, .ref misAgain, .ref mholds, .ref mwrites, .ref mgives, .ref mbelow, .ref mqueued, .ref mqueuedMany, .int 0, .ref mdone, .int 0, .int 0, .ref mlog, .int 0, .int 0, .ref morder, .ref misReached, .ref mqueue]))] sz) := by
  refine Met.ofW (cc := cX4_log) (maxL := 3) (ret := (some .int)) (by decide) rfl ?_
  intro p e s m args below meth c s₁ B hml hv
  obtain ⟨rfl, hsz, hP, hK, hD0⟩ := hv
  have hx := B.exec
  have hb := B.bytes
  have hr := B.returns
  have hts := atoms_spec (ws := wsX4_log) B.pre
  have hown : s.vm.findClass RX4 = some m.cls := findClass_of_methodNamed B.named
  have hlocks := B.notSynchronized
  subst hsz
  have hD := hD0.self (sz := s.heap.size)
  generalize hAe : va_A [(h, .inr (4, [.int 0, .ref mcells, .ref mcounters, .ref mfloors, .ref mlimits, .ref mlongs, .ref msteps, .int 0, .ref mprogram, .ref mkind, .ref mrank, .ref mstate, .ref mactLong, .ref mactSteps, .ref mat, .ref mregister, .ref misHeld, .ref mdoneIn, .ref mundone, .ref mby, .ref mbegunIn, .ref misVoid, .ref misAgain, .ref mholds, .ref mwrites, .ref mgives, .ref mbelow, .ref mqueued, .ref mqueuedMany, .int 0, .ref mdone, .int 0, .int 0, .ref mlog, .int 0, .int 0, .ref morder, .ref misReached, .ref mqueue]))] s.heap.size = A at hD ⊢
  have hA : ∀ q : Nat, s.heap.size ≤ q → A q := fun q h => by rw [← hAe]; exact Or.inr h
  have hS : va_S A s.heap s.heap [] := va_S.rf
  have hl := lv_entry ([.ref h, .int x, .int y]) (n := 3) (Nat.le_of_ble_eq_true rfl)
  rw [lg_entry_eq]
  generalize (lg_sl ([.ref h, .int x, .int y]) ++ List.replicate (3 - (lg_sl ([.ref h, .int x, .int y])).length) Slot.unset).toArray = ls at hl ⊢
  have hl : lv_has ls 3 [(0, .ref h), (1, .int x), (2, .int y)] := hl
  refine lv_iload_n hx hb dX4_log_0 rfl (lv_at hl 1 rfl) ?_
  refine lv_iconst (v := 0) hx hb dX4_log_1 (by decide) ?_
  refine lv_aload_n hx hb dX4_log_2 rfl (lv_at hl 0 rfl) ?_
  refine va_get (D := D) (ci := 4) (v := .int 0) (C := RX4) (T := TX4) (N := 39) hx hb hts kin_X4_log_X4 hown hK hP 0 rfl rfl 31 (by decide) (hts _ kw_X4_log__fieldLink_RX4_127_ActHouseModel_entries_I_) (fun _ h9 => h9) rfl dX4_log_3 ?_
  refine lv_iconst (v := 1) hx hb dX4_log_6 (by decide) ?_
  refine lv_isub hx hb dX4_log_7 ?_
  refine W.eq (g2 := F0 m 8 ls [.int (-1), .int 0, .int x]) (by first | rfl | (congr 2; decide)) ?_
  have hPc := hP.sub (ws' := []) [] rfl
  have hDc := hD.sub (ws' := []) [] (by decide) rfl
  have hKc := hK.sub (tys' := []) [] rfl
  have hFc := va_free (wc := []) hD hS hA [] rfl
  refine va_calli (va_runS (As := [.int x, .int 0, .int (-1)]) (rest := []) ⟨hx, hb, hml, hown, hts⟩ (c_X4_in (l := l) (D := D) (x := x) (y := 0) (z := (-1)) ) (va_cwS 3 hts gX4_log_X4_in rfl rfl rfl (by decide +kernel) ⟨Nat.le_of_ble_eq_true rfl, Nat.le_of_ble_eq_true rfl⟩) ⟨k_blind, fun U hU hW => ⟨rfl, k_pre hU hW hPc hKc hDc⟩⟩ rfl rfl hl.1 rfl (lv_room (Nat.le_of_ble_eq_true rfl)) dX4_log_8 ⟨by decide, by decide⟩) hS (fun q _ h => hFc q h) hFc (fun r1 u t H1 locs ht hvm hw hB hz1 hk1 hS => ?_)
  refine W.widen (k := 0) (n := 0) (Nat.le_refl _) (Nat.le_refl _) ?_
  have hl0 : (0 : Int32).toInt = 0 := by decide
  have hlm1 : ((-1) : Int32).toInt = -1 := by decide
  rcases hw with ⟨rfl, rfl, ha_1, hb_1⟩ | ⟨rfl, rfl, ha_1⟩
  · skip
    obtain ⟨hP1, hK1, hD1⟩ := hB
    rw [ht] at hP1
    have hK1 := va_K.moved hvm.symm hK1
    obtain ⟨hP, hD⟩ := va_join (wr := [(h, .inr (4, [.int 0, .ref mcells, .ref mcounters, .ref mfloors, .ref mlimits, .ref mlongs, .ref msteps, .int 0, .ref mprogram, .ref mkind, .ref mrank, .ref mstate, .ref mactLong, .ref mactSteps, .ref mat, .ref mregister, .ref misHeld, .ref mdoneIn, .ref mundone, .ref mby, .ref mbegunIn, .ref misVoid, .ref misAgain, .ref mholds, .ref mwrites, .ref mgives, .ref mbelow, .ref mqueued, .ref mqueuedMany, .int 0, .ref mdone, .int 0, .int 0, .ref mlog, .int 0, .int 0, .ref morder, .ref misReached, .ref mqueue]))]) (w1 := []) hP hD [] [0] rfl rfl (by decide) (by decide) hk1 hFc hP1 hD1
    generalize H1 = H at hP hS ⊢
    have hP : va_P D vwCl [(h, .inr (4, [.int 0, .ref mcells, .ref mcounters, .ref mfloors, .ref mlimits, .ref mlongs, .ref msteps, .int 0, .ref mprogram, .ref mkind, .ref mrank, .ref mstate, .ref mactLong, .ref mactSteps, .ref mat, .ref mregister, .ref misHeld, .ref mdoneIn, .ref mundone, .ref mby, .ref mbegunIn, .ref misVoid, .ref misAgain, .ref mholds, .ref mwrites, .ref mgives, .ref mbelow, .ref mqueued, .ref mqueuedMany, .int 0, .ref mdone, .int 0, .int 0, .ref mlog, .int 0, .int 0, .ref morder, .ref misReached, .ref mqueue]))] H := hP
    have hD : va_D A [(h, .inr (4, [.int 0, .ref mcells, .ref mcounters, .ref mfloors, .ref mlimits, .ref mlongs, .ref msteps, .int 0, .ref mprogram, .ref mkind, .ref mrank, .ref mstate, .ref mactLong, .ref mactSteps, .ref mat, .ref mregister, .ref misHeld, .ref mdoneIn, .ref mundone, .ref mby, .ref mbegunIn, .ref misVoid, .ref misAgain, .ref mholds, .ref mwrites, .ref mgives, .ref mbelow, .ref mqueued, .ref mqueuedMany, .int 0, .ref mdone, .int 0, .int 0, .ref mlog, .int 0, .int 0, .ref morder, .ref misReached, .ref mqueue]))] := hD
    refine lv_if_eq (tgt := 36) hx hb dX4_log_11 (by decide) (fun c2 => ?_) (fun c2 => ?_)
    · skip
      exact absurd c2 (by decide)
    · skip
      exfalso; omega
  · skip
    obtain ⟨hP1, hK1, hD1⟩ := hB
    rw [ht] at hP1
    have hK1 := va_K.moved hvm.symm hK1
    obtain ⟨hP, hD⟩ := va_join (wr := [(h, .inr (4, [.int 0, .ref mcells, .ref mcounters, .ref mfloors, .ref mlimits, .ref mlongs, .ref msteps, .int 0, .ref mprogram, .ref mkind, .ref mrank, .ref mstate, .ref mactLong, .ref mactSteps, .ref mat, .ref mregister, .ref misHeld, .ref mdoneIn, .ref mundone, .ref mby, .ref mbegunIn, .ref misVoid, .ref misAgain, .ref mholds, .ref mwrites, .ref mgives, .ref mbelow, .ref mqueued, .ref mqueuedMany, .int 0, .ref mdone, .int 0, .int 0, .ref mlog, .int 0, .int 0, .ref morder, .ref misReached, .ref mqueue]))]) (w1 := []) hP hD [] [0] rfl rfl (by decide) (by decide) hk1 hFc hP1 hD1
    generalize H1 = H at hP hS ⊢
    have hP : va_P D vwCl [(h, .inr (4, [.int 0, .ref mcells, .ref mcounters, .ref mfloors, .ref mlimits, .ref mlongs, .ref msteps, .int 0, .ref mprogram, .ref mkind, .ref mrank, .ref mstate, .ref mactLong, .ref mactSteps, .ref mat, .ref mregister, .ref misHeld, .ref mdoneIn, .ref mundone, .ref mby, .ref mbegunIn, .ref misVoid, .ref misAgain, .ref mholds, .ref mwrites, .ref mgives, .ref mbelow, .ref mqueued, .ref mqueuedMany, .int 0, .ref mdone, .int 0, .int 0, .ref mlog, .int 0, .int 0, .ref morder, .ref misReached, .ref mqueue]))] H := hP
    have hD : va_D A [(h, .inr (4, [.int 0, .ref mcells, .ref mcounters, .ref mfloors, .ref mlimits, .ref mlongs, .ref msteps, .int 0, .ref mprogram, .ref mkind, .ref mrank, .ref mstate, .ref mactLong, .ref mactSteps, .ref mat, .ref mregister, .ref misHeld, .ref mdoneIn, .ref mundone, .ref mby, .ref mbegunIn, .ref misVoid, .ref misAgain, .ref mholds, .ref mwrites, .ref mgives, .ref mbelow, .ref mqueued, .ref mqueuedMany, .int 0, .ref mdone, .int 0, .int 0, .ref mlog, .int 0, .int 0, .ref morder, .ref misReached, .ref mqueue]))] := hD
    refine lv_if_eq (tgt := 36) hx hb dX4_log_11 (by decide) (fun c3 => ?_) (fun c3 => ?_)
    · skip
      refine lv_iconst (v := (-1)) hx hb dX4_log_36 (by decide) ?_
      have hP := hP.sub (ws' := []) [] rfl
      have hD := hD.sub (ws' := []) [] (by decide) rfl
      have hK := hK.sub (tys' := []) [] rfl
      refine W.widen (k := 0) (n := 0) (by decide) (by decide) ?_
      exact W.iret (v := (-1)) hx hb hr (fun t ht hW => ⟨⟨(-1), ([], []), rfl, ⟨rfl, rfl⟩, ⟨by rw [ht]; exact hP, va_K.moved hW.alike hK, hD⟩⟩, hS.F ht⟩) hS.2.2 dX4_log_37
    · skip
      exact absurd c3 (by decide)
set_option maxRecDepth 100000 in
theorem kw_X4_countOf__fieldLink_RX4_111_ActHouseModel_acts_I_ : (.fieldLink RX4 111 "ActHouseModel" "acts" "I" : Cond) ∈ wsX4_countOf := by decide +kernel
set_option maxRecDepth 100000 in
theorem kin_X4_countOf_X4 : ∀ w ∈ u_ws RX4 TX4 39, w ∈ wsX4_countOf := by decide +kernel
set_option maxHeartbeats 4000000 in
set_option maxRecDepth 100000 in
theorem c_X4_countOf {l : Launch} {D : va_G} {sz : Nat} {h : Nat} {mcells : Nat} {mcounters : Nat} {mfloors : Nat} {mlimits : Nat} {mlongs : Nat} {msteps : Nat} {mprogram : Nat} {mkind : Nat} {mrank : Nat} {mstate : Nat} {mactLong : Nat} {mactSteps : Nat} {mat : Nat} {mregister : Nat} {misHeld : Nat} {mdoneIn : Nat} {mundone : Nat} {mby : Nat} {mbegunIn : Nat} {misVoid : Nat} {misAgain : Nat} {mholds : Nat} {mwrites : Nat} {mgives : Nat} {mbelow : Nat} {mqueued : Nat} {mqueuedMany : Nat} {mdone : Nat} {mlog : Nat} {morder : Nat} {misReached : Nat} {mqueue : Nat} {x : Int32}  : Met l yX4_countOf wsX4_countOf ({ frames := 0, cells := 0, slots := 0, locals := 0 }) (va_Pc [.ref h, .int x] (k_Pre D [] [(h, .inr (4, [.int 0, .ref mcells, .ref mcounters, .ref mfloors, .ref mlimits, .ref mlongs, .ref msteps, .int 0, .ref mprogram, .ref mkind, .ref mrank, .ref mstate, .ref mactLong, .ref mactSteps, .ref mat, .ref mregister, .ref misHeld, .ref mdoneIn, .ref mundone, .ref mby, .ref mbegunIn, .ref misVoid, .ref misAgain, .ref mholds, .ref mwrites, .ref mgives, .ref mbelow, .ref mqueued, .ref mqueuedMany, .int 0, .ref mdone, .int 0, .int 0, .ref mlog, .int 0, .int 0, .ref morder, .ref misReached, .ref mqueue]))] sz)) (va_Qi (fun (r : Int32) (u : va_W × List (ClassId × FieldType)) => (r = 0 ∧ u = ([(h, .inr (4, [.int 0, .ref mcells, .ref mcounters, .ref mfloors, .ref mlimits, .ref mlongs, .ref msteps, .int 0, .ref mprogram, .ref mkind, .ref mrank, .ref mstate, .ref mactLong, .ref mactSteps, .ref mat, .ref mregister, .ref misHeld, .ref mdoneIn, .ref mundone, .ref mby, .ref mbegunIn, .ref misVoid, .ref misAgain, .ref mholds, .ref mwrites, .ref mgives, .ref mbelow, .ref mqueued, .ref mqueuedMany, .int 0, .ref mdone, .int 0, .int 0, .ref mlog, .int 0, .int 0, .ref morder, .ref misReached, .ref mqueue]))], []))) (k_B D (va_A [(h, .inr (4, [.int 0, .ref mcells, .ref mcounters, .ref mfloors, .ref mlimits, .ref mlongs, .ref msteps, .int 0, .ref mprogram, .ref mkind, .ref mrank, .ref mstate, .ref mactLong, .ref mactSteps, .ref mat, .ref mregister, .ref misHeld, .ref mdoneIn, .ref mundone, .ref mby, .ref mbegunIn, .ref misVoid, .ref misAgain, .ref mholds, .ref mwrites, .ref mgives, .ref mbelow, .ref mqueued, .ref mqueuedMany, .int 0, .ref mdone, .int 0, .int 0, .ref mlog, .int 0, .int 0, .ref morder, .ref misReached, .ref mqueue]))] sz)) (va_A [(h, .inr (4, [.int 0, .ref mcells, .ref mcounters, .ref mfloors, .ref mlimits, .ref mlongs, .ref msteps, .int 0, .ref mprogram, .ref mkind, .ref mrank, .ref mstate, .ref mactLong, .ref mactSteps, .ref mat, .ref mregister, .ref misHeld, .ref mdoneIn, .ref mundone, .ref mby, .ref mbegunIn, .ref misVoid, .ref misAgain, .ref mholds, .ref mwrites, .ref mgives, .ref mbelow, .ref mqueued, .ref mqueuedMany, .int 0, .ref mdone, .int 0, .int 0, .ref mlog, .int 0, .int 0, .ref morder, .ref misReached, .ref mqueue]))] sz)) 0 0 (va_A [(h, .inr (4, [.int 0, .ref mcells, .ref mcounters, .ref mfloors, .ref mlimits, .ref mlongs, .ref msteps, .int 0, .ref mprogram, .ref mkind, .ref mrank, .ref mstate, .ref mactLong, .ref mactSteps, .ref mat, .ref mregister, .ref misHeld, .ref mdoneIn, .ref mundone, .ref mby, .ref mbegunIn, .ref misVoid, .ref misAgain, .ref mholds, .ref mwrites, .ref mgives, .ref mbelow, .ref mqueued, .ref mqueuedMany, .int 0, .ref mdone, .int 0, .int 0, .ref mlog, .int 0, .int 0, .ref morder, .ref misReached, .ref mqueue]))] sz) := by
  refine Met.ofW (cc := cX4_countOf) (maxL := 4) (ret := (some .int)) (by decide) rfl ?_
  intro p e s m args below meth c s₁ B hml hv
  obtain ⟨rfl, hsz, hP, hK, hD0⟩ := hv
  have hx := B.exec
  have hb := B.bytes
  have hr := B.returns
  have hts := atoms_spec (ws := wsX4_countOf) B.pre
  have hown : s.vm.findClass RX4 = some m.cls := findClass_of_methodNamed B.named
  have hlocks := B.notSynchronized
  subst hsz
  have hD := hD0.self (sz := s.heap.size)
  generalize hAe : va_A [(h, .inr (4, [.int 0, .ref mcells, .ref mcounters, .ref mfloors, .ref mlimits, .ref mlongs, .ref msteps, .int 0, .ref mprogram, .ref mkind, .ref mrank, .ref mstate, .ref mactLong, .ref mactSteps, .ref mat, .ref mregister, .ref misHeld, .ref mdoneIn, .ref mundone, .ref mby, .ref mbegunIn, .ref misVoid, .ref misAgain, .ref mholds, .ref mwrites, .ref mgives, .ref mbelow, .ref mqueued, .ref mqueuedMany, .int 0, .ref mdone, .int 0, .int 0, .ref mlog, .int 0, .int 0, .ref morder, .ref misReached, .ref mqueue]))] s.heap.size = A at hD ⊢
  have hA : ∀ q : Nat, s.heap.size ≤ q → A q := fun q h => by rw [← hAe]; exact Or.inr h
  have hS : va_S A s.heap s.heap [] := va_S.rf
  have hl := lv_entry ([.ref h, .int x]) (n := 4) (Nat.le_of_ble_eq_true rfl)
  rw [lg_entry_eq]
  generalize (lg_sl ([.ref h, .int x]) ++ List.replicate (4 - (lg_sl ([.ref h, .int x])).length) Slot.unset).toArray = ls at hl ⊢
  have hl : lv_has ls 4 [(0, .ref h), (1, .int x)] := hl
  refine lv_iconst (v := 0) hx hb dX4_countOf_0 (by decide) ?_
  refine lv_istore_n (lv' := [(2, .int 0), (0, .ref h), (1, .int x)]) hx hb dX4_countOf_1 rfl hl (by decide) rfl (fun ls hl => ?_)
  refine lv_iconst (v := 0) hx hb dX4_countOf_2 (by decide) ?_
  refine lv_istore_n (lv' := [(3, .int 0), (2, .int 0), (0, .ref h), (1, .int x)]) hx hb dX4_countOf_3 rfl hl (by decide) rfl (fun ls hl => ?_)
  refine lv_iload_n hx hb dX4_countOf_4 rfl (lv_at hl 0 rfl) ?_
  refine lv_aload_n hx hb dX4_countOf_5 rfl (lv_at hl 2 rfl) ?_
  refine va_get (D := D) (ci := 4) (v := .int 0) (C := RX4) (T := TX4) (N := 39) hx hb hts kin_X4_countOf_X4 hown hK hP 0 rfl rfl 7 (by decide) (hts _ kw_X4_countOf__fieldLink_RX4_111_ActHouseModel_acts_I_) (fun _ h9 => h9) rfl dX4_countOf_6 ?_
  refine lv_icmp_ge (tgt := 36) hx hb dX4_countOf_9 (by decide) (fun c1 => ?_) (fun c1 => ?_)
  · skip
    refine lv_iload_n hx hb dX4_countOf_36 rfl (lv_at hl 1 rfl) ?_
    have hP := hP.sub (ws' := [(h, .inr (4, [.int 0, .ref mcells, .ref mcounters, .ref mfloors, .ref mlimits, .ref mlongs, .ref msteps, .int 0, .ref mprogram, .ref mkind, .ref mrank, .ref mstate, .ref mactLong, .ref mactSteps, .ref mat, .ref mregister, .ref misHeld, .ref mdoneIn, .ref mundone, .ref mby, .ref mbegunIn, .ref misVoid, .ref misAgain, .ref mholds, .ref mwrites, .ref mgives, .ref mbelow, .ref mqueued, .ref mqueuedMany, .int 0, .ref mdone, .int 0, .int 0, .ref mlog, .int 0, .int 0, .ref morder, .ref misReached, .ref mqueue]))]) [0] rfl
    have hD := hD.sub (ws' := [(h, .inr (4, [.int 0, .ref mcells, .ref mcounters, .ref mfloors, .ref mlimits, .ref mlongs, .ref msteps, .int 0, .ref mprogram, .ref mkind, .ref mrank, .ref mstate, .ref mactLong, .ref mactSteps, .ref mat, .ref mregister, .ref misHeld, .ref mdoneIn, .ref mundone, .ref mby, .ref mbegunIn, .ref misVoid, .ref misAgain, .ref mholds, .ref mwrites, .ref mgives, .ref mbelow, .ref mqueued, .ref mqueuedMany, .int 0, .ref mdone, .int 0, .int 0, .ref mlog, .int 0, .int 0, .ref morder, .ref misReached, .ref mqueue]))]) [0] (by decide) rfl
    have hK := hK.sub (tys' := []) [] rfl
    refine W.widen (k := 0) (n := 0) (by decide) (by decide) ?_
    exact W.iret (v := 0) hx hb hr (fun t ht hW => ⟨⟨0, ([(h, .inr (4, [.int 0, .ref mcells, .ref mcounters, .ref mfloors, .ref mlimits, .ref mlongs, .ref msteps, .int 0, .ref mprogram, .ref mkind, .ref mrank, .ref mstate, .ref mactLong, .ref mactSteps, .ref mat, .ref mregister, .ref misHeld, .ref mdoneIn, .ref mundone, .ref mby, .ref mbegunIn, .ref misVoid, .ref misAgain, .ref mholds, .ref mwrites, .ref mgives, .ref mbelow, .ref mqueued, .ref mqueuedMany, .int 0, .ref mdone, .int 0, .int 0, .ref mlog, .int 0, .int 0, .ref morder, .ref misReached, .ref mqueue]))], []), rfl, ⟨rfl, rfl⟩, ⟨by rw [ht]; exact hP, va_K.moved hW.alike hK, hD⟩⟩, hS.F ht⟩) hS.2.2 dX4_countOf_37
  · skip
    exact absurd c1 (by decide)
set_option maxRecDepth 100000 in
theorem kw_X4_count__fieldLink_RX4_130_ActHouseModel_now_I_ : (.fieldLink RX4 130 "ActHouseModel" "now" "I" : Cond) ∈ wsX4_count := by decide +kernel
set_option maxRecDepth 100000 in
theorem kin_X4_count_X4 : ∀ w ∈ u_ws RX4 TX4 39, w ∈ wsX4_count := by decide +kernel
set_option maxRecDepth 100000 in
theorem kw_X4_count__fieldLink_RX4_111_ActHouseModel_acts_I_ : (.fieldLink RX4 111 "ActHouseModel" "acts" "I" : Cond) ∈ wsX4_count := by decide +kernel
set_option maxRecDepth 100000 in
theorem kw_X4_count__fieldLink_RX4_127_ActHouseModel_entries_I_ : (.fieldLink RX4 127 "ActHouseModel" "entries" "I" : Cond) ∈ wsX4_count := by decide +kernel
set_option maxRecDepth 100000 in
theorem kw_X4_count__fieldLink_RX4_190_ActHouseModel_kept_I_ : (.fieldLink RX4 190 "ActHouseModel" "kept" "I" : Cond) ∈ wsX4_count := by decide +kernel
set_option maxRecDepth 100000 in
theorem kw_X4_count__fieldLink_RX4_184_ActHouseModel_rings_I_ : (.fieldLink RX4 184 "ActHouseModel" "rings" "I" : Cond) ∈ wsX4_count := by decide +kernel
set_option maxRecDepth 100000 in
theorem kw_X4_count__fieldLink_RX4_205_ActHouseModel_falls_I_ : (.fieldLink RX4 205 "ActHouseModel" "falls" "I" : Cond) ∈ wsX4_count := by decide +kernel
set_option maxHeartbeats 4000000 in
set_option maxRecDepth 100000 in
theorem c_X4_count {l : Launch} {D : va_G} {sz : Nat} {h : Nat} {mcells : Nat} {mcounters : Nat} {mfloors : Nat} {mlimits : Nat} {mlongs : Nat} {msteps : Nat} {mprogram : Nat} {mkind : Nat} {mrank : Nat} {mstate : Nat} {mactLong : Nat} {mactSteps : Nat} {mat : Nat} {mregister : Nat} {misHeld : Nat} {mdoneIn : Nat} {mundone : Nat} {mby : Nat} {mbegunIn : Nat} {misVoid : Nat} {misAgain : Nat} {mholds : Nat} {mwrites : Nat} {mgives : Nat} {mbelow : Nat} {mqueued : Nat} {mqueuedMany : Nat} {mdone : Nat} {mlog : Nat} {morder : Nat} {misReached : Nat} {mqueue : Nat} {x : Int32}  : Met l yX4_count wsX4_count ({ frames := 1, cells := 0, slots := 0, locals := 23 }) (va_Pc [.ref h, .int x] (k_Pre D [] [(h, .inr (4, [.int 0, .ref mcells, .ref mcounters, .ref mfloors, .ref mlimits, .ref mlongs, .ref msteps, .int 0, .ref mprogram, .ref mkind, .ref mrank, .ref mstate, .ref mactLong, .ref mactSteps, .ref mat, .ref mregister, .ref misHeld, .ref mdoneIn, .ref mundone, .ref mby, .ref mbegunIn, .ref misVoid, .ref misAgain, .ref mholds, .ref mwrites, .ref mgives, .ref mbelow, .ref mqueued, .ref mqueuedMany, .int 0, .ref mdone, .int 0, .int 0, .ref mlog, .int 0, .int 0, .ref morder, .ref misReached, .ref mqueue]))] sz)) (va_Qi (fun (r : Int32) (u : va_W × List (ClassId × FieldType)) => (r = 0 ∧ u = ([], []) ∧ 0 ≤ x.toInt ∧ x.toInt ≤ 8) ∨ (r = (-1) ∧ u = ([], []) ∧ (x.toInt < 0 ∨ 8 < x.toInt))) (k_B D (va_A [(h, .inr (4, [.int 0, .ref mcells, .ref mcounters, .ref mfloors, .ref mlimits, .ref mlongs, .ref msteps, .int 0, .ref mprogram, .ref mkind, .ref mrank, .ref mstate, .ref mactLong, .ref mactSteps, .ref mat, .ref mregister, .ref misHeld, .ref mdoneIn, .ref mundone, .ref mby, .ref mbegunIn, .ref misVoid, .ref misAgain, .ref mholds, .ref mwrites, .ref mgives, .ref mbelow, .ref mqueued, .ref mqueuedMany, .int 0, .ref mdone, .int 0, .int 0, .ref mlog, .int 0, .int 0, .ref morder, .ref misReached, .ref mqueue]))] sz)) (va_A [(h, .inr (4, [.int 0, .ref mcells, .ref mcounters, .ref mfloors, .ref mlimits, .ref mlongs, .ref msteps, .int 0, .ref mprogram, .ref mkind, .ref mrank, .ref mstate, .ref mactLong, .ref mactSteps, .ref mat, .ref mregister, .ref misHeld, .ref mdoneIn, .ref mundone, .ref mby, .ref mbegunIn, .ref misVoid, .ref misAgain, .ref mholds, .ref mwrites, .ref mgives, .ref mbelow, .ref mqueued, .ref mqueuedMany, .int 0, .ref mdone, .int 0, .int 0, .ref mlog, .int 0, .int 0, .ref morder, .ref misReached, .ref mqueue]))] sz)) 0 0 (va_A [(h, .inr (4, [.int 0, .ref mcells, .ref mcounters, .ref mfloors, .ref mlimits, .ref mlongs, .ref msteps, .int 0, .ref mprogram, .ref mkind, .ref mrank, .ref mstate, .ref mactLong, .ref mactSteps, .ref mat, .ref mregister, .ref misHeld, .ref mdoneIn, .ref mundone, .ref mby, .ref mbegunIn, .ref misVoid, .ref misAgain, .ref mholds, .ref mwrites, .ref mgives, .ref mbelow, .ref mqueued, .ref mqueuedMany, .int 0, .ref mdone, .int 0, .int 0, .ref mlog, .int 0, .int 0, .ref morder, .ref misReached, .ref mqueue]))] sz) := by
  refine Met.ofW (cc := cX4_count) (maxL := 2) (ret := (some .int)) (by decide) rfl ?_
  intro p e s m args below meth c s₁ B hml hv
  obtain ⟨rfl, hsz, hP, hK, hD0⟩ := hv
  have hx := B.exec
  have hb := B.bytes
  have hr := B.returns
  have hts := atoms_spec (ws := wsX4_count) B.pre
  have hown : s.vm.findClass RX4 = some m.cls := findClass_of_methodNamed B.named
  have hlocks := B.notSynchronized
  subst hsz
  have hD := hD0.self (sz := s.heap.size)
  generalize hAe : va_A [(h, .inr (4, [.int 0, .ref mcells, .ref mcounters, .ref mfloors, .ref mlimits, .ref mlongs, .ref msteps, .int 0, .ref mprogram, .ref mkind, .ref mrank, .ref mstate, .ref mactLong, .ref mactSteps, .ref mat, .ref mregister, .ref misHeld, .ref mdoneIn, .ref mundone, .ref mby, .ref mbegunIn, .ref misVoid, .ref misAgain, .ref mholds, .ref mwrites, .ref mgives, .ref mbelow, .ref mqueued, .ref mqueuedMany, .int 0, .ref mdone, .int 0, .int 0, .ref mlog, .int 0, .int 0, .ref morder, .ref misReached, .ref mqueue]))] s.heap.size = A at hD ⊢
  have hA : ∀ q : Nat, s.heap.size ≤ q → A q := fun q h => by rw [← hAe]; exact Or.inr h
  have hS : va_S A s.heap s.heap [] := va_S.rf
  have hl := lv_entry ([.ref h, .int x]) (n := 2) (Nat.le_of_ble_eq_true rfl)
  rw [lg_entry_eq]
  generalize (lg_sl ([.ref h, .int x]) ++ List.replicate (2 - (lg_sl ([.ref h, .int x])).length) Slot.unset).toArray = ls at hl ⊢
  have hl : lv_has ls 2 [(0, .ref h), (1, .int x)] := hl
  refine lv_iload_n hx hb dX4_count_0 rfl (lv_at hl 1 rfl) ?_
  by_cases hs1 : x.toInt < 0 ∨ 8 < x.toInt
  · skip
    refine lv_tableOut (tgt := 106) hx hb dX4_count_1 hs1 (by decide) ?_
    refine lv_iconst (v := (-1)) hx hb dX4_count_106 (by decide) ?_
    have hP := hP.sub (ws' := []) [] rfl
    have hD := hD.sub (ws' := []) [] (by decide) rfl
    have hK := hK.sub (tys' := []) [] rfl
    refine W.widen (k := 0) (n := 0) (by decide) (by decide) ?_
    exact W.iret (v := (-1)) hx hb hr (fun t ht hW => ⟨⟨(-1), ([], []), rfl, Or.inr (⟨rfl, rfl, (by omega)⟩), ⟨by rw [ht]; exact hP, va_K.moved hW.alike hK, hD⟩⟩, hS.F ht⟩) hS.2.2 dX4_count_107
  · skip
    have hs1 : x.toInt = 0 ∨ x.toInt = 1 ∨ x.toInt = 2 ∨ x.toInt = 3 ∨ x.toInt = 4 ∨ x.toInt = 5 ∨ x.toInt = 6 ∨ x.toInt = 7 ∨ x.toInt = 8 := by omega
    rcases hs1 with hs1 | hs1 | hs1 | hs1 | hs1 | hs1 | hs1 | hs1 | hs1
    · skip
      refine lv_tableIn (off := 51) (tgt := 52) hx hb dX4_count_1 (by omega) (by omega) (by rw [hs1]; rfl) (by decide) ?_
      refine lv_aload_n hx hb dX4_count_52 rfl (lv_at hl 0 rfl) ?_
      refine va_get (D := D) (ci := 4) (v := .int 0) (C := RX4) (T := TX4) (N := 39) hx hb hts kin_X4_count_X4 hown hK hP 0 rfl rfl 0 (by decide) (hts _ kw_X4_count__fieldLink_RX4_130_ActHouseModel_now_I_) (fun _ h9 => h9) rfl dX4_count_53 ?_
      have hP := hP.sub (ws' := []) [] rfl
      have hD := hD.sub (ws' := []) [] (by decide) rfl
      have hK := hK.sub (tys' := []) [] rfl
      refine W.widen (k := 0) (n := 0) (by decide) (by decide) ?_
      exact W.iret (v := 0) hx hb hr (fun t ht hW => ⟨⟨0, ([], []), rfl, Or.inl ⟨rfl, rfl, (by omega), (by omega)⟩, ⟨by rw [ht]; exact hP, va_K.moved hW.alike hK, hD⟩⟩, hS.F ht⟩) hS.2.2 dX4_count_56
    · skip
      refine lv_tableIn (off := 56) (tgt := 57) hx hb dX4_count_1 (by omega) (by omega) (by rw [hs1]; rfl) (by decide) ?_
      refine lv_aload_n hx hb dX4_count_57 rfl (lv_at hl 0 rfl) ?_
      refine va_get (D := D) (ci := 4) (v := .int 0) (C := RX4) (T := TX4) (N := 39) hx hb hts kin_X4_count_X4 hown hK hP 0 rfl rfl 7 (by decide) (hts _ kw_X4_count__fieldLink_RX4_111_ActHouseModel_acts_I_) (fun _ h9 => h9) rfl dX4_count_58 ?_
      have hP := hP.sub (ws' := []) [] rfl
      have hD := hD.sub (ws' := []) [] (by decide) rfl
      have hK := hK.sub (tys' := []) [] rfl
      refine W.widen (k := 0) (n := 0) (by decide) (by decide) ?_
      exact W.iret (v := 0) hx hb hr (fun t ht hW => ⟨⟨0, ([], []), rfl, Or.inl ⟨rfl, rfl, (by omega), (by omega)⟩, ⟨by rw [ht]; exact hP, va_K.moved hW.alike hK, hD⟩⟩, hS.F ht⟩) hS.2.2 dX4_count_61
    · skip
      refine lv_tableIn (off := 61) (tgt := 62) hx hb dX4_count_1 (by omega) (by omega) (by rw [hs1]; rfl) (by decide) ?_
      refine lv_aload_n hx hb dX4_count_62 rfl (lv_at hl 0 rfl) ?_
      refine va_get (D := D) (ci := 4) (v := .int 0) (C := RX4) (T := TX4) (N := 39) hx hb hts kin_X4_count_X4 hown hK hP 0 rfl rfl 31 (by decide) (hts _ kw_X4_count__fieldLink_RX4_127_ActHouseModel_entries_I_) (fun _ h9 => h9) rfl dX4_count_63 ?_
      have hP := hP.sub (ws' := []) [] rfl
      have hD := hD.sub (ws' := []) [] (by decide) rfl
      have hK := hK.sub (tys' := []) [] rfl
      refine W.widen (k := 0) (n := 0) (by decide) (by decide) ?_
      exact W.iret (v := 0) hx hb hr (fun t ht hW => ⟨⟨0, ([], []), rfl, Or.inl ⟨rfl, rfl, (by omega), (by omega)⟩, ⟨by rw [ht]; exact hP, va_K.moved hW.alike hK, hD⟩⟩, hS.F ht⟩) hS.2.2 dX4_count_66
    · skip
      refine lv_tableIn (off := 66) (tgt := 67) hx hb dX4_count_1 (by omega) (by omega) (by rw [hs1]; rfl) (by decide) ?_
      refine lv_aload_n hx hb dX4_count_67 rfl (lv_at hl 0 rfl) ?_
      refine va_get (D := D) (ci := 4) (v := .int 0) (C := RX4) (T := TX4) (N := 39) hx hb hts kin_X4_count_X4 hown hK hP 0 rfl rfl 32 (by decide) (hts _ kw_X4_count__fieldLink_RX4_190_ActHouseModel_kept_I_) (fun _ h9 => h9) rfl dX4_count_68 ?_
      have hP := hP.sub (ws' := []) [] rfl
      have hD := hD.sub (ws' := []) [] (by decide) rfl
      have hK := hK.sub (tys' := []) [] rfl
      refine W.widen (k := 0) (n := 0) (by decide) (by decide) ?_
      exact W.iret (v := 0) hx hb hr (fun t ht hW => ⟨⟨0, ([], []), rfl, Or.inl ⟨rfl, rfl, (by omega), (by omega)⟩, ⟨by rw [ht]; exact hP, va_K.moved hW.alike hK, hD⟩⟩, hS.F ht⟩) hS.2.2 dX4_count_71
    · skip
      refine lv_tableIn (off := 71) (tgt := 72) hx hb dX4_count_1 (by omega) (by omega) (by rw [hs1]; rfl) (by decide) ?_
      refine lv_aload_n hx hb dX4_count_72 rfl (lv_at hl 0 rfl) ?_
      refine lv_iconst (v := 0) hx hb dX4_count_73 (by decide) ?_
      have hPc := hP.sub (ws' := [(h, .inr (4, [.int 0, .ref mcells, .ref mcounters, .ref mfloors, .ref mlimits, .ref mlongs, .ref msteps, .int 0, .ref mprogram, .ref mkind, .ref mrank, .ref mstate, .ref mactLong, .ref mactSteps, .ref mat, .ref mregister, .ref misHeld, .ref mdoneIn, .ref mundone, .ref mby, .ref mbegunIn, .ref misVoid, .ref misAgain, .ref mholds, .ref mwrites, .ref mgives, .ref mbelow, .ref mqueued, .ref mqueuedMany, .int 0, .ref mdone, .int 0, .int 0, .ref mlog, .int 0, .int 0, .ref morder, .ref misReached, .ref mqueue]))]) [0] rfl
      have hDc := hD.sub (ws' := [(h, .inr (4, [.int 0, .ref mcells, .ref mcounters, .ref mfloors, .ref mlimits, .ref mlongs, .ref msteps, .int 0, .ref mprogram, .ref mkind, .ref mrank, .ref mstate, .ref mactLong, .ref mactSteps, .ref mat, .ref mregister, .ref misHeld, .ref mdoneIn, .ref mundone, .ref mby, .ref mbegunIn, .ref misVoid, .ref misAgain, .ref mholds, .ref mwrites, .ref mgives, .ref mbelow, .ref mqueued, .ref mqueuedMany, .int 0, .ref mdone, .int 0, .int 0, .ref mlog, .int 0, .int 0, .ref morder, .ref misReached, .ref mqueue]))]) [0] (by decide) rfl
      have hKc := hK.sub (tys' := []) [] rfl
      have hFc := va_free (wc := [(h, .inr (4, [.int 0, .ref mcells, .ref mcounters, .ref mfloors, .ref mlimits, .ref mlongs, .ref msteps, .int 0, .ref mprogram, .ref mkind, .ref mrank, .ref mstate, .ref mactLong, .ref mactSteps, .ref mat, .ref mregister, .ref misHeld, .ref mdoneIn, .ref mundone, .ref mby, .ref mbegunIn, .ref misVoid, .ref misAgain, .ref mholds, .ref mwrites, .ref mgives, .ref mbelow, .ref mqueued, .ref mqueuedMany, .int 0, .ref mdone, .int 0, .int 0, .ref mlog, .int 0, .int 0, .ref morder, .ref misReached, .ref mqueue]))]) hD hS hA [0] rfl
      refine va_calli (va_runV (As := [.int 0]) (rest := []) ⟨hx, hb, hml, hown, hts⟩ (c_X4_countOf (l := l) (D := D) (h := h) (mcells := mcells) (mcounters := mcounters) (mfloors := mfloors) (mlimits := mlimits) (mlongs := mlongs) (msteps := msteps) (mprogram := mprogram) (mkind := mkind) (mrank := mrank) (mstate := mstate) (mactLong := mactLong) (mactSteps := mactSteps) (mat := mat) (mregister := mregister) (misHeld := misHeld) (mdoneIn := mdoneIn) (mundone := mundone) (mby := mby) (mbegunIn := mbegunIn) (misVoid := misVoid) (misAgain := misAgain) (mholds := mholds) (mwrites := mwrites) (mgives := mgives) (mbelow := mbelow) (mqueued := mqueued) (mqueuedMany := mqueuedMany) (mdone := mdone) (mlog := mlog) (morder := morder) (misReached := misReached) (mqueue := mqueue) (x := 0) ) (cwV 1 hts gX4_count_X4_countOf rfl rfl rfl (by decide +kernel) ⟨Nat.le_of_ble_eq_true rfl, Nat.le_of_ble_eq_true rfl⟩) ⟨k_blind, va_recv hKc hPc (ci := 4) (q0 := 0) rfl rfl, fun U hU hW => ⟨rfl, k_pre hU hW hPc hKc hDc⟩⟩ rfl rfl hl.1 rfl (lv_room (Nat.le_of_ble_eq_true rfl)) dX4_count_74 ⟨by decide, by decide⟩) hS (fun q _ h => hFc q h) hFc (fun r2 u t H1 locs ht hvm hw hB hz1 hk1 hS => ?_)
      refine W.widen (k := 0) (n := 0) (Nat.le_refl _) (Nat.le_refl _) ?_
      have hl0 : (0 : Int32).toInt = 0 := by decide
      obtain ⟨rfl, rfl⟩ := hw
      obtain ⟨hP1, hK1, hD1⟩ := hB
      rw [ht] at hP1
      have hK1 := va_K.moved hvm.symm hK1
      obtain ⟨hP, hD⟩ := va_join (wr := []) (w1 := [(h, .inr (4, [.int 0, .ref mcells, .ref mcounters, .ref mfloors, .ref mlimits, .ref mlongs, .ref msteps, .int 0, .ref mprogram, .ref mkind, .ref mrank, .ref mstate, .ref mactLong, .ref mactSteps, .ref mat, .ref mregister, .ref misHeld, .ref mdoneIn, .ref mundone, .ref mby, .ref mbegunIn, .ref misVoid, .ref misAgain, .ref mholds, .ref mwrites, .ref mgives, .ref mbelow, .ref mqueued, .ref mqueuedMany, .int 0, .ref mdone, .int 0, .int 0, .ref mlog, .int 0, .int 0, .ref morder, .ref misReached, .ref mqueue]))]) hP hD [0] [] rfl rfl (by decide) (by decide) hk1 hFc hP1 hD1
      generalize H1 = H at hP hS ⊢
      have hP : va_P D vwCl [(h, .inr (4, [.int 0, .ref mcells, .ref mcounters, .ref mfloors, .ref mlimits, .ref mlongs, .ref msteps, .int 0, .ref mprogram, .ref mkind, .ref mrank, .ref mstate, .ref mactLong, .ref mactSteps, .ref mat, .ref mregister, .ref misHeld, .ref mdoneIn, .ref mundone, .ref mby, .ref mbegunIn, .ref misVoid, .ref misAgain, .ref mholds, .ref mwrites, .ref mgives, .ref mbelow, .ref mqueued, .ref mqueuedMany, .int 0, .ref mdone, .int 0, .int 0, .ref mlog, .int 0, .int 0, .ref morder, .ref misReached, .ref mqueue]))] H := hP
      have hD : va_D A [(h, .inr (4, [.int 0, .ref mcells, .ref mcounters, .ref mfloors, .ref mlimits, .ref mlongs, .ref msteps, .int 0, .ref mprogram, .ref mkind, .ref mrank, .ref mstate, .ref mactLong, .ref mactSteps, .ref mat, .ref mregister, .ref misHeld, .ref mdoneIn, .ref mundone, .ref mby, .ref mbegunIn, .ref misVoid, .ref misAgain, .ref mholds, .ref mwrites, .ref mgives, .ref mbelow, .ref mqueued, .ref mqueuedMany, .int 0, .ref mdone, .int 0, .int 0, .ref mlog, .int 0, .int 0, .ref morder, .ref misReached, .ref mqueue]))] := hD
      have hP := hP.sub (ws' := []) [] rfl
      have hD := hD.sub (ws' := []) [] (by decide) rfl
      have hK := hK.sub (tys' := []) [] rfl
      refine W.widen (k := 0) (n := 0) (by decide) (by decide) ?_
      exact W.iret (v := 0) hx hb hr (fun t ht hW => ⟨⟨0, ([], []), rfl, Or.inl ⟨rfl, rfl, (by omega), (by omega)⟩, ⟨by rw [ht]; exact hP, va_K.moved hW.alike hK, hD⟩⟩, hS.F ht⟩) hS.2.2 dX4_count_77
    · skip
      refine lv_tableIn (off := 77) (tgt := 78) hx hb dX4_count_1 (by omega) (by omega) (by rw [hs1]; rfl) (by decide) ?_
      refine lv_aload_n hx hb dX4_count_78 rfl (lv_at hl 0 rfl) ?_
      refine lv_iconst (v := 1) hx hb dX4_count_79 (by decide) ?_
      have hPc := hP.sub (ws' := [(h, .inr (4, [.int 0, .ref mcells, .ref mcounters, .ref mfloors, .ref mlimits, .ref mlongs, .ref msteps, .int 0, .ref mprogram, .ref mkind, .ref mrank, .ref mstate, .ref mactLong, .ref mactSteps, .ref mat, .ref mregister, .ref misHeld, .ref mdoneIn, .ref mundone, .ref mby, .ref mbegunIn, .ref misVoid, .ref misAgain, .ref mholds, .ref mwrites, .ref mgives, .ref mbelow, .ref mqueued, .ref mqueuedMany, .int 0, .ref mdone, .int 0, .int 0, .ref mlog, .int 0, .int 0, .ref morder, .ref misReached, .ref mqueue]))]) [0] rfl
      have hDc := hD.sub (ws' := [(h, .inr (4, [.int 0, .ref mcells, .ref mcounters, .ref mfloors, .ref mlimits, .ref mlongs, .ref msteps, .int 0, .ref mprogram, .ref mkind, .ref mrank, .ref mstate, .ref mactLong, .ref mactSteps, .ref mat, .ref mregister, .ref misHeld, .ref mdoneIn, .ref mundone, .ref mby, .ref mbegunIn, .ref misVoid, .ref misAgain, .ref mholds, .ref mwrites, .ref mgives, .ref mbelow, .ref mqueued, .ref mqueuedMany, .int 0, .ref mdone, .int 0, .int 0, .ref mlog, .int 0, .int 0, .ref morder, .ref misReached, .ref mqueue]))]) [0] (by decide) rfl
      have hKc := hK.sub (tys' := []) [] rfl
      have hFc := va_free (wc := [(h, .inr (4, [.int 0, .ref mcells, .ref mcounters, .ref mfloors, .ref mlimits, .ref mlongs, .ref msteps, .int 0, .ref mprogram, .ref mkind, .ref mrank, .ref mstate, .ref mactLong, .ref mactSteps, .ref mat, .ref mregister, .ref misHeld, .ref mdoneIn, .ref mundone, .ref mby, .ref mbegunIn, .ref misVoid, .ref misAgain, .ref mholds, .ref mwrites, .ref mgives, .ref mbelow, .ref mqueued, .ref mqueuedMany, .int 0, .ref mdone, .int 0, .int 0, .ref mlog, .int 0, .int 0, .ref morder, .ref misReached, .ref mqueue]))]) hD hS hA [0] rfl
      refine va_calli (va_runV (As := [.int 1]) (rest := []) ⟨hx, hb, hml, hown, hts⟩ (c_X4_countOf (l := l) (D := D) (h := h) (mcells := mcells) (mcounters := mcounters) (mfloors := mfloors) (mlimits := mlimits) (mlongs := mlongs) (msteps := msteps) (mprogram := mprogram) (mkind := mkind) (mrank := mrank) (mstate := mstate) (mactLong := mactLong) (mactSteps := mactSteps) (mat := mat) (mregister := mregister) (misHeld := misHeld) (mdoneIn := mdoneIn) (mundone := mundone) (mby := mby) (mbegunIn := mbegunIn) (misVoid := misVoid) (misAgain := misAgain) (mholds := mholds) (mwrites := mwrites) (mgives := mgives) (mbelow := mbelow) (mqueued := mqueued) (mqueuedMany := mqueuedMany) (mdone := mdone) (mlog := mlog) (morder := morder) (misReached := misReached) (mqueue := mqueue) (x := 1) ) (cwV 1 hts gX4_count_X4_countOf rfl rfl rfl (by decide +kernel) ⟨Nat.le_of_ble_eq_true rfl, Nat.le_of_ble_eq_true rfl⟩) ⟨k_blind, va_recv hKc hPc (ci := 4) (q0 := 0) rfl rfl, fun U hU hW => ⟨rfl, k_pre hU hW hPc hKc hDc⟩⟩ rfl rfl hl.1 rfl (lv_room (Nat.le_of_ble_eq_true rfl)) dX4_count_80 ⟨by decide, by decide⟩) hS (fun q _ h => hFc q h) hFc (fun r3 u t H1 locs ht hvm hw hB hz1 hk1 hS => ?_)
      refine W.widen (k := 0) (n := 0) (Nat.le_refl _) (Nat.le_refl _) ?_
      have hl1 : (1 : Int32).toInt = 1 := by decide
      obtain ⟨rfl, rfl⟩ := hw
      obtain ⟨hP1, hK1, hD1⟩ := hB
      rw [ht] at hP1
      have hK1 := va_K.moved hvm.symm hK1
      obtain ⟨hP, hD⟩ := va_join (wr := []) (w1 := [(h, .inr (4, [.int 0, .ref mcells, .ref mcounters, .ref mfloors, .ref mlimits, .ref mlongs, .ref msteps, .int 0, .ref mprogram, .ref mkind, .ref mrank, .ref mstate, .ref mactLong, .ref mactSteps, .ref mat, .ref mregister, .ref misHeld, .ref mdoneIn, .ref mundone, .ref mby, .ref mbegunIn, .ref misVoid, .ref misAgain, .ref mholds, .ref mwrites, .ref mgives, .ref mbelow, .ref mqueued, .ref mqueuedMany, .int 0, .ref mdone, .int 0, .int 0, .ref mlog, .int 0, .int 0, .ref morder, .ref misReached, .ref mqueue]))]) hP hD [0] [] rfl rfl (by decide) (by decide) hk1 hFc hP1 hD1
      generalize H1 = H at hP hS ⊢
      have hP : va_P D vwCl [(h, .inr (4, [.int 0, .ref mcells, .ref mcounters, .ref mfloors, .ref mlimits, .ref mlongs, .ref msteps, .int 0, .ref mprogram, .ref mkind, .ref mrank, .ref mstate, .ref mactLong, .ref mactSteps, .ref mat, .ref mregister, .ref misHeld, .ref mdoneIn, .ref mundone, .ref mby, .ref mbegunIn, .ref misVoid, .ref misAgain, .ref mholds, .ref mwrites, .ref mgives, .ref mbelow, .ref mqueued, .ref mqueuedMany, .int 0, .ref mdone, .int 0, .int 0, .ref mlog, .int 0, .int 0, .ref morder, .ref misReached, .ref mqueue]))] H := hP
      have hD : va_D A [(h, .inr (4, [.int 0, .ref mcells, .ref mcounters, .ref mfloors, .ref mlimits, .ref mlongs, .ref msteps, .int 0, .ref mprogram, .ref mkind, .ref mrank, .ref mstate, .ref mactLong, .ref mactSteps, .ref mat, .ref mregister, .ref misHeld, .ref mdoneIn, .ref mundone, .ref mby, .ref mbegunIn, .ref misVoid, .ref misAgain, .ref mholds, .ref mwrites, .ref mgives, .ref mbelow, .ref mqueued, .ref mqueuedMany, .int 0, .ref mdone, .int 0, .int 0, .ref mlog, .int 0, .int 0, .ref morder, .ref misReached, .ref mqueue]))] := hD
      have hP := hP.sub (ws' := []) [] rfl
      have hD := hD.sub (ws' := []) [] (by decide) rfl
      have hK := hK.sub (tys' := []) [] rfl
      refine W.widen (k := 0) (n := 0) (by decide) (by decide) ?_
      exact W.iret (v := 0) hx hb hr (fun t ht hW => ⟨⟨0, ([], []), rfl, Or.inl ⟨rfl, rfl, (by omega), (by omega)⟩, ⟨by rw [ht]; exact hP, va_K.moved hW.alike hK, hD⟩⟩, hS.F ht⟩) hS.2.2 dX4_count_83
    · skip
      refine lv_tableIn (off := 83) (tgt := 84) hx hb dX4_count_1 (by omega) (by omega) (by rw [hs1]; rfl) (by decide) ?_
      refine lv_aload_n hx hb dX4_count_84 rfl (lv_at hl 0 rfl) ?_
      refine lv_iconst (v := 2) hx hb dX4_count_85 (by decide) ?_
      have hPc := hP.sub (ws' := [(h, .inr (4, [.int 0, .ref mcells, .ref mcounters, .ref mfloors, .ref mlimits, .ref mlongs, .ref msteps, .int 0, .ref mprogram, .ref mkind, .ref mrank, .ref mstate, .ref mactLong, .ref mactSteps, .ref mat, .ref mregister, .ref misHeld, .ref mdoneIn, .ref mundone, .ref mby, .ref mbegunIn, .ref misVoid, .ref misAgain, .ref mholds, .ref mwrites, .ref mgives, .ref mbelow, .ref mqueued, .ref mqueuedMany, .int 0, .ref mdone, .int 0, .int 0, .ref mlog, .int 0, .int 0, .ref morder, .ref misReached, .ref mqueue]))]) [0] rfl
      have hDc := hD.sub (ws' := [(h, .inr (4, [.int 0, .ref mcells, .ref mcounters, .ref mfloors, .ref mlimits, .ref mlongs, .ref msteps, .int 0, .ref mprogram, .ref mkind, .ref mrank, .ref mstate, .ref mactLong, .ref mactSteps, .ref mat, .ref mregister, .ref misHeld, .ref mdoneIn, .ref mundone, .ref mby, .ref mbegunIn, .ref misVoid, .ref misAgain, .ref mholds, .ref mwrites, .ref mgives, .ref mbelow, .ref mqueued, .ref mqueuedMany, .int 0, .ref mdone, .int 0, .int 0, .ref mlog, .int 0, .int 0, .ref morder, .ref misReached, .ref mqueue]))]) [0] (by decide) rfl
      have hKc := hK.sub (tys' := []) [] rfl
      have hFc := va_free (wc := [(h, .inr (4, [.int 0, .ref mcells, .ref mcounters, .ref mfloors, .ref mlimits, .ref mlongs, .ref msteps, .int 0, .ref mprogram, .ref mkind, .ref mrank, .ref mstate, .ref mactLong, .ref mactSteps, .ref mat, .ref mregister, .ref misHeld, .ref mdoneIn, .ref mundone, .ref mby, .ref mbegunIn, .ref misVoid, .ref misAgain, .ref mholds, .ref mwrites, .ref mgives, .ref mbelow, .ref mqueued, .ref mqueuedMany, .int 0, .ref mdone, .int 0, .int 0, .ref mlog, .int 0, .int 0, .ref morder, .ref misReached, .ref mqueue]))]) hD hS hA [0] rfl
      refine va_calli (va_runV (As := [.int 2]) (rest := []) ⟨hx, hb, hml, hown, hts⟩ (c_X4_countOf (l := l) (D := D) (h := h) (mcells := mcells) (mcounters := mcounters) (mfloors := mfloors) (mlimits := mlimits) (mlongs := mlongs) (msteps := msteps) (mprogram := mprogram) (mkind := mkind) (mrank := mrank) (mstate := mstate) (mactLong := mactLong) (mactSteps := mactSteps) (mat := mat) (mregister := mregister) (misHeld := misHeld) (mdoneIn := mdoneIn) (mundone := mundone) (mby := mby) (mbegunIn := mbegunIn) (misVoid := misVoid) (misAgain := misAgain) (mholds := mholds) (mwrites := mwrites) (mgives := mgives) (mbelow := mbelow) (mqueued := mqueued) (mqueuedMany := mqueuedMany) (mdone := mdone) (mlog := mlog) (morder := morder) (misReached := misReached) (mqueue := mqueue) (x := 2) ) (cwV 1 hts gX4_count_X4_countOf rfl rfl rfl (by decide +kernel) ⟨Nat.le_of_ble_eq_true rfl, Nat.le_of_ble_eq_true rfl⟩) ⟨k_blind, va_recv hKc hPc (ci := 4) (q0 := 0) rfl rfl, fun U hU hW => ⟨rfl, k_pre hU hW hPc hKc hDc⟩⟩ rfl rfl hl.1 rfl (lv_room (Nat.le_of_ble_eq_true rfl)) dX4_count_86 ⟨by decide, by decide⟩) hS (fun q _ h => hFc q h) hFc (fun r4 u t H1 locs ht hvm hw hB hz1 hk1 hS => ?_)
      refine W.widen (k := 0) (n := 0) (Nat.le_refl _) (Nat.le_refl _) ?_
      have hl2 : (2 : Int32).toInt = 2 := by decide
      obtain ⟨rfl, rfl⟩ := hw
      obtain ⟨hP1, hK1, hD1⟩ := hB
      rw [ht] at hP1
      have hK1 := va_K.moved hvm.symm hK1
      obtain ⟨hP, hD⟩ := va_join (wr := []) (w1 := [(h, .inr (4, [.int 0, .ref mcells, .ref mcounters, .ref mfloors, .ref mlimits, .ref mlongs, .ref msteps, .int 0, .ref mprogram, .ref mkind, .ref mrank, .ref mstate, .ref mactLong, .ref mactSteps, .ref mat, .ref mregister, .ref misHeld, .ref mdoneIn, .ref mundone, .ref mby, .ref mbegunIn, .ref misVoid, .ref misAgain, .ref mholds, .ref mwrites, .ref mgives, .ref mbelow, .ref mqueued, .ref mqueuedMany, .int 0, .ref mdone, .int 0, .int 0, .ref mlog, .int 0, .int 0, .ref morder, .ref misReached, .ref mqueue]))]) hP hD [0] [] rfl rfl (by decide) (by decide) hk1 hFc hP1 hD1
      generalize H1 = H at hP hS ⊢
      have hP : va_P D vwCl [(h, .inr (4, [.int 0, .ref mcells, .ref mcounters, .ref mfloors, .ref mlimits, .ref mlongs, .ref msteps, .int 0, .ref mprogram, .ref mkind, .ref mrank, .ref mstate, .ref mactLong, .ref mactSteps, .ref mat, .ref mregister, .ref misHeld, .ref mdoneIn, .ref mundone, .ref mby, .ref mbegunIn, .ref misVoid, .ref misAgain, .ref mholds, .ref mwrites, .ref mgives, .ref mbelow, .ref mqueued, .ref mqueuedMany, .int 0, .ref mdone, .int 0, .int 0, .ref mlog, .int 0, .int 0, .ref morder, .ref misReached, .ref mqueue]))] H := hP
      have hD : va_D A [(h, .inr (4, [.int 0, .ref mcells, .ref mcounters, .ref mfloors, .ref mlimits, .ref mlongs, .ref msteps, .int 0, .ref mprogram, .ref mkind, .ref mrank, .ref mstate, .ref mactLong, .ref mactSteps, .ref mat, .ref mregister, .ref misHeld, .ref mdoneIn, .ref mundone, .ref mby, .ref mbegunIn, .ref misVoid, .ref misAgain, .ref mholds, .ref mwrites, .ref mgives, .ref mbelow, .ref mqueued, .ref mqueuedMany, .int 0, .ref mdone, .int 0, .int 0, .ref mlog, .int 0, .int 0, .ref morder, .ref misReached, .ref mqueue]))] := hD
      refine lv_aload_n hx hb dX4_count_89 rfl (lv_at hl 0 rfl) ?_
      refine lv_iconst (v := 3) hx hb dX4_count_90 (by decide) ?_
      have hPc := hP.sub (ws' := [(h, .inr (4, [.int 0, .ref mcells, .ref mcounters, .ref mfloors, .ref mlimits, .ref mlongs, .ref msteps, .int 0, .ref mprogram, .ref mkind, .ref mrank, .ref mstate, .ref mactLong, .ref mactSteps, .ref mat, .ref mregister, .ref misHeld, .ref mdoneIn, .ref mundone, .ref mby, .ref mbegunIn, .ref misVoid, .ref misAgain, .ref mholds, .ref mwrites, .ref mgives, .ref mbelow, .ref mqueued, .ref mqueuedMany, .int 0, .ref mdone, .int 0, .int 0, .ref mlog, .int 0, .int 0, .ref morder, .ref misReached, .ref mqueue]))]) [0] rfl
      have hDc := hD.sub (ws' := [(h, .inr (4, [.int 0, .ref mcells, .ref mcounters, .ref mfloors, .ref mlimits, .ref mlongs, .ref msteps, .int 0, .ref mprogram, .ref mkind, .ref mrank, .ref mstate, .ref mactLong, .ref mactSteps, .ref mat, .ref mregister, .ref misHeld, .ref mdoneIn, .ref mundone, .ref mby, .ref mbegunIn, .ref misVoid, .ref misAgain, .ref mholds, .ref mwrites, .ref mgives, .ref mbelow, .ref mqueued, .ref mqueuedMany, .int 0, .ref mdone, .int 0, .int 0, .ref mlog, .int 0, .int 0, .ref morder, .ref misReached, .ref mqueue]))]) [0] (by decide) rfl
      have hKc := hK.sub (tys' := []) [] rfl
      have hFc := va_free (wc := [(h, .inr (4, [.int 0, .ref mcells, .ref mcounters, .ref mfloors, .ref mlimits, .ref mlongs, .ref msteps, .int 0, .ref mprogram, .ref mkind, .ref mrank, .ref mstate, .ref mactLong, .ref mactSteps, .ref mat, .ref mregister, .ref misHeld, .ref mdoneIn, .ref mundone, .ref mby, .ref mbegunIn, .ref misVoid, .ref misAgain, .ref mholds, .ref mwrites, .ref mgives, .ref mbelow, .ref mqueued, .ref mqueuedMany, .int 0, .ref mdone, .int 0, .int 0, .ref mlog, .int 0, .int 0, .ref morder, .ref misReached, .ref mqueue]))]) hD hS hA [0] rfl
      refine va_calli (va_runV (As := [.int 3]) (rest := [.int 0]) ⟨hx, hb, hml, hown, hts⟩ (c_X4_countOf (l := l) (D := D) (h := h) (mcells := mcells) (mcounters := mcounters) (mfloors := mfloors) (mlimits := mlimits) (mlongs := mlongs) (msteps := msteps) (mprogram := mprogram) (mkind := mkind) (mrank := mrank) (mstate := mstate) (mactLong := mactLong) (mactSteps := mactSteps) (mat := mat) (mregister := mregister) (misHeld := misHeld) (mdoneIn := mdoneIn) (mundone := mundone) (mby := mby) (mbegunIn := mbegunIn) (misVoid := misVoid) (misAgain := misAgain) (mholds := mholds) (mwrites := mwrites) (mgives := mgives) (mbelow := mbelow) (mqueued := mqueued) (mqueuedMany := mqueuedMany) (mdone := mdone) (mlog := mlog) (morder := morder) (misReached := misReached) (mqueue := mqueue) (x := 3) ) (cwV 1 hts gX4_count_X4_countOf rfl rfl rfl (by decide +kernel) ⟨Nat.le_of_ble_eq_true rfl, Nat.le_of_ble_eq_true rfl⟩) ⟨k_blind, va_recv hKc hPc (ci := 4) (q0 := 0) rfl rfl, fun U hU hW => ⟨rfl, k_pre hU hW hPc hKc hDc⟩⟩ rfl rfl hl.1 rfl (lv_room (Nat.le_of_ble_eq_true rfl)) dX4_count_91 ⟨by decide, by decide⟩) hS (fun q _ h => hFc q h) hFc (fun r5 u t H1 locs ht hvm hw hB hz1 hk1 hS => ?_)
      refine W.widen (k := 0) (n := 0) (Nat.le_refl _) (Nat.le_refl _) ?_
      have hl3 : (3 : Int32).toInt = 3 := by decide
      obtain ⟨rfl, rfl⟩ := hw
      obtain ⟨hP1, hK1, hD1⟩ := hB
      rw [ht] at hP1
      have hK1 := va_K.moved hvm.symm hK1
      obtain ⟨hP, hD⟩ := va_join (wr := []) (w1 := [(h, .inr (4, [.int 0, .ref mcells, .ref mcounters, .ref mfloors, .ref mlimits, .ref mlongs, .ref msteps, .int 0, .ref mprogram, .ref mkind, .ref mrank, .ref mstate, .ref mactLong, .ref mactSteps, .ref mat, .ref mregister, .ref misHeld, .ref mdoneIn, .ref mundone, .ref mby, .ref mbegunIn, .ref misVoid, .ref misAgain, .ref mholds, .ref mwrites, .ref mgives, .ref mbelow, .ref mqueued, .ref mqueuedMany, .int 0, .ref mdone, .int 0, .int 0, .ref mlog, .int 0, .int 0, .ref morder, .ref misReached, .ref mqueue]))]) hP hD [0] [] rfl rfl (by decide) (by decide) hk1 hFc hP1 hD1
      generalize H1 = H at hP hS ⊢
      have hP : va_P D vwCl [(h, .inr (4, [.int 0, .ref mcells, .ref mcounters, .ref mfloors, .ref mlimits, .ref mlongs, .ref msteps, .int 0, .ref mprogram, .ref mkind, .ref mrank, .ref mstate, .ref mactLong, .ref mactSteps, .ref mat, .ref mregister, .ref misHeld, .ref mdoneIn, .ref mundone, .ref mby, .ref mbegunIn, .ref misVoid, .ref misAgain, .ref mholds, .ref mwrites, .ref mgives, .ref mbelow, .ref mqueued, .ref mqueuedMany, .int 0, .ref mdone, .int 0, .int 0, .ref mlog, .int 0, .int 0, .ref morder, .ref misReached, .ref mqueue]))] H := hP
      have hD : va_D A [(h, .inr (4, [.int 0, .ref mcells, .ref mcounters, .ref mfloors, .ref mlimits, .ref mlongs, .ref msteps, .int 0, .ref mprogram, .ref mkind, .ref mrank, .ref mstate, .ref mactLong, .ref mactSteps, .ref mat, .ref mregister, .ref misHeld, .ref mdoneIn, .ref mundone, .ref mby, .ref mbegunIn, .ref misVoid, .ref misAgain, .ref mholds, .ref mwrites, .ref mgives, .ref mbelow, .ref mqueued, .ref mqueuedMany, .int 0, .ref mdone, .int 0, .int 0, .ref mlog, .int 0, .int 0, .ref morder, .ref misReached, .ref mqueue]))] := hD
      refine lv_iadd hx hb dX4_count_94 ?_
      refine W.eq (g2 := F0 m 95 ls [.int 0]) (by first | rfl | (congr 2; decide)) ?_
      have hP := hP.sub (ws' := []) [] rfl
      have hD := hD.sub (ws' := []) [] (by decide) rfl
      have hK := hK.sub (tys' := []) [] rfl
      refine W.widen (k := 0) (n := 0) (by decide) (by decide) ?_
      exact W.iret (v := 0) hx hb hr (fun t ht hW => ⟨⟨0, ([], []), rfl, Or.inl ⟨rfl, rfl, (by omega), (by omega)⟩, ⟨by rw [ht]; exact hP, va_K.moved hW.alike hK, hD⟩⟩, hS.F ht⟩) hS.2.2 dX4_count_95
    · skip
      refine lv_tableIn (off := 95) (tgt := 96) hx hb dX4_count_1 (by omega) (by omega) (by rw [hs1]; rfl) (by decide) ?_
      refine lv_aload_n hx hb dX4_count_96 rfl (lv_at hl 0 rfl) ?_
      refine va_get (D := D) (ci := 4) (v := .int 0) (C := RX4) (T := TX4) (N := 39) hx hb hts kin_X4_count_X4 hown hK hP 0 rfl rfl 34 (by decide) (hts _ kw_X4_count__fieldLink_RX4_184_ActHouseModel_rings_I_) (fun _ h9 => h9) rfl dX4_count_97 ?_
      have hP := hP.sub (ws' := []) [] rfl
      have hD := hD.sub (ws' := []) [] (by decide) rfl
      have hK := hK.sub (tys' := []) [] rfl
      refine W.widen (k := 0) (n := 0) (by decide) (by decide) ?_
      exact W.iret (v := 0) hx hb hr (fun t ht hW => ⟨⟨0, ([], []), rfl, Or.inl ⟨rfl, rfl, (by omega), (by omega)⟩, ⟨by rw [ht]; exact hP, va_K.moved hW.alike hK, hD⟩⟩, hS.F ht⟩) hS.2.2 dX4_count_100
    · skip
      refine lv_tableIn (off := 100) (tgt := 101) hx hb dX4_count_1 (by omega) (by omega) (by rw [hs1]; rfl) (by decide) ?_
      refine lv_aload_n hx hb dX4_count_101 rfl (lv_at hl 0 rfl) ?_
      refine va_get (D := D) (ci := 4) (v := .int 0) (C := RX4) (T := TX4) (N := 39) hx hb hts kin_X4_count_X4 hown hK hP 0 rfl rfl 35 (by decide) (hts _ kw_X4_count__fieldLink_RX4_205_ActHouseModel_falls_I_) (fun _ h9 => h9) rfl dX4_count_102 ?_
      have hP := hP.sub (ws' := []) [] rfl
      have hD := hD.sub (ws' := []) [] (by decide) rfl
      have hK := hK.sub (tys' := []) [] rfl
      refine W.widen (k := 0) (n := 0) (by decide) (by decide) ?_
      exact W.iret (v := 0) hx hb hr (fun t ht hW => ⟨⟨0, ([], []), rfl, Or.inl ⟨rfl, rfl, (by omega), (by omega)⟩, ⟨by rw [ht]; exact hP, va_K.moved hW.alike hK, hD⟩⟩, hS.F ht⟩) hS.2.2 dX4_count_105
