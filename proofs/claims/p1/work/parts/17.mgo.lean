set_option maxRecDepth 100000 in
theorem kw_X4_sorts__fieldLink_RX4_111_ActHouseModel_acts_I_ : (.fieldLink RX4 111 "ActHouseModel" "acts" "I" : Cond) ∈ wsX4_sorts := by decide +kernel
set_option maxRecDepth 100000 in
theorem kin_X4_sorts_X4 : ∀ w ∈ u_ws RX4 TX4 39, w ∈ wsX4_sorts := by decide +kernel
set_option maxHeartbeats 4000000 in
set_option maxRecDepth 100000 in
theorem c_X4_sorts {l : Launch} {D : va_G} {sz : Nat} {h : Nat} {mcells : Nat} {mcounters : Nat} {mfloors : Nat} {mlimits : Nat} {mlongs : Nat} {msteps : Nat} {mprogram : Nat} {mkind : Nat} {mrank : Nat} {mstate : Nat} {mactLong : Nat} {mactSteps : Nat} {mat : Nat} {mregister : Nat} {misHeld : Nat} {mdoneIn : Nat} {mundone : Nat} {mby : Nat} {mbegunIn : Nat} {misVoid : Nat} {misAgain : Nat} {mholds : Nat} {mwrites : Nat} {mgives : Nat} {mbelow : Nat} {mqueued : Nat} {mqueuedMany : Nat} {mdone : Nat} {mlog : Nat} {morder : Nat} {misReached : Nat} {mqueue : Nat} {nw : Int32} {x : Int32}  : Met l yX4_sorts wsX4_sorts ({ frames := 0, cells := 0, slots := 0, locals := 0 }) (va_Pc [.ref h, .int x] (k_Pre D [] [(h, .inr (4, [.int nw, .ref mcells, .ref mcounters, .ref mfloors, .ref mlimits, .ref mlongs, .ref msteps, .int 0, .ref mprogram, .ref mkind, .ref mrank, .ref mstate, .ref mactLong, .ref mactSteps, .ref mat, .ref mregister, .ref misHeld, .ref mdoneIn, .ref mundone, .ref mby, .ref mbegunIn, .ref misVoid, .ref misAgain, .ref mholds, .ref mwrites, .ref mgives, .ref mbelow, .ref mqueued, .ref mqueuedMany, .int 0, .ref mdone, .int 0, .int 0, .ref mlog, .int 0, .int 0, .ref morder, .ref misReached, .ref mqueue]))] sz)) (va_Qi (fun (r : Int32) (u : va_W × List (ClassId × FieldType)) => (r = 0 ∧ u = ([(h, .inr (4, [.int nw, .ref mcells, .ref mcounters, .ref mfloors, .ref mlimits, .ref mlongs, .ref msteps, .int 0, .ref mprogram, .ref mkind, .ref mrank, .ref mstate, .ref mactLong, .ref mactSteps, .ref mat, .ref mregister, .ref misHeld, .ref mdoneIn, .ref mundone, .ref mby, .ref mbegunIn, .ref misVoid, .ref misAgain, .ref mholds, .ref mwrites, .ref mgives, .ref mbelow, .ref mqueued, .ref mqueuedMany, .int 0, .ref mdone, .int 0, .int 0, .ref mlog, .int 0, .int 0, .ref morder, .ref misReached, .ref mqueue]))], []))) (k_B D (va_A [(h, .inr (4, [.int nw, .ref mcells, .ref mcounters, .ref mfloors, .ref mlimits, .ref mlongs, .ref msteps, .int 0, .ref mprogram, .ref mkind, .ref mrank, .ref mstate, .ref mactLong, .ref mactSteps, .ref mat, .ref mregister, .ref misHeld, .ref mdoneIn, .ref mundone, .ref mby, .ref mbegunIn, .ref misVoid, .ref misAgain, .ref mholds, .ref mwrites, .ref mgives, .ref mbelow, .ref mqueued, .ref mqueuedMany, .int 0, .ref mdone, .int 0, .int 0, .ref mlog, .int 0, .int 0, .ref morder, .ref misReached, .ref mqueue]))] sz)) (va_A [(h, .inr (4, [.int nw, .ref mcells, .ref mcounters, .ref mfloors, .ref mlimits, .ref mlongs, .ref msteps, .int 0, .ref mprogram, .ref mkind, .ref mrank, .ref mstate, .ref mactLong, .ref mactSteps, .ref mat, .ref mregister, .ref misHeld, .ref mdoneIn, .ref mundone, .ref mby, .ref mbegunIn, .ref misVoid, .ref misAgain, .ref mholds, .ref mwrites, .ref mgives, .ref mbelow, .ref mqueued, .ref mqueuedMany, .int 0, .ref mdone, .int 0, .int 0, .ref mlog, .int 0, .int 0, .ref morder, .ref misReached, .ref mqueue]))] sz)) 0 0 (va_A [(h, .inr (4, [.int nw, .ref mcells, .ref mcounters, .ref mfloors, .ref mlimits, .ref mlongs, .ref msteps, .int 0, .ref mprogram, .ref mkind, .ref mrank, .ref mstate, .ref mactLong, .ref mactSteps, .ref mat, .ref mregister, .ref misHeld, .ref mdoneIn, .ref mundone, .ref mby, .ref mbegunIn, .ref misVoid, .ref misAgain, .ref mholds, .ref mwrites, .ref mgives, .ref mbelow, .ref mqueued, .ref mqueuedMany, .int 0, .ref mdone, .int 0, .int 0, .ref mlog, .int 0, .int 0, .ref morder, .ref misReached, .ref mqueue]))] sz) := by
  refine Met.ofW (cc := cX4_sorts) (maxL := 5) (ret := (some .int)) (by decide) rfl ?_
  intro p e s m args below meth c s₁ B hml hv
  obtain ⟨rfl, hsz, hP, hK, hD0⟩ := hv
  have hx := B.exec
  have hb := B.bytes
  have hr := B.returns
  have hts := atoms_spec (ws := wsX4_sorts) B.pre
  have hown : s.vm.findClass RX4 = some m.cls := findClass_of_methodNamed B.named
  have hlocks := B.notSynchronized
  subst hsz
  have hD := hD0.self (sz := s.heap.size)
  generalize hAe : va_A [(h, .inr (4, [.int nw, .ref mcells, .ref mcounters, .ref mfloors, .ref mlimits, .ref mlongs, .ref msteps, .int 0, .ref mprogram, .ref mkind, .ref mrank, .ref mstate, .ref mactLong, .ref mactSteps, .ref mat, .ref mregister, .ref misHeld, .ref mdoneIn, .ref mundone, .ref mby, .ref mbegunIn, .ref misVoid, .ref misAgain, .ref mholds, .ref mwrites, .ref mgives, .ref mbelow, .ref mqueued, .ref mqueuedMany, .int 0, .ref mdone, .int 0, .int 0, .ref mlog, .int 0, .int 0, .ref morder, .ref misReached, .ref mqueue]))] s.heap.size = A at hD ⊢
  have hA : ∀ q : Nat, s.heap.size ≤ q → A q := fun q h => by rw [← hAe]; exact Or.inr h
  have hS : va_S A s.heap s.heap [] := va_S.rf
  have hl := lv_entry ([.ref h, .int x]) (n := 5) (Nat.le_of_ble_eq_true rfl)
  rw [lg_entry_eq]
  generalize (lg_sl ([.ref h, .int x]) ++ List.replicate (5 - (lg_sl ([.ref h, .int x])).length) Slot.unset).toArray = ls at hl ⊢
  have hl : lv_has ls 5 [(0, .ref h), (1, .int x)] := hl
  refine lv_iconst (v := 0) hx hb dX4_sorts_0 (by decide) ?_
  refine lv_istore_n (lv' := [(2, .int 0), (0, .ref h), (1, .int x)]) hx hb dX4_sorts_1 rfl hl (by decide) rfl (fun ls hl => ?_)
  refine lv_iconst (v := 0) hx hb dX4_sorts_2 (by decide) ?_
  refine lv_istore_n (lv' := [(3, .int 0), (2, .int 0), (0, .ref h), (1, .int x)]) hx hb dX4_sorts_3 rfl hl (by decide) rfl (fun ls hl => ?_)
  refine lv_iload_n hx hb dX4_sorts_4 rfl (lv_at hl 0 rfl) ?_
  refine lv_aload_n hx hb dX4_sorts_5 rfl (lv_at hl 2 rfl) ?_
  refine va_get (D := D) (ci := 4) (v := .int 0) (C := RX4) (T := TX4) (N := 39) hx hb hts kin_X4_sorts_X4 hown hK hP 0 rfl rfl 7 (by decide) (hts _ kw_X4_sorts__fieldLink_RX4_111_ActHouseModel_acts_I_) (fun _ h9 => h9) rfl dX4_sorts_6 ?_
  refine lv_icmp_ge (tgt := 89) hx hb dX4_sorts_9 (by decide) (fun c1 => ?_) (fun c1 => ?_)
  · skip
    refine lv_iload_n hx hb dX4_sorts_89 rfl (lv_at hl 1 rfl) ?_
    have hP := hP.sub (ws' := [(h, .inr (4, [.int nw, .ref mcells, .ref mcounters, .ref mfloors, .ref mlimits, .ref mlongs, .ref msteps, .int 0, .ref mprogram, .ref mkind, .ref mrank, .ref mstate, .ref mactLong, .ref mactSteps, .ref mat, .ref mregister, .ref misHeld, .ref mdoneIn, .ref mundone, .ref mby, .ref mbegunIn, .ref misVoid, .ref misAgain, .ref mholds, .ref mwrites, .ref mgives, .ref mbelow, .ref mqueued, .ref mqueuedMany, .int 0, .ref mdone, .int 0, .int 0, .ref mlog, .int 0, .int 0, .ref morder, .ref misReached, .ref mqueue]))]) [0] rfl
    have hD := hD.sub (ws' := [(h, .inr (4, [.int nw, .ref mcells, .ref mcounters, .ref mfloors, .ref mlimits, .ref mlongs, .ref msteps, .int 0, .ref mprogram, .ref mkind, .ref mrank, .ref mstate, .ref mactLong, .ref mactSteps, .ref mat, .ref mregister, .ref misHeld, .ref mdoneIn, .ref mundone, .ref mby, .ref mbegunIn, .ref misVoid, .ref misAgain, .ref mholds, .ref mwrites, .ref mgives, .ref mbelow, .ref mqueued, .ref mqueuedMany, .int 0, .ref mdone, .int 0, .int 0, .ref mlog, .int 0, .int 0, .ref morder, .ref misReached, .ref mqueue]))]) [0] (by decide) rfl
    have hK := hK.sub (tys' := []) [] rfl
    refine W.widen (k := 0) (n := 0) (by decide) (by decide) ?_
    exact W.iret (v := 0) hx hb hr (fun t ht hW => ⟨⟨0, ([(h, .inr (4, [.int nw, .ref mcells, .ref mcounters, .ref mfloors, .ref mlimits, .ref mlongs, .ref msteps, .int 0, .ref mprogram, .ref mkind, .ref mrank, .ref mstate, .ref mactLong, .ref mactSteps, .ref mat, .ref mregister, .ref misHeld, .ref mdoneIn, .ref mundone, .ref mby, .ref mbegunIn, .ref misVoid, .ref misAgain, .ref mholds, .ref mwrites, .ref mgives, .ref mbelow, .ref mqueued, .ref mqueuedMany, .int 0, .ref mdone, .int 0, .int 0, .ref mlog, .int 0, .int 0, .ref morder, .ref misReached, .ref mqueue]))], []), rfl, ⟨rfl, rfl⟩, ⟨by rw [ht]; exact hP, va_K.moved hW.alike hK, hD⟩⟩, hS.F ht⟩) hS.2.2 dX4_sorts_90
  · skip
    exact absurd c1 (by decide)
set_option maxRecDepth 100000 in
theorem kw_X4_breaks__fieldLink_RX4_111_ActHouseModel_acts_I_ : (.fieldLink RX4 111 "ActHouseModel" "acts" "I" : Cond) ∈ wsX4_breaks := by decide +kernel
set_option maxRecDepth 100000 in
theorem kin_X4_breaks_X4 : ∀ w ∈ u_ws RX4 TX4 39, w ∈ wsX4_breaks := by decide +kernel
set_option maxHeartbeats 4000000 in
set_option maxRecDepth 100000 in
theorem c_X4_breaks {l : Launch} {D : va_G} {sz : Nat} {h : Nat} {mcells : Nat} {mcounters : Nat} {mfloors : Nat} {mlimits : Nat} {mlongs : Nat} {msteps : Nat} {mprogram : Nat} {mkind : Nat} {mrank : Nat} {mstate : Nat} {mactLong : Nat} {mactSteps : Nat} {mat : Nat} {mregister : Nat} {misHeld : Nat} {mdoneIn : Nat} {mundone : Nat} {mby : Nat} {mbegunIn : Nat} {misVoid : Nat} {misAgain : Nat} {mholds : Nat} {mwrites : Nat} {mgives : Nat} {mbelow : Nat} {mqueued : Nat} {mqueuedMany : Nat} {mdone : Nat} {mlog : Nat} {morder : Nat} {misReached : Nat} {mqueue : Nat} {nw : Int32}  : Met l yX4_breaks wsX4_breaks ({ frames := 0, cells := 0, slots := 0, locals := 0 }) (va_Pc [.ref h] (k_Pre D [] [(h, .inr (4, [.int nw, .ref mcells, .ref mcounters, .ref mfloors, .ref mlimits, .ref mlongs, .ref msteps, .int 0, .ref mprogram, .ref mkind, .ref mrank, .ref mstate, .ref mactLong, .ref mactSteps, .ref mat, .ref mregister, .ref misHeld, .ref mdoneIn, .ref mundone, .ref mby, .ref mbegunIn, .ref misVoid, .ref misAgain, .ref mholds, .ref mwrites, .ref mgives, .ref mbelow, .ref mqueued, .ref mqueuedMany, .int 0, .ref mdone, .int 0, .int 0, .ref mlog, .int 0, .int 0, .ref morder, .ref misReached, .ref mqueue]))] sz)) (va_Qv (fun (u : va_W × List (ClassId × FieldType)) => (u = ([(h, .inr (4, [.int nw, .ref mcells, .ref mcounters, .ref mfloors, .ref mlimits, .ref mlongs, .ref msteps, .int 0, .ref mprogram, .ref mkind, .ref mrank, .ref mstate, .ref mactLong, .ref mactSteps, .ref mat, .ref mregister, .ref misHeld, .ref mdoneIn, .ref mundone, .ref mby, .ref mbegunIn, .ref misVoid, .ref misAgain, .ref mholds, .ref mwrites, .ref mgives, .ref mbelow, .ref mqueued, .ref mqueuedMany, .int 0, .ref mdone, .int 0, .int 0, .ref mlog, .int 0, .int 0, .ref morder, .ref misReached, .ref mqueue]))], []))) (k_B D (va_A [(h, .inr (4, [.int nw, .ref mcells, .ref mcounters, .ref mfloors, .ref mlimits, .ref mlongs, .ref msteps, .int 0, .ref mprogram, .ref mkind, .ref mrank, .ref mstate, .ref mactLong, .ref mactSteps, .ref mat, .ref mregister, .ref misHeld, .ref mdoneIn, .ref mundone, .ref mby, .ref mbegunIn, .ref misVoid, .ref misAgain, .ref mholds, .ref mwrites, .ref mgives, .ref mbelow, .ref mqueued, .ref mqueuedMany, .int 0, .ref mdone, .int 0, .int 0, .ref mlog, .int 0, .int 0, .ref morder, .ref misReached, .ref mqueue]))] sz)) (va_A [(h, .inr (4, [.int nw, .ref mcells, .ref mcounters, .ref mfloors, .ref mlimits, .ref mlongs, .ref msteps, .int 0, .ref mprogram, .ref mkind, .ref mrank, .ref mstate, .ref mactLong, .ref mactSteps, .ref mat, .ref mregister, .ref misHeld, .ref mdoneIn, .ref mundone, .ref mby, .ref mbegunIn, .ref misVoid, .ref misAgain, .ref mholds, .ref mwrites, .ref mgives, .ref mbelow, .ref mqueued, .ref mqueuedMany, .int 0, .ref mdone, .int 0, .int 0, .ref mlog, .int 0, .int 0, .ref morder, .ref misReached, .ref mqueue]))] sz)) 0 0 (va_A [(h, .inr (4, [.int nw, .ref mcells, .ref mcounters, .ref mfloors, .ref mlimits, .ref mlongs, .ref msteps, .int 0, .ref mprogram, .ref mkind, .ref mrank, .ref mstate, .ref mactLong, .ref mactSteps, .ref mat, .ref mregister, .ref misHeld, .ref mdoneIn, .ref mundone, .ref mby, .ref mbegunIn, .ref misVoid, .ref misAgain, .ref mholds, .ref mwrites, .ref mgives, .ref mbelow, .ref mqueued, .ref mqueuedMany, .int 0, .ref mdone, .int 0, .int 0, .ref mlog, .int 0, .int 0, .ref morder, .ref misReached, .ref mqueue]))] sz) := by
  refine Met.ofW (cc := cX4_breaks) (maxL := 3) (ret := none) (by decide) rfl ?_
  intro p e s m args below meth c s₁ B hml hv
  obtain ⟨rfl, hsz, hP, hK, hD0⟩ := hv
  have hx := B.exec
  have hb := B.bytes
  have hr := B.returns
  have hts := atoms_spec (ws := wsX4_breaks) B.pre
  have hown : s.vm.findClass RX4 = some m.cls := findClass_of_methodNamed B.named
  have hlocks := B.notSynchronized
  subst hsz
  have hD := hD0.self (sz := s.heap.size)
  generalize hAe : va_A [(h, .inr (4, [.int nw, .ref mcells, .ref mcounters, .ref mfloors, .ref mlimits, .ref mlongs, .ref msteps, .int 0, .ref mprogram, .ref mkind, .ref mrank, .ref mstate, .ref mactLong, .ref mactSteps, .ref mat, .ref mregister, .ref misHeld, .ref mdoneIn, .ref mundone, .ref mby, .ref mbegunIn, .ref misVoid, .ref misAgain, .ref mholds, .ref mwrites, .ref mgives, .ref mbelow, .ref mqueued, .ref mqueuedMany, .int 0, .ref mdone, .int 0, .int 0, .ref mlog, .int 0, .int 0, .ref morder, .ref misReached, .ref mqueue]))] s.heap.size = A at hD ⊢
  have hA : ∀ q : Nat, s.heap.size ≤ q → A q := fun q h => by rw [← hAe]; exact Or.inr h
  have hS : va_S A s.heap s.heap [] := va_S.rf
  have hl := lv_entry ([.ref h]) (n := 3) (Nat.le_of_ble_eq_true rfl)
  rw [lg_entry_eq]
  generalize (lg_sl ([.ref h]) ++ List.replicate (3 - (lg_sl ([.ref h])).length) Slot.unset).toArray = ls at hl ⊢
  have hl : lv_has ls 3 [(0, .ref h)] := hl
  refine lv_iconst (v := 0) hx hb dX4_breaks_0 (by decide) ?_
  refine lv_istore_n (lv' := [(1, .int 0), (0, .ref h)]) hx hb dX4_breaks_1 rfl hl (by decide) rfl (fun ls hl => ?_)
  refine lv_iload_n hx hb dX4_breaks_2 rfl (lv_at hl 0 rfl) ?_
  refine lv_iconst (v := (-1)) hx hb dX4_breaks_3 (by decide) ?_
  refine lv_icmp_eq (tgt := 124) hx hb dX4_breaks_4 (by decide) (fun c1 => ?_) (fun c1 => ?_)
  · skip
    exact absurd c1 (by decide)
  · skip
    refine lv_iconst (v := (-1)) hx hb dX4_breaks_7 (by decide) ?_
    refine lv_istore_n (lv' := [(1, .int (-1)), (0, .ref h)]) hx hb dX4_breaks_8 rfl hl (by decide) rfl (fun ls hl => ?_)
    refine lv_iconst (v := 0) hx hb dX4_breaks_9 (by decide) ?_
    refine lv_istore_n (lv' := [(2, .int 0), (1, .int (-1)), (0, .ref h)]) hx hb dX4_breaks_10 rfl hl (by decide) rfl (fun ls hl => ?_)
    refine lv_iload_n hx hb dX4_breaks_11 rfl (lv_at hl 0 rfl) ?_
    refine lv_aload_n hx hb dX4_breaks_12 rfl (lv_at hl 2 rfl) ?_
    refine va_get (D := D) (ci := 4) (v := .int 0) (C := RX4) (T := TX4) (N := 39) hx hb hts kin_X4_breaks_X4 hown hK hP 0 rfl rfl 7 (by decide) (hts _ kw_X4_breaks__fieldLink_RX4_111_ActHouseModel_acts_I_) (fun _ h9 => h9) rfl dX4_breaks_13 ?_
    refine lv_icmp_ge (tgt := 74) hx hb dX4_breaks_16 (by decide) (fun c2 => ?_) (fun c2 => ?_)
    · skip
      refine lv_iload_n hx hb dX4_breaks_74 rfl (lv_at hl 1 rfl) ?_
      refine lv_iconst (v := (-1)) hx hb dX4_breaks_75 (by decide) ?_
      refine lv_icmp_ne (tgt := 82) hx hb dX4_breaks_76 (by decide) (fun c3 => ?_) (fun c3 => ?_)
      · skip
        exact absurd c3 (by decide)
      · skip
        refine lv_goto (tgt := 2) hx hb dX4_breaks_79 (by decide) ?_
        refine lv_iload_n hx hb dX4_breaks_2 rfl (lv_at hl 1 rfl) ?_
        refine lv_iconst (v := (-1)) hx hb dX4_breaks_3 (by decide) ?_
        refine lv_icmp_eq (tgt := 124) hx hb dX4_breaks_4 (by decide) (fun c4 => ?_) (fun c4 => ?_)
        · skip
          have hP := hP.sub (ws' := [(h, .inr (4, [.int nw, .ref mcells, .ref mcounters, .ref mfloors, .ref mlimits, .ref mlongs, .ref msteps, .int 0, .ref mprogram, .ref mkind, .ref mrank, .ref mstate, .ref mactLong, .ref mactSteps, .ref mat, .ref mregister, .ref misHeld, .ref mdoneIn, .ref mundone, .ref mby, .ref mbegunIn, .ref misVoid, .ref misAgain, .ref mholds, .ref mwrites, .ref mgives, .ref mbelow, .ref mqueued, .ref mqueuedMany, .int 0, .ref mdone, .int 0, .int 0, .ref mlog, .int 0, .int 0, .ref morder, .ref misReached, .ref mqueue]))]) [0] rfl
          have hD := hD.sub (ws' := [(h, .inr (4, [.int nw, .ref mcells, .ref mcounters, .ref mfloors, .ref mlimits, .ref mlongs, .ref msteps, .int 0, .ref mprogram, .ref mkind, .ref mrank, .ref mstate, .ref mactLong, .ref mactSteps, .ref mat, .ref mregister, .ref misHeld, .ref mdoneIn, .ref mundone, .ref mby, .ref mbegunIn, .ref misVoid, .ref misAgain, .ref mholds, .ref mwrites, .ref mgives, .ref mbelow, .ref mqueued, .ref mqueuedMany, .int 0, .ref mdone, .int 0, .int 0, .ref mlog, .int 0, .int 0, .ref morder, .ref misReached, .ref mqueue]))]) [0] (by decide) rfl
          have hK := hK.sub (tys' := []) [] rfl
          refine W.widen (k := 0) (n := 0) (by decide) (by decide) ?_
          exact W.vret hx hb hr (fun t ht hW => ⟨⟨([(h, .inr (4, [.int nw, .ref mcells, .ref mcounters, .ref mfloors, .ref mlimits, .ref mlongs, .ref msteps, .int 0, .ref mprogram, .ref mkind, .ref mrank, .ref mstate, .ref mactLong, .ref mactSteps, .ref mat, .ref mregister, .ref misHeld, .ref mdoneIn, .ref mundone, .ref mby, .ref mbegunIn, .ref misVoid, .ref misAgain, .ref mholds, .ref mwrites, .ref mgives, .ref mbelow, .ref mqueued, .ref mqueuedMany, .int 0, .ref mdone, .int 0, .int 0, .ref mlog, .int 0, .int 0, .ref morder, .ref misReached, .ref mqueue]))], []), rfl, rfl, ⟨by rw [ht]; exact hP, va_K.moved hW.alike hK, hD⟩⟩, hS.F ht⟩) hS.2.2 dX4_breaks_124
        · skip
          exact absurd c4 (by decide)
    · skip
      exact absurd c2 (by decide)
set_option maxHeartbeats 4000000 in
set_option maxRecDepth 100000 in
theorem c_X4_begins {l : Launch} {D : va_G} {sz : Nat} {h : Nat} {mcells : Nat} {mcounters : Nat} {mfloors : Nat} {mlimits : Nat} {mlongs : Nat} {msteps : Nat} {mprogram : Nat} {mkind : Nat} {mrank : Nat} {mstate : Nat} {mactLong : Nat} {mactSteps : Nat} {mat : Nat} {mregister : Nat} {misHeld : Nat} {mdoneIn : Nat} {mundone : Nat} {mby : Nat} {mbegunIn : Nat} {misVoid : Nat} {misAgain : Nat} {mholds : Nat} {mwrites : Nat} {mgives : Nat} {mbelow : Nat} {mqueued : Nat} {mqueuedMany : Nat} {mdone : Nat} {mlog : Nat} {morder : Nat} {misReached : Nat} {mqueue : Nat} {nw : Int32}  : Met l yX4_begins wsX4_begins ({ frames := 1, cells := 0, slots := 0, locals := 24 }) (va_Pc [.ref h] (k_Pre D [] [(h, .inr (4, [.int nw, .ref mcells, .ref mcounters, .ref mfloors, .ref mlimits, .ref mlongs, .ref msteps, .int 0, .ref mprogram, .ref mkind, .ref mrank, .ref mstate, .ref mactLong, .ref mactSteps, .ref mat, .ref mregister, .ref misHeld, .ref mdoneIn, .ref mundone, .ref mby, .ref mbegunIn, .ref misVoid, .ref misAgain, .ref mholds, .ref mwrites, .ref mgives, .ref mbelow, .ref mqueued, .ref mqueuedMany, .int 0, .ref mdone, .int 0, .int 0, .ref mlog, .int 0, .int 0, .ref morder, .ref misReached, .ref mqueue]))] sz)) (va_Qv (fun (u : va_W × List (ClassId × FieldType)) => (u = ([(h, .inr (4, [.int nw, .ref mcells, .ref mcounters, .ref mfloors, .ref mlimits, .ref mlongs, .ref msteps, .int 0, .ref mprogram, .ref mkind, .ref mrank, .ref mstate, .ref mactLong, .ref mactSteps, .ref mat, .ref mregister, .ref misHeld, .ref mdoneIn, .ref mundone, .ref mby, .ref mbegunIn, .ref misVoid, .ref misAgain, .ref mholds, .ref mwrites, .ref mgives, .ref mbelow, .ref mqueued, .ref mqueuedMany, .int 0, .ref mdone, .int 0, .int 0, .ref mlog, .int 0, .int 0, .ref morder, .ref misReached, .ref mqueue]))], []))) (k_B D (va_A [(h, .inr (4, [.int nw, .ref mcells, .ref mcounters, .ref mfloors, .ref mlimits, .ref mlongs, .ref msteps, .int 0, .ref mprogram, .ref mkind, .ref mrank, .ref mstate, .ref mactLong, .ref mactSteps, .ref mat, .ref mregister, .ref misHeld, .ref mdoneIn, .ref mundone, .ref mby, .ref mbegunIn, .ref misVoid, .ref misAgain, .ref mholds, .ref mwrites, .ref mgives, .ref mbelow, .ref mqueued, .ref mqueuedMany, .int 0, .ref mdone, .int 0, .int 0, .ref mlog, .int 0, .int 0, .ref morder, .ref misReached, .ref mqueue]))] sz)) (va_A [(h, .inr (4, [.int nw, .ref mcells, .ref mcounters, .ref mfloors, .ref mlimits, .ref mlongs, .ref msteps, .int 0, .ref mprogram, .ref mkind, .ref mrank, .ref mstate, .ref mactLong, .ref mactSteps, .ref mat, .ref mregister, .ref misHeld, .ref mdoneIn, .ref mundone, .ref mby, .ref mbegunIn, .ref misVoid, .ref misAgain, .ref mholds, .ref mwrites, .ref mgives, .ref mbelow, .ref mqueued, .ref mqueuedMany, .int 0, .ref mdone, .int 0, .int 0, .ref mlog, .int 0, .int 0, .ref morder, .ref misReached, .ref mqueue]))] sz)) 0 0 (va_A [(h, .inr (4, [.int nw, .ref mcells, .ref mcounters, .ref mfloors, .ref mlimits, .ref mlongs, .ref msteps, .int 0, .ref mprogram, .ref mkind, .ref mrank, .ref mstate, .ref mactLong, .ref mactSteps, .ref mat, .ref mregister, .ref misHeld, .ref mdoneIn, .ref mundone, .ref mby, .ref mbegunIn, .ref misVoid, .ref misAgain, .ref mholds, .ref mwrites, .ref mgives, .ref mbelow, .ref mqueued, .ref mqueuedMany, .int 0, .ref mdone, .int 0, .int 0, .ref mlog, .int 0, .int 0, .ref morder, .ref misReached, .ref mqueue]))] sz) := by
  refine Met.ofW (cc := cX4_begins) (maxL := 6) (ret := none) (by decide) rfl ?_
  intro p e s m args below meth c s₁ B hml hv
  obtain ⟨rfl, hsz, hP, hK, hD0⟩ := hv
  have hx := B.exec
  have hb := B.bytes
  have hr := B.returns
  have hts := atoms_spec (ws := wsX4_begins) B.pre
  have hown : s.vm.findClass RX4 = some m.cls := findClass_of_methodNamed B.named
  have hlocks := B.notSynchronized
  subst hsz
  have hD := hD0.self (sz := s.heap.size)
  generalize hAe : va_A [(h, .inr (4, [.int nw, .ref mcells, .ref mcounters, .ref mfloors, .ref mlimits, .ref mlongs, .ref msteps, .int 0, .ref mprogram, .ref mkind, .ref mrank, .ref mstate, .ref mactLong, .ref mactSteps, .ref mat, .ref mregister, .ref misHeld, .ref mdoneIn, .ref mundone, .ref mby, .ref mbegunIn, .ref misVoid, .ref misAgain, .ref mholds, .ref mwrites, .ref mgives, .ref mbelow, .ref mqueued, .ref mqueuedMany, .int 0, .ref mdone, .int 0, .int 0, .ref mlog, .int 0, .int 0, .ref morder, .ref misReached, .ref mqueue]))] s.heap.size = A at hD ⊢
  have hA : ∀ q : Nat, s.heap.size ≤ q → A q := fun q h => by rw [← hAe]; exact Or.inr h
  have hS : va_S A s.heap s.heap [] := va_S.rf
  have hl := lv_entry ([.ref h]) (n := 6) (Nat.le_of_ble_eq_true rfl)
  rw [lg_entry_eq]
  generalize (lg_sl ([.ref h]) ++ List.replicate (6 - (lg_sl ([.ref h])).length) Slot.unset).toArray = ls at hl ⊢
  have hl : lv_has ls 6 [(0, .ref h)] := hl
  refine lv_aload_n hx hb dX4_begins_0 rfl (lv_at hl 0 rfl) ?_
  refine lv_iconst (v := 0) hx hb dX4_begins_1 (by decide) ?_
  have hPc := hP.sub (ws' := [(h, .inr (4, [.int nw, .ref mcells, .ref mcounters, .ref mfloors, .ref mlimits, .ref mlongs, .ref msteps, .int 0, .ref mprogram, .ref mkind, .ref mrank, .ref mstate, .ref mactLong, .ref mactSteps, .ref mat, .ref mregister, .ref misHeld, .ref mdoneIn, .ref mundone, .ref mby, .ref mbegunIn, .ref misVoid, .ref misAgain, .ref mholds, .ref mwrites, .ref mgives, .ref mbelow, .ref mqueued, .ref mqueuedMany, .int 0, .ref mdone, .int 0, .int 0, .ref mlog, .int 0, .int 0, .ref morder, .ref misReached, .ref mqueue]))]) [0] rfl
  have hDc := hD.sub (ws' := [(h, .inr (4, [.int nw, .ref mcells, .ref mcounters, .ref mfloors, .ref mlimits, .ref mlongs, .ref msteps, .int 0, .ref mprogram, .ref mkind, .ref mrank, .ref mstate, .ref mactLong, .ref mactSteps, .ref mat, .ref mregister, .ref misHeld, .ref mdoneIn, .ref mundone, .ref mby, .ref mbegunIn, .ref misVoid, .ref misAgain, .ref mholds, .ref mwrites, .ref mgives, .ref mbelow, .ref mqueued, .ref mqueuedMany, .int 0, .ref mdone, .int 0, .int 0, .ref mlog, .int 0, .int 0, .ref morder, .ref misReached, .ref mqueue]))]) [0] (by decide) rfl
  have hKc := hK.sub (tys' := []) [] rfl
  have hFc := va_free (wc := [(h, .inr (4, [.int nw, .ref mcells, .ref mcounters, .ref mfloors, .ref mlimits, .ref mlongs, .ref msteps, .int 0, .ref mprogram, .ref mkind, .ref mrank, .ref mstate, .ref mactLong, .ref mactSteps, .ref mat, .ref mregister, .ref misHeld, .ref mdoneIn, .ref mundone, .ref mby, .ref mbegunIn, .ref misVoid, .ref misAgain, .ref mholds, .ref mwrites, .ref mgives, .ref mbelow, .ref mqueued, .ref mqueuedMany, .int 0, .ref mdone, .int 0, .int 0, .ref mlog, .int 0, .int 0, .ref morder, .ref misReached, .ref mqueue]))]) hD hS hA [0] rfl
  refine va_calli (va_runV (As := [.int 0]) (rest := []) ⟨hx, hb, hml, hown, hts⟩ (c_X4_sorts (l := l) (D := D) (h := h) (mcells := mcells) (mcounters := mcounters) (mfloors := mfloors) (mlimits := mlimits) (mlongs := mlongs) (msteps := msteps) (mprogram := mprogram) (mkind := mkind) (mrank := mrank) (mstate := mstate) (mactLong := mactLong) (mactSteps := mactSteps) (mat := mat) (mregister := mregister) (misHeld := misHeld) (mdoneIn := mdoneIn) (mundone := mundone) (mby := mby) (mbegunIn := mbegunIn) (misVoid := misVoid) (misAgain := misAgain) (mholds := mholds) (mwrites := mwrites) (mgives := mgives) (mbelow := mbelow) (mqueued := mqueued) (mqueuedMany := mqueuedMany) (mdone := mdone) (mlog := mlog) (morder := morder) (misReached := misReached) (mqueue := mqueue) (nw := nw) (x := 0) ) (cwV 1 hts gX4_begins_X4_sorts rfl rfl rfl (by decide +kernel) ⟨Nat.le_of_ble_eq_true rfl, Nat.le_of_ble_eq_true rfl⟩) ⟨k_blind, va_recv hKc hPc (ci := 4) (q0 := 0) rfl rfl, fun U hU hW => ⟨rfl, k_pre hU hW hPc hKc hDc⟩⟩ rfl rfl hl.1 rfl (lv_room (Nat.le_of_ble_eq_true rfl)) dX4_begins_2 ⟨by decide, by decide⟩) hS (fun q _ h => hFc q h) hFc (fun r1 u t H1 locs ht hvm hw hB hz1 hk1 hS => ?_)
  refine W.widen (k := 0) (n := 0) (Nat.le_refl _) (Nat.le_refl _) ?_
  have hl0 : (0 : Int32).toInt = 0 := by decide
  obtain ⟨rfl, rfl⟩ := hw
  obtain ⟨hP1, hK1, hD1⟩ := hB
  rw [ht] at hP1
  have hK1 := va_K.moved hvm.symm hK1
  obtain ⟨hP, hD⟩ := va_join (wr := []) (w1 := [(h, .inr (4, [.int nw, .ref mcells, .ref mcounters, .ref mfloors, .ref mlimits, .ref mlongs, .ref msteps, .int 0, .ref mprogram, .ref mkind, .ref mrank, .ref mstate, .ref mactLong, .ref mactSteps, .ref mat, .ref mregister, .ref misHeld, .ref mdoneIn, .ref mundone, .ref mby, .ref mbegunIn, .ref misVoid, .ref misAgain, .ref mholds, .ref mwrites, .ref mgives, .ref mbelow, .ref mqueued, .ref mqueuedMany, .int 0, .ref mdone, .int 0, .int 0, .ref mlog, .int 0, .int 0, .ref morder, .ref misReached, .ref mqueue]))]) hP hD [0] [] rfl rfl (by decide) (by decide) hk1 hFc hP1 hD1
  generalize H1 = H at hP hS ⊢
  have hP : va_P D vwCl [(h, .inr (4, [.int nw, .ref mcells, .ref mcounters, .ref mfloors, .ref mlimits, .ref mlongs, .ref msteps, .int 0, .ref mprogram, .ref mkind, .ref mrank, .ref mstate, .ref mactLong, .ref mactSteps, .ref mat, .ref mregister, .ref misHeld, .ref mdoneIn, .ref mundone, .ref mby, .ref mbegunIn, .ref misVoid, .ref misAgain, .ref mholds, .ref mwrites, .ref mgives, .ref mbelow, .ref mqueued, .ref mqueuedMany, .int 0, .ref mdone, .int 0, .int 0, .ref mlog, .int 0, .int 0, .ref morder, .ref misReached, .ref mqueue]))] H := hP
  have hD : va_D A [(h, .inr (4, [.int nw, .ref mcells, .ref mcounters, .ref mfloors, .ref mlimits, .ref mlongs, .ref msteps, .int 0, .ref mprogram, .ref mkind, .ref mrank, .ref mstate, .ref mactLong, .ref mactSteps, .ref mat, .ref mregister, .ref misHeld, .ref mdoneIn, .ref mundone, .ref mby, .ref mbegunIn, .ref misVoid, .ref misAgain, .ref mholds, .ref mwrites, .ref mgives, .ref mbelow, .ref mqueued, .ref mqueuedMany, .int 0, .ref mdone, .int 0, .int 0, .ref mlog, .int 0, .int 0, .ref morder, .ref misReached, .ref mqueue]))] := hD
  refine lv_istore_n (lv' := [(1, .int 0), (0, .ref h)]) hx hb dX4_begins_5 rfl hl (by decide) rfl (fun ls hl => ?_)
  refine lv_iconst (v := 0) hx hb dX4_begins_6 (by decide) ?_
  refine lv_istore_n (lv' := [(2, .int 0), (1, .int 0), (0, .ref h)]) hx hb dX4_begins_7 rfl hl (by decide) rfl (fun ls hl => ?_)
  refine lv_iload_n hx hb dX4_begins_8 rfl (lv_at hl 0 rfl) ?_
  refine lv_iload_n hx hb dX4_begins_9 rfl (lv_at hl 1 rfl) ?_
  refine lv_icmp_ge (tgt := 208) hx hb dX4_begins_10 (by decide) (fun c2 => ?_) (fun c2 => ?_)
  · skip
    have hP := hP.sub (ws' := [(h, .inr (4, [.int nw, .ref mcells, .ref mcounters, .ref mfloors, .ref mlimits, .ref mlongs, .ref msteps, .int 0, .ref mprogram, .ref mkind, .ref mrank, .ref mstate, .ref mactLong, .ref mactSteps, .ref mat, .ref mregister, .ref misHeld, .ref mdoneIn, .ref mundone, .ref mby, .ref mbegunIn, .ref misVoid, .ref misAgain, .ref mholds, .ref mwrites, .ref mgives, .ref mbelow, .ref mqueued, .ref mqueuedMany, .int 0, .ref mdone, .int 0, .int 0, .ref mlog, .int 0, .int 0, .ref morder, .ref misReached, .ref mqueue]))]) [0] rfl
    have hD := hD.sub (ws' := [(h, .inr (4, [.int nw, .ref mcells, .ref mcounters, .ref mfloors, .ref mlimits, .ref mlongs, .ref msteps, .int 0, .ref mprogram, .ref mkind, .ref mrank, .ref mstate, .ref mactLong, .ref mactSteps, .ref mat, .ref mregister, .ref misHeld, .ref mdoneIn, .ref mundone, .ref mby, .ref mbegunIn, .ref misVoid, .ref misAgain, .ref mholds, .ref mwrites, .ref mgives, .ref mbelow, .ref mqueued, .ref mqueuedMany, .int 0, .ref mdone, .int 0, .int 0, .ref mlog, .int 0, .int 0, .ref morder, .ref misReached, .ref mqueue]))]) [0] (by decide) rfl
    have hK := hK.sub (tys' := []) [] rfl
    refine W.widen (k := 0) (n := 0) (by decide) (by decide) ?_
    exact W.vret hx hb hr (fun t ht hW => ⟨⟨([(h, .inr (4, [.int nw, .ref mcells, .ref mcounters, .ref mfloors, .ref mlimits, .ref mlongs, .ref msteps, .int 0, .ref mprogram, .ref mkind, .ref mrank, .ref mstate, .ref mactLong, .ref mactSteps, .ref mat, .ref mregister, .ref misHeld, .ref mdoneIn, .ref mundone, .ref mby, .ref mbegunIn, .ref misVoid, .ref misAgain, .ref mholds, .ref mwrites, .ref mgives, .ref mbelow, .ref mqueued, .ref mqueuedMany, .int 0, .ref mdone, .int 0, .int 0, .ref mlog, .int 0, .int 0, .ref morder, .ref misReached, .ref mqueue]))], []), rfl, rfl, ⟨by rw [ht]; exact hP, va_K.moved hW.alike hK, hD⟩⟩, hS.F ht⟩) hS.2.2 dX4_begins_208
  · skip
    exact absurd c2 (by decide)
set_option maxRecDepth 100000 in
theorem kw_X4_keeps__fieldLink_RX4_127_ActHouseModel_entries_I_ : (.fieldLink RX4 127 "ActHouseModel" "entries" "I" : Cond) ∈ wsX4_keeps := by decide +kernel
set_option maxRecDepth 100000 in
theorem kin_X4_keeps_X4 : ∀ w ∈ u_ws RX4 TX4 39, w ∈ wsX4_keeps := by decide +kernel
set_option maxRecDepth 100000 in
theorem kw_X4_keeps__fieldLink_RX4_190_ActHouseModel_kept_I_ : (.fieldLink RX4 190 "ActHouseModel" "kept" "I" : Cond) ∈ wsX4_keeps := by decide +kernel
set_option maxRecDepth 100000 in
theorem kw_X4_keeps__fieldLink_RX4_111_ActHouseModel_acts_I_ : (.fieldLink RX4 111 "ActHouseModel" "acts" "I" : Cond) ∈ wsX4_keeps := by decide +kernel
set_option maxHeartbeats 4000000 in
set_option maxRecDepth 100000 in
theorem c_X4_keeps {l : Launch} {D : va_G} {sz : Nat} {h : Nat} {mcells : Nat} {mcounters : Nat} {mfloors : Nat} {mlimits : Nat} {mlongs : Nat} {msteps : Nat} {mprogram : Nat} {mkind : Nat} {mrank : Nat} {mstate : Nat} {mactLong : Nat} {mactSteps : Nat} {mat : Nat} {mregister : Nat} {misHeld : Nat} {mdoneIn : Nat} {mundone : Nat} {mby : Nat} {mbegunIn : Nat} {misVoid : Nat} {misAgain : Nat} {mholds : Nat} {mwrites : Nat} {mgives : Nat} {mbelow : Nat} {mqueued : Nat} {mqueuedMany : Nat} {mdone : Nat} {mlog : Nat} {morder : Nat} {misReached : Nat} {mqueue : Nat} {nw : Int32} {fa : Int32}  : Met l yX4_keeps wsX4_keeps ({ frames := 0, cells := 0, slots := 0, locals := 0 }) (va_Pc [.ref h] (k_Pre D [] [(h, .inr (4, [.int nw, .ref mcells, .ref mcounters, .ref mfloors, .ref mlimits, .ref mlongs, .ref msteps, .int 0, .ref mprogram, .ref mkind, .ref mrank, .ref mstate, .ref mactLong, .ref mactSteps, .ref mat, .ref mregister, .ref misHeld, .ref mdoneIn, .ref mundone, .ref mby, .ref mbegunIn, .ref misVoid, .ref misAgain, .ref mholds, .ref mwrites, .ref mgives, .ref mbelow, .ref mqueued, .ref mqueuedMany, .int 0, .ref mdone, .int 0, .int 0, .ref mlog, .int 0, .int fa, .ref morder, .ref misReached, .ref mqueue]))] sz)) (va_Qv (fun (u : va_W × List (ClassId × FieldType)) => (u = ([(h, .inr (4, [.int nw, .ref mcells, .ref mcounters, .ref mfloors, .ref mlimits, .ref mlongs, .ref msteps, .int 0, .ref mprogram, .ref mkind, .ref mrank, .ref mstate, .ref mactLong, .ref mactSteps, .ref mat, .ref mregister, .ref misHeld, .ref mdoneIn, .ref mundone, .ref mby, .ref mbegunIn, .ref misVoid, .ref misAgain, .ref mholds, .ref mwrites, .ref mgives, .ref mbelow, .ref mqueued, .ref mqueuedMany, .int 0, .ref mdone, .int 0, .int 0, .ref mlog, .int 0, .int fa, .ref morder, .ref misReached, .ref mqueue]))], []))) (k_B D (va_A [(h, .inr (4, [.int nw, .ref mcells, .ref mcounters, .ref mfloors, .ref mlimits, .ref mlongs, .ref msteps, .int 0, .ref mprogram, .ref mkind, .ref mrank, .ref mstate, .ref mactLong, .ref mactSteps, .ref mat, .ref mregister, .ref misHeld, .ref mdoneIn, .ref mundone, .ref mby, .ref mbegunIn, .ref misVoid, .ref misAgain, .ref mholds, .ref mwrites, .ref mgives, .ref mbelow, .ref mqueued, .ref mqueuedMany, .int 0, .ref mdone, .int 0, .int 0, .ref mlog, .int 0, .int fa, .ref morder, .ref misReached, .ref mqueue]))] sz)) (va_A [(h, .inr (4, [.int nw, .ref mcells, .ref mcounters, .ref mfloors, .ref mlimits, .ref mlongs, .ref msteps, .int 0, .ref mprogram, .ref mkind, .ref mrank, .ref mstate, .ref mactLong, .ref mactSteps, .ref mat, .ref mregister, .ref misHeld, .ref mdoneIn, .ref mundone, .ref mby, .ref mbegunIn, .ref misVoid, .ref misAgain, .ref mholds, .ref mwrites, .ref mgives, .ref mbelow, .ref mqueued, .ref mqueuedMany, .int 0, .ref mdone, .int 0, .int 0, .ref mlog, .int 0, .int fa, .ref morder, .ref misReached, .ref mqueue]))] sz)) 0 0 (va_A [(h, .inr (4, [.int nw, .ref mcells, .ref mcounters, .ref mfloors, .ref mlimits, .ref mlongs, .ref msteps, .int 0, .ref mprogram, .ref mkind, .ref mrank, .ref mstate, .ref mactLong, .ref mactSteps, .ref mat, .ref mregister, .ref misHeld, .ref mdoneIn, .ref mundone, .ref mby, .ref mbegunIn, .ref misVoid, .ref misAgain, .ref mholds, .ref mwrites, .ref mgives, .ref mbelow, .ref mqueued, .ref mqueuedMany, .int 0, .ref mdone, .int 0, .int 0, .ref mlog, .int 0, .int fa, .ref morder, .ref misReached, .ref mqueue]))] sz) := by
  refine Met.ofW (cc := cX4_keeps) (maxL := 2) (ret := none) (by decide) rfl ?_
  intro p e s m args below meth c s₁ B hml hv
  obtain ⟨rfl, hsz, hP, hK, hD0⟩ := hv
  have hx := B.exec
  have hb := B.bytes
  have hr := B.returns
  have hts := atoms_spec (ws := wsX4_keeps) B.pre
  have hown : s.vm.findClass RX4 = some m.cls := findClass_of_methodNamed B.named
  have hlocks := B.notSynchronized
  subst hsz
  have hD := hD0.self (sz := s.heap.size)
  generalize hAe : va_A [(h, .inr (4, [.int nw, .ref mcells, .ref mcounters, .ref mfloors, .ref mlimits, .ref mlongs, .ref msteps, .int 0, .ref mprogram, .ref mkind, .ref mrank, .ref mstate, .ref mactLong, .ref mactSteps, .ref mat, .ref mregister, .ref misHeld, .ref mdoneIn, .ref mundone, .ref mby, .ref mbegunIn, .ref misVoid, .ref misAgain, .ref mholds, .ref mwrites, .ref mgives, .ref mbelow, .ref mqueued, .ref mqueuedMany, .int 0, .ref mdone, .int 0, .int 0, .ref mlog, .int 0, .int fa, .ref morder, .ref misReached, .ref mqueue]))] s.heap.size = A at hD ⊢
  have hA : ∀ q : Nat, s.heap.size ≤ q → A q := fun q h => by rw [← hAe]; exact Or.inr h
  have hS : va_S A s.heap s.heap [] := va_S.rf
  have hl := lv_entry ([.ref h]) (n := 2) (Nat.le_of_ble_eq_true rfl)
  rw [lg_entry_eq]
  generalize (lg_sl ([.ref h]) ++ List.replicate (2 - (lg_sl ([.ref h])).length) Slot.unset).toArray = ls at hl ⊢
  have hl : lv_has ls 2 [(0, .ref h)] := hl
  refine lv_aload_n hx hb dX4_keeps_0 rfl (lv_at hl 0 rfl) ?_
  refine lv_aload_n hx hb dX4_keeps_1 rfl (lv_at hl 0 rfl) ?_
  refine va_get (D := D) (ci := 4) (v := .int 0) (C := RX4) (T := TX4) (N := 39) hx hb hts kin_X4_keeps_X4 hown hK hP 0 rfl rfl 31 (by decide) (hts _ kw_X4_keeps__fieldLink_RX4_127_ActHouseModel_entries_I_) (fun _ h9 => h9) rfl dX4_keeps_2 ?_
  refine va_put (D := D) (ci := 4) (v := .int 0) (ty := .int) (C := RX4) (T := TX4) (N := 39) hx hb hts kin_X4_keeps_X4 tyX4 tyX4_ok nmX4 hown hK hP hD hS 0 rfl rfl 32 (by decide) (hts _ kw_X4_keeps__fieldLink_RX4_190_ActHouseModel_kept_I_) (fun _ h9 => h9) rfl (by decide +kernel) rfl rfl (Nat.le_of_ble_eq_true rfl) dX4_keeps_5 (fun H locs hP hD hS => ?_)
  have hP : va_P D vwCl [(h, .inr (4, [.int nw, .ref mcells, .ref mcounters, .ref mfloors, .ref mlimits, .ref mlongs, .ref msteps, .int 0, .ref mprogram, .ref mkind, .ref mrank, .ref mstate, .ref mactLong, .ref mactSteps, .ref mat, .ref mregister, .ref misHeld, .ref mdoneIn, .ref mundone, .ref mby, .ref mbegunIn, .ref misVoid, .ref misAgain, .ref mholds, .ref mwrites, .ref mgives, .ref mbelow, .ref mqueued, .ref mqueuedMany, .int 0, .ref mdone, .int 0, .int 0, .ref mlog, .int 0, .int fa, .ref morder, .ref misReached, .ref mqueue]))] H := hP
  have hD : va_D A [(h, .inr (4, [.int nw, .ref mcells, .ref mcounters, .ref mfloors, .ref mlimits, .ref mlongs, .ref msteps, .int 0, .ref mprogram, .ref mkind, .ref mrank, .ref mstate, .ref mactLong, .ref mactSteps, .ref mat, .ref mregister, .ref misHeld, .ref mdoneIn, .ref mundone, .ref mby, .ref mbegunIn, .ref misVoid, .ref misAgain, .ref mholds, .ref mwrites, .ref mgives, .ref mbelow, .ref mqueued, .ref mqueuedMany, .int 0, .ref mdone, .int 0, .int 0, .ref mlog, .int 0, .int fa, .ref morder, .ref misReached, .ref mqueue]))] := hD
  refine lv_iconst (v := 0) hx hb dX4_keeps_8 (by decide) ?_
  refine lv_istore_n (lv' := [(1, .int 0), (0, .ref h)]) hx hb dX4_keeps_9 rfl hl (by decide) rfl (fun ls hl => ?_)
  refine lv_iload_n hx hb dX4_keeps_10 rfl (lv_at hl 0 rfl) ?_
  refine lv_aload_n hx hb dX4_keeps_11 rfl (lv_at hl 1 rfl) ?_
  refine va_get (D := D) (ci := 4) (v := .int 0) (C := RX4) (T := TX4) (N := 39) hx hb hts kin_X4_keeps_X4 hown hK hP 0 rfl rfl 7 (by decide) (hts _ kw_X4_keeps__fieldLink_RX4_111_ActHouseModel_acts_I_) (fun _ h9 => h9) rfl dX4_keeps_12 ?_
  refine lv_icmp_ge (tgt := 41) hx hb dX4_keeps_15 (by decide) (fun c1 => ?_) (fun c1 => ?_)
  · skip
    have hP := hP.sub (ws' := [(h, .inr (4, [.int nw, .ref mcells, .ref mcounters, .ref mfloors, .ref mlimits, .ref mlongs, .ref msteps, .int 0, .ref mprogram, .ref mkind, .ref mrank, .ref mstate, .ref mactLong, .ref mactSteps, .ref mat, .ref mregister, .ref misHeld, .ref mdoneIn, .ref mundone, .ref mby, .ref mbegunIn, .ref misVoid, .ref misAgain, .ref mholds, .ref mwrites, .ref mgives, .ref mbelow, .ref mqueued, .ref mqueuedMany, .int 0, .ref mdone, .int 0, .int 0, .ref mlog, .int 0, .int fa, .ref morder, .ref misReached, .ref mqueue]))]) [0] rfl
    have hD := hD.sub (ws' := [(h, .inr (4, [.int nw, .ref mcells, .ref mcounters, .ref mfloors, .ref mlimits, .ref mlongs, .ref msteps, .int 0, .ref mprogram, .ref mkind, .ref mrank, .ref mstate, .ref mactLong, .ref mactSteps, .ref mat, .ref mregister, .ref misHeld, .ref mdoneIn, .ref mundone, .ref mby, .ref mbegunIn, .ref misVoid, .ref misAgain, .ref mholds, .ref mwrites, .ref mgives, .ref mbelow, .ref mqueued, .ref mqueuedMany, .int 0, .ref mdone, .int 0, .int 0, .ref mlog, .int 0, .int fa, .ref morder, .ref misReached, .ref mqueue]))]) [0] (by decide) rfl
    have hK := hK.sub (tys' := []) [] rfl
    refine W.widen (k := 0) (n := 0) (by decide) (by decide) ?_
    exact W.vret hx hb hr (fun t ht hW => ⟨⟨([(h, .inr (4, [.int nw, .ref mcells, .ref mcounters, .ref mfloors, .ref mlimits, .ref mlongs, .ref msteps, .int 0, .ref mprogram, .ref mkind, .ref mrank, .ref mstate, .ref mactLong, .ref mactSteps, .ref mat, .ref mregister, .ref misHeld, .ref mdoneIn, .ref mundone, .ref mby, .ref mbegunIn, .ref misVoid, .ref misAgain, .ref mholds, .ref mwrites, .ref mgives, .ref mbelow, .ref mqueued, .ref mqueuedMany, .int 0, .ref mdone, .int 0, .int 0, .ref mlog, .int 0, .int fa, .ref morder, .ref misReached, .ref mqueue]))], []), rfl, rfl, ⟨by rw [ht]; exact hP, va_K.moved hW.alike hK, hD⟩⟩, hS.F ht⟩) hS.2.2 dX4_keeps_41
  · skip
    exact absurd c1 (by decide)
set_option maxRecDepth 100000 in
theorem kw_X4_go__fieldLink_RX4_130_ActHouseModel_now_I_ : (.fieldLink RX4 130 "ActHouseModel" "now" "I" : Cond) ∈ wsX4_go := by decide +kernel
set_option maxRecDepth 100000 in
theorem kin_X4_go_X4 : ∀ w ∈ u_ws RX4 TX4 39, w ∈ wsX4_go := by decide +kernel
set_option maxHeartbeats 4000000 in
set_option maxRecDepth 100000 in
theorem c_X4_go {l : Launch} {D : va_G} {sz : Nat} {h : Nat} {mcells : Nat} {mcounters : Nat} {mfloors : Nat} {mlimits : Nat} {mlongs : Nat} {msteps : Nat} {mprogram : Nat} {mkind : Nat} {mrank : Nat} {mstate : Nat} {mactLong : Nat} {mactSteps : Nat} {mat : Nat} {mregister : Nat} {misHeld : Nat} {mdoneIn : Nat} {mundone : Nat} {mby : Nat} {mbegunIn : Nat} {misVoid : Nat} {misAgain : Nat} {mholds : Nat} {mwrites : Nat} {mgives : Nat} {mbelow : Nat} {mqueued : Nat} {mqueuedMany : Nat} {mdone : Nat} {mlog : Nat} {morder : Nat} {misReached : Nat} {mqueue : Nat} {x : Int32}  : Met l yX4_go wsX4_go ({ frames := 2, cells := 0, slots := 0, locals := 49 }) (va_Pc [.ref h, .int x] (k_Pre D [] [(h, .inr (4, [.int 0, .ref mcells, .ref mcounters, .ref mfloors, .ref mlimits, .ref mlongs, .ref msteps, .int 0, .ref mprogram, .ref mkind, .ref mrank, .ref mstate, .ref mactLong, .ref mactSteps, .ref mat, .ref mregister, .ref misHeld, .ref mdoneIn, .ref mundone, .ref mby, .ref mbegunIn, .ref misVoid, .ref misAgain, .ref mholds, .ref mwrites, .ref mgives, .ref mbelow, .ref mqueued, .ref mqueuedMany, .int 0, .ref mdone, .int 0, .int 0, .ref mlog, .int 0, .int 0, .ref morder, .ref misReached, .ref mqueue]))] sz)) (va_Qi (fun (r : Int32) (u : va_W × List (ClassId × FieldType)) => (r = (-1) ∧ u = ([], []) ∧ (x.toInt < 0 ∨ 200 < x.toInt)) ∨ (u = ([], []) ∧ r.toInt = x.toInt ∧ 0 ≤ x.toInt ∧ x.toInt ≤ 200)) (k_B D (va_A [(h, .inr (4, [.int 0, .ref mcells, .ref mcounters, .ref mfloors, .ref mlimits, .ref mlongs, .ref msteps, .int 0, .ref mprogram, .ref mkind, .ref mrank, .ref mstate, .ref mactLong, .ref mactSteps, .ref mat, .ref mregister, .ref misHeld, .ref mdoneIn, .ref mundone, .ref mby, .ref mbegunIn, .ref misVoid, .ref misAgain, .ref mholds, .ref mwrites, .ref mgives, .ref mbelow, .ref mqueued, .ref mqueuedMany, .int 0, .ref mdone, .int 0, .int 0, .ref mlog, .int 0, .int 0, .ref morder, .ref misReached, .ref mqueue]))] sz)) (va_A [(h, .inr (4, [.int 0, .ref mcells, .ref mcounters, .ref mfloors, .ref mlimits, .ref mlongs, .ref msteps, .int 0, .ref mprogram, .ref mkind, .ref mrank, .ref mstate, .ref mactLong, .ref mactSteps, .ref mat, .ref mregister, .ref misHeld, .ref mdoneIn, .ref mundone, .ref mby, .ref mbegunIn, .ref misVoid, .ref misAgain, .ref mholds, .ref mwrites, .ref mgives, .ref mbelow, .ref mqueued, .ref mqueuedMany, .int 0, .ref mdone, .int 0, .int 0, .ref mlog, .int 0, .int 0, .ref morder, .ref misReached, .ref mqueue]))] sz)) 0 0 (va_A [(h, .inr (4, [.int 0, .ref mcells, .ref mcounters, .ref mfloors, .ref mlimits, .ref mlongs, .ref msteps, .int 0, .ref mprogram, .ref mkind, .ref mrank, .ref mstate, .ref mactLong, .ref mactSteps, .ref mat, .ref mregister, .ref misHeld, .ref mdoneIn, .ref mundone, .ref mby, .ref mbegunIn, .ref misVoid, .ref misAgain, .ref mholds, .ref mwrites, .ref mgives, .ref mbelow, .ref mqueued, .ref mqueuedMany, .int 0, .ref mdone, .int 0, .int 0, .ref mlog, .int 0, .int 0, .ref morder, .ref misReached, .ref mqueue]))] sz) := by
  refine Met.ofW (cc := cX4_go) (maxL := 5) (ret := (some .int)) (by decide) rfl ?_
  intro p e s m args below meth c s₁ B hml hv
  obtain ⟨rfl, hsz, hP, hK, hD0⟩ := hv
  have hx := B.exec
  have hb := B.bytes
  have hr := B.returns
  have hts := atoms_spec (ws := wsX4_go) B.pre
  have hown : s.vm.findClass RX4 = some m.cls := findClass_of_methodNamed B.named
  have hlocks := B.notSynchronized
  subst hsz
  have hD := hD0.self (sz := s.heap.size)
  generalize hAe : va_A [(h, .inr (4, [.int 0, .ref mcells, .ref mcounters, .ref mfloors, .ref mlimits, .ref mlongs, .ref msteps, .int 0, .ref mprogram, .ref mkind, .ref mrank, .ref mstate, .ref mactLong, .ref mactSteps, .ref mat, .ref mregister, .ref misHeld, .ref mdoneIn, .ref mundone, .ref mby, .ref mbegunIn, .ref misVoid, .ref misAgain, .ref mholds, .ref mwrites, .ref mgives, .ref mbelow, .ref mqueued, .ref mqueuedMany, .int 0, .ref mdone, .int 0, .int 0, .ref mlog, .int 0, .int 0, .ref morder, .ref misReached, .ref mqueue]))] s.heap.size = A at hD ⊢
  have hA : ∀ q : Nat, s.heap.size ≤ q → A q := fun q h => by rw [← hAe]; exact Or.inr h
  have hS : va_S A s.heap s.heap [] := va_S.rf
  have hl := lv_entry ([.ref h, .int x]) (n := 5) (Nat.le_of_ble_eq_true rfl)
  rw [lg_entry_eq]
  generalize (lg_sl ([.ref h, .int x]) ++ List.replicate (5 - (lg_sl ([.ref h, .int x])).length) Slot.unset).toArray = ls at hl ⊢
  have hl : lv_has ls 5 [(0, .ref h), (1, .int x)] := hl
  refine k_Q (fun Q hQ => ?_)
  refine lv_iload_n hx hb dX4_go_0 rfl (lv_at hl 1 rfl) ?_
  refine lv_iconst (v := 0) hx hb dX4_go_1 (by decide) ?_
  refine lv_sipush (v := 200) hx hb dX4_go_2 (by decide) ?_
  have hPc := hP.sub (ws' := []) [] rfl
  have hDc := hD.sub (ws' := []) [] (by decide) rfl
  have hKc := hK.sub (tys' := []) [] rfl
  have hFc := va_free (wc := []) hD hS hA [] rfl
  refine va_calli (va_runS (As := [.int x, .int 0, .int 200]) (rest := []) ⟨hx, hb, hml, hown, hts⟩ (c_X4_in (l := l) (D := D) (x := x) (y := 0) (z := 200) ) (va_cwS 3 hts gX4_go_X4_in rfl rfl rfl (by decide +kernel) ⟨Nat.le_of_ble_eq_true rfl, Nat.le_of_ble_eq_true rfl⟩) ⟨k_blind, fun U hU hW => ⟨rfl, k_pre hU hW hPc hKc hDc⟩⟩ rfl rfl hl.1 rfl (lv_room (Nat.le_of_ble_eq_true rfl)) dX4_go_5 ⟨by decide, by decide⟩) hS (fun q _ h => hFc q h) hFc (fun r1 u t H1 locs ht hvm hw hB hz1 hk1 hS => ?_)
  refine W.widen (k := 0) (n := 0) (Nat.le_refl _) (Nat.le_refl _) ?_
  have hl0 : (0 : Int32).toInt = 0 := by decide
  have hl200 : (200 : Int32).toInt = 200 := by decide
  rcases hw with ⟨rfl, rfl, ha_1, hb_1⟩ | ⟨rfl, rfl, ha_1⟩
  · skip
    obtain ⟨hP1, hK1, hD1⟩ := hB
    rw [ht] at hP1
    have hK1 := va_K.moved hvm.symm hK1
    obtain ⟨hP, hD⟩ := va_join (wr := [(h, .inr (4, [.int 0, .ref mcells, .ref mcounters, .ref mfloors, .ref mlimits, .ref mlongs, .ref msteps, .int 0, .ref mprogram, .ref mkind, .ref mrank, .ref mstate, .ref mactLong, .ref mactSteps, .ref mat, .ref mregister, .ref misHeld, .ref mdoneIn, .ref mundone, .ref mby, .ref mbegunIn, .ref misVoid, .ref misAgain, .ref mholds, .ref mwrites, .ref mgives, .ref mbelow, .ref mqueued, .ref mqueuedMany, .int 0, .ref mdone, .int 0, .int 0, .ref mlog, .int 0, .int 0, .ref morder, .ref misReached, .ref mqueue]))]) (w1 := []) hP hD [] [0] rfl rfl (by decide) (by decide) hk1 hFc hP1 hD1
    generalize H1 = H at hP hS ⊢
    have hP : va_P D vwCl [(h, .inr (4, [.int 0, .ref mcells, .ref mcounters, .ref mfloors, .ref mlimits, .ref mlongs, .ref msteps, .int 0, .ref mprogram, .ref mkind, .ref mrank, .ref mstate, .ref mactLong, .ref mactSteps, .ref mat, .ref mregister, .ref misHeld, .ref mdoneIn, .ref mundone, .ref mby, .ref mbegunIn, .ref misVoid, .ref misAgain, .ref mholds, .ref mwrites, .ref mgives, .ref mbelow, .ref mqueued, .ref mqueuedMany, .int 0, .ref mdone, .int 0, .int 0, .ref mlog, .int 0, .int 0, .ref morder, .ref misReached, .ref mqueue]))] H := hP
    have hD : va_D A [(h, .inr (4, [.int 0, .ref mcells, .ref mcounters, .ref mfloors, .ref mlimits, .ref mlongs, .ref msteps, .int 0, .ref mprogram, .ref mkind, .ref mrank, .ref mstate, .ref mactLong, .ref mactSteps, .ref mat, .ref mregister, .ref misHeld, .ref mdoneIn, .ref mundone, .ref mby, .ref mbegunIn, .ref misVoid, .ref misAgain, .ref mholds, .ref mwrites, .ref mgives, .ref mbelow, .ref mqueued, .ref mqueuedMany, .int 0, .ref mdone, .int 0, .int 0, .ref mlog, .int 0, .int 0, .ref morder, .ref misReached, .ref mqueue]))] := hD
    refine lv_if_ne (tgt := 13) hx hb dX4_go_8 (by decide) (fun c2 => ?_) (fun c2 => ?_)
    · skip
      refine lv_iconst (v := 0) hx hb dX4_go_13 (by decide) ?_
      refine lv_istore_n (lv' := [(2, .int 0), (0, .ref h), (1, .int x)]) hx hb dX4_go_14 rfl hl (by decide) rfl (fun ls hl => ?_)
      have loop : ∀ (k : Nat) (i : Int32) (nw : Int32) (H : Heap) (locs : List Loc) (ls : Array Slot), (0 ≤ i.toInt) → (i.toInt + k = x.toInt) → (nw.toInt = i.toInt) → va_P D vwCl [(h, .inr (4, [.int nw, .ref mcells, .ref mcounters, .ref mfloors, .ref mlimits, .ref mlongs, .ref msteps, .int 0, .ref mprogram, .ref mkind, .ref mrank, .ref mstate, .ref mactLong, .ref mactSteps, .ref mat, .ref mregister, .ref misHeld, .ref mdoneIn, .ref mundone, .ref mby, .ref mbegunIn, .ref misVoid, .ref misAgain, .ref mholds, .ref mwrites, .ref mgives, .ref mbelow, .ref mqueued, .ref mqueuedMany, .int 0, .ref mdone, .int 0, .int 0, .ref mlog, .int 0, .int 0, .ref morder, .ref misReached, .ref mqueue]))] H → va_D A [(h, .inr (4, [.int nw, .ref mcells, .ref mcounters, .ref mfloors, .ref mlimits, .ref mlongs, .ref msteps, .int 0, .ref mprogram, .ref mkind, .ref mrank, .ref mstate, .ref mactLong, .ref mactSteps, .ref mat, .ref mregister, .ref misHeld, .ref mdoneIn, .ref mundone, .ref mby, .ref mbegunIn, .ref misVoid, .ref misAgain, .ref mholds, .ref mwrites, .ref mgives, .ref mbelow, .ref mqueued, .ref mqueuedMany, .int 0, .ref mdone, .int 0, .int 0, .ref mlog, .int 0, .int 0, .ref morder, .ref misReached, .ref mqueue]))] → va_S A s.heap H locs → lv_has ls 5 [(2, .int i), (0, .ref h), (1, .int x)] → W p l e (headSpec wsX4_go ({ frames := 2, cells := 0, slots := 0, locals := 49 })).room s m ([.ref h, .int x] : List Value).toArray below meth c H locs 0 0 Q (F0 m 15 ls []) := by
        intro k
        induction k with
        | zero =>
          intro i nw H locs ls h0 hi hn hP hD hS hl
          refine lv_iload_n hx hb dX4_go_15 rfl (lv_at hl 0 rfl) ?_
          refine lv_iload_n hx hb dX4_go_16 rfl (lv_at hl 2 rfl) ?_
          refine lv_icmp_ge (tgt := 100) hx hb dX4_go_17 (by decide) (fun c3 => ?_) (fun c3 => ?_)
          · skip
            have c3 := k_le c3
            refine lv_aload_n hx hb dX4_go_100 rfl (lv_at hl 1 rfl) ?_
            refine va_get (D := D) (ci := 4) (v := .int nw) (C := RX4) (T := TX4) (N := 39) hx hb hts kin_X4_go_X4 hown hK hP 0 rfl rfl 0 (by decide) (hts _ kw_X4_go__fieldLink_RX4_130_ActHouseModel_now_I_) (fun _ h9 => h9) rfl dX4_go_101 ?_
            subst hQ
            have hP := hP.sub (ws' := []) [] rfl
            have hD := hD.sub (ws' := []) [] (by decide) rfl
            have hK := hK.sub (tys' := []) [] rfl
            refine W.widen (k := 0) (n := 0) (by decide) (by decide) ?_
            exact W.iret (v := nw) hx hb hr (fun t ht hW => ⟨⟨nw, ([], []), rfl, Or.inr (⟨rfl, (by omega), (by omega), (by omega)⟩), ⟨by rw [ht]; exact hP, va_K.moved hW.alike hK, hD⟩⟩, hS.F ht⟩) hS.2.2 dX4_go_104
          · skip
            have c3 := k_nle c3
            exfalso; omega
        | succ k ih =>
          intro i nw H locs ls h0 hi hn hP hD hS hl
          refine lv_iload_n hx hb dX4_go_15 rfl (lv_at hl 0 rfl) ?_
          refine lv_iload_n hx hb dX4_go_16 rfl (lv_at hl 2 rfl) ?_
          refine lv_icmp_ge (tgt := 100) hx hb dX4_go_17 (by decide) (fun c4 => ?_) (fun c4 => ?_)
          · skip
            have c4 := k_le c4
            refine lv_aload_n hx hb dX4_go_100 rfl (lv_at hl 1 rfl) ?_
            refine va_get (D := D) (ci := 4) (v := .int nw) (C := RX4) (T := TX4) (N := 39) hx hb hts kin_X4_go_X4 hown hK hP 0 rfl rfl 0 (by decide) (hts _ kw_X4_go__fieldLink_RX4_130_ActHouseModel_now_I_) (fun _ h9 => h9) rfl dX4_go_101 ?_
            subst hQ
            have hP := hP.sub (ws' := []) [] rfl
            have hD := hD.sub (ws' := []) [] (by decide) rfl
            have hK := hK.sub (tys' := []) [] rfl
            refine W.widen (k := 0) (n := 0) (by decide) (by decide) ?_
            exact W.iret (v := nw) hx hb hr (fun t ht hW => ⟨⟨nw, ([], []), rfl, Or.inr (⟨rfl, (by omega), (by omega), (by omega)⟩), ⟨by rw [ht]; exact hP, va_K.moved hW.alike hK, hD⟩⟩, hS.F ht⟩) hS.2.2 dX4_go_104
          · skip
            have c4 := k_nle c4
            refine lv_aload_n hx hb dX4_go_20 rfl (lv_at hl 1 rfl) ?_
            refine va_get (D := D) (ci := 4) (v := .int nw) (C := RX4) (T := TX4) (N := 39) hx hb hts kin_X4_go_X4 hown hK hP 0 rfl rfl 0 (by decide) (hts _ kw_X4_go__fieldLink_RX4_130_ActHouseModel_now_I_) (fun _ h9 => h9) rfl dX4_go_21 ?_
            refine lv_sipush (v := 5000) hx hb dX4_go_24 (by decide) ?_
            refine lv_icmp_ge (tgt := 100) hx hb dX4_go_27 (by decide) (fun c5 => ?_) (fun c5 => ?_)
            · skip
              have c5 := k_le c5
              have hl5000 : (5000 : Int32).toInt = 5000 := by decide
              exfalso; omega
            · skip
              have c5 := k_nle c5
              have hl5000 : (5000 : Int32).toInt = 5000 := by decide
              refine lv_aload_n hx hb dX4_go_30 rfl (lv_at hl 1 rfl) ?_
              refine lv_iconst (v := 1) hx hb dX4_go_31 (by decide) ?_
              have hPc := hP.sub (ws' := [(h, .inr (4, [.int nw, .ref mcells, .ref mcounters, .ref mfloors, .ref mlimits, .ref mlongs, .ref msteps, .int 0, .ref mprogram, .ref mkind, .ref mrank, .ref mstate, .ref mactLong, .ref mactSteps, .ref mat, .ref mregister, .ref misHeld, .ref mdoneIn, .ref mundone, .ref mby, .ref mbegunIn, .ref misVoid, .ref misAgain, .ref mholds, .ref mwrites, .ref mgives, .ref mbelow, .ref mqueued, .ref mqueuedMany, .int 0, .ref mdone, .int 0, .int 0, .ref mlog, .int 0, .int 0, .ref morder, .ref misReached, .ref mqueue]))]) [0] rfl
              have hDc := hD.sub (ws' := [(h, .inr (4, [.int nw, .ref mcells, .ref mcounters, .ref mfloors, .ref mlimits, .ref mlongs, .ref msteps, .int 0, .ref mprogram, .ref mkind, .ref mrank, .ref mstate, .ref mactLong, .ref mactSteps, .ref mat, .ref mregister, .ref misHeld, .ref mdoneIn, .ref mundone, .ref mby, .ref mbegunIn, .ref misVoid, .ref misAgain, .ref mholds, .ref mwrites, .ref mgives, .ref mbelow, .ref mqueued, .ref mqueuedMany, .int 0, .ref mdone, .int 0, .int 0, .ref mlog, .int 0, .int 0, .ref morder, .ref misReached, .ref mqueue]))]) [0] (by decide) rfl
              have hKc := hK.sub (tys' := []) [] rfl
              have hFc := va_free (wc := [(h, .inr (4, [.int nw, .ref mcells, .ref mcounters, .ref mfloors, .ref mlimits, .ref mlongs, .ref msteps, .int 0, .ref mprogram, .ref mkind, .ref mrank, .ref mstate, .ref mactLong, .ref mactSteps, .ref mat, .ref mregister, .ref misHeld, .ref mdoneIn, .ref mundone, .ref mby, .ref mbegunIn, .ref misVoid, .ref misAgain, .ref mholds, .ref mwrites, .ref mgives, .ref mbelow, .ref mqueued, .ref mqueuedMany, .int 0, .ref mdone, .int 0, .int 0, .ref mlog, .int 0, .int 0, .ref morder, .ref misReached, .ref mqueue]))]) hD hS hA [0] rfl
              refine va_calli (va_runV (As := [.int 1]) (rest := []) ⟨hx, hb, hml, hown, hts⟩ (c_X4_sorts (l := l) (D := D) (h := h) (mcells := mcells) (mcounters := mcounters) (mfloors := mfloors) (mlimits := mlimits) (mlongs := mlongs) (msteps := msteps) (mprogram := mprogram) (mkind := mkind) (mrank := mrank) (mstate := mstate) (mactLong := mactLong) (mactSteps := mactSteps) (mat := mat) (mregister := mregister) (misHeld := misHeld) (mdoneIn := mdoneIn) (mundone := mundone) (mby := mby) (mbegunIn := mbegunIn) (misVoid := misVoid) (misAgain := misAgain) (mholds := mholds) (mwrites := mwrites) (mgives := mgives) (mbelow := mbelow) (mqueued := mqueued) (mqueuedMany := mqueuedMany) (mdone := mdone) (mlog := mlog) (morder := morder) (misReached := misReached) (mqueue := mqueue) (nw := nw) (x := 1) ) (cwV 1 hts gX4_go_X4_sorts rfl rfl rfl (by decide +kernel) ⟨Nat.le_of_ble_eq_true rfl, Nat.le_of_ble_eq_true rfl⟩) ⟨k_blind, va_recv hKc hPc (ci := 4) (q0 := 0) rfl rfl, fun U hU hW => ⟨rfl, k_pre hU hW hPc hKc hDc⟩⟩ rfl rfl hl.1 rfl (lv_room (Nat.le_of_ble_eq_true rfl)) dX4_go_32 ⟨by decide, by decide⟩) hS (fun q _ h => hFc q h) hFc (fun r6 u t H1 locs ht hvm hw hB hz1 hk1 hS => ?_)
              refine W.widen (k := 0) (n := 0) (Nat.le_refl _) (Nat.le_refl _) ?_
              have hl1 : (1 : Int32).toInt = 1 := by decide
              obtain ⟨rfl, rfl⟩ := hw
              obtain ⟨hP1, hK1, hD1⟩ := hB
              rw [ht] at hP1
              have hK1 := va_K.moved hvm.symm hK1
              obtain ⟨hP, hD⟩ := va_join (wr := []) (w1 := [(h, .inr (4, [.int nw, .ref mcells, .ref mcounters, .ref mfloors, .ref mlimits, .ref mlongs, .ref msteps, .int 0, .ref mprogram, .ref mkind, .ref mrank, .ref mstate, .ref mactLong, .ref mactSteps, .ref mat, .ref mregister, .ref misHeld, .ref mdoneIn, .ref mundone, .ref mby, .ref mbegunIn, .ref misVoid, .ref misAgain, .ref mholds, .ref mwrites, .ref mgives, .ref mbelow, .ref mqueued, .ref mqueuedMany, .int 0, .ref mdone, .int 0, .int 0, .ref mlog, .int 0, .int 0, .ref morder, .ref misReached, .ref mqueue]))]) hP hD [0] [] rfl rfl (by decide) (by decide) hk1 hFc hP1 hD1
              generalize H1 = H at hP hS ⊢
              have hP : va_P D vwCl [(h, .inr (4, [.int nw, .ref mcells, .ref mcounters, .ref mfloors, .ref mlimits, .ref mlongs, .ref msteps, .int 0, .ref mprogram, .ref mkind, .ref mrank, .ref mstate, .ref mactLong, .ref mactSteps, .ref mat, .ref mregister, .ref misHeld, .ref mdoneIn, .ref mundone, .ref mby, .ref mbegunIn, .ref misVoid, .ref misAgain, .ref mholds, .ref mwrites, .ref mgives, .ref mbelow, .ref mqueued, .ref mqueuedMany, .int 0, .ref mdone, .int 0, .int 0, .ref mlog, .int 0, .int 0, .ref morder, .ref misReached, .ref mqueue]))] H := hP
              have hD : va_D A [(h, .inr (4, [.int nw, .ref mcells, .ref mcounters, .ref mfloors, .ref mlimits, .ref mlongs, .ref msteps, .int 0, .ref mprogram, .ref mkind, .ref mrank, .ref mstate, .ref mactLong, .ref mactSteps, .ref mat, .ref mregister, .ref misHeld, .ref mdoneIn, .ref mundone, .ref mby, .ref mbegunIn, .ref misVoid, .ref misAgain, .ref mholds, .ref mwrites, .ref mgives, .ref mbelow, .ref mqueued, .ref mqueuedMany, .int 0, .ref mdone, .int 0, .int 0, .ref mlog, .int 0, .int 0, .ref morder, .ref misReached, .ref mqueue]))] := hD
              refine lv_istore_n (lv' := [(3, .int 0), (2, .int i), (0, .ref h), (1, .int x)]) hx hb dX4_go_35 rfl hl (by decide) rfl (fun ls hl => ?_)
              refine lv_iconst (v := 0) hx hb dX4_go_36 (by decide) ?_
              refine lv_istore (lv' := [(4, .int 0), (3, .int 0), (2, .int i), (0, .ref h), (1, .int x)]) hx hb dX4_go_37 hl (by decide) rfl (fun ls hl => ?_)
              refine lv_iload hx hb dX4_go_39 (lv_at hl 0 rfl) ?_
              refine lv_iload_n hx hb dX4_go_41 rfl (lv_at hl 1 rfl) ?_
              refine lv_icmp_ge (tgt := 62) hx hb dX4_go_42 (by decide) (fun c7 => ?_) (fun c7 => ?_)
              · skip
                refine lv_aload_n hx hb dX4_go_62 rfl (lv_at hl 3 rfl) ?_
                have hPc := hP.sub (ws' := [(h, .inr (4, [.int nw, .ref mcells, .ref mcounters, .ref mfloors, .ref mlimits, .ref mlongs, .ref msteps, .int 0, .ref mprogram, .ref mkind, .ref mrank, .ref mstate, .ref mactLong, .ref mactSteps, .ref mat, .ref mregister, .ref misHeld, .ref mdoneIn, .ref mundone, .ref mby, .ref mbegunIn, .ref misVoid, .ref misAgain, .ref mholds, .ref mwrites, .ref mgives, .ref mbelow, .ref mqueued, .ref mqueuedMany, .int 0, .ref mdone, .int 0, .int 0, .ref mlog, .int 0, .int 0, .ref morder, .ref misReached, .ref mqueue]))]) [0] rfl
                have hDc := hD.sub (ws' := [(h, .inr (4, [.int nw, .ref mcells, .ref mcounters, .ref mfloors, .ref mlimits, .ref mlongs, .ref msteps, .int 0, .ref mprogram, .ref mkind, .ref mrank, .ref mstate, .ref mactLong, .ref mactSteps, .ref mat, .ref mregister, .ref misHeld, .ref mdoneIn, .ref mundone, .ref mby, .ref mbegunIn, .ref misVoid, .ref misAgain, .ref mholds, .ref mwrites, .ref mgives, .ref mbelow, .ref mqueued, .ref mqueuedMany, .int 0, .ref mdone, .int 0, .int 0, .ref mlog, .int 0, .int 0, .ref morder, .ref misReached, .ref mqueue]))]) [0] (by decide) rfl
                have hKc := hK.sub (tys' := []) [] rfl
                have hFc := va_free (wc := [(h, .inr (4, [.int nw, .ref mcells, .ref mcounters, .ref mfloors, .ref mlimits, .ref mlongs, .ref msteps, .int 0, .ref mprogram, .ref mkind, .ref mrank, .ref mstate, .ref mactLong, .ref mactSteps, .ref mat, .ref mregister, .ref misHeld, .ref mdoneIn, .ref mundone, .ref mby, .ref mbegunIn, .ref misVoid, .ref misAgain, .ref mholds, .ref mwrites, .ref mgives, .ref mbelow, .ref mqueued, .ref mqueuedMany, .int 0, .ref mdone, .int 0, .int 0, .ref mlog, .int 0, .int 0, .ref morder, .ref misReached, .ref mqueue]))]) hD hS hA [0] rfl
                refine va_callv (va_runV (As := []) (rest := []) ⟨hx, hb, hml, hown, hts⟩ (c_X4_breaks (l := l) (D := D) (h := h) (mcells := mcells) (mcounters := mcounters) (mfloors := mfloors) (mlimits := mlimits) (mlongs := mlongs) (msteps := msteps) (mprogram := mprogram) (mkind := mkind) (mrank := mrank) (mstate := mstate) (mactLong := mactLong) (mactSteps := mactSteps) (mat := mat) (mregister := mregister) (misHeld := misHeld) (mdoneIn := mdoneIn) (mundone := mundone) (mby := mby) (mbegunIn := mbegunIn) (misVoid := misVoid) (misAgain := misAgain) (mholds := mholds) (mwrites := mwrites) (mgives := mgives) (mbelow := mbelow) (mqueued := mqueued) (mqueuedMany := mqueuedMany) (mdone := mdone) (mlog := mlog) (morder := morder) (misReached := misReached) (mqueue := mqueue) (nw := nw) ) (cwV 0 hts gX4_go_X4_breaks rfl rfl rfl (by decide +kernel) ⟨Nat.le_of_ble_eq_true rfl, Nat.le_of_ble_eq_true rfl⟩) ⟨k_blind, va_recv hKc hPc (ci := 4) (q0 := 0) rfl rfl, fun U hU hW => ⟨rfl, k_pre hU hW hPc hKc hDc⟩⟩ rfl rfl hl.1 rfl (lv_room (Nat.le_of_ble_eq_true rfl)) dX4_go_63 ⟨by decide, by decide⟩) hS (fun q _ h => hFc q h) hFc (fun u t H1 locs ht hvm hw hB hz1 hk1 hS => ?_)
                refine W.widen (k := 0) (n := 0) (Nat.le_refl _) (Nat.le_refl _) ?_
                obtain ⟨rfl⟩ := hw
                obtain ⟨hP1, hK1, hD1⟩ := hB
                rw [ht] at hP1
                have hK1 := va_K.moved hvm.symm hK1
                obtain ⟨hP, hD⟩ := va_join (wr := []) (w1 := [(h, .inr (4, [.int nw, .ref mcells, .ref mcounters, .ref mfloors, .ref mlimits, .ref mlongs, .ref msteps, .int 0, .ref mprogram, .ref mkind, .ref mrank, .ref mstate, .ref mactLong, .ref mactSteps, .ref mat, .ref mregister, .ref misHeld, .ref mdoneIn, .ref mundone, .ref mby, .ref mbegunIn, .ref misVoid, .ref misAgain, .ref mholds, .ref mwrites, .ref mgives, .ref mbelow, .ref mqueued, .ref mqueuedMany, .int 0, .ref mdone, .int 0, .int 0, .ref mlog, .int 0, .int 0, .ref morder, .ref misReached, .ref mqueue]))]) hP hD [0] [] rfl rfl (by decide) (by decide) hk1 hFc hP1 hD1
                generalize H1 = H at hP hS ⊢
                have hP : va_P D vwCl [(h, .inr (4, [.int nw, .ref mcells, .ref mcounters, .ref mfloors, .ref mlimits, .ref mlongs, .ref msteps, .int 0, .ref mprogram, .ref mkind, .ref mrank, .ref mstate, .ref mactLong, .ref mactSteps, .ref mat, .ref mregister, .ref misHeld, .ref mdoneIn, .ref mundone, .ref mby, .ref mbegunIn, .ref misVoid, .ref misAgain, .ref mholds, .ref mwrites, .ref mgives, .ref mbelow, .ref mqueued, .ref mqueuedMany, .int 0, .ref mdone, .int 0, .int 0, .ref mlog, .int 0, .int 0, .ref morder, .ref misReached, .ref mqueue]))] H := hP
                have hD : va_D A [(h, .inr (4, [.int nw, .ref mcells, .ref mcounters, .ref mfloors, .ref mlimits, .ref mlongs, .ref msteps, .int 0, .ref mprogram, .ref mkind, .ref mrank, .ref mstate, .ref mactLong, .ref mactSteps, .ref mat, .ref mregister, .ref misHeld, .ref mdoneIn, .ref mundone, .ref mby, .ref mbegunIn, .ref misVoid, .ref misAgain, .ref mholds, .ref mwrites, .ref mgives, .ref mbelow, .ref mqueued, .ref mqueuedMany, .int 0, .ref mdone, .int 0, .int 0, .ref mlog, .int 0, .int 0, .ref morder, .ref misReached, .ref mqueue]))] := hD
                refine lv_aload_n hx hb dX4_go_66 rfl (lv_at hl 3 rfl) ?_
                have hPc := hP.sub (ws' := [(h, .inr (4, [.int nw, .ref mcells, .ref mcounters, .ref mfloors, .ref mlimits, .ref mlongs, .ref msteps, .int 0, .ref mprogram, .ref mkind, .ref mrank, .ref mstate, .ref mactLong, .ref mactSteps, .ref mat, .ref mregister, .ref misHeld, .ref mdoneIn, .ref mundone, .ref mby, .ref mbegunIn, .ref misVoid, .ref misAgain, .ref mholds, .ref mwrites, .ref mgives, .ref mbelow, .ref mqueued, .ref mqueuedMany, .int 0, .ref mdone, .int 0, .int 0, .ref mlog, .int 0, .int 0, .ref morder, .ref misReached, .ref mqueue]))]) [0] rfl
                have hDc := hD.sub (ws' := [(h, .inr (4, [.int nw, .ref mcells, .ref mcounters, .ref mfloors, .ref mlimits, .ref mlongs, .ref msteps, .int 0, .ref mprogram, .ref mkind, .ref mrank, .ref mstate, .ref mactLong, .ref mactSteps, .ref mat, .ref mregister, .ref misHeld, .ref mdoneIn, .ref mundone, .ref mby, .ref mbegunIn, .ref misVoid, .ref misAgain, .ref mholds, .ref mwrites, .ref mgives, .ref mbelow, .ref mqueued, .ref mqueuedMany, .int 0, .ref mdone, .int 0, .int 0, .ref mlog, .int 0, .int 0, .ref morder, .ref misReached, .ref mqueue]))]) [0] (by decide) rfl
                have hKc := hK.sub (tys' := []) [] rfl
                have hFc := va_free (wc := [(h, .inr (4, [.int nw, .ref mcells, .ref mcounters, .ref mfloors, .ref mlimits, .ref mlongs, .ref msteps, .int 0, .ref mprogram, .ref mkind, .ref mrank, .ref mstate, .ref mactLong, .ref mactSteps, .ref mat, .ref mregister, .ref misHeld, .ref mdoneIn, .ref mundone, .ref mby, .ref mbegunIn, .ref misVoid, .ref misAgain, .ref mholds, .ref mwrites, .ref mgives, .ref mbelow, .ref mqueued, .ref mqueuedMany, .int 0, .ref mdone, .int 0, .int 0, .ref mlog, .int 0, .int 0, .ref morder, .ref misReached, .ref mqueue]))]) hD hS hA [0] rfl
                refine va_callv (va_runV (As := []) (rest := []) ⟨hx, hb, hml, hown, hts⟩ (c_X4_begins (l := l) (D := D) (h := h) (mcells := mcells) (mcounters := mcounters) (mfloors := mfloors) (mlimits := mlimits) (mlongs := mlongs) (msteps := msteps) (mprogram := mprogram) (mkind := mkind) (mrank := mrank) (mstate := mstate) (mactLong := mactLong) (mactSteps := mactSteps) (mat := mat) (mregister := mregister) (misHeld := misHeld) (mdoneIn := mdoneIn) (mundone := mundone) (mby := mby) (mbegunIn := mbegunIn) (misVoid := misVoid) (misAgain := misAgain) (mholds := mholds) (mwrites := mwrites) (mgives := mgives) (mbelow := mbelow) (mqueued := mqueued) (mqueuedMany := mqueuedMany) (mdone := mdone) (mlog := mlog) (morder := morder) (misReached := misReached) (mqueue := mqueue) (nw := nw) ) (cwV 0 hts gX4_go_X4_begins rfl rfl rfl (by decide +kernel) ⟨Nat.le_of_ble_eq_true rfl, Nat.le_of_ble_eq_true rfl⟩) ⟨k_blind, va_recv hKc hPc (ci := 4) (q0 := 0) rfl rfl, fun U hU hW => ⟨rfl, k_pre hU hW hPc hKc hDc⟩⟩ rfl rfl hl.1 rfl (lv_room (Nat.le_of_ble_eq_true rfl)) dX4_go_67 ⟨by decide, by decide⟩) hS (fun q _ h => hFc q h) hFc (fun u t H1 locs ht hvm hw hB hz1 hk1 hS => ?_)
                refine W.widen (k := 0) (n := 0) (Nat.le_refl _) (Nat.le_refl _) ?_
                obtain ⟨rfl⟩ := hw
                obtain ⟨hP1, hK1, hD1⟩ := hB
                rw [ht] at hP1
                have hK1 := va_K.moved hvm.symm hK1
                obtain ⟨hP, hD⟩ := va_join (wr := []) (w1 := [(h, .inr (4, [.int nw, .ref mcells, .ref mcounters, .ref mfloors, .ref mlimits, .ref mlongs, .ref msteps, .int 0, .ref mprogram, .ref mkind, .ref mrank, .ref mstate, .ref mactLong, .ref mactSteps, .ref mat, .ref mregister, .ref misHeld, .ref mdoneIn, .ref mundone, .ref mby, .ref mbegunIn, .ref misVoid, .ref misAgain, .ref mholds, .ref mwrites, .ref mgives, .ref mbelow, .ref mqueued, .ref mqueuedMany, .int 0, .ref mdone, .int 0, .int 0, .ref mlog, .int 0, .int 0, .ref morder, .ref misReached, .ref mqueue]))]) hP hD [0] [] rfl rfl (by decide) (by decide) hk1 hFc hP1 hD1
                generalize H1 = H at hP hS ⊢
                have hP : va_P D vwCl [(h, .inr (4, [.int nw, .ref mcells, .ref mcounters, .ref mfloors, .ref mlimits, .ref mlongs, .ref msteps, .int 0, .ref mprogram, .ref mkind, .ref mrank, .ref mstate, .ref mactLong, .ref mactSteps, .ref mat, .ref mregister, .ref misHeld, .ref mdoneIn, .ref mundone, .ref mby, .ref mbegunIn, .ref misVoid, .ref misAgain, .ref mholds, .ref mwrites, .ref mgives, .ref mbelow, .ref mqueued, .ref mqueuedMany, .int 0, .ref mdone, .int 0, .int 0, .ref mlog, .int 0, .int 0, .ref morder, .ref misReached, .ref mqueue]))] H := hP
                have hD : va_D A [(h, .inr (4, [.int nw, .ref mcells, .ref mcounters, .ref mfloors, .ref mlimits, .ref mlongs, .ref msteps, .int 0, .ref mprogram, .ref mkind, .ref mrank, .ref mstate, .ref mactLong, .ref mactSteps, .ref mat, .ref mregister, .ref misHeld, .ref mdoneIn, .ref mundone, .ref mby, .ref mbegunIn, .ref misVoid, .ref misAgain, .ref mholds, .ref mwrites, .ref mgives, .ref mbelow, .ref mqueued, .ref mqueuedMany, .int 0, .ref mdone, .int 0, .int 0, .ref mlog, .int 0, .int 0, .ref morder, .ref misReached, .ref mqueue]))] := hD
                refine lv_aload_n hx hb dX4_go_70 rfl (lv_at hl 3 rfl) ?_
                refine va_get (D := D) (ci := 4) (v := .int nw) (C := RX4) (T := TX4) (N := 39) hx hb hts kin_X4_go_X4 hown hK hP 0 rfl rfl 0 (by decide) (hts _ kw_X4_go__fieldLink_RX4_130_ActHouseModel_now_I_) (fun _ h9 => h9) rfl dX4_go_71 ?_
                refine lv_iconst (v := 4) hx hb dX4_go_74 (by decide) ?_
                refine lv_irem hx hb dX4_go_75 (by decide) ?_
                refine lv_iconst (v := 3) hx hb dX4_go_76 (by decide) ?_
                refine lv_icmp_ne (tgt := 84) hx hb dX4_go_77 (by decide) (fun c10 => ?_) (fun c10 => ?_)
                · skip
                  have c10 := k_ne c10
                  have hl3 : (3 : Int32).toInt = 3 := by decide
                  refine lv_aload_n hx hb dX4_go_84 rfl (lv_at hl 3 rfl) ?_
                  refine lv_dup hx hb dX4_go_85 rfl ?_
                  refine va_get (D := D) (ci := 4) (v := .int nw) (C := RX4) (T := TX4) (N := 39) hx hb hts kin_X4_go_X4 hown hK hP 0 rfl rfl 0 (by decide) (hts _ kw_X4_go__fieldLink_RX4_130_ActHouseModel_now_I_) (fun _ h9 => h9) rfl dX4_go_86 ?_
                  refine lv_iconst (v := 1) hx hb dX4_go_89 (by decide) ?_
                  refine lv_iadd hx hb dX4_go_90 ?_
                  refine va_put (D := D) (ci := 4) (v := .int (nw + 1)) (ty := .int) (C := RX4) (T := TX4) (N := 39) hx hb hts kin_X4_go_X4 tyX4 tyX4_ok nmX4 hown hK hP hD hS 0 rfl rfl 0 (by decide) (hts _ kw_X4_go__fieldLink_RX4_130_ActHouseModel_now_I_) (fun _ h9 => h9) rfl (by decide +kernel) rfl rfl (Nat.le_of_ble_eq_true rfl) dX4_go_91 (fun H locs hP hD hS => ?_)
                  have hP : va_P D vwCl [(h, .inr (4, [.int (nw + 1), .ref mcells, .ref mcounters, .ref mfloors, .ref mlimits, .ref mlongs, .ref msteps, .int 0, .ref mprogram, .ref mkind, .ref mrank, .ref mstate, .ref mactLong, .ref mactSteps, .ref mat, .ref mregister, .ref misHeld, .ref mdoneIn, .ref mundone, .ref mby, .ref mbegunIn, .ref misVoid, .ref misAgain, .ref mholds, .ref mwrites, .ref mgives, .ref mbelow, .ref mqueued, .ref mqueuedMany, .int 0, .ref mdone, .int 0, .int 0, .ref mlog, .int 0, .int 0, .ref morder, .ref misReached, .ref mqueue]))] H := hP
                  have hD : va_D A [(h, .inr (4, [.int (nw + 1), .ref mcells, .ref mcounters, .ref mfloors, .ref mlimits, .ref mlongs, .ref msteps, .int 0, .ref mprogram, .ref mkind, .ref mrank, .ref mstate, .ref mactLong, .ref mactSteps, .ref mat, .ref mregister, .ref misHeld, .ref mdoneIn, .ref mundone, .ref mby, .ref mbegunIn, .ref misVoid, .ref misAgain, .ref mholds, .ref mwrites, .ref mgives, .ref mbelow, .ref mqueued, .ref mqueuedMany, .int 0, .ref mdone, .int 0, .int 0, .ref mlog, .int 0, .int 0, .ref morder, .ref misReached, .ref mqueue]))] := hD
                  refine lv_iinc (v := i + 1) (lv' := [(2, .int (i + 1)), (4, .int 0), (3, .int 0), (0, .ref h), (1, .int x)]) hx hb dX4_go_94 hl (k := 2) rfl (by rfl) (by decide) rfl (fun ls hl => ?_)
                  refine lv_goto (tgt := 15) hx hb dX4_go_97 (by decide) ?_
                  have e1 := k_inc (x := i) (by omega)
                  have e2 := k_inc (x := nw) (by omega)
                  exact ih (i + 1) (nw + 1) _ _ _ (by omega) (by omega) (by omega) (hP.sub [0] rfl) (hD.sub [0] (by decide) rfl) hS (lv_sub hl [0, 3, 4] rfl)
                · skip
                  have c10 := k_eq c10
                  have hl3 : (3 : Int32).toInt = 3 := by decide
                  refine lv_aload_n hx hb dX4_go_80 rfl (lv_at hl 3 rfl) ?_
                  have hPc := hP.sub (ws' := [(h, .inr (4, [.int nw, .ref mcells, .ref mcounters, .ref mfloors, .ref mlimits, .ref mlongs, .ref msteps, .int 0, .ref mprogram, .ref mkind, .ref mrank, .ref mstate, .ref mactLong, .ref mactSteps, .ref mat, .ref mregister, .ref misHeld, .ref mdoneIn, .ref mundone, .ref mby, .ref mbegunIn, .ref misVoid, .ref misAgain, .ref mholds, .ref mwrites, .ref mgives, .ref mbelow, .ref mqueued, .ref mqueuedMany, .int 0, .ref mdone, .int 0, .int 0, .ref mlog, .int 0, .int 0, .ref morder, .ref misReached, .ref mqueue]))]) [0] rfl
                  have hDc := hD.sub (ws' := [(h, .inr (4, [.int nw, .ref mcells, .ref mcounters, .ref mfloors, .ref mlimits, .ref mlongs, .ref msteps, .int 0, .ref mprogram, .ref mkind, .ref mrank, .ref mstate, .ref mactLong, .ref mactSteps, .ref mat, .ref mregister, .ref misHeld, .ref mdoneIn, .ref mundone, .ref mby, .ref mbegunIn, .ref misVoid, .ref misAgain, .ref mholds, .ref mwrites, .ref mgives, .ref mbelow, .ref mqueued, .ref mqueuedMany, .int 0, .ref mdone, .int 0, .int 0, .ref mlog, .int 0, .int 0, .ref morder, .ref misReached, .ref mqueue]))]) [0] (by decide) rfl
                  have hKc := hK.sub (tys' := []) [] rfl
                  have hFc := va_free (wc := [(h, .inr (4, [.int nw, .ref mcells, .ref mcounters, .ref mfloors, .ref mlimits, .ref mlongs, .ref msteps, .int 0, .ref mprogram, .ref mkind, .ref mrank, .ref mstate, .ref mactLong, .ref mactSteps, .ref mat, .ref mregister, .ref misHeld, .ref mdoneIn, .ref mundone, .ref mby, .ref mbegunIn, .ref misVoid, .ref misAgain, .ref mholds, .ref mwrites, .ref mgives, .ref mbelow, .ref mqueued, .ref mqueuedMany, .int 0, .ref mdone, .int 0, .int 0, .ref mlog, .int 0, .int 0, .ref morder, .ref misReached, .ref mqueue]))]) hD hS hA [0] rfl
                  refine va_callv (va_runV (As := []) (rest := []) ⟨hx, hb, hml, hown, hts⟩ (c_X4_keeps (l := l) (D := D) (h := h) (mcells := mcells) (mcounters := mcounters) (mfloors := mfloors) (mlimits := mlimits) (mlongs := mlongs) (msteps := msteps) (mprogram := mprogram) (mkind := mkind) (mrank := mrank) (mstate := mstate) (mactLong := mactLong) (mactSteps := mactSteps) (mat := mat) (mregister := mregister) (misHeld := misHeld) (mdoneIn := mdoneIn) (mundone := mundone) (mby := mby) (mbegunIn := mbegunIn) (misVoid := misVoid) (misAgain := misAgain) (mholds := mholds) (mwrites := mwrites) (mgives := mgives) (mbelow := mbelow) (mqueued := mqueued) (mqueuedMany := mqueuedMany) (mdone := mdone) (mlog := mlog) (morder := morder) (misReached := misReached) (mqueue := mqueue) (nw := nw) (fa := 0) ) (cwV 0 hts gX4_go_X4_keeps rfl rfl rfl (by decide +kernel) ⟨Nat.le_of_ble_eq_true rfl, Nat.le_of_ble_eq_true rfl⟩) ⟨k_blind, va_recv hKc hPc (ci := 4) (q0 := 0) rfl rfl, fun U hU hW => ⟨rfl, k_pre hU hW hPc hKc hDc⟩⟩ rfl rfl hl.1 rfl (lv_room (Nat.le_of_ble_eq_true rfl)) dX4_go_81 ⟨by decide, by decide⟩) hS (fun q _ h => hFc q h) hFc (fun u t H1 locs ht hvm hw hB hz1 hk1 hS => ?_)
                  refine W.widen (k := 0) (n := 0) (Nat.le_refl _) (Nat.le_refl _) ?_
                  obtain ⟨rfl⟩ := hw
                  obtain ⟨hP1, hK1, hD1⟩ := hB
                  rw [ht] at hP1
                  have hK1 := va_K.moved hvm.symm hK1
                  obtain ⟨hP, hD⟩ := va_join (wr := []) (w1 := [(h, .inr (4, [.int nw, .ref mcells, .ref mcounters, .ref mfloors, .ref mlimits, .ref mlongs, .ref msteps, .int 0, .ref mprogram, .ref mkind, .ref mrank, .ref mstate, .ref mactLong, .ref mactSteps, .ref mat, .ref mregister, .ref misHeld, .ref mdoneIn, .ref mundone, .ref mby, .ref mbegunIn, .ref misVoid, .ref misAgain, .ref mholds, .ref mwrites, .ref mgives, .ref mbelow, .ref mqueued, .ref mqueuedMany, .int 0, .ref mdone, .int 0, .int 0, .ref mlog, .int 0, .int 0, .ref morder, .ref misReached, .ref mqueue]))]) hP hD [0] [] rfl rfl (by decide) (by decide) hk1 hFc hP1 hD1
                  generalize H1 = H at hP hS ⊢
                  have hP : va_P D vwCl [(h, .inr (4, [.int nw, .ref mcells, .ref mcounters, .ref mfloors, .ref mlimits, .ref mlongs, .ref msteps, .int 0, .ref mprogram, .ref mkind, .ref mrank, .ref mstate, .ref mactLong, .ref mactSteps, .ref mat, .ref mregister, .ref misHeld, .ref mdoneIn, .ref mundone, .ref mby, .ref mbegunIn, .ref misVoid, .ref misAgain, .ref mholds, .ref mwrites, .ref mgives, .ref mbelow, .ref mqueued, .ref mqueuedMany, .int 0, .ref mdone, .int 0, .int 0, .ref mlog, .int 0, .int 0, .ref morder, .ref misReached, .ref mqueue]))] H := hP
                  have hD : va_D A [(h, .inr (4, [.int nw, .ref mcells, .ref mcounters, .ref mfloors, .ref mlimits, .ref mlongs, .ref msteps, .int 0, .ref mprogram, .ref mkind, .ref mrank, .ref mstate, .ref mactLong, .ref mactSteps, .ref mat, .ref mregister, .ref misHeld, .ref mdoneIn, .ref mundone, .ref mby, .ref mbegunIn, .ref misVoid, .ref misAgain, .ref mholds, .ref mwrites, .ref mgives, .ref mbelow, .ref mqueued, .ref mqueuedMany, .int 0, .ref mdone, .int 0, .int 0, .ref mlog, .int 0, .int 0, .ref morder, .ref misReached, .ref mqueue]))] := hD
                  refine lv_aload_n hx hb dX4_go_84 rfl (lv_at hl 3 rfl) ?_
                  refine lv_dup hx hb dX4_go_85 rfl ?_
                  refine va_get (D := D) (ci := 4) (v := .int nw) (C := RX4) (T := TX4) (N := 39) hx hb hts kin_X4_go_X4 hown hK hP 0 rfl rfl 0 (by decide) (hts _ kw_X4_go__fieldLink_RX4_130_ActHouseModel_now_I_) (fun _ h9 => h9) rfl dX4_go_86 ?_
                  refine lv_iconst (v := 1) hx hb dX4_go_89 (by decide) ?_
                  refine lv_iadd hx hb dX4_go_90 ?_
                  refine va_put (D := D) (ci := 4) (v := .int (nw + 1)) (ty := .int) (C := RX4) (T := TX4) (N := 39) hx hb hts kin_X4_go_X4 tyX4 tyX4_ok nmX4 hown hK hP hD hS 0 rfl rfl 0 (by decide) (hts _ kw_X4_go__fieldLink_RX4_130_ActHouseModel_now_I_) (fun _ h9 => h9) rfl (by decide +kernel) rfl rfl (Nat.le_of_ble_eq_true rfl) dX4_go_91 (fun H locs hP hD hS => ?_)
                  have hP : va_P D vwCl [(h, .inr (4, [.int (nw + 1), .ref mcells, .ref mcounters, .ref mfloors, .ref mlimits, .ref mlongs, .ref msteps, .int 0, .ref mprogram, .ref mkind, .ref mrank, .ref mstate, .ref mactLong, .ref mactSteps, .ref mat, .ref mregister, .ref misHeld, .ref mdoneIn, .ref mundone, .ref mby, .ref mbegunIn, .ref misVoid, .ref misAgain, .ref mholds, .ref mwrites, .ref mgives, .ref mbelow, .ref mqueued, .ref mqueuedMany, .int 0, .ref mdone, .int 0, .int 0, .ref mlog, .int 0, .int 0, .ref morder, .ref misReached, .ref mqueue]))] H := hP
                  have hD : va_D A [(h, .inr (4, [.int (nw + 1), .ref mcells, .ref mcounters, .ref mfloors, .ref mlimits, .ref mlongs, .ref msteps, .int 0, .ref mprogram, .ref mkind, .ref mrank, .ref mstate, .ref mactLong, .ref mactSteps, .ref mat, .ref mregister, .ref misHeld, .ref mdoneIn, .ref mundone, .ref mby, .ref mbegunIn, .ref misVoid, .ref misAgain, .ref mholds, .ref mwrites, .ref mgives, .ref mbelow, .ref mqueued, .ref mqueuedMany, .int 0, .ref mdone, .int 0, .int 0, .ref mlog, .int 0, .int 0, .ref morder, .ref misReached, .ref mqueue]))] := hD
                  refine lv_iinc (v := i + 1) (lv' := [(2, .int (i + 1)), (4, .int 0), (3, .int 0), (0, .ref h), (1, .int x)]) hx hb dX4_go_94 hl (k := 2) rfl (by rfl) (by decide) rfl (fun ls hl => ?_)
                  refine lv_goto (tgt := 15) hx hb dX4_go_97 (by decide) ?_
                  have e1 := k_inc (x := i) (by omega)
                  have e2 := k_inc (x := nw) (by omega)
                  exact ih (i + 1) (nw + 1) _ _ _ (by omega) (by omega) (by omega) (hP.sub [0] rfl) (hD.sub [0] (by decide) rfl) hS (lv_sub hl [0, 3, 4] rfl)
              · skip
                exact absurd c7 (by decide)
      exact loop x.toInt.toNat 0 0 _ _ _ (by decide) (by rw [show (0 : Int32).toInt = 0 from by decide]; omega) (by rfl) (hP.sub [0] rfl) (hD.sub [0] (by decide) rfl) hS (lv_sub hl [0, 1, 2] rfl)
    · skip
      exact absurd c2 (by decide)
  · skip
    obtain ⟨hP1, hK1, hD1⟩ := hB
    rw [ht] at hP1
    have hK1 := va_K.moved hvm.symm hK1
    obtain ⟨hP, hD⟩ := va_join (wr := [(h, .inr (4, [.int 0, .ref mcells, .ref mcounters, .ref mfloors, .ref mlimits, .ref mlongs, .ref msteps, .int 0, .ref mprogram, .ref mkind, .ref mrank, .ref mstate, .ref mactLong, .ref mactSteps, .ref mat, .ref mregister, .ref misHeld, .ref mdoneIn, .ref mundone, .ref mby, .ref mbegunIn, .ref misVoid, .ref misAgain, .ref mholds, .ref mwrites, .ref mgives, .ref mbelow, .ref mqueued, .ref mqueuedMany, .int 0, .ref mdone, .int 0, .int 0, .ref mlog, .int 0, .int 0, .ref morder, .ref misReached, .ref mqueue]))]) (w1 := []) hP hD [] [0] rfl rfl (by decide) (by decide) hk1 hFc hP1 hD1
    generalize H1 = H at hP hS ⊢
    have hP : va_P D vwCl [(h, .inr (4, [.int 0, .ref mcells, .ref mcounters, .ref mfloors, .ref mlimits, .ref mlongs, .ref msteps, .int 0, .ref mprogram, .ref mkind, .ref mrank, .ref mstate, .ref mactLong, .ref mactSteps, .ref mat, .ref mregister, .ref misHeld, .ref mdoneIn, .ref mundone, .ref mby, .ref mbegunIn, .ref misVoid, .ref misAgain, .ref mholds, .ref mwrites, .ref mgives, .ref mbelow, .ref mqueued, .ref mqueuedMany, .int 0, .ref mdone, .int 0, .int 0, .ref mlog, .int 0, .int 0, .ref morder, .ref misReached, .ref mqueue]))] H := hP
    have hD : va_D A [(h, .inr (4, [.int 0, .ref mcells, .ref mcounters, .ref mfloors, .ref mlimits, .ref mlongs, .ref msteps, .int 0, .ref mprogram, .ref mkind, .ref mrank, .ref mstate, .ref mactLong, .ref mactSteps, .ref mat, .ref mregister, .ref misHeld, .ref mdoneIn, .ref mundone, .ref mby, .ref mbegunIn, .ref misVoid, .ref misAgain, .ref mholds, .ref mwrites, .ref mgives, .ref mbelow, .ref mqueued, .ref mqueuedMany, .int 0, .ref mdone, .int 0, .int 0, .ref mlog, .int 0, .int 0, .ref morder, .ref misReached, .ref mqueue]))] := hD
    refine lv_if_ne (tgt := 13) hx hb dX4_go_8 (by decide) (fun c12 => ?_) (fun c12 => ?_)
    · skip
      exact absurd c12 (by decide)
    · skip
      refine lv_iconst (v := (-1)) hx hb dX4_go_11 (by decide) ?_
      subst hQ
      have hP := hP.sub (ws' := []) [] rfl
      have hD := hD.sub (ws' := []) [] (by decide) rfl
      have hK := hK.sub (tys' := []) [] rfl
      refine W.widen (k := 0) (n := 0) (by decide) (by decide) ?_
      exact W.iret (v := (-1)) hx hb hr (fun t ht hW => ⟨⟨(-1), ([], []), rfl, Or.inl ⟨rfl, rfl, (by omega)⟩, ⟨by rw [ht]; exact hP, va_K.moved hW.alike hK, hD⟩⟩, hS.F ht⟩) hS.2.2 dX4_go_12
set_option maxRecDepth 100000 in
theorem kw_X4_fall__fieldLink_RX4_127_ActHouseModel_entries_I_ : (.fieldLink RX4 127 "ActHouseModel" "entries" "I" : Cond) ∈ wsX4_fall := by decide +kernel
set_option maxRecDepth 100000 in
theorem kin_X4_fall_X4 : ∀ w ∈ u_ws RX4 TX4 39, w ∈ wsX4_fall := by decide +kernel
set_option maxRecDepth 100000 in
theorem kw_X4_fall__fieldLink_RX4_190_ActHouseModel_kept_I_ : (.fieldLink RX4 190 "ActHouseModel" "kept" "I" : Cond) ∈ wsX4_fall := by decide +kernel
set_option maxRecDepth 100000 in
theorem kw_X4_fall__fieldLink_RX4_111_ActHouseModel_acts_I_ : (.fieldLink RX4 111 "ActHouseModel" "acts" "I" : Cond) ∈ wsX4_fall := by decide +kernel
set_option maxRecDepth 100000 in
theorem kw_X4_fall__fieldLink_RX4_168_ActHouseModel_dones_I_ : (.fieldLink RX4 168 "ActHouseModel" "dones" "I" : Cond) ∈ wsX4_fall := by decide +kernel
set_option maxRecDepth 100000 in
theorem kw_X4_fall__fieldLink_RX4_205_ActHouseModel_falls_I_ : (.fieldLink RX4 205 "ActHouseModel" "falls" "I" : Cond) ∈ wsX4_fall := by decide +kernel
set_option maxRecDepth 100000 in
theorem kw_X4_fall__fieldLink_RX4_13_ActHouseModel_counters_I_ : (.fieldLink RX4 13 "ActHouseModel" "counters" "[I" : Cond) ∈ wsX4_fall := by decide +kernel
set_option maxRecDepth 100000 in
theorem kw_X4_fall__fieldLink_RX4_9_ActHouseModel_cells_I_ : (.fieldLink RX4 9 "ActHouseModel" "cells" "[I" : Cond) ∈ wsX4_fall := by decide +kernel
set_option maxHeartbeats 4000000 in
set_option maxRecDepth 100000 in
theorem c_X4_fall {l : Launch} {D : va_G} {sz : Nat} {h : Nat} {mcells : Nat} {mcounters : Nat} {mfloors : Nat} {mlimits : Nat} {mlongs : Nat} {msteps : Nat} {mprogram : Nat} {mkind : Nat} {mrank : Nat} {mstate : Nat} {mactLong : Nat} {mactSteps : Nat} {mat : Nat} {mregister : Nat} {misHeld : Nat} {mdoneIn : Nat} {mundone : Nat} {mby : Nat} {mbegunIn : Nat} {misVoid : Nat} {misAgain : Nat} {mholds : Nat} {mwrites : Nat} {mgives : Nat} {mbelow : Nat} {mqueued : Nat} {mqueuedMany : Nat} {mdone : Nat} {mlog : Nat} {morder : Nat} {misReached : Nat} {mqueue : Nat} {x : Int32} {cI : ClassId}  : Met l yX4_fall wsX4_fall ({ frames := 1, cells := 0, slots := 0, locals := 21 }) (va_Pc [.ref h, .int x] (k_Pre D [(cI, .int)] [(h, .inr (4, [.int 0, .ref mcells, .ref mcounters, .ref mfloors, .ref mlimits, .ref mlongs, .ref msteps, .int 0, .ref mprogram, .ref mkind, .ref mrank, .ref mstate, .ref mactLong, .ref mactSteps, .ref mat, .ref mregister, .ref misHeld, .ref mdoneIn, .ref mundone, .ref mby, .ref mbegunIn, .ref misVoid, .ref misAgain, .ref mholds, .ref mwrites, .ref mgives, .ref mbelow, .ref mqueued, .ref mqueuedMany, .int 0, .ref mdone, .int 0, .int 0, .ref mlog, .int 0, .int 0, .ref morder, .ref misReached, .ref mqueue])), (mcells, .inl (cI, 24, .inl (fun _ => 0))), (mcounters, .inl (cI, 8, .inl (fun _ => 0)))] sz)) (va_Qi (fun (r : Int32) (u : va_W × List (ClassId × FieldType)) => (r = 0 ∧ u = ([], [(cI, .int)]) ∧ x.toInt = 0) ∨ (r = (-1) ∧ u = ([], [(cI, .int)]) ∧ (x.toInt < 0 ∨ 0 < x.toInt))) (k_B D (va_A [(h, .inr (4, [.int 0, .ref mcells, .ref mcounters, .ref mfloors, .ref mlimits, .ref mlongs, .ref msteps, .int 0, .ref mprogram, .ref mkind, .ref mrank, .ref mstate, .ref mactLong, .ref mactSteps, .ref mat, .ref mregister, .ref misHeld, .ref mdoneIn, .ref mundone, .ref mby, .ref mbegunIn, .ref misVoid, .ref misAgain, .ref mholds, .ref mwrites, .ref mgives, .ref mbelow, .ref mqueued, .ref mqueuedMany, .int 0, .ref mdone, .int 0, .int 0, .ref mlog, .int 0, .int 0, .ref morder, .ref misReached, .ref mqueue])), (mcells, .inl (cI, 24, .inl (fun _ => 0))), (mcounters, .inl (cI, 8, .inl (fun _ => 0)))] sz)) (va_A [(h, .inr (4, [.int 0, .ref mcells, .ref mcounters, .ref mfloors, .ref mlimits, .ref mlongs, .ref msteps, .int 0, .ref mprogram, .ref mkind, .ref mrank, .ref mstate, .ref mactLong, .ref mactSteps, .ref mat, .ref mregister, .ref misHeld, .ref mdoneIn, .ref mundone, .ref mby, .ref mbegunIn, .ref misVoid, .ref misAgain, .ref mholds, .ref mwrites, .ref mgives, .ref mbelow, .ref mqueued, .ref mqueuedMany, .int 0, .ref mdone, .int 0, .int 0, .ref mlog, .int 0, .int 0, .ref morder, .ref misReached, .ref mqueue])), (mcells, .inl (cI, 24, .inl (fun _ => 0))), (mcounters, .inl (cI, 8, .inl (fun _ => 0)))] sz)) 0 0 (va_A [(h, .inr (4, [.int 0, .ref mcells, .ref mcounters, .ref mfloors, .ref mlimits, .ref mlongs, .ref msteps, .int 0, .ref mprogram, .ref mkind, .ref mrank, .ref mstate, .ref mactLong, .ref mactSteps, .ref mat, .ref mregister, .ref misHeld, .ref mdoneIn, .ref mundone, .ref mby, .ref mbegunIn, .ref misVoid, .ref misAgain, .ref mholds, .ref mwrites, .ref mgives, .ref mbelow, .ref mqueued, .ref mqueuedMany, .int 0, .ref mdone, .int 0, .int 0, .ref mlog, .int 0, .int 0, .ref morder, .ref misReached, .ref mqueue])), (mcells, .inl (cI, 24, .inl (fun _ => 0))), (mcounters, .inl (cI, 8, .inl (fun _ => 0)))] sz) := by
  refine Met.ofW (cc := cX4_fall) (maxL := 8) (ret := (some .int)) (by decide) rfl ?_
  intro p e s m args below meth c s₁ B hml hv
  obtain ⟨rfl, hsz, hP, hK, hD0⟩ := hv
  have hx := B.exec
  have hb := B.bytes
  have hr := B.returns
  have hts := atoms_spec (ws := wsX4_fall) B.pre
  have hown : s.vm.findClass RX4 = some m.cls := findClass_of_methodNamed B.named
  have hlocks := B.notSynchronized
  subst hsz
  have hD := hD0.self (sz := s.heap.size)
  generalize hAe : va_A [(h, .inr (4, [.int 0, .ref mcells, .ref mcounters, .ref mfloors, .ref mlimits, .ref mlongs, .ref msteps, .int 0, .ref mprogram, .ref mkind, .ref mrank, .ref mstate, .ref mactLong, .ref mactSteps, .ref mat, .ref mregister, .ref misHeld, .ref mdoneIn, .ref mundone, .ref mby, .ref mbegunIn, .ref misVoid, .ref misAgain, .ref mholds, .ref mwrites, .ref mgives, .ref mbelow, .ref mqueued, .ref mqueuedMany, .int 0, .ref mdone, .int 0, .int 0, .ref mlog, .int 0, .int 0, .ref morder, .ref misReached, .ref mqueue])), (mcells, .inl (cI, 24, .inl (fun _ => 0))), (mcounters, .inl (cI, 8, .inl (fun _ => 0)))] s.heap.size = A at hD ⊢
  have hA : ∀ q : Nat, s.heap.size ≤ q → A q := fun q h => by rw [← hAe]; exact Or.inr h
  have hS : va_S A s.heap s.heap [] := va_S.rf
  have hl := lv_entry ([.ref h, .int x]) (n := 8) (Nat.le_of_ble_eq_true rfl)
  rw [lg_entry_eq]
  generalize (lg_sl ([.ref h, .int x]) ++ List.replicate (8 - (lg_sl ([.ref h, .int x])).length) Slot.unset).toArray = ls at hl ⊢
  have hl : lv_has ls 8 [(0, .ref h), (1, .int x)] := hl
  refine k_Q (fun Q hQ => ?_)
  refine lv_iload_n hx hb dX4_fall_0 rfl (lv_at hl 1 rfl) ?_
  refine lv_if_lt (tgt := 17) hx hb dX4_fall_1 (by decide) (fun c1 => ?_) (fun c1 => ?_)
  · skip
    have c1 := k_lt c1
    have hl0 : (0 : Int32).toInt = 0 := by decide
    refine lv_iconst (v := (-1)) hx hb dX4_fall_17 (by decide) ?_
    subst hQ
    have hP := hP.sub (ws' := []) [] rfl
    have hD := hD.sub (ws' := []) [] (by decide) rfl
    have hK := hK.sub (tys' := [(cI, .int)]) [0] rfl
    refine W.widen (k := 0) (n := 0) (by decide) (by decide) ?_
    exact W.iret (v := (-1)) hx hb hr (fun t ht hW => ⟨⟨(-1), ([], [(cI, .int)]), rfl, Or.inr (⟨rfl, rfl, (by omega)⟩), ⟨by rw [ht]; exact hP, va_K.moved hW.alike hK, hD⟩⟩, hS.F ht⟩) hS.2.2 dX4_fall_18
  · skip
    have c1 := k_nlt c1
    have hl0 : (0 : Int32).toInt = 0 := by decide
    refine lv_iload_n hx hb dX4_fall_4 rfl (lv_at hl 1 rfl) ?_
    refine lv_aload_n hx hb dX4_fall_5 rfl (lv_at hl 0 rfl) ?_
    refine va_get (D := D) (ci := 4) (v := .int 0) (C := RX4) (T := TX4) (N := 39) hx hb hts kin_X4_fall_X4 hown hK hP 0 rfl rfl 31 (by decide) (hts _ kw_X4_fall__fieldLink_RX4_127_ActHouseModel_entries_I_) (fun _ h9 => h9) rfl dX4_fall_6 ?_
    refine lv_aload_n hx hb dX4_fall_9 rfl (lv_at hl 0 rfl) ?_
    refine va_get (D := D) (ci := 4) (v := .int 0) (C := RX4) (T := TX4) (N := 39) hx hb hts kin_X4_fall_X4 hown hK hP 0 rfl rfl 32 (by decide) (hts _ kw_X4_fall__fieldLink_RX4_190_ActHouseModel_kept_I_) (fun _ h9 => h9) rfl dX4_fall_10 ?_
    refine lv_isub hx hb dX4_fall_13 ?_
    refine W.eq (g2 := F0 m 14 ls [.int 0, .int x]) (by first | rfl | (congr 2; decide)) ?_
    refine lv_icmp_le (tgt := 19) hx hb dX4_fall_14 (by decide) (fun c2 => ?_) (fun c2 => ?_)
    · skip
      have c2 := k_le c2
      have hl0 : (0 : Int32).toInt = 0 := by decide
      obtain rfl := k_zero (x := x) (by omega)
      refine lv_aload_n hx hb dX4_fall_19 rfl (lv_at hl 0 rfl) ?_
      refine va_get (D := D) (ci := 4) (v := .int 0) (C := RX4) (T := TX4) (N := 39) hx hb hts kin_X4_fall_X4 hown hK hP 0 rfl rfl 32 (by decide) (hts _ kw_X4_fall__fieldLink_RX4_190_ActHouseModel_kept_I_) (fun _ h9 => h9) rfl dX4_fall_20 ?_
      refine lv_iload_n hx hb dX4_fall_23 rfl (lv_at hl 1 rfl) ?_
      refine lv_iadd hx hb dX4_fall_24 ?_
      refine W.eq (g2 := F0 m 25 ls [.int 0]) (by first | rfl | (congr 2; decide)) ?_
      refine lv_istore_n (lv' := [(2, .int 0), (0, .ref h), (1, .int 0)]) hx hb dX4_fall_25 rfl hl (by decide) rfl (fun ls hl => ?_)
      refine lv_iconst (v := 0) hx hb dX4_fall_26 (by decide) ?_
      refine lv_istore_n (lv' := [(3, .int 0), (2, .int 0), (0, .ref h), (1, .int 0)]) hx hb dX4_fall_27 rfl hl (by decide) rfl (fun ls hl => ?_)
      refine lv_iconst (v := 0) hx hb dX4_fall_28 (by decide) ?_
      refine lv_istore (lv' := [(4, .int 0), (3, .int 0), (2, .int 0), (0, .ref h), (1, .int 0)]) hx hb dX4_fall_29 hl (by decide) rfl (fun ls hl => ?_)
      refine lv_iload hx hb dX4_fall_31 (lv_at hl 0 rfl) ?_
      refine lv_aload_n hx hb dX4_fall_33 rfl (lv_at hl 3 rfl) ?_
      refine va_get (D := D) (ci := 4) (v := .int 0) (C := RX4) (T := TX4) (N := 39) hx hb hts kin_X4_fall_X4 hown hK hP 0 rfl rfl 7 (by decide) (hts _ kw_X4_fall__fieldLink_RX4_111_ActHouseModel_acts_I_) (fun _ h9 => h9) rfl dX4_fall_34 ?_
      refine lv_icmp_ge (tgt := 90) hx hb dX4_fall_37 (by decide) (fun c3 => ?_) (fun c3 => ?_)
      · skip
        refine lv_iload_n hx hb dX4_fall_90 rfl (lv_at hl 2 rfl) ?_
        refine lv_istore (lv' := [(4, .int 0), (3, .int 0), (2, .int 0), (0, .ref h), (1, .int 0)]) hx hb dX4_fall_91 hl (by decide) rfl (fun ls hl => ?_)
        refine lv_iload hx hb dX4_fall_93 (lv_at hl 0 rfl) ?_
        refine lv_aload_n hx hb dX4_fall_95 rfl (lv_at hl 3 rfl) ?_
        refine va_get (D := D) (ci := 4) (v := .int 0) (C := RX4) (T := TX4) (N := 39) hx hb hts kin_X4_fall_X4 hown hK hP 0 rfl rfl 31 (by decide) (hts _ kw_X4_fall__fieldLink_RX4_127_ActHouseModel_entries_I_) (fun _ h9 => h9) rfl dX4_fall_96 ?_
        refine lv_icmp_ge (tgt := 283) hx hb dX4_fall_99 (by decide) (fun c4 => ?_) (fun c4 => ?_)
        · skip
          refine lv_aload_n hx hb dX4_fall_283 rfl (lv_at hl 3 rfl) ?_
          refine lv_iload_n hx hb dX4_fall_284 rfl (lv_at hl 2 rfl) ?_
          refine va_put (D := D) (ci := 4) (v := .int 0) (ty := .int) (C := RX4) (T := TX4) (N := 39) hx hb hts kin_X4_fall_X4 tyX4 tyX4_ok nmX4 hown hK hP hD hS 0 rfl rfl 31 (by decide) (hts _ kw_X4_fall__fieldLink_RX4_127_ActHouseModel_entries_I_) (fun _ h9 => h9) rfl (by decide +kernel) rfl rfl (Nat.le_of_ble_eq_true rfl) dX4_fall_285 (fun H locs hP hD hS => ?_)
          have hP : va_P D vwCl [(h, .inr (4, [.int 0, .ref mcells, .ref mcounters, .ref mfloors, .ref mlimits, .ref mlongs, .ref msteps, .int 0, .ref mprogram, .ref mkind, .ref mrank, .ref mstate, .ref mactLong, .ref mactSteps, .ref mat, .ref mregister, .ref misHeld, .ref mdoneIn, .ref mundone, .ref mby, .ref mbegunIn, .ref misVoid, .ref misAgain, .ref mholds, .ref mwrites, .ref mgives, .ref mbelow, .ref mqueued, .ref mqueuedMany, .int 0, .ref mdone, .int 0, .int 0, .ref mlog, .int 0, .int 0, .ref morder, .ref misReached, .ref mqueue])), (mcells, .inl (cI, 24, .inl (fun _ => 0))), (mcounters, .inl (cI, 8, .inl (fun _ => 0)))] H := hP
          have hD : va_D A [(h, .inr (4, [.int 0, .ref mcells, .ref mcounters, .ref mfloors, .ref mlimits, .ref mlongs, .ref msteps, .int 0, .ref mprogram, .ref mkind, .ref mrank, .ref mstate, .ref mactLong, .ref mactSteps, .ref mat, .ref mregister, .ref misHeld, .ref mdoneIn, .ref mundone, .ref mby, .ref mbegunIn, .ref misVoid, .ref misAgain, .ref mholds, .ref mwrites, .ref mgives, .ref mbelow, .ref mqueued, .ref mqueuedMany, .int 0, .ref mdone, .int 0, .int 0, .ref mlog, .int 0, .int 0, .ref morder, .ref misReached, .ref mqueue])), (mcells, .inl (cI, 24, .inl (fun _ => 0))), (mcounters, .inl (cI, 8, .inl (fun _ => 0)))] := hD
          refine lv_iconst (v := 0) hx hb dX4_fall_288 (by decide) ?_
          refine lv_istore (lv' := [(4, .int 0), (3, .int 0), (2, .int 0), (0, .ref h), (1, .int 0)]) hx hb dX4_fall_289 hl (by decide) rfl (fun ls hl => ?_)
          refine lv_iload hx hb dX4_fall_291 (lv_at hl 0 rfl) ?_
          refine lv_aload_n hx hb dX4_fall_293 rfl (lv_at hl 3 rfl) ?_
          refine va_get (D := D) (ci := 4) (v := .int 0) (C := RX4) (T := TX4) (N := 39) hx hb hts kin_X4_fall_X4 hown hK hP 0 rfl rfl 7 (by decide) (hts _ kw_X4_fall__fieldLink_RX4_111_ActHouseModel_acts_I_) (fun _ h9 => h9) rfl dX4_fall_294 ?_
          refine lv_icmp_ge (tgt := 376) hx hb dX4_fall_297 (by decide) (fun c5 => ?_) (fun c5 => ?_)
          · skip
            refine lv_iconst (v := 0) hx hb dX4_fall_376 (by decide) ?_
            refine lv_istore (lv' := [(4, .int 0), (3, .int 0), (2, .int 0), (0, .ref h), (1, .int 0)]) hx hb dX4_fall_377 hl (by decide) rfl (fun ls hl => ?_)
            have loop : ∀ (k : Nat) (i : Int32) (f : Nat → Int32) (H : Heap) (locs : List Loc) (ls : Array Slot), (0 ≤ i.toInt) → (i.toInt + k = 24) → va_P D vwCl [(h, .inr (4, [.int 0, .ref mcells, .ref mcounters, .ref mfloors, .ref mlimits, .ref mlongs, .ref msteps, .int 0, .ref mprogram, .ref mkind, .ref mrank, .ref mstate, .ref mactLong, .ref mactSteps, .ref mat, .ref mregister, .ref misHeld, .ref mdoneIn, .ref mundone, .ref mby, .ref mbegunIn, .ref misVoid, .ref misAgain, .ref mholds, .ref mwrites, .ref mgives, .ref mbelow, .ref mqueued, .ref mqueuedMany, .int 0, .ref mdone, .int 0, .int 0, .ref mlog, .int 0, .int 0, .ref morder, .ref misReached, .ref mqueue])), (mcells, .inl (cI, 24, .inl f)), (mcounters, .inl (cI, 8, .inl (fun _ => 0)))] H → va_D A [(h, .inr (4, [.int 0, .ref mcells, .ref mcounters, .ref mfloors, .ref mlimits, .ref mlongs, .ref msteps, .int 0, .ref mprogram, .ref mkind, .ref mrank, .ref mstate, .ref mactLong, .ref mactSteps, .ref mat, .ref mregister, .ref misHeld, .ref mdoneIn, .ref mundone, .ref mby, .ref mbegunIn, .ref misVoid, .ref misAgain, .ref mholds, .ref mwrites, .ref mgives, .ref mbelow, .ref mqueued, .ref mqueuedMany, .int 0, .ref mdone, .int 0, .int 0, .ref mlog, .int 0, .int 0, .ref morder, .ref misReached, .ref mqueue])), (mcells, .inl (cI, 24, .inl f)), (mcounters, .inl (cI, 8, .inl (fun _ => 0)))] → va_S A s.heap H locs → lv_has ls 8 [(4, .int i), (0, .ref h), (1, .int 0), (2, .int 0), (3, .int 0)] → W p l e (headSpec wsX4_fall ({ frames := 1, cells := 0, slots := 0, locals := 21 })).room s m ([.ref h, .int 0] : List Value).toArray below meth c H locs 0 0 Q (F0 m 379 ls []) := by
              intro k
              induction k with
              | zero =>
                intro i f H locs ls h0 hi hP hD hS hl
                refine lv_iload hx hb dX4_fall_379 (lv_at hl 0 rfl) ?_
                refine lv_bipush (v := 24) hx hb dX4_fall_381 (by decide) ?_
                refine lv_icmp_ge (tgt := 400) hx hb dX4_fall_383 (by decide) (fun c6 => ?_) (fun c6 => ?_)
                · skip
                  have c6 := k_le c6
                  have hl24 : (24 : Int32).toInt = 24 := by decide
                  refine lv_iconst (v := 0) hx hb dX4_fall_400 (by decide) ?_
                  refine lv_istore (lv' := [(4, .int 0), (0, .ref h), (1, .int 0), (2, .int 0), (3, .int 0)]) hx hb dX4_fall_401 hl (by decide) rfl (fun ls hl => ?_)
                  have loop : ∀ (k : Nat) (i : Int32) (f2 : Nat → Int32) (H : Heap) (locs : List Loc) (ls : Array Slot), (0 ≤ i.toInt) → (i.toInt + k = 8) → va_P D vwCl [(h, .inr (4, [.int 0, .ref mcells, .ref mcounters, .ref mfloors, .ref mlimits, .ref mlongs, .ref msteps, .int 0, .ref mprogram, .ref mkind, .ref mrank, .ref mstate, .ref mactLong, .ref mactSteps, .ref mat, .ref mregister, .ref misHeld, .ref mdoneIn, .ref mundone, .ref mby, .ref mbegunIn, .ref misVoid, .ref misAgain, .ref mholds, .ref mwrites, .ref mgives, .ref mbelow, .ref mqueued, .ref mqueuedMany, .int 0, .ref mdone, .int 0, .int 0, .ref mlog, .int 0, .int 0, .ref morder, .ref misReached, .ref mqueue])), (mcounters, .inl (cI, 8, .inl f2))] H → va_D A [(h, .inr (4, [.int 0, .ref mcells, .ref mcounters, .ref mfloors, .ref mlimits, .ref mlongs, .ref msteps, .int 0, .ref mprogram, .ref mkind, .ref mrank, .ref mstate, .ref mactLong, .ref mactSteps, .ref mat, .ref mregister, .ref misHeld, .ref mdoneIn, .ref mundone, .ref mby, .ref mbegunIn, .ref misVoid, .ref misAgain, .ref mholds, .ref mwrites, .ref mgives, .ref mbelow, .ref mqueued, .ref mqueuedMany, .int 0, .ref mdone, .int 0, .int 0, .ref mlog, .int 0, .int 0, .ref morder, .ref misReached, .ref mqueue])), (mcounters, .inl (cI, 8, .inl f2))] → va_S A s.heap H locs → lv_has ls 8 [(4, .int i), (0, .ref h), (1, .int 0), (2, .int 0), (3, .int 0)] → W p l e (headSpec wsX4_fall ({ frames := 1, cells := 0, slots := 0, locals := 21 })).room s m ([.ref h, .int 0] : List Value).toArray below meth c H locs 0 0 Q (F0 m 403 ls []) := by
                    intro k
                    induction k with
                    | zero =>
                      intro i f2 H locs ls h0 hi hP hD hS hl
                      refine lv_iload hx hb dX4_fall_403 (lv_at hl 0 rfl) ?_
                      refine lv_bipush (v := 8) hx hb dX4_fall_405 (by decide) ?_
                      refine lv_icmp_ge (tgt := 424) hx hb dX4_fall_407 (by decide) (fun c7 => ?_) (fun c7 => ?_)
                      · skip
                        have c7 := k_le c7
                        have hl8 : (8 : Int32).toInt = 8 := by decide
                        refine lv_iconst (v := 0) hx hb dX4_fall_424 (by decide) ?_
                        refine lv_istore (lv' := [(4, .int 0), (0, .ref h), (1, .int 0), (2, .int 0), (3, .int 0)]) hx hb dX4_fall_425 hl (by decide) rfl (fun ls hl => ?_)
                        refine lv_iload hx hb dX4_fall_427 (lv_at hl 0 rfl) ?_
                        refine lv_aload_n hx hb dX4_fall_429 rfl (lv_at hl 1 rfl) ?_
                        refine va_get (D := D) (ci := 4) (v := .int 0) (C := RX4) (T := TX4) (N := 39) hx hb hts kin_X4_fall_X4 hown hK hP 0 rfl rfl 29 (by decide) (hts _ kw_X4_fall__fieldLink_RX4_168_ActHouseModel_dones_I_) (fun _ h9 => h9) rfl dX4_fall_430 ?_
                        refine lv_icmp_ge (tgt := 453) hx hb dX4_fall_433 (by decide) (fun c8 => ?_) (fun c8 => ?_)
                        · skip
                          refine lv_aload_n hx hb dX4_fall_453 rfl (lv_at hl 1 rfl) ?_
                          have hPc := hP.sub (ws' := [(h, .inr (4, [.int 0, .ref mcells, .ref mcounters, .ref mfloors, .ref mlimits, .ref mlongs, .ref msteps, .int 0, .ref mprogram, .ref mkind, .ref mrank, .ref mstate, .ref mactLong, .ref mactSteps, .ref mat, .ref mregister, .ref misHeld, .ref mdoneIn, .ref mundone, .ref mby, .ref mbegunIn, .ref misVoid, .ref misAgain, .ref mholds, .ref mwrites, .ref mgives, .ref mbelow, .ref mqueued, .ref mqueuedMany, .int 0, .ref mdone, .int 0, .int 0, .ref mlog, .int 0, .int 0, .ref morder, .ref misReached, .ref mqueue]))]) [0] rfl
                          have hDc := hD.sub (ws' := [(h, .inr (4, [.int 0, .ref mcells, .ref mcounters, .ref mfloors, .ref mlimits, .ref mlongs, .ref msteps, .int 0, .ref mprogram, .ref mkind, .ref mrank, .ref mstate, .ref mactLong, .ref mactSteps, .ref mat, .ref mregister, .ref misHeld, .ref mdoneIn, .ref mundone, .ref mby, .ref mbegunIn, .ref misVoid, .ref misAgain, .ref mholds, .ref mwrites, .ref mgives, .ref mbelow, .ref mqueued, .ref mqueuedMany, .int 0, .ref mdone, .int 0, .int 0, .ref mlog, .int 0, .int 0, .ref morder, .ref misReached, .ref mqueue]))]) [0] (by decide) rfl
                          have hKc := hK.sub (tys' := []) [] rfl
                          have hFc := va_free (wc := [(h, .inr (4, [.int 0, .ref mcells, .ref mcounters, .ref mfloors, .ref mlimits, .ref mlongs, .ref msteps, .int 0, .ref mprogram, .ref mkind, .ref mrank, .ref mstate, .ref mactLong, .ref mactSteps, .ref mat, .ref mregister, .ref misHeld, .ref mdoneIn, .ref mundone, .ref mby, .ref mbegunIn, .ref misVoid, .ref misAgain, .ref mholds, .ref mwrites, .ref mgives, .ref mbelow, .ref mqueued, .ref mqueuedMany, .int 0, .ref mdone, .int 0, .int 0, .ref mlog, .int 0, .int 0, .ref morder, .ref misReached, .ref mqueue]))]) hD hS hA [0] rfl
                          refine va_callv (va_runV (As := []) (rest := []) ⟨hx, hb, hml, hown, hts⟩ (c_X4_keeps (l := l) (D := D) (h := h) (mcells := mcells) (mcounters := mcounters) (mfloors := mfloors) (mlimits := mlimits) (mlongs := mlongs) (msteps := msteps) (mprogram := mprogram) (mkind := mkind) (mrank := mrank) (mstate := mstate) (mactLong := mactLong) (mactSteps := mactSteps) (mat := mat) (mregister := mregister) (misHeld := misHeld) (mdoneIn := mdoneIn) (mundone := mundone) (mby := mby) (mbegunIn := mbegunIn) (misVoid := misVoid) (misAgain := misAgain) (mholds := mholds) (mwrites := mwrites) (mgives := mgives) (mbelow := mbelow) (mqueued := mqueued) (mqueuedMany := mqueuedMany) (mdone := mdone) (mlog := mlog) (morder := morder) (misReached := misReached) (mqueue := mqueue) (nw := 0) (fa := 0) ) (cwV 0 hts gX4_fall_X4_keeps rfl rfl rfl (by decide +kernel) ⟨Nat.le_of_ble_eq_true rfl, Nat.le_of_ble_eq_true rfl⟩) ⟨k_blind, va_recv hKc hPc (ci := 4) (q0 := 0) rfl rfl, fun U hU hW => ⟨rfl, k_pre hU hW hPc hKc hDc⟩⟩ rfl rfl hl.1 rfl (lv_room (Nat.le_of_ble_eq_true rfl)) dX4_fall_454 ⟨by decide, by decide⟩) hS (fun q _ h => hFc q h) hFc (fun u t H1 locs ht hvm hw hB hz1 hk1 hS => ?_)
                          refine W.widen (k := 0) (n := 0) (Nat.le_refl _) (Nat.le_refl _) ?_
                          obtain ⟨rfl⟩ := hw
                          obtain ⟨hP1, hK1, hD1⟩ := hB
                          rw [ht] at hP1
                          have hK1 := va_K.moved hvm.symm hK1
                          obtain ⟨hP, hD⟩ := va_join (wr := [(mcounters, .inl (cI, 8, .inl f2))]) (w1 := [(h, .inr (4, [.int 0, .ref mcells, .ref mcounters, .ref mfloors, .ref mlimits, .ref mlongs, .ref msteps, .int 0, .ref mprogram, .ref mkind, .ref mrank, .ref mstate, .ref mactLong, .ref mactSteps, .ref mat, .ref mregister, .ref misHeld, .ref mdoneIn, .ref mundone, .ref mby, .ref mbegunIn, .ref misVoid, .ref misAgain, .ref mholds, .ref mwrites, .ref mgives, .ref mbelow, .ref mqueued, .ref mqueuedMany, .int 0, .ref mdone, .int 0, .int 0, .ref mlog, .int 0, .int 0, .ref morder, .ref misReached, .ref mqueue]))]) hP hD [0] [1] rfl rfl (by decide) (by decide) hk1 hFc hP1 hD1
                          generalize H1 = H at hP hS ⊢
                          have hP : va_P D vwCl [(mcounters, .inl (cI, 8, .inl f2)), (h, .inr (4, [.int 0, .ref mcells, .ref mcounters, .ref mfloors, .ref mlimits, .ref mlongs, .ref msteps, .int 0, .ref mprogram, .ref mkind, .ref mrank, .ref mstate, .ref mactLong, .ref mactSteps, .ref mat, .ref mregister, .ref misHeld, .ref mdoneIn, .ref mundone, .ref mby, .ref mbegunIn, .ref misVoid, .ref misAgain, .ref mholds, .ref mwrites, .ref mgives, .ref mbelow, .ref mqueued, .ref mqueuedMany, .int 0, .ref mdone, .int 0, .int 0, .ref mlog, .int 0, .int 0, .ref morder, .ref misReached, .ref mqueue]))] H := hP
                          have hD : va_D A [(mcounters, .inl (cI, 8, .inl f2)), (h, .inr (4, [.int 0, .ref mcells, .ref mcounters, .ref mfloors, .ref mlimits, .ref mlongs, .ref msteps, .int 0, .ref mprogram, .ref mkind, .ref mrank, .ref mstate, .ref mactLong, .ref mactSteps, .ref mat, .ref mregister, .ref misHeld, .ref mdoneIn, .ref mundone, .ref mby, .ref mbegunIn, .ref misVoid, .ref misAgain, .ref mholds, .ref mwrites, .ref mgives, .ref mbelow, .ref mqueued, .ref mqueuedMany, .int 0, .ref mdone, .int 0, .int 0, .ref mlog, .int 0, .int 0, .ref morder, .ref misReached, .ref mqueue]))] := hD
                          refine lv_aload_n hx hb dX4_fall_457 rfl (lv_at hl 1 rfl) ?_
                          refine lv_dup hx hb dX4_fall_458 rfl ?_
                          refine va_get (D := D) (ci := 4) (v := .int 0) (C := RX4) (T := TX4) (N := 39) hx hb hts kin_X4_fall_X4 hown hK hP 1 rfl rfl 35 (by decide) (hts _ kw_X4_fall__fieldLink_RX4_205_ActHouseModel_falls_I_) (fun _ h9 => h9) rfl dX4_fall_459 ?_
                          refine lv_iconst (v := 1) hx hb dX4_fall_462 (by decide) ?_
                          refine lv_iadd hx hb dX4_fall_463 ?_
                          refine W.eq (g2 := F0 m 464 ls [.int 1, .ref h]) (by first | rfl | (congr 2; decide)) ?_
                          refine va_put (D := D) (ci := 4) (v := .int 1) (ty := .int) (C := RX4) (T := TX4) (N := 39) hx hb hts kin_X4_fall_X4 tyX4 tyX4_ok nmX4 hown hK hP hD hS 1 rfl rfl 35 (by decide) (hts _ kw_X4_fall__fieldLink_RX4_205_ActHouseModel_falls_I_) (fun _ h9 => h9) rfl (by decide +kernel) rfl rfl (Nat.le_of_ble_eq_true rfl) dX4_fall_464 (fun H locs hP hD hS => ?_)
                          have hP : va_P D vwCl [(mcounters, .inl (cI, 8, .inl f2)), (h, .inr (4, [.int 0, .ref mcells, .ref mcounters, .ref mfloors, .ref mlimits, .ref mlongs, .ref msteps, .int 0, .ref mprogram, .ref mkind, .ref mrank, .ref mstate, .ref mactLong, .ref mactSteps, .ref mat, .ref mregister, .ref misHeld, .ref mdoneIn, .ref mundone, .ref mby, .ref mbegunIn, .ref misVoid, .ref misAgain, .ref mholds, .ref mwrites, .ref mgives, .ref mbelow, .ref mqueued, .ref mqueuedMany, .int 0, .ref mdone, .int 0, .int 0, .ref mlog, .int 0, .int 1, .ref morder, .ref misReached, .ref mqueue]))] H := hP
                          have hD : va_D A [(mcounters, .inl (cI, 8, .inl f2)), (h, .inr (4, [.int 0, .ref mcells, .ref mcounters, .ref mfloors, .ref mlimits, .ref mlongs, .ref msteps, .int 0, .ref mprogram, .ref mkind, .ref mrank, .ref mstate, .ref mactLong, .ref mactSteps, .ref mat, .ref mregister, .ref misHeld, .ref mdoneIn, .ref mundone, .ref mby, .ref mbegunIn, .ref misVoid, .ref misAgain, .ref mholds, .ref mwrites, .ref mgives, .ref mbelow, .ref mqueued, .ref mqueuedMany, .int 0, .ref mdone, .int 0, .int 0, .ref mlog, .int 0, .int 1, .ref morder, .ref misReached, .ref mqueue]))] := hD
                          refine lv_iload_n hx hb dX4_fall_467 rfl (lv_at hl 4 rfl) ?_
                          subst hQ
                          have hP := hP.sub (ws' := []) [] rfl
                          have hD := hD.sub (ws' := []) [] (by decide) rfl
                          have hK := hK.sub (tys' := [(cI, .int)]) [0] rfl
                          refine W.widen (k := 0) (n := 0) (by decide) (by decide) ?_
                          exact W.iret (v := 0) hx hb hr (fun t ht hW => ⟨⟨0, ([], [(cI, .int)]), rfl, Or.inl ⟨rfl, rfl, (by decide)⟩, ⟨by rw [ht]; exact hP, va_K.moved hW.alike hK, hD⟩⟩, hS.F ht⟩) hS.2.2 dX4_fall_468
                        · skip
                          exact absurd c8 (by decide)
                      · skip
                        have c7 := k_nle c7
                        have hl8 : (8 : Int32).toInt = 8 := by decide
                        exfalso; omega
                    | succ k ih =>
                      intro i f2 H locs ls h0 hi hP hD hS hl
                      refine lv_iload hx hb dX4_fall_403 (lv_at hl 0 rfl) ?_
                      refine lv_bipush (v := 8) hx hb dX4_fall_405 (by decide) ?_
                      refine lv_icmp_ge (tgt := 424) hx hb dX4_fall_407 (by decide) (fun c10 => ?_) (fun c10 => ?_)
                      · skip
                        have c10 := k_le c10
                        have hl8 : (8 : Int32).toInt = 8 := by decide
                        refine lv_iconst (v := 0) hx hb dX4_fall_424 (by decide) ?_
                        refine lv_istore (lv' := [(4, .int 0), (0, .ref h), (1, .int 0), (2, .int 0), (3, .int 0)]) hx hb dX4_fall_425 hl (by decide) rfl (fun ls hl => ?_)
                        refine lv_iload hx hb dX4_fall_427 (lv_at hl 0 rfl) ?_
                        refine lv_aload_n hx hb dX4_fall_429 rfl (lv_at hl 1 rfl) ?_
                        refine va_get (D := D) (ci := 4) (v := .int 0) (C := RX4) (T := TX4) (N := 39) hx hb hts kin_X4_fall_X4 hown hK hP 0 rfl rfl 29 (by decide) (hts _ kw_X4_fall__fieldLink_RX4_168_ActHouseModel_dones_I_) (fun _ h9 => h9) rfl dX4_fall_430 ?_
                        refine lv_icmp_ge (tgt := 453) hx hb dX4_fall_433 (by decide) (fun c11 => ?_) (fun c11 => ?_)
                        · skip
                          refine lv_aload_n hx hb dX4_fall_453 rfl (lv_at hl 1 rfl) ?_
                          have hPc := hP.sub (ws' := [(h, .inr (4, [.int 0, .ref mcells, .ref mcounters, .ref mfloors, .ref mlimits, .ref mlongs, .ref msteps, .int 0, .ref mprogram, .ref mkind, .ref mrank, .ref mstate, .ref mactLong, .ref mactSteps, .ref mat, .ref mregister, .ref misHeld, .ref mdoneIn, .ref mundone, .ref mby, .ref mbegunIn, .ref misVoid, .ref misAgain, .ref mholds, .ref mwrites, .ref mgives, .ref mbelow, .ref mqueued, .ref mqueuedMany, .int 0, .ref mdone, .int 0, .int 0, .ref mlog, .int 0, .int 0, .ref morder, .ref misReached, .ref mqueue]))]) [0] rfl
                          have hDc := hD.sub (ws' := [(h, .inr (4, [.int 0, .ref mcells, .ref mcounters, .ref mfloors, .ref mlimits, .ref mlongs, .ref msteps, .int 0, .ref mprogram, .ref mkind, .ref mrank, .ref mstate, .ref mactLong, .ref mactSteps, .ref mat, .ref mregister, .ref misHeld, .ref mdoneIn, .ref mundone, .ref mby, .ref mbegunIn, .ref misVoid, .ref misAgain, .ref mholds, .ref mwrites, .ref mgives, .ref mbelow, .ref mqueued, .ref mqueuedMany, .int 0, .ref mdone, .int 0, .int 0, .ref mlog, .int 0, .int 0, .ref morder, .ref misReached, .ref mqueue]))]) [0] (by decide) rfl
                          have hKc := hK.sub (tys' := []) [] rfl
                          have hFc := va_free (wc := [(h, .inr (4, [.int 0, .ref mcells, .ref mcounters, .ref mfloors, .ref mlimits, .ref mlongs, .ref msteps, .int 0, .ref mprogram, .ref mkind, .ref mrank, .ref mstate, .ref mactLong, .ref mactSteps, .ref mat, .ref mregister, .ref misHeld, .ref mdoneIn, .ref mundone, .ref mby, .ref mbegunIn, .ref misVoid, .ref misAgain, .ref mholds, .ref mwrites, .ref mgives, .ref mbelow, .ref mqueued, .ref mqueuedMany, .int 0, .ref mdone, .int 0, .int 0, .ref mlog, .int 0, .int 0, .ref morder, .ref misReached, .ref mqueue]))]) hD hS hA [0] rfl
                          refine va_callv (va_runV (As := []) (rest := []) ⟨hx, hb, hml, hown, hts⟩ (c_X4_keeps (l := l) (D := D) (h := h) (mcells := mcells) (mcounters := mcounters) (mfloors := mfloors) (mlimits := mlimits) (mlongs := mlongs) (msteps := msteps) (mprogram := mprogram) (mkind := mkind) (mrank := mrank) (mstate := mstate) (mactLong := mactLong) (mactSteps := mactSteps) (mat := mat) (mregister := mregister) (misHeld := misHeld) (mdoneIn := mdoneIn) (mundone := mundone) (mby := mby) (mbegunIn := mbegunIn) (misVoid := misVoid) (misAgain := misAgain) (mholds := mholds) (mwrites := mwrites) (mgives := mgives) (mbelow := mbelow) (mqueued := mqueued) (mqueuedMany := mqueuedMany) (mdone := mdone) (mlog := mlog) (morder := morder) (misReached := misReached) (mqueue := mqueue) (nw := 0) (fa := 0) ) (cwV 0 hts gX4_fall_X4_keeps rfl rfl rfl (by decide +kernel) ⟨Nat.le_of_ble_eq_true rfl, Nat.le_of_ble_eq_true rfl⟩) ⟨k_blind, va_recv hKc hPc (ci := 4) (q0 := 0) rfl rfl, fun U hU hW => ⟨rfl, k_pre hU hW hPc hKc hDc⟩⟩ rfl rfl hl.1 rfl (lv_room (Nat.le_of_ble_eq_true rfl)) dX4_fall_454 ⟨by decide, by decide⟩) hS (fun q _ h => hFc q h) hFc (fun u t H1 locs ht hvm hw hB hz1 hk1 hS => ?_)
                          refine W.widen (k := 0) (n := 0) (Nat.le_refl _) (Nat.le_refl _) ?_
                          obtain ⟨rfl⟩ := hw
                          obtain ⟨hP1, hK1, hD1⟩ := hB
                          rw [ht] at hP1
                          have hK1 := va_K.moved hvm.symm hK1
                          obtain ⟨hP, hD⟩ := va_join (wr := [(mcounters, .inl (cI, 8, .inl f2))]) (w1 := [(h, .inr (4, [.int 0, .ref mcells, .ref mcounters, .ref mfloors, .ref mlimits, .ref mlongs, .ref msteps, .int 0, .ref mprogram, .ref mkind, .ref mrank, .ref mstate, .ref mactLong, .ref mactSteps, .ref mat, .ref mregister, .ref misHeld, .ref mdoneIn, .ref mundone, .ref mby, .ref mbegunIn, .ref misVoid, .ref misAgain, .ref mholds, .ref mwrites, .ref mgives, .ref mbelow, .ref mqueued, .ref mqueuedMany, .int 0, .ref mdone, .int 0, .int 0, .ref mlog, .int 0, .int 0, .ref morder, .ref misReached, .ref mqueue]))]) hP hD [0] [1] rfl rfl (by decide) (by decide) hk1 hFc hP1 hD1
                          generalize H1 = H at hP hS ⊢
                          have hP : va_P D vwCl [(mcounters, .inl (cI, 8, .inl f2)), (h, .inr (4, [.int 0, .ref mcells, .ref mcounters, .ref mfloors, .ref mlimits, .ref mlongs, .ref msteps, .int 0, .ref mprogram, .ref mkind, .ref mrank, .ref mstate, .ref mactLong, .ref mactSteps, .ref mat, .ref mregister, .ref misHeld, .ref mdoneIn, .ref mundone, .ref mby, .ref mbegunIn, .ref misVoid, .ref misAgain, .ref mholds, .ref mwrites, .ref mgives, .ref mbelow, .ref mqueued, .ref mqueuedMany, .int 0, .ref mdone, .int 0, .int 0, .ref mlog, .int 0, .int 0, .ref morder, .ref misReached, .ref mqueue]))] H := hP
                          have hD : va_D A [(mcounters, .inl (cI, 8, .inl f2)), (h, .inr (4, [.int 0, .ref mcells, .ref mcounters, .ref mfloors, .ref mlimits, .ref mlongs, .ref msteps, .int 0, .ref mprogram, .ref mkind, .ref mrank, .ref mstate, .ref mactLong, .ref mactSteps, .ref mat, .ref mregister, .ref misHeld, .ref mdoneIn, .ref mundone, .ref mby, .ref mbegunIn, .ref misVoid, .ref misAgain, .ref mholds, .ref mwrites, .ref mgives, .ref mbelow, .ref mqueued, .ref mqueuedMany, .int 0, .ref mdone, .int 0, .int 0, .ref mlog, .int 0, .int 0, .ref morder, .ref misReached, .ref mqueue]))] := hD
                          refine lv_aload_n hx hb dX4_fall_457 rfl (lv_at hl 1 rfl) ?_
                          refine lv_dup hx hb dX4_fall_458 rfl ?_
                          refine va_get (D := D) (ci := 4) (v := .int 0) (C := RX4) (T := TX4) (N := 39) hx hb hts kin_X4_fall_X4 hown hK hP 1 rfl rfl 35 (by decide) (hts _ kw_X4_fall__fieldLink_RX4_205_ActHouseModel_falls_I_) (fun _ h9 => h9) rfl dX4_fall_459 ?_
                          refine lv_iconst (v := 1) hx hb dX4_fall_462 (by decide) ?_
                          refine lv_iadd hx hb dX4_fall_463 ?_
                          refine W.eq (g2 := F0 m 464 ls [.int 1, .ref h]) (by first | rfl | (congr 2; decide)) ?_
                          refine va_put (D := D) (ci := 4) (v := .int 1) (ty := .int) (C := RX4) (T := TX4) (N := 39) hx hb hts kin_X4_fall_X4 tyX4 tyX4_ok nmX4 hown hK hP hD hS 1 rfl rfl 35 (by decide) (hts _ kw_X4_fall__fieldLink_RX4_205_ActHouseModel_falls_I_) (fun _ h9 => h9) rfl (by decide +kernel) rfl rfl (Nat.le_of_ble_eq_true rfl) dX4_fall_464 (fun H locs hP hD hS => ?_)
                          have hP : va_P D vwCl [(mcounters, .inl (cI, 8, .inl f2)), (h, .inr (4, [.int 0, .ref mcells, .ref mcounters, .ref mfloors, .ref mlimits, .ref mlongs, .ref msteps, .int 0, .ref mprogram, .ref mkind, .ref mrank, .ref mstate, .ref mactLong, .ref mactSteps, .ref mat, .ref mregister, .ref misHeld, .ref mdoneIn, .ref mundone, .ref mby, .ref mbegunIn, .ref misVoid, .ref misAgain, .ref mholds, .ref mwrites, .ref mgives, .ref mbelow, .ref mqueued, .ref mqueuedMany, .int 0, .ref mdone, .int 0, .int 0, .ref mlog, .int 0, .int 1, .ref morder, .ref misReached, .ref mqueue]))] H := hP
                          have hD : va_D A [(mcounters, .inl (cI, 8, .inl f2)), (h, .inr (4, [.int 0, .ref mcells, .ref mcounters, .ref mfloors, .ref mlimits, .ref mlongs, .ref msteps, .int 0, .ref mprogram, .ref mkind, .ref mrank, .ref mstate, .ref mactLong, .ref mactSteps, .ref mat, .ref mregister, .ref misHeld, .ref mdoneIn, .ref mundone, .ref mby, .ref mbegunIn, .ref misVoid, .ref misAgain, .ref mholds, .ref mwrites, .ref mgives, .ref mbelow, .ref mqueued, .ref mqueuedMany, .int 0, .ref mdone, .int 0, .int 0, .ref mlog, .int 0, .int 1, .ref morder, .ref misReached, .ref mqueue]))] := hD
                          refine lv_iload_n hx hb dX4_fall_467 rfl (lv_at hl 4 rfl) ?_
                          subst hQ
                          have hP := hP.sub (ws' := []) [] rfl
                          have hD := hD.sub (ws' := []) [] (by decide) rfl
                          have hK := hK.sub (tys' := [(cI, .int)]) [0] rfl
                          refine W.widen (k := 0) (n := 0) (by decide) (by decide) ?_
                          exact W.iret (v := 0) hx hb hr (fun t ht hW => ⟨⟨0, ([], [(cI, .int)]), rfl, Or.inl ⟨rfl, rfl, (by decide)⟩, ⟨by rw [ht]; exact hP, va_K.moved hW.alike hK, hD⟩⟩, hS.F ht⟩) hS.2.2 dX4_fall_468
                        · skip
                          exact absurd c11 (by decide)
                      · skip
                        have c10 := k_nle c10
                        have hl8 : (8 : Int32).toInt = 8 := by decide
                        refine lv_aload_n hx hb dX4_fall_410 rfl (lv_at hl 1 rfl) ?_
                        refine va_get (D := D) (ci := 4) (v := .ref mcounters) (C := RX4) (T := TX4) (N := 39) hx hb hts kin_X4_fall_X4 hown hK hP 0 rfl rfl 2 (by decide) (hts _ kw_X4_fall__fieldLink_RX4_13_ActHouseModel_counters_I_) (fun _ h9 => h9) rfl dX4_fall_411 ?_
                        refine lv_iload hx hb dX4_fall_414 (lv_at hl 0 rfl) ?_
                        refine lv_iconst (v := 0) hx hb dX4_fall_416 (by decide) ?_
                        have hi417 : vp_in i 8 := (k_in (by omega) (by omega))
                        refine va_iast hx hb hK hP hD hS 1 0 rfl rfl hi417 dX4_fall_417 (fun H locs hP hD hS => ?_)
                        have hP : va_P D vwCl [(h, .inr (4, [.int 0, .ref mcells, .ref mcounters, .ref mfloors, .ref mlimits, .ref mlongs, .ref msteps, .int 0, .ref mprogram, .ref mkind, .ref mrank, .ref mstate, .ref mactLong, .ref mactSteps, .ref mat, .ref mregister, .ref misHeld, .ref mdoneIn, .ref mundone, .ref mby, .ref mbegunIn, .ref misVoid, .ref misAgain, .ref mholds, .ref mwrites, .ref mgives, .ref mbelow, .ref mqueued, .ref mqueuedMany, .int 0, .ref mdone, .int 0, .int 0, .ref mlog, .int 0, .int 0, .ref morder, .ref misReached, .ref mqueue])), (mcounters, .inl (cI, 8, .inl (upd f2 i.toNatClampNeg 0)))] H := hP
                        have hD : va_D A [(h, .inr (4, [.int 0, .ref mcells, .ref mcounters, .ref mfloors, .ref mlimits, .ref mlongs, .ref msteps, .int 0, .ref mprogram, .ref mkind, .ref mrank, .ref mstate, .ref mactLong, .ref mactSteps, .ref mat, .ref mregister, .ref misHeld, .ref mdoneIn, .ref mundone, .ref mby, .ref mbegunIn, .ref misVoid, .ref misAgain, .ref mholds, .ref mwrites, .ref mgives, .ref mbelow, .ref mqueued, .ref mqueuedMany, .int 0, .ref mdone, .int 0, .int 0, .ref mlog, .int 0, .int 0, .ref morder, .ref misReached, .ref mqueue])), (mcounters, .inl (cI, 8, .inl (upd f2 i.toNatClampNeg 0)))] := hD
                        refine lv_iinc (v := i + 1) (lv' := [(4, .int (i + 1)), (0, .ref h), (1, .int 0), (2, .int 0), (3, .int 0)]) hx hb dX4_fall_418 hl (k := 0) rfl (by rfl) (by decide) rfl (fun ls hl => ?_)
                        refine lv_goto (tgt := 403) hx hb dX4_fall_421 (by decide) ?_
                        have e1 := k_inc (x := i) (by omega)
                        exact ih (i + 1) (upd f2 i.toNatClampNeg 0) _ _ _ (by omega) (by omega) (hP.sub [0, 1] rfl) (hD.sub [0, 1] (by decide) rfl) hS (lv_sub hl [0, 1, 2, 3, 4] rfl)
                  exact loop 8 0 (fun _ => 0) _ _ _ (by decide) (by decide) (hP.sub [0, 2] rfl) (hD.sub [0, 2] (by decide) rfl) hS (lv_sub hl [0, 1, 2, 3, 4] rfl)
                · skip
                  have c6 := k_nle c6
                  have hl24 : (24 : Int32).toInt = 24 := by decide
                  exfalso; omega
              | succ k ih =>
                intro i f H locs ls h0 hi hP hD hS hl
                refine lv_iload hx hb dX4_fall_379 (lv_at hl 0 rfl) ?_
                refine lv_bipush (v := 24) hx hb dX4_fall_381 (by decide) ?_
                refine lv_icmp_ge (tgt := 400) hx hb dX4_fall_383 (by decide) (fun c13 => ?_) (fun c13 => ?_)
                · skip
                  have c13 := k_le c13
                  have hl24 : (24 : Int32).toInt = 24 := by decide
                  refine lv_iconst (v := 0) hx hb dX4_fall_400 (by decide) ?_
                  refine lv_istore (lv' := [(4, .int 0), (0, .ref h), (1, .int 0), (2, .int 0), (3, .int 0)]) hx hb dX4_fall_401 hl (by decide) rfl (fun ls hl => ?_)
                  have loop : ∀ (k : Nat) (i : Int32) (f2 : Nat → Int32) (H : Heap) (locs : List Loc) (ls : Array Slot), (0 ≤ i.toInt) → (i.toInt + k = 8) → va_P D vwCl [(h, .inr (4, [.int 0, .ref mcells, .ref mcounters, .ref mfloors, .ref mlimits, .ref mlongs, .ref msteps, .int 0, .ref mprogram, .ref mkind, .ref mrank, .ref mstate, .ref mactLong, .ref mactSteps, .ref mat, .ref mregister, .ref misHeld, .ref mdoneIn, .ref mundone, .ref mby, .ref mbegunIn, .ref misVoid, .ref misAgain, .ref mholds, .ref mwrites, .ref mgives, .ref mbelow, .ref mqueued, .ref mqueuedMany, .int 0, .ref mdone, .int 0, .int 0, .ref mlog, .int 0, .int 0, .ref morder, .ref misReached, .ref mqueue])), (mcounters, .inl (cI, 8, .inl f2))] H → va_D A [(h, .inr (4, [.int 0, .ref mcells, .ref mcounters, .ref mfloors, .ref mlimits, .ref mlongs, .ref msteps, .int 0, .ref mprogram, .ref mkind, .ref mrank, .ref mstate, .ref mactLong, .ref mactSteps, .ref mat, .ref mregister, .ref misHeld, .ref mdoneIn, .ref mundone, .ref mby, .ref mbegunIn, .ref misVoid, .ref misAgain, .ref mholds, .ref mwrites, .ref mgives, .ref mbelow, .ref mqueued, .ref mqueuedMany, .int 0, .ref mdone, .int 0, .int 0, .ref mlog, .int 0, .int 0, .ref morder, .ref misReached, .ref mqueue])), (mcounters, .inl (cI, 8, .inl f2))] → va_S A s.heap H locs → lv_has ls 8 [(4, .int i), (0, .ref h), (1, .int 0), (2, .int 0), (3, .int 0)] → W p l e (headSpec wsX4_fall ({ frames := 1, cells := 0, slots := 0, locals := 21 })).room s m ([.ref h, .int 0] : List Value).toArray below meth c H locs 0 0 Q (F0 m 403 ls []) := by
                    intro k
                    induction k with
                    | zero =>
                      intro i f2 H locs ls h0 hi hP hD hS hl
                      refine lv_iload hx hb dX4_fall_403 (lv_at hl 0 rfl) ?_
                      refine lv_bipush (v := 8) hx hb dX4_fall_405 (by decide) ?_
                      refine lv_icmp_ge (tgt := 424) hx hb dX4_fall_407 (by decide) (fun c14 => ?_) (fun c14 => ?_)
                      · skip
                        have c14 := k_le c14
                        have hl8 : (8 : Int32).toInt = 8 := by decide
                        refine lv_iconst (v := 0) hx hb dX4_fall_424 (by decide) ?_
                        refine lv_istore (lv' := [(4, .int 0), (0, .ref h), (1, .int 0), (2, .int 0), (3, .int 0)]) hx hb dX4_fall_425 hl (by decide) rfl (fun ls hl => ?_)
                        refine lv_iload hx hb dX4_fall_427 (lv_at hl 0 rfl) ?_
                        refine lv_aload_n hx hb dX4_fall_429 rfl (lv_at hl 1 rfl) ?_
                        refine va_get (D := D) (ci := 4) (v := .int 0) (C := RX4) (T := TX4) (N := 39) hx hb hts kin_X4_fall_X4 hown hK hP 0 rfl rfl 29 (by decide) (hts _ kw_X4_fall__fieldLink_RX4_168_ActHouseModel_dones_I_) (fun _ h9 => h9) rfl dX4_fall_430 ?_
                        refine lv_icmp_ge (tgt := 453) hx hb dX4_fall_433 (by decide) (fun c15 => ?_) (fun c15 => ?_)
                        · skip
                          refine lv_aload_n hx hb dX4_fall_453 rfl (lv_at hl 1 rfl) ?_
                          have hPc := hP.sub (ws' := [(h, .inr (4, [.int 0, .ref mcells, .ref mcounters, .ref mfloors, .ref mlimits, .ref mlongs, .ref msteps, .int 0, .ref mprogram, .ref mkind, .ref mrank, .ref mstate, .ref mactLong, .ref mactSteps, .ref mat, .ref mregister, .ref misHeld, .ref mdoneIn, .ref mundone, .ref mby, .ref mbegunIn, .ref misVoid, .ref misAgain, .ref mholds, .ref mwrites, .ref mgives, .ref mbelow, .ref mqueued, .ref mqueuedMany, .int 0, .ref mdone, .int 0, .int 0, .ref mlog, .int 0, .int 0, .ref morder, .ref misReached, .ref mqueue]))]) [0] rfl
                          have hDc := hD.sub (ws' := [(h, .inr (4, [.int 0, .ref mcells, .ref mcounters, .ref mfloors, .ref mlimits, .ref mlongs, .ref msteps, .int 0, .ref mprogram, .ref mkind, .ref mrank, .ref mstate, .ref mactLong, .ref mactSteps, .ref mat, .ref mregister, .ref misHeld, .ref mdoneIn, .ref mundone, .ref mby, .ref mbegunIn, .ref misVoid, .ref misAgain, .ref mholds, .ref mwrites, .ref mgives, .ref mbelow, .ref mqueued, .ref mqueuedMany, .int 0, .ref mdone, .int 0, .int 0, .ref mlog, .int 0, .int 0, .ref morder, .ref misReached, .ref mqueue]))]) [0] (by decide) rfl
                          have hKc := hK.sub (tys' := []) [] rfl
                          have hFc := va_free (wc := [(h, .inr (4, [.int 0, .ref mcells, .ref mcounters, .ref mfloors, .ref mlimits, .ref mlongs, .ref msteps, .int 0, .ref mprogram, .ref mkind, .ref mrank, .ref mstate, .ref mactLong, .ref mactSteps, .ref mat, .ref mregister, .ref misHeld, .ref mdoneIn, .ref mundone, .ref mby, .ref mbegunIn, .ref misVoid, .ref misAgain, .ref mholds, .ref mwrites, .ref mgives, .ref mbelow, .ref mqueued, .ref mqueuedMany, .int 0, .ref mdone, .int 0, .int 0, .ref mlog, .int 0, .int 0, .ref morder, .ref misReached, .ref mqueue]))]) hD hS hA [0] rfl
                          refine va_callv (va_runV (As := []) (rest := []) ⟨hx, hb, hml, hown, hts⟩ (c_X4_keeps (l := l) (D := D) (h := h) (mcells := mcells) (mcounters := mcounters) (mfloors := mfloors) (mlimits := mlimits) (mlongs := mlongs) (msteps := msteps) (mprogram := mprogram) (mkind := mkind) (mrank := mrank) (mstate := mstate) (mactLong := mactLong) (mactSteps := mactSteps) (mat := mat) (mregister := mregister) (misHeld := misHeld) (mdoneIn := mdoneIn) (mundone := mundone) (mby := mby) (mbegunIn := mbegunIn) (misVoid := misVoid) (misAgain := misAgain) (mholds := mholds) (mwrites := mwrites) (mgives := mgives) (mbelow := mbelow) (mqueued := mqueued) (mqueuedMany := mqueuedMany) (mdone := mdone) (mlog := mlog) (morder := morder) (misReached := misReached) (mqueue := mqueue) (nw := 0) (fa := 0) ) (cwV 0 hts gX4_fall_X4_keeps rfl rfl rfl (by decide +kernel) ⟨Nat.le_of_ble_eq_true rfl, Nat.le_of_ble_eq_true rfl⟩) ⟨k_blind, va_recv hKc hPc (ci := 4) (q0 := 0) rfl rfl, fun U hU hW => ⟨rfl, k_pre hU hW hPc hKc hDc⟩⟩ rfl rfl hl.1 rfl (lv_room (Nat.le_of_ble_eq_true rfl)) dX4_fall_454 ⟨by decide, by decide⟩) hS (fun q _ h => hFc q h) hFc (fun u t H1 locs ht hvm hw hB hz1 hk1 hS => ?_)
                          refine W.widen (k := 0) (n := 0) (Nat.le_refl _) (Nat.le_refl _) ?_
                          obtain ⟨rfl⟩ := hw
                          obtain ⟨hP1, hK1, hD1⟩ := hB
                          rw [ht] at hP1
                          have hK1 := va_K.moved hvm.symm hK1
                          obtain ⟨hP, hD⟩ := va_join (wr := [(mcounters, .inl (cI, 8, .inl f2))]) (w1 := [(h, .inr (4, [.int 0, .ref mcells, .ref mcounters, .ref mfloors, .ref mlimits, .ref mlongs, .ref msteps, .int 0, .ref mprogram, .ref mkind, .ref mrank, .ref mstate, .ref mactLong, .ref mactSteps, .ref mat, .ref mregister, .ref misHeld, .ref mdoneIn, .ref mundone, .ref mby, .ref mbegunIn, .ref misVoid, .ref misAgain, .ref mholds, .ref mwrites, .ref mgives, .ref mbelow, .ref mqueued, .ref mqueuedMany, .int 0, .ref mdone, .int 0, .int 0, .ref mlog, .int 0, .int 0, .ref morder, .ref misReached, .ref mqueue]))]) hP hD [0] [1] rfl rfl (by decide) (by decide) hk1 hFc hP1 hD1
                          generalize H1 = H at hP hS ⊢
                          have hP : va_P D vwCl [(mcounters, .inl (cI, 8, .inl f2)), (h, .inr (4, [.int 0, .ref mcells, .ref mcounters, .ref mfloors, .ref mlimits, .ref mlongs, .ref msteps, .int 0, .ref mprogram, .ref mkind, .ref mrank, .ref mstate, .ref mactLong, .ref mactSteps, .ref mat, .ref mregister, .ref misHeld, .ref mdoneIn, .ref mundone, .ref mby, .ref mbegunIn, .ref misVoid, .ref misAgain, .ref mholds, .ref mwrites, .ref mgives, .ref mbelow, .ref mqueued, .ref mqueuedMany, .int 0, .ref mdone, .int 0, .int 0, .ref mlog, .int 0, .int 0, .ref morder, .ref misReached, .ref mqueue]))] H := hP
                          have hD : va_D A [(mcounters, .inl (cI, 8, .inl f2)), (h, .inr (4, [.int 0, .ref mcells, .ref mcounters, .ref mfloors, .ref mlimits, .ref mlongs, .ref msteps, .int 0, .ref mprogram, .ref mkind, .ref mrank, .ref mstate, .ref mactLong, .ref mactSteps, .ref mat, .ref mregister, .ref misHeld, .ref mdoneIn, .ref mundone, .ref mby, .ref mbegunIn, .ref misVoid, .ref misAgain, .ref mholds, .ref mwrites, .ref mgives, .ref mbelow, .ref mqueued, .ref mqueuedMany, .int 0, .ref mdone, .int 0, .int 0, .ref mlog, .int 0, .int 0, .ref morder, .ref misReached, .ref mqueue]))] := hD
                          refine lv_aload_n hx hb dX4_fall_457 rfl (lv_at hl 1 rfl) ?_
                          refine lv_dup hx hb dX4_fall_458 rfl ?_
                          refine va_get (D := D) (ci := 4) (v := .int 0) (C := RX4) (T := TX4) (N := 39) hx hb hts kin_X4_fall_X4 hown hK hP 1 rfl rfl 35 (by decide) (hts _ kw_X4_fall__fieldLink_RX4_205_ActHouseModel_falls_I_) (fun _ h9 => h9) rfl dX4_fall_459 ?_
                          refine lv_iconst (v := 1) hx hb dX4_fall_462 (by decide) ?_
                          refine lv_iadd hx hb dX4_fall_463 ?_
                          refine W.eq (g2 := F0 m 464 ls [.int 1, .ref h]) (by first | rfl | (congr 2; decide)) ?_
                          refine va_put (D := D) (ci := 4) (v := .int 1) (ty := .int) (C := RX4) (T := TX4) (N := 39) hx hb hts kin_X4_fall_X4 tyX4 tyX4_ok nmX4 hown hK hP hD hS 1 rfl rfl 35 (by decide) (hts _ kw_X4_fall__fieldLink_RX4_205_ActHouseModel_falls_I_) (fun _ h9 => h9) rfl (by decide +kernel) rfl rfl (Nat.le_of_ble_eq_true rfl) dX4_fall_464 (fun H locs hP hD hS => ?_)
                          have hP : va_P D vwCl [(mcounters, .inl (cI, 8, .inl f2)), (h, .inr (4, [.int 0, .ref mcells, .ref mcounters, .ref mfloors, .ref mlimits, .ref mlongs, .ref msteps, .int 0, .ref mprogram, .ref mkind, .ref mrank, .ref mstate, .ref mactLong, .ref mactSteps, .ref mat, .ref mregister, .ref misHeld, .ref mdoneIn, .ref mundone, .ref mby, .ref mbegunIn, .ref misVoid, .ref misAgain, .ref mholds, .ref mwrites, .ref mgives, .ref mbelow, .ref mqueued, .ref mqueuedMany, .int 0, .ref mdone, .int 0, .int 0, .ref mlog, .int 0, .int 1, .ref morder, .ref misReached, .ref mqueue]))] H := hP
                          have hD : va_D A [(mcounters, .inl (cI, 8, .inl f2)), (h, .inr (4, [.int 0, .ref mcells, .ref mcounters, .ref mfloors, .ref mlimits, .ref mlongs, .ref msteps, .int 0, .ref mprogram, .ref mkind, .ref mrank, .ref mstate, .ref mactLong, .ref mactSteps, .ref mat, .ref mregister, .ref misHeld, .ref mdoneIn, .ref mundone, .ref mby, .ref mbegunIn, .ref misVoid, .ref misAgain, .ref mholds, .ref mwrites, .ref mgives, .ref mbelow, .ref mqueued, .ref mqueuedMany, .int 0, .ref mdone, .int 0, .int 0, .ref mlog, .int 0, .int 1, .ref morder, .ref misReached, .ref mqueue]))] := hD
                          refine lv_iload_n hx hb dX4_fall_467 rfl (lv_at hl 4 rfl) ?_
                          subst hQ
                          have hP := hP.sub (ws' := []) [] rfl
                          have hD := hD.sub (ws' := []) [] (by decide) rfl
                          have hK := hK.sub (tys' := [(cI, .int)]) [0] rfl
                          refine W.widen (k := 0) (n := 0) (by decide) (by decide) ?_
                          exact W.iret (v := 0) hx hb hr (fun t ht hW => ⟨⟨0, ([], [(cI, .int)]), rfl, Or.inl ⟨rfl, rfl, (by decide)⟩, ⟨by rw [ht]; exact hP, va_K.moved hW.alike hK, hD⟩⟩, hS.F ht⟩) hS.2.2 dX4_fall_468
                        · skip
                          exact absurd c15 (by decide)
                      · skip
                        have c14 := k_nle c14
                        have hl8 : (8 : Int32).toInt = 8 := by decide
                        exfalso; omega
                    | succ k ih =>
                      intro i f2 H locs ls h0 hi hP hD hS hl
                      refine lv_iload hx hb dX4_fall_403 (lv_at hl 0 rfl) ?_
                      refine lv_bipush (v := 8) hx hb dX4_fall_405 (by decide) ?_
                      refine lv_icmp_ge (tgt := 424) hx hb dX4_fall_407 (by decide) (fun c17 => ?_) (fun c17 => ?_)
                      · skip
                        have c17 := k_le c17
                        have hl8 : (8 : Int32).toInt = 8 := by decide
                        refine lv_iconst (v := 0) hx hb dX4_fall_424 (by decide) ?_
                        refine lv_istore (lv' := [(4, .int 0), (0, .ref h), (1, .int 0), (2, .int 0), (3, .int 0)]) hx hb dX4_fall_425 hl (by decide) rfl (fun ls hl => ?_)
                        refine lv_iload hx hb dX4_fall_427 (lv_at hl 0 rfl) ?_
                        refine lv_aload_n hx hb dX4_fall_429 rfl (lv_at hl 1 rfl) ?_
                        refine va_get (D := D) (ci := 4) (v := .int 0) (C := RX4) (T := TX4) (N := 39) hx hb hts kin_X4_fall_X4 hown hK hP 0 rfl rfl 29 (by decide) (hts _ kw_X4_fall__fieldLink_RX4_168_ActHouseModel_dones_I_) (fun _ h9 => h9) rfl dX4_fall_430 ?_
                        refine lv_icmp_ge (tgt := 453) hx hb dX4_fall_433 (by decide) (fun c18 => ?_) (fun c18 => ?_)
                        · skip
                          refine lv_aload_n hx hb dX4_fall_453 rfl (lv_at hl 1 rfl) ?_
                          have hPc := hP.sub (ws' := [(h, .inr (4, [.int 0, .ref mcells, .ref mcounters, .ref mfloors, .ref mlimits, .ref mlongs, .ref msteps, .int 0, .ref mprogram, .ref mkind, .ref mrank, .ref mstate, .ref mactLong, .ref mactSteps, .ref mat, .ref mregister, .ref misHeld, .ref mdoneIn, .ref mundone, .ref mby, .ref mbegunIn, .ref misVoid, .ref misAgain, .ref mholds, .ref mwrites, .ref mgives, .ref mbelow, .ref mqueued, .ref mqueuedMany, .int 0, .ref mdone, .int 0, .int 0, .ref mlog, .int 0, .int 0, .ref morder, .ref misReached, .ref mqueue]))]) [0] rfl
                          have hDc := hD.sub (ws' := [(h, .inr (4, [.int 0, .ref mcells, .ref mcounters, .ref mfloors, .ref mlimits, .ref mlongs, .ref msteps, .int 0, .ref mprogram, .ref mkind, .ref mrank, .ref mstate, .ref mactLong, .ref mactSteps, .ref mat, .ref mregister, .ref misHeld, .ref mdoneIn, .ref mundone, .ref mby, .ref mbegunIn, .ref misVoid, .ref misAgain, .ref mholds, .ref mwrites, .ref mgives, .ref mbelow, .ref mqueued, .ref mqueuedMany, .int 0, .ref mdone, .int 0, .int 0, .ref mlog, .int 0, .int 0, .ref morder, .ref misReached, .ref mqueue]))]) [0] (by decide) rfl
                          have hKc := hK.sub (tys' := []) [] rfl
                          have hFc := va_free (wc := [(h, .inr (4, [.int 0, .ref mcells, .ref mcounters, .ref mfloors, .ref mlimits, .ref mlongs, .ref msteps, .int 0, .ref mprogram, .ref mkind, .ref mrank, .ref mstate, .ref mactLong, .ref mactSteps, .ref mat, .ref mregister, .ref misHeld, .ref mdoneIn, .ref mundone, .ref mby, .ref mbegunIn, .ref misVoid, .ref misAgain, .ref mholds, .ref mwrites, .ref mgives, .ref mbelow, .ref mqueued, .ref mqueuedMany, .int 0, .ref mdone, .int 0, .int 0, .ref mlog, .int 0, .int 0, .ref morder, .ref misReached, .ref mqueue]))]) hD hS hA [0] rfl
                          refine va_callv (va_runV (As := []) (rest := []) ⟨hx, hb, hml, hown, hts⟩ (c_X4_keeps (l := l) (D := D) (h := h) (mcells := mcells) (mcounters := mcounters) (mfloors := mfloors) (mlimits := mlimits) (mlongs := mlongs) (msteps := msteps) (mprogram := mprogram) (mkind := mkind) (mrank := mrank) (mstate := mstate) (mactLong := mactLong) (mactSteps := mactSteps) (mat := mat) (mregister := mregister) (misHeld := misHeld) (mdoneIn := mdoneIn) (mundone := mundone) (mby := mby) (mbegunIn := mbegunIn) (misVoid := misVoid) (misAgain := misAgain) (mholds := mholds) (mwrites := mwrites) (mgives := mgives) (mbelow := mbelow) (mqueued := mqueued) (mqueuedMany := mqueuedMany) (mdone := mdone) (mlog := mlog) (morder := morder) (misReached := misReached) (mqueue := mqueue) (nw := 0) (fa := 0) ) (cwV 0 hts gX4_fall_X4_keeps rfl rfl rfl (by decide +kernel) ⟨Nat.le_of_ble_eq_true rfl, Nat.le_of_ble_eq_true rfl⟩) ⟨k_blind, va_recv hKc hPc (ci := 4) (q0 := 0) rfl rfl, fun U hU hW => ⟨rfl, k_pre hU hW hPc hKc hDc⟩⟩ rfl rfl hl.1 rfl (lv_room (Nat.le_of_ble_eq_true rfl)) dX4_fall_454 ⟨by decide, by decide⟩) hS (fun q _ h => hFc q h) hFc (fun u t H1 locs ht hvm hw hB hz1 hk1 hS => ?_)
                          refine W.widen (k := 0) (n := 0) (Nat.le_refl _) (Nat.le_refl _) ?_
                          obtain ⟨rfl⟩ := hw
                          obtain ⟨hP1, hK1, hD1⟩ := hB
                          rw [ht] at hP1
                          have hK1 := va_K.moved hvm.symm hK1
                          obtain ⟨hP, hD⟩ := va_join (wr := [(mcounters, .inl (cI, 8, .inl f2))]) (w1 := [(h, .inr (4, [.int 0, .ref mcells, .ref mcounters, .ref mfloors, .ref mlimits, .ref mlongs, .ref msteps, .int 0, .ref mprogram, .ref mkind, .ref mrank, .ref mstate, .ref mactLong, .ref mactSteps, .ref mat, .ref mregister, .ref misHeld, .ref mdoneIn, .ref mundone, .ref mby, .ref mbegunIn, .ref misVoid, .ref misAgain, .ref mholds, .ref mwrites, .ref mgives, .ref mbelow, .ref mqueued, .ref mqueuedMany, .int 0, .ref mdone, .int 0, .int 0, .ref mlog, .int 0, .int 0, .ref morder, .ref misReached, .ref mqueue]))]) hP hD [0] [1] rfl rfl (by decide) (by decide) hk1 hFc hP1 hD1
                          generalize H1 = H at hP hS ⊢
                          have hP : va_P D vwCl [(mcounters, .inl (cI, 8, .inl f2)), (h, .inr (4, [.int 0, .ref mcells, .ref mcounters, .ref mfloors, .ref mlimits, .ref mlongs, .ref msteps, .int 0, .ref mprogram, .ref mkind, .ref mrank, .ref mstate, .ref mactLong, .ref mactSteps, .ref mat, .ref mregister, .ref misHeld, .ref mdoneIn, .ref mundone, .ref mby, .ref mbegunIn, .ref misVoid, .ref misAgain, .ref mholds, .ref mwrites, .ref mgives, .ref mbelow, .ref mqueued, .ref mqueuedMany, .int 0, .ref mdone, .int 0, .int 0, .ref mlog, .int 0, .int 0, .ref morder, .ref misReached, .ref mqueue]))] H := hP
                          have hD : va_D A [(mcounters, .inl (cI, 8, .inl f2)), (h, .inr (4, [.int 0, .ref mcells, .ref mcounters, .ref mfloors, .ref mlimits, .ref mlongs, .ref msteps, .int 0, .ref mprogram, .ref mkind, .ref mrank, .ref mstate, .ref mactLong, .ref mactSteps, .ref mat, .ref mregister, .ref misHeld, .ref mdoneIn, .ref mundone, .ref mby, .ref mbegunIn, .ref misVoid, .ref misAgain, .ref mholds, .ref mwrites, .ref mgives, .ref mbelow, .ref mqueued, .ref mqueuedMany, .int 0, .ref mdone, .int 0, .int 0, .ref mlog, .int 0, .int 0, .ref morder, .ref misReached, .ref mqueue]))] := hD
                          refine lv_aload_n hx hb dX4_fall_457 rfl (lv_at hl 1 rfl) ?_
                          refine lv_dup hx hb dX4_fall_458 rfl ?_
                          refine va_get (D := D) (ci := 4) (v := .int 0) (C := RX4) (T := TX4) (N := 39) hx hb hts kin_X4_fall_X4 hown hK hP 1 rfl rfl 35 (by decide) (hts _ kw_X4_fall__fieldLink_RX4_205_ActHouseModel_falls_I_) (fun _ h9 => h9) rfl dX4_fall_459 ?_
                          refine lv_iconst (v := 1) hx hb dX4_fall_462 (by decide) ?_
                          refine lv_iadd hx hb dX4_fall_463 ?_
                          refine W.eq (g2 := F0 m 464 ls [.int 1, .ref h]) (by first | rfl | (congr 2; decide)) ?_
                          refine va_put (D := D) (ci := 4) (v := .int 1) (ty := .int) (C := RX4) (T := TX4) (N := 39) hx hb hts kin_X4_fall_X4 tyX4 tyX4_ok nmX4 hown hK hP hD hS 1 rfl rfl 35 (by decide) (hts _ kw_X4_fall__fieldLink_RX4_205_ActHouseModel_falls_I_) (fun _ h9 => h9) rfl (by decide +kernel) rfl rfl (Nat.le_of_ble_eq_true rfl) dX4_fall_464 (fun H locs hP hD hS => ?_)
                          have hP : va_P D vwCl [(mcounters, .inl (cI, 8, .inl f2)), (h, .inr (4, [.int 0, .ref mcells, .ref mcounters, .ref mfloors, .ref mlimits, .ref mlongs, .ref msteps, .int 0, .ref mprogram, .ref mkind, .ref mrank, .ref mstate, .ref mactLong, .ref mactSteps, .ref mat, .ref mregister, .ref misHeld, .ref mdoneIn, .ref mundone, .ref mby, .ref mbegunIn, .ref misVoid, .ref misAgain, .ref mholds, .ref mwrites, .ref mgives, .ref mbelow, .ref mqueued, .ref mqueuedMany, .int 0, .ref mdone, .int 0, .int 0, .ref mlog, .int 0, .int 1, .ref morder, .ref misReached, .ref mqueue]))] H := hP
                          have hD : va_D A [(mcounters, .inl (cI, 8, .inl f2)), (h, .inr (4, [.int 0, .ref mcells, .ref mcounters, .ref mfloors, .ref mlimits, .ref mlongs, .ref msteps, .int 0, .ref mprogram, .ref mkind, .ref mrank, .ref mstate, .ref mactLong, .ref mactSteps, .ref mat, .ref mregister, .ref misHeld, .ref mdoneIn, .ref mundone, .ref mby, .ref mbegunIn, .ref misVoid, .ref misAgain, .ref mholds, .ref mwrites, .ref mgives, .ref mbelow, .ref mqueued, .ref mqueuedMany, .int 0, .ref mdone, .int 0, .int 0, .ref mlog, .int 0, .int 1, .ref morder, .ref misReached, .ref mqueue]))] := hD
                          refine lv_iload_n hx hb dX4_fall_467 rfl (lv_at hl 4 rfl) ?_
                          subst hQ
                          have hP := hP.sub (ws' := []) [] rfl
                          have hD := hD.sub (ws' := []) [] (by decide) rfl
                          have hK := hK.sub (tys' := [(cI, .int)]) [0] rfl
                          refine W.widen (k := 0) (n := 0) (by decide) (by decide) ?_
                          exact W.iret (v := 0) hx hb hr (fun t ht hW => ⟨⟨0, ([], [(cI, .int)]), rfl, Or.inl ⟨rfl, rfl, (by decide)⟩, ⟨by rw [ht]; exact hP, va_K.moved hW.alike hK, hD⟩⟩, hS.F ht⟩) hS.2.2 dX4_fall_468
                        · skip
                          exact absurd c18 (by decide)
                      · skip
                        have c17 := k_nle c17
                        have hl8 : (8 : Int32).toInt = 8 := by decide
                        refine lv_aload_n hx hb dX4_fall_410 rfl (lv_at hl 1 rfl) ?_
                        refine va_get (D := D) (ci := 4) (v := .ref mcounters) (C := RX4) (T := TX4) (N := 39) hx hb hts kin_X4_fall_X4 hown hK hP 0 rfl rfl 2 (by decide) (hts _ kw_X4_fall__fieldLink_RX4_13_ActHouseModel_counters_I_) (fun _ h9 => h9) rfl dX4_fall_411 ?_
                        refine lv_iload hx hb dX4_fall_414 (lv_at hl 0 rfl) ?_
                        refine lv_iconst (v := 0) hx hb dX4_fall_416 (by decide) ?_
                        have hi417 : vp_in i 8 := (k_in (by omega) (by omega))
                        refine va_iast hx hb hK hP hD hS 1 0 rfl rfl hi417 dX4_fall_417 (fun H locs hP hD hS => ?_)
                        have hP : va_P D vwCl [(h, .inr (4, [.int 0, .ref mcells, .ref mcounters, .ref mfloors, .ref mlimits, .ref mlongs, .ref msteps, .int 0, .ref mprogram, .ref mkind, .ref mrank, .ref mstate, .ref mactLong, .ref mactSteps, .ref mat, .ref mregister, .ref misHeld, .ref mdoneIn, .ref mundone, .ref mby, .ref mbegunIn, .ref misVoid, .ref misAgain, .ref mholds, .ref mwrites, .ref mgives, .ref mbelow, .ref mqueued, .ref mqueuedMany, .int 0, .ref mdone, .int 0, .int 0, .ref mlog, .int 0, .int 0, .ref morder, .ref misReached, .ref mqueue])), (mcounters, .inl (cI, 8, .inl (upd f2 i.toNatClampNeg 0)))] H := hP
                        have hD : va_D A [(h, .inr (4, [.int 0, .ref mcells, .ref mcounters, .ref mfloors, .ref mlimits, .ref mlongs, .ref msteps, .int 0, .ref mprogram, .ref mkind, .ref mrank, .ref mstate, .ref mactLong, .ref mactSteps, .ref mat, .ref mregister, .ref misHeld, .ref mdoneIn, .ref mundone, .ref mby, .ref mbegunIn, .ref misVoid, .ref misAgain, .ref mholds, .ref mwrites, .ref mgives, .ref mbelow, .ref mqueued, .ref mqueuedMany, .int 0, .ref mdone, .int 0, .int 0, .ref mlog, .int 0, .int 0, .ref morder, .ref misReached, .ref mqueue])), (mcounters, .inl (cI, 8, .inl (upd f2 i.toNatClampNeg 0)))] := hD
                        refine lv_iinc (v := i + 1) (lv' := [(4, .int (i + 1)), (0, .ref h), (1, .int 0), (2, .int 0), (3, .int 0)]) hx hb dX4_fall_418 hl (k := 0) rfl (by rfl) (by decide) rfl (fun ls hl => ?_)
                        refine lv_goto (tgt := 403) hx hb dX4_fall_421 (by decide) ?_
                        have e1 := k_inc (x := i) (by omega)
                        exact ih (i + 1) (upd f2 i.toNatClampNeg 0) _ _ _ (by omega) (by omega) (hP.sub [0, 1] rfl) (hD.sub [0, 1] (by decide) rfl) hS (lv_sub hl [0, 1, 2, 3, 4] rfl)
                  exact loop 8 0 (fun _ => 0) _ _ _ (by decide) (by decide) (hP.sub [0, 2] rfl) (hD.sub [0, 2] (by decide) rfl) hS (lv_sub hl [0, 1, 2, 3, 4] rfl)
                · skip
                  have c13 := k_nle c13
                  have hl24 : (24 : Int32).toInt = 24 := by decide
                  refine lv_aload_n hx hb dX4_fall_386 rfl (lv_at hl 1 rfl) ?_
                  refine va_get (D := D) (ci := 4) (v := .ref mcells) (C := RX4) (T := TX4) (N := 39) hx hb hts kin_X4_fall_X4 hown hK hP 0 rfl rfl 1 (by decide) (hts _ kw_X4_fall__fieldLink_RX4_9_ActHouseModel_cells_I_) (fun _ h9 => h9) rfl dX4_fall_387 ?_
                  refine lv_iload hx hb dX4_fall_390 (lv_at hl 0 rfl) ?_
                  refine lv_iconst (v := 0) hx hb dX4_fall_392 (by decide) ?_
                  have hi393 : vp_in i 24 := (k_in (by omega) (by omega))
                  refine va_iast hx hb hK hP hD hS 1 0 rfl rfl hi393 dX4_fall_393 (fun H locs hP hD hS => ?_)
                  have hP : va_P D vwCl [(h, .inr (4, [.int 0, .ref mcells, .ref mcounters, .ref mfloors, .ref mlimits, .ref mlongs, .ref msteps, .int 0, .ref mprogram, .ref mkind, .ref mrank, .ref mstate, .ref mactLong, .ref mactSteps, .ref mat, .ref mregister, .ref misHeld, .ref mdoneIn, .ref mundone, .ref mby, .ref mbegunIn, .ref misVoid, .ref misAgain, .ref mholds, .ref mwrites, .ref mgives, .ref mbelow, .ref mqueued, .ref mqueuedMany, .int 0, .ref mdone, .int 0, .int 0, .ref mlog, .int 0, .int 0, .ref morder, .ref misReached, .ref mqueue])), (mcells, .inl (cI, 24, .inl (upd f i.toNatClampNeg 0))), (mcounters, .inl (cI, 8, .inl (fun _ => 0)))] H := hP
                  have hD : va_D A [(h, .inr (4, [.int 0, .ref mcells, .ref mcounters, .ref mfloors, .ref mlimits, .ref mlongs, .ref msteps, .int 0, .ref mprogram, .ref mkind, .ref mrank, .ref mstate, .ref mactLong, .ref mactSteps, .ref mat, .ref mregister, .ref misHeld, .ref mdoneIn, .ref mundone, .ref mby, .ref mbegunIn, .ref misVoid, .ref misAgain, .ref mholds, .ref mwrites, .ref mgives, .ref mbelow, .ref mqueued, .ref mqueuedMany, .int 0, .ref mdone, .int 0, .int 0, .ref mlog, .int 0, .int 0, .ref morder, .ref misReached, .ref mqueue])), (mcells, .inl (cI, 24, .inl (upd f i.toNatClampNeg 0))), (mcounters, .inl (cI, 8, .inl (fun _ => 0)))] := hD
                  refine lv_iinc (v := i + 1) (lv' := [(4, .int (i + 1)), (0, .ref h), (1, .int 0), (2, .int 0), (3, .int 0)]) hx hb dX4_fall_394 hl (k := 0) rfl (by rfl) (by decide) rfl (fun ls hl => ?_)
                  refine lv_goto (tgt := 379) hx hb dX4_fall_397 (by decide) ?_
                  have e1 := k_inc (x := i) (by omega)
                  exact ih (i + 1) (upd f i.toNatClampNeg 0) _ _ _ (by omega) (by omega) (hP.sub [0, 1, 2] rfl) (hD.sub [0, 1, 2] (by decide) rfl) hS (lv_sub hl [0, 1, 2, 3, 4] rfl)
            exact loop 24 0 (fun _ => 0) _ _ _ (by decide) (by decide) (hP.sub [0, 1, 2] rfl) (hD.sub [0, 1, 2] (by decide) rfl) hS (lv_sub hl [0, 3, 4, 2, 1] rfl)
          · skip
            exact absurd c5 (by decide)
        · skip
          exact absurd c4 (by decide)
      · skip
        exact absurd c3 (by decide)
    · skip
      have c2 := k_nle c2
      have hl0 : (0 : Int32).toInt = 0 := by decide
      refine lv_iconst (v := (-1)) hx hb dX4_fall_17 (by decide) ?_
      subst hQ
      have hP := hP.sub (ws' := []) [] rfl
      have hD := hD.sub (ws' := []) [] (by decide) rfl
      have hK := hK.sub (tys' := [(cI, .int)]) [0] rfl
      refine W.widen (k := 0) (n := 0) (by decide) (by decide) ?_
      exact W.iret (v := (-1)) hx hb hr (fun t ht hW => ⟨⟨(-1), ([], [(cI, .int)]), rfl, Or.inr (⟨rfl, rfl, (by omega)⟩), ⟨by rw [ht]; exact hP, va_K.moved hW.alike hK, hD⟩⟩, hS.F ht⟩) hS.2.2 dX4_fall_18
