set_option maxRecDepth 100000 in
theorem kw_X4_value__fieldLink_RX4_130_ActHouseModel_now_I_ : (.fieldLink RX4 130 "ActHouseModel" "now" "I" : Cond) ∈ wsX4_value := by decide +kernel
set_option maxRecDepth 100000 in
theorem kin_X4_value_X4 : ∀ w ∈ u_ws RX4 TX4 39, w ∈ wsX4_value := by decide +kernel
set_option maxRecDepth 100000 in
theorem kw_X4_value__fieldLink_RX4_168_ActHouseModel_dones_I_ : (.fieldLink RX4 168 "ActHouseModel" "dones" "I" : Cond) ∈ wsX4_value := by decide +kernel
set_option maxRecDepth 100000 in
theorem kw_X4_value__fieldLink_RX4_92_ActHouseModel_done_I_ : (.fieldLink RX4 92 "ActHouseModel" "done" "[I" : Cond) ∈ wsX4_value := by decide +kernel
set_option maxRecDepth 100000 in
theorem kw_X4_value__fieldLink_RX4_56_ActHouseModel_doneIn_I_ : (.fieldLink RX4 56 "ActHouseModel" "doneIn" "[I" : Cond) ∈ wsX4_value := by decide +kernel
set_option maxRecDepth 100000 in
theorem kw_X4_value__fieldLink_RX4_74_ActHouseModel_holds_I_ : (.fieldLink RX4 74 "ActHouseModel" "holds" "[I" : Cond) ∈ wsX4_value := by decide +kernel
set_option maxRecDepth 100000 in
theorem kw_X4_value__fieldLink_RX4_77_ActHouseModel_writes_I_ : (.fieldLink RX4 77 "ActHouseModel" "writes" "[I" : Cond) ∈ wsX4_value := by decide +kernel
set_option maxRecDepth 100000 in
theorem kw_X4_value__fieldLink_RX4_80_ActHouseModel_gives_I_ : (.fieldLink RX4 80 "ActHouseModel" "gives" "[I" : Cond) ∈ wsX4_value := by decide +kernel
set_option maxRecDepth 100000 in
theorem kw_X4_value__constant_RX4_211_2147483648_ : (.constant RX4 211 (-2147483648) : Cond) ∈ wsX4_value := by decide +kernel
set_option maxHeartbeats 4000000 in
set_option maxRecDepth 100000 in
theorem c_X4_value {l : Launch} {D : va_G} {sz : Nat} {h : Nat} {mcells : Nat} {mcounters : Nat} {mfloors : Nat} {mlimits : Nat} {mlongs : Nat} {msteps : Nat} {mprogram : Nat} {mkind : Nat} {mrank : Nat} {mstate : Nat} {mactLong : Nat} {mactSteps : Nat} {mat : Nat} {mregister : Nat} {misHeld : Nat} {mdoneIn : Nat} {mundone : Nat} {mby : Nat} {mbegunIn : Nat} {misVoid : Nat} {misAgain : Nat} {mholds : Nat} {mwrites : Nat} {mgives : Nat} {mbelow : Nat} {mqueued : Nat} {mqueuedMany : Nat} {mdone : Nat} {mlog : Nat} {morder : Nat} {misReached : Nat} {mqueue : Nat} {nw : Int32} {ac : Int32} {dn : Int32} {en : Int32} {kp : Int32} {rg : Int32} {fa : Int32} {x : Int32} {y : Int32} {do_ : Nat → Int32} {di : Nat → Int32} {gv : Nat → Int32} {hd : Nat → Int32} {wr : Nat → Int32} {cI : ClassId} (hdn : 0 ≤ dn.toInt) (hdn2 : dn.toInt ≤ 80) (hdo : ∀ j : Nat, 0 ≤ (do_ j).toInt ∧ (do_ j).toInt < 80) : Met l yX4_value wsX4_value ({ frames := 1, cells := 0, slots := 0, locals := 22 }) (va_Pc [.ref h, .int x, .int y] (k_Pre D [(cI, .int)] [(h, .inr (4, [.int nw, .ref mcells, .ref mcounters, .ref mfloors, .ref mlimits, .ref mlongs, .ref msteps, .int ac, .ref mprogram, .ref mkind, .ref mrank, .ref mstate, .ref mactLong, .ref mactSteps, .ref mat, .ref mregister, .ref misHeld, .ref mdoneIn, .ref mundone, .ref mby, .ref mbegunIn, .ref misVoid, .ref misAgain, .ref mholds, .ref mwrites, .ref mgives, .ref mbelow, .ref mqueued, .ref mqueuedMany, .int dn, .ref mdone, .int en, .int kp, .ref mlog, .int rg, .int fa, .ref morder, .ref misReached, .ref mqueue])), (mdone, .inl (cI, 80, .inl do_)), (mdoneIn, .inl (cI, 80, .inl di)), (mgives, .inl (cI, 640, .inl gv)), (mholds, .inl (cI, 1920, .inl hd)), (mwrites, .inl (cI, 1920, .inl wr))] sz)) (va_Qi (fun (r : Int32) (u : va_W × List (ClassId × FieldType)) => (u = ([(h, .inr (4, [.int nw, .ref mcells, .ref mcounters, .ref mfloors, .ref mlimits, .ref mlongs, .ref msteps, .int ac, .ref mprogram, .ref mkind, .ref mrank, .ref mstate, .ref mactLong, .ref mactSteps, .ref mat, .ref mregister, .ref misHeld, .ref mdoneIn, .ref mundone, .ref mby, .ref mbegunIn, .ref misVoid, .ref misAgain, .ref mholds, .ref mwrites, .ref mgives, .ref mbelow, .ref mqueued, .ref mqueuedMany, .int dn, .ref mdone, .int en, .int kp, .ref mlog, .int rg, .int fa, .ref morder, .ref misReached, .ref mqueue])), (mdone, .inl (cI, 80, .inl do_)), (mdoneIn, .inl (cI, 80, .inl di)), (mgives, .inl (cI, 640, .inl gv)), (mholds, .inl (cI, 1920, .inl hd)), (mwrites, .inl (cI, 1920, .inl wr))], [(cI, .int)]) ∧ r = r)) (k_B D (va_A [(h, .inr (4, [.int nw, .ref mcells, .ref mcounters, .ref mfloors, .ref mlimits, .ref mlongs, .ref msteps, .int ac, .ref mprogram, .ref mkind, .ref mrank, .ref mstate, .ref mactLong, .ref mactSteps, .ref mat, .ref mregister, .ref misHeld, .ref mdoneIn, .ref mundone, .ref mby, .ref mbegunIn, .ref misVoid, .ref misAgain, .ref mholds, .ref mwrites, .ref mgives, .ref mbelow, .ref mqueued, .ref mqueuedMany, .int dn, .ref mdone, .int en, .int kp, .ref mlog, .int rg, .int fa, .ref morder, .ref misReached, .ref mqueue])), (mdone, .inl (cI, 80, .inl do_)), (mdoneIn, .inl (cI, 80, .inl di)), (mgives, .inl (cI, 640, .inl gv)), (mholds, .inl (cI, 1920, .inl hd)), (mwrites, .inl (cI, 1920, .inl wr))] sz)) (va_A [(h, .inr (4, [.int nw, .ref mcells, .ref mcounters, .ref mfloors, .ref mlimits, .ref mlongs, .ref msteps, .int ac, .ref mprogram, .ref mkind, .ref mrank, .ref mstate, .ref mactLong, .ref mactSteps, .ref mat, .ref mregister, .ref misHeld, .ref mdoneIn, .ref mundone, .ref mby, .ref mbegunIn, .ref misVoid, .ref misAgain, .ref mholds, .ref mwrites, .ref mgives, .ref mbelow, .ref mqueued, .ref mqueuedMany, .int dn, .ref mdone, .int en, .int kp, .ref mlog, .int rg, .int fa, .ref morder, .ref misReached, .ref mqueue])), (mdone, .inl (cI, 80, .inl do_)), (mdoneIn, .inl (cI, 80, .inl di)), (mgives, .inl (cI, 640, .inl gv)), (mholds, .inl (cI, 1920, .inl hd)), (mwrites, .inl (cI, 1920, .inl wr))] sz)) (0) (0) (va_A [(h, .inr (4, [.int nw, .ref mcells, .ref mcounters, .ref mfloors, .ref mlimits, .ref mlongs, .ref msteps, .int ac, .ref mprogram, .ref mkind, .ref mrank, .ref mstate, .ref mactLong, .ref mactSteps, .ref mat, .ref mregister, .ref misHeld, .ref mdoneIn, .ref mundone, .ref mby, .ref mbegunIn, .ref misVoid, .ref misAgain, .ref mholds, .ref mwrites, .ref mgives, .ref mbelow, .ref mqueued, .ref mqueuedMany, .int dn, .ref mdone, .int en, .int kp, .ref mlog, .int rg, .int fa, .ref morder, .ref misReached, .ref mqueue])), (mdone, .inl (cI, 80, .inl do_)), (mdoneIn, .inl (cI, 80, .inl di)), (mgives, .inl (cI, 640, .inl gv)), (mholds, .inl (cI, 1920, .inl hd)), (mwrites, .inl (cI, 1920, .inl wr))] sz) := by
  refine Met.ofW (cc := cX4_value) (maxL := 6) (ret := (some .int)) (by decide) rfl ?_
  intro p e s m args below meth c s₁ B hml hv
  obtain ⟨rfl, hsz, hP, hK, hD0⟩ := hv
  have hx := B.exec
  have hb := B.bytes
  have hr := B.returns
  have hts := atoms_spec (ws := wsX4_value) B.pre
  have hown : s.vm.findClass RX4 = some m.cls := findClass_of_methodNamed B.named
  have hlocks := B.notSynchronized
  subst hsz
  have hD := hD0.self (sz := s.heap.size)
  generalize hAe : va_A [(h, .inr (4, [.int nw, .ref mcells, .ref mcounters, .ref mfloors, .ref mlimits, .ref mlongs, .ref msteps, .int ac, .ref mprogram, .ref mkind, .ref mrank, .ref mstate, .ref mactLong, .ref mactSteps, .ref mat, .ref mregister, .ref misHeld, .ref mdoneIn, .ref mundone, .ref mby, .ref mbegunIn, .ref misVoid, .ref misAgain, .ref mholds, .ref mwrites, .ref mgives, .ref mbelow, .ref mqueued, .ref mqueuedMany, .int dn, .ref mdone, .int en, .int kp, .ref mlog, .int rg, .int fa, .ref morder, .ref misReached, .ref mqueue])), (mdone, .inl (cI, 80, .inl do_)), (mdoneIn, .inl (cI, 80, .inl di)), (mgives, .inl (cI, 640, .inl gv)), (mholds, .inl (cI, 1920, .inl hd)), (mwrites, .inl (cI, 1920, .inl wr))] s.heap.size = A at hD ⊢
  have hA : ∀ q : Nat, s.heap.size ≤ q → A q := fun q h => by rw [← hAe]; exact Or.inr h
  have hS : va_S A s.heap s.heap [] := va_S.rf
  have hl := lv_entry ([.ref h, .int x, .int y]) (n := 6) (Nat.le_of_ble_eq_true rfl)
  rw [lg_entry_eq]
  generalize (lg_sl ([.ref h, .int x, .int y]) ++ List.replicate (6 - (lg_sl ([.ref h, .int x, .int y])).length) Slot.unset).toArray = ls at hl ⊢
  have hl : lv_has ls 6 [(0, .ref h), (1, .int x), (2, .int y)] := hl
  refine k_Q (fun Q hQ => ?_)
  refine lv_iload_n hx hb dX4_value_0 rfl (lv_at hl 1 rfl) ?_
  refine lv_iconst (v := 0) hx hb dX4_value_1 (by decide) ?_
  refine lv_bipush (v := 31) hx hb dX4_value_2 (by decide) ?_
  have hPc := hP.sub (ws' := []) [] rfl
  have hDc := hD.sub (ws' := []) [] (by decide) rfl
  have hKc := hK.sub (tys' := []) [] rfl
  have hFc := va_free (wc := []) hD hS hA [] rfl
  refine va_calli (va_runS (As := [.int x, .int 0, .int 31]) (rest := []) ⟨hx, hb, hml, hown, hts⟩ (c_X4_in (l := l) (D := D) (x := x) (y := 0) (z := 31) ) (va_cwS 3 hts gX4_value_X4_in rfl rfl rfl (by decide +kernel) ⟨Nat.le_of_ble_eq_true rfl, Nat.le_of_ble_eq_true rfl⟩) ⟨k_blind, fun U hU hW => ⟨rfl, k_pre hU hW hPc hKc hDc⟩⟩ rfl rfl hl.1 rfl (lv_room (Nat.le_of_ble_eq_true rfl)) dX4_value_4 ⟨by decide, by decide⟩) hS (fun q _ h => hFc q h) hFc (fun r1 u t H1 locs ht hvm hw hB hz1 hk1 hS => ?_)
  refine W.widen (k := 0) (n := 0) (Nat.le_refl _) (Nat.le_refl _) ?_
  have hl0 : (0 : Int32).toInt = 0 := by decide
  have hl31 : (31 : Int32).toInt = 31 := by decide
  rcases hw with ⟨rfl, rfl, ha_1, hb_1⟩ | ⟨rfl, rfl, ha_1⟩
  · skip
    obtain ⟨hP1, hK1, hD1⟩ := hB
    rw [ht] at hP1
    have hK1 := va_K.moved hvm.symm hK1
    obtain ⟨hP, hD⟩ := va_join (wr := [(h, .inr (4, [.int nw, .ref mcells, .ref mcounters, .ref mfloors, .ref mlimits, .ref mlongs, .ref msteps, .int ac, .ref mprogram, .ref mkind, .ref mrank, .ref mstate, .ref mactLong, .ref mactSteps, .ref mat, .ref mregister, .ref misHeld, .ref mdoneIn, .ref mundone, .ref mby, .ref mbegunIn, .ref misVoid, .ref misAgain, .ref mholds, .ref mwrites, .ref mgives, .ref mbelow, .ref mqueued, .ref mqueuedMany, .int dn, .ref mdone, .int en, .int kp, .ref mlog, .int rg, .int fa, .ref morder, .ref misReached, .ref mqueue])), (mdone, .inl (cI, 80, .inl do_)), (mdoneIn, .inl (cI, 80, .inl di)), (mgives, .inl (cI, 640, .inl gv)), (mholds, .inl (cI, 1920, .inl hd)), (mwrites, .inl (cI, 1920, .inl wr))]) (w1 := []) hP hD [] [0, 1, 2, 3, 4, 5] rfl rfl (by decide) (by decide) hk1 hFc hP1 hD1
    generalize H1 = H at hP hS ⊢
    have hP : va_P D vwCl [(h, .inr (4, [.int nw, .ref mcells, .ref mcounters, .ref mfloors, .ref mlimits, .ref mlongs, .ref msteps, .int ac, .ref mprogram, .ref mkind, .ref mrank, .ref mstate, .ref mactLong, .ref mactSteps, .ref mat, .ref mregister, .ref misHeld, .ref mdoneIn, .ref mundone, .ref mby, .ref mbegunIn, .ref misVoid, .ref misAgain, .ref mholds, .ref mwrites, .ref mgives, .ref mbelow, .ref mqueued, .ref mqueuedMany, .int dn, .ref mdone, .int en, .int kp, .ref mlog, .int rg, .int fa, .ref morder, .ref misReached, .ref mqueue])), (mdone, .inl (cI, 80, .inl do_)), (mdoneIn, .inl (cI, 80, .inl di)), (mgives, .inl (cI, 640, .inl gv)), (mholds, .inl (cI, 1920, .inl hd)), (mwrites, .inl (cI, 1920, .inl wr))] H := hP
    have hD : va_D A [(h, .inr (4, [.int nw, .ref mcells, .ref mcounters, .ref mfloors, .ref mlimits, .ref mlongs, .ref msteps, .int ac, .ref mprogram, .ref mkind, .ref mrank, .ref mstate, .ref mactLong, .ref mactSteps, .ref mat, .ref mregister, .ref misHeld, .ref mdoneIn, .ref mundone, .ref mby, .ref mbegunIn, .ref misVoid, .ref misAgain, .ref mholds, .ref mwrites, .ref mgives, .ref mbelow, .ref mqueued, .ref mqueuedMany, .int dn, .ref mdone, .int en, .int kp, .ref mlog, .int rg, .int fa, .ref morder, .ref misReached, .ref mqueue])), (mdone, .inl (cI, 80, .inl do_)), (mdoneIn, .inl (cI, 80, .inl di)), (mgives, .inl (cI, 640, .inl gv)), (mholds, .inl (cI, 1920, .inl hd)), (mwrites, .inl (cI, 1920, .inl wr))] := hD
    refine lv_if_eq (tgt := 22) hx hb dX4_value_7 (by decide) (fun c2 => ?_) (fun c2 => ?_)
    · skip
      exact absurd c2 (by decide)
    · skip
      refine lv_iload_n hx hb dX4_value_10 rfl (lv_at hl 2 rfl) ?_
      refine lv_iconst (v := 0) hx hb dX4_value_11 (by decide) ?_
      refine lv_aload_n hx hb dX4_value_12 rfl (lv_at hl 0 rfl) ?_
      refine va_get (D := D) (ci := 4) (v := .int nw) (C := RX4) (T := TX4) (N := 39) hx hb hts kin_X4_value_X4 hown hK hP 0 rfl rfl 0 (by decide) (hts _ kw_X4_value__fieldLink_RX4_130_ActHouseModel_now_I_) (fun _ h9 => h9) rfl dX4_value_13 ?_
      have hPc := hP.sub (ws' := []) [] rfl
      have hDc := hD.sub (ws' := []) [] (by decide) rfl
      have hKc := hK.sub (tys' := []) [] rfl
      have hFc := va_free (wc := []) hD hS hA [] rfl
      refine va_calli (va_runS (As := [.int y, .int 0, .int nw]) (rest := []) ⟨hx, hb, hml, hown, hts⟩ (c_X4_in (l := l) (D := D) (x := y) (y := 0) (z := nw) ) (va_cwS 3 hts gX4_value_X4_in rfl rfl rfl (by decide +kernel) ⟨Nat.le_of_ble_eq_true rfl, Nat.le_of_ble_eq_true rfl⟩) ⟨k_blind, fun U hU hW => ⟨rfl, k_pre hU hW hPc hKc hDc⟩⟩ rfl rfl hl.1 rfl (lv_room (Nat.le_of_ble_eq_true rfl)) dX4_value_16 ⟨by decide, by decide⟩) hS (fun q _ h => hFc q h) hFc (fun r3 u t H1 locs ht hvm hw hB hz1 hk1 hS => ?_)
      refine W.widen (k := 0) (n := 0) (Nat.le_refl _) (Nat.le_refl _) ?_
      have hl0 : (0 : Int32).toInt = 0 := by decide
      rcases hw with ⟨rfl, rfl, ha_3, hb_3⟩ | ⟨rfl, rfl, ha_3⟩
      · skip
        obtain ⟨hP1, hK1, hD1⟩ := hB
        rw [ht] at hP1
        have hK1 := va_K.moved hvm.symm hK1
        obtain ⟨hP, hD⟩ := va_join (wr := [(h, .inr (4, [.int nw, .ref mcells, .ref mcounters, .ref mfloors, .ref mlimits, .ref mlongs, .ref msteps, .int ac, .ref mprogram, .ref mkind, .ref mrank, .ref mstate, .ref mactLong, .ref mactSteps, .ref mat, .ref mregister, .ref misHeld, .ref mdoneIn, .ref mundone, .ref mby, .ref mbegunIn, .ref misVoid, .ref misAgain, .ref mholds, .ref mwrites, .ref mgives, .ref mbelow, .ref mqueued, .ref mqueuedMany, .int dn, .ref mdone, .int en, .int kp, .ref mlog, .int rg, .int fa, .ref morder, .ref misReached, .ref mqueue])), (mdone, .inl (cI, 80, .inl do_)), (mdoneIn, .inl (cI, 80, .inl di)), (mgives, .inl (cI, 640, .inl gv)), (mholds, .inl (cI, 1920, .inl hd)), (mwrites, .inl (cI, 1920, .inl wr))]) (w1 := []) hP hD [] [0, 1, 2, 3, 4, 5] rfl rfl (by decide) (by decide) hk1 hFc hP1 hD1
        generalize H1 = H at hP hS ⊢
        have hP : va_P D vwCl [(h, .inr (4, [.int nw, .ref mcells, .ref mcounters, .ref mfloors, .ref mlimits, .ref mlongs, .ref msteps, .int ac, .ref mprogram, .ref mkind, .ref mrank, .ref mstate, .ref mactLong, .ref mactSteps, .ref mat, .ref mregister, .ref misHeld, .ref mdoneIn, .ref mundone, .ref mby, .ref mbegunIn, .ref misVoid, .ref misAgain, .ref mholds, .ref mwrites, .ref mgives, .ref mbelow, .ref mqueued, .ref mqueuedMany, .int dn, .ref mdone, .int en, .int kp, .ref mlog, .int rg, .int fa, .ref morder, .ref misReached, .ref mqueue])), (mdone, .inl (cI, 80, .inl do_)), (mdoneIn, .inl (cI, 80, .inl di)), (mgives, .inl (cI, 640, .inl gv)), (mholds, .inl (cI, 1920, .inl hd)), (mwrites, .inl (cI, 1920, .inl wr))] H := hP
        have hD : va_D A [(h, .inr (4, [.int nw, .ref mcells, .ref mcounters, .ref mfloors, .ref mlimits, .ref mlongs, .ref msteps, .int ac, .ref mprogram, .ref mkind, .ref mrank, .ref mstate, .ref mactLong, .ref mactSteps, .ref mat, .ref mregister, .ref misHeld, .ref mdoneIn, .ref mundone, .ref mby, .ref mbegunIn, .ref misVoid, .ref misAgain, .ref mholds, .ref mwrites, .ref mgives, .ref mbelow, .ref mqueued, .ref mqueuedMany, .int dn, .ref mdone, .int en, .int kp, .ref mlog, .int rg, .int fa, .ref morder, .ref misReached, .ref mqueue])), (mdone, .inl (cI, 80, .inl do_)), (mdoneIn, .inl (cI, 80, .inl di)), (mgives, .inl (cI, 640, .inl gv)), (mholds, .inl (cI, 1920, .inl hd)), (mwrites, .inl (cI, 1920, .inl wr))] := hD
        refine lv_if_ne (tgt := 25) hx hb dX4_value_19 (by decide) (fun c4 => ?_) (fun c4 => ?_)
        · skip
          refine lv_iconst (v := 0) hx hb dX4_value_25 (by decide) ?_
          refine lv_istore_n (lv' := [(3, .int 0), (0, .ref h), (1, .int x), (2, .int y)]) hx hb dX4_value_26 rfl hl (by decide) rfl (fun ls hl => ?_)
          refine lv_iconst (v := 0) hx hb dX4_value_27 (by decide) ?_
          refine lv_istore (lv' := [(4, .int 0), (3, .int 0), (0, .ref h), (1, .int x), (2, .int y)]) hx hb dX4_value_28 hl (by decide) rfl (fun ls hl => ?_)
          have loop30 : ∀ (k : Nat) (i : Int32) (tt : Int32) (H : Heap) (locs : List Loc) (ls : Array Slot), (0 ≤ i.toInt) → (i.toInt + k = dn.toInt) → va_P D vwCl [(h, .inr (4, [.int nw, .ref mcells, .ref mcounters, .ref mfloors, .ref mlimits, .ref mlongs, .ref msteps, .int ac, .ref mprogram, .ref mkind, .ref mrank, .ref mstate, .ref mactLong, .ref mactSteps, .ref mat, .ref mregister, .ref misHeld, .ref mdoneIn, .ref mundone, .ref mby, .ref mbegunIn, .ref misVoid, .ref misAgain, .ref mholds, .ref mwrites, .ref mgives, .ref mbelow, .ref mqueued, .ref mqueuedMany, .int dn, .ref mdone, .int en, .int kp, .ref mlog, .int rg, .int fa, .ref morder, .ref misReached, .ref mqueue])), (mdone, .inl (cI, 80, .inl do_)), (mdoneIn, .inl (cI, 80, .inl di)), (mgives, .inl (cI, 640, .inl gv)), (mholds, .inl (cI, 1920, .inl hd)), (mwrites, .inl (cI, 1920, .inl wr))] H → va_D A [(h, .inr (4, [.int nw, .ref mcells, .ref mcounters, .ref mfloors, .ref mlimits, .ref mlongs, .ref msteps, .int ac, .ref mprogram, .ref mkind, .ref mrank, .ref mstate, .ref mactLong, .ref mactSteps, .ref mat, .ref mregister, .ref misHeld, .ref mdoneIn, .ref mundone, .ref mby, .ref mbegunIn, .ref misVoid, .ref misAgain, .ref mholds, .ref mwrites, .ref mgives, .ref mbelow, .ref mqueued, .ref mqueuedMany, .int dn, .ref mdone, .int en, .int kp, .ref mlog, .int rg, .int fa, .ref morder, .ref misReached, .ref mqueue])), (mdone, .inl (cI, 80, .inl do_)), (mdoneIn, .inl (cI, 80, .inl di)), (mgives, .inl (cI, 640, .inl gv)), (mholds, .inl (cI, 1920, .inl hd)), (mwrites, .inl (cI, 1920, .inl wr))] → va_S A s.heap H locs → lv_has ls 6 [(4, .int i), (3, .int tt), (0, .ref h), (1, .int x), (2, .int y)] → W p l e (headSpec wsX4_value ({ frames := 1, cells := 0, slots := 0, locals := 22 })).room s m ([.ref h, .int x, .int y] : List Value).toArray below meth c H locs (0) (0) Q (F0 m 30 ls []) := by
            intro k30
            induction k30 with
            | zero =>
              intro i tt H locs ls h0 hi hP hD hS hl
              refine lv_iload hx hb dX4_value_30 (lv_at hl 0 rfl) ?_
              refine lv_aload_n hx hb dX4_value_32 rfl (lv_at hl 2 rfl) ?_
              refine va_get (D := D) (ci := 4) (v := .int dn) (C := RX4) (T := TX4) (N := 39) hx hb hts kin_X4_value_X4 hown hK hP 0 rfl rfl 29 (by decide) (hts _ kw_X4_value__fieldLink_RX4_168_ActHouseModel_dones_I_) (fun _ h9 => h9) rfl dX4_value_33 ?_
              refine lv_icmp_ge (tgt := 124) hx hb dX4_value_36 (by decide) (fun c5 => ?_) (fun c5 => ?_)
              · skip
                have c5 := k_le c5
                refine lv_iload_n hx hb dX4_value_124 rfl (lv_at hl 1 rfl) ?_
                subst hQ
                have hP := hP.sub (ws' := [(h, .inr (4, [.int nw, .ref mcells, .ref mcounters, .ref mfloors, .ref mlimits, .ref mlongs, .ref msteps, .int ac, .ref mprogram, .ref mkind, .ref mrank, .ref mstate, .ref mactLong, .ref mactSteps, .ref mat, .ref mregister, .ref misHeld, .ref mdoneIn, .ref mundone, .ref mby, .ref mbegunIn, .ref misVoid, .ref misAgain, .ref mholds, .ref mwrites, .ref mgives, .ref mbelow, .ref mqueued, .ref mqueuedMany, .int dn, .ref mdone, .int en, .int kp, .ref mlog, .int rg, .int fa, .ref morder, .ref misReached, .ref mqueue])), (mdone, .inl (cI, 80, .inl do_)), (mdoneIn, .inl (cI, 80, .inl di)), (mgives, .inl (cI, 640, .inl gv)), (mholds, .inl (cI, 1920, .inl hd)), (mwrites, .inl (cI, 1920, .inl wr))]) [0, 1, 2, 3, 4, 5] rfl
                have hD := hD.sub (ws' := [(h, .inr (4, [.int nw, .ref mcells, .ref mcounters, .ref mfloors, .ref mlimits, .ref mlongs, .ref msteps, .int ac, .ref mprogram, .ref mkind, .ref mrank, .ref mstate, .ref mactLong, .ref mactSteps, .ref mat, .ref mregister, .ref misHeld, .ref mdoneIn, .ref mundone, .ref mby, .ref mbegunIn, .ref misVoid, .ref misAgain, .ref mholds, .ref mwrites, .ref mgives, .ref mbelow, .ref mqueued, .ref mqueuedMany, .int dn, .ref mdone, .int en, .int kp, .ref mlog, .int rg, .int fa, .ref morder, .ref misReached, .ref mqueue])), (mdone, .inl (cI, 80, .inl do_)), (mdoneIn, .inl (cI, 80, .inl di)), (mgives, .inl (cI, 640, .inl gv)), (mholds, .inl (cI, 1920, .inl hd)), (mwrites, .inl (cI, 1920, .inl wr))]) [0, 1, 2, 3, 4, 5] (by decide) rfl
                have hK := hK.sub (tys' := [(cI, .int)]) [0] rfl
                refine W.widen (k := 0) (n := 0) (by decide) (by decide) ?_
                exact W.iret (v := tt) hx hb hr (fun t ht hW => ⟨⟨tt, ([(h, .inr (4, [.int nw, .ref mcells, .ref mcounters, .ref mfloors, .ref mlimits, .ref mlongs, .ref msteps, .int ac, .ref mprogram, .ref mkind, .ref mrank, .ref mstate, .ref mactLong, .ref mactSteps, .ref mat, .ref mregister, .ref misHeld, .ref mdoneIn, .ref mundone, .ref mby, .ref mbegunIn, .ref misVoid, .ref misAgain, .ref mholds, .ref mwrites, .ref mgives, .ref mbelow, .ref mqueued, .ref mqueuedMany, .int dn, .ref mdone, .int en, .int kp, .ref mlog, .int rg, .int fa, .ref morder, .ref misReached, .ref mqueue])), (mdone, .inl (cI, 80, .inl do_)), (mdoneIn, .inl (cI, 80, .inl di)), (mgives, .inl (cI, 640, .inl gv)), (mholds, .inl (cI, 1920, .inl hd)), (mwrites, .inl (cI, 1920, .inl wr))], [(cI, .int)]), rfl, ⟨rfl, (by rfl)⟩, ⟨by rw [ht]; exact hP, va_K.moved hW.alike hK, hD⟩⟩, hS.F ht⟩) hS.2.2 dX4_value_125
              · skip
                have c5 := k_nle c5
                exfalso; omega
            | succ k30 ih30 =>
              intro i tt H locs ls h0 hi hP hD hS hl
              refine lv_iload hx hb dX4_value_30 (lv_at hl 0 rfl) ?_
              refine lv_aload_n hx hb dX4_value_32 rfl (lv_at hl 2 rfl) ?_
              refine va_get (D := D) (ci := 4) (v := .int dn) (C := RX4) (T := TX4) (N := 39) hx hb hts kin_X4_value_X4 hown hK hP 0 rfl rfl 29 (by decide) (hts _ kw_X4_value__fieldLink_RX4_168_ActHouseModel_dones_I_) (fun _ h9 => h9) rfl dX4_value_33 ?_
              refine lv_icmp_ge (tgt := 124) hx hb dX4_value_36 (by decide) (fun c6 => ?_) (fun c6 => ?_)
              · skip
                have c6 := k_le c6
                refine lv_iload_n hx hb dX4_value_124 rfl (lv_at hl 1 rfl) ?_
                subst hQ
                have hP := hP.sub (ws' := [(h, .inr (4, [.int nw, .ref mcells, .ref mcounters, .ref mfloors, .ref mlimits, .ref mlongs, .ref msteps, .int ac, .ref mprogram, .ref mkind, .ref mrank, .ref mstate, .ref mactLong, .ref mactSteps, .ref mat, .ref mregister, .ref misHeld, .ref mdoneIn, .ref mundone, .ref mby, .ref mbegunIn, .ref misVoid, .ref misAgain, .ref mholds, .ref mwrites, .ref mgives, .ref mbelow, .ref mqueued, .ref mqueuedMany, .int dn, .ref mdone, .int en, .int kp, .ref mlog, .int rg, .int fa, .ref morder, .ref misReached, .ref mqueue])), (mdone, .inl (cI, 80, .inl do_)), (mdoneIn, .inl (cI, 80, .inl di)), (mgives, .inl (cI, 640, .inl gv)), (mholds, .inl (cI, 1920, .inl hd)), (mwrites, .inl (cI, 1920, .inl wr))]) [0, 1, 2, 3, 4, 5] rfl
                have hD := hD.sub (ws' := [(h, .inr (4, [.int nw, .ref mcells, .ref mcounters, .ref mfloors, .ref mlimits, .ref mlongs, .ref msteps, .int ac, .ref mprogram, .ref mkind, .ref mrank, .ref mstate, .ref mactLong, .ref mactSteps, .ref mat, .ref mregister, .ref misHeld, .ref mdoneIn, .ref mundone, .ref mby, .ref mbegunIn, .ref misVoid, .ref misAgain, .ref mholds, .ref mwrites, .ref mgives, .ref mbelow, .ref mqueued, .ref mqueuedMany, .int dn, .ref mdone, .int en, .int kp, .ref mlog, .int rg, .int fa, .ref morder, .ref misReached, .ref mqueue])), (mdone, .inl (cI, 80, .inl do_)), (mdoneIn, .inl (cI, 80, .inl di)), (mgives, .inl (cI, 640, .inl gv)), (mholds, .inl (cI, 1920, .inl hd)), (mwrites, .inl (cI, 1920, .inl wr))]) [0, 1, 2, 3, 4, 5] (by decide) rfl
                have hK := hK.sub (tys' := [(cI, .int)]) [0] rfl
                refine W.widen (k := 0) (n := 0) (by decide) (by decide) ?_
                exact W.iret (v := tt) hx hb hr (fun t ht hW => ⟨⟨tt, ([(h, .inr (4, [.int nw, .ref mcells, .ref mcounters, .ref mfloors, .ref mlimits, .ref mlongs, .ref msteps, .int ac, .ref mprogram, .ref mkind, .ref mrank, .ref mstate, .ref mactLong, .ref mactSteps, .ref mat, .ref mregister, .ref misHeld, .ref mdoneIn, .ref mundone, .ref mby, .ref mbegunIn, .ref misVoid, .ref misAgain, .ref mholds, .ref mwrites, .ref mgives, .ref mbelow, .ref mqueued, .ref mqueuedMany, .int dn, .ref mdone, .int en, .int kp, .ref mlog, .int rg, .int fa, .ref morder, .ref misReached, .ref mqueue])), (mdone, .inl (cI, 80, .inl do_)), (mdoneIn, .inl (cI, 80, .inl di)), (mgives, .inl (cI, 640, .inl gv)), (mholds, .inl (cI, 1920, .inl hd)), (mwrites, .inl (cI, 1920, .inl wr))], [(cI, .int)]), rfl, ⟨rfl, (by rfl)⟩, ⟨by rw [ht]; exact hP, va_K.moved hW.alike hK, hD⟩⟩, hS.F ht⟩) hS.2.2 dX4_value_125
              · skip
                have c6 := k_nle c6
                refine lv_aload_n hx hb dX4_value_39 rfl (lv_at hl 2 rfl) ?_
                refine va_get (D := D) (ci := 4) (v := .ref mdone) (C := RX4) (T := TX4) (N := 39) hx hb hts kin_X4_value_X4 hown hK hP 0 rfl rfl 30 (by decide) (hts _ kw_X4_value__fieldLink_RX4_92_ActHouseModel_done_I_) (fun _ h9 => h9) rfl dX4_value_40 ?_
                refine lv_iload hx hb dX4_value_43 (lv_at hl 0 rfl) ?_
                have hi45 : vp_in i 80 := (k_in (by omega) (by omega))
                refine va_iald hx hb hK hP 1 0 rfl rfl hi45 dX4_value_45 ?_
                refine lv_istore (lv' := [(5, .int (do_ i.toNatClampNeg)), (4, .int i), (3, .int tt), (0, .ref h), (1, .int x), (2, .int y)]) hx hb dX4_value_46 hl (by decide) rfl (fun ls hl => ?_)
                have hdo1 := hdo i.toNatClampNeg
                refine lv_aload_n hx hb dX4_value_48 rfl (lv_at hl 3 rfl) ?_
                refine va_get (D := D) (ci := 4) (v := .ref mdoneIn) (C := RX4) (T := TX4) (N := 39) hx hb hts kin_X4_value_X4 hown hK hP 0 rfl rfl 17 (by decide) (hts _ kw_X4_value__fieldLink_RX4_56_ActHouseModel_doneIn_I_) (fun _ h9 => h9) rfl dX4_value_49 ?_
                refine lv_iload hx hb dX4_value_52 (lv_at hl 0 rfl) ?_
                have hi54 : vp_in (do_ i.toNatClampNeg) 80 := (k_in (by omega) (by omega))
                refine va_iald hx hb hK hP 2 0 rfl rfl hi54 dX4_value_54 ?_
                refine lv_iload_n hx hb dX4_value_55 rfl (lv_at hl 5 rfl) ?_
                refine lv_icmp_le (tgt := 62) hx hb dX4_value_56 (by decide) (fun c7 => ?_) (fun c7 => ?_)
                · skip
                  have c7 := k_le c7
                  refine lv_iload_n hx hb dX4_value_62 rfl (lv_at hl 4 rfl) ?_
                  refine lv_bipush (v := 24) hx hb dX4_value_63 (by decide) ?_
                  refine lv_icmp_lt (tgt := 89) hx hb dX4_value_65 (by decide) (fun c8 => ?_) (fun c8 => ?_)
                  · skip
                    have c8 := k_lt c8
                    have hl24 : (24 : Int32).toInt = 24 := by decide
                    refine lv_aload_n hx hb dX4_value_89 rfl (lv_at hl 3 rfl) ?_
                    refine va_get (D := D) (ci := 4) (v := .ref mholds) (C := RX4) (T := TX4) (N := 39) hx hb hts kin_X4_value_X4 hown hK hP 0 rfl rfl 23 (by decide) (hts _ kw_X4_value__fieldLink_RX4_74_ActHouseModel_holds_I_) (fun _ h9 => h9) rfl dX4_value_90 ?_
                    refine lv_bipush (v := 24) hx hb dX4_value_93 (by decide) ?_
                    refine lv_iload hx hb dX4_value_95 (lv_at hl 0 rfl) ?_
                    refine lv_imul hx hb dX4_value_97 ?_
                    refine lv_iload_n hx hb dX4_value_98 rfl (lv_at hl 4 rfl) ?_
                    refine lv_iadd hx hb dX4_value_99 ?_
                    have hl24 : (24 : Int32).toInt = 24 := by decide
                    have ef9 := k_mul2 (x := 24) (y := (do_ i.toNatClampNeg)) (N := 24) (by decide) (by omega) (by omega)
                    have ef10 := k_add (x := (24 * (do_ i.toNatClampNeg))) (y := x) (by omega) (by omega)
                    have hi100 : vp_in ((24 * (do_ i.toNatClampNeg)) + x) 1920 := (k_in (by omega) (by omega))
                    refine va_iald hx hb hK hP 4 0 rfl rfl hi100 dX4_value_100 ?_
                    refine lv_iconst (v := 3) hx hb dX4_value_101 (by decide) ?_
                    refine lv_icmp_ne (tgt := 118) hx hb dX4_value_102 (by decide) (fun c11 => ?_) (fun c11 => ?_)
                    · skip
                      have c11 := k_ne c11
                      have hl3 : (3 : Int32).toInt = 3 := by decide
                      refine lv_iinc (v := i + 1) (lv' := [(4, .int (i + 1)), (5, .int (do_ i.toNatClampNeg)), (3, .int tt), (0, .ref h), (1, .int x), (2, .int y)]) hx hb dX4_value_118 hl (k := 1) rfl (by rfl) (by decide) rfl (fun ls hl => ?_)
                      refine lv_goto (tgt := 30) hx hb dX4_value_121 (by decide) ?_
                      have e1 := k_inc (x := i) (by omega)
                      exact ih30 (i + 1) tt _ _ _ (by omega) (by omega) (hP.sub [0, 1, 2, 3, 4, 5] rfl) (hD.sub [0, 1, 2, 3, 4, 5] (by decide) rfl) hS (lv_sub hl [0, 2, 3, 4, 5] rfl)
                    · skip
                      have c11 := k_eq c11
                      have hl3 : (3 : Int32).toInt = 3 := by decide
                      refine lv_aload_n hx hb dX4_value_105 rfl (lv_at hl 3 rfl) ?_
                      refine va_get (D := D) (ci := 4) (v := .ref mwrites) (C := RX4) (T := TX4) (N := 39) hx hb hts kin_X4_value_X4 hown hK hP 0 rfl rfl 24 (by decide) (hts _ kw_X4_value__fieldLink_RX4_77_ActHouseModel_writes_I_) (fun _ h9 => h9) rfl dX4_value_106 ?_
                      refine lv_bipush (v := 24) hx hb dX4_value_109 (by decide) ?_
                      refine lv_iload hx hb dX4_value_111 (lv_at hl 0 rfl) ?_
                      refine lv_imul hx hb dX4_value_113 ?_
                      refine lv_iload_n hx hb dX4_value_114 rfl (lv_at hl 4 rfl) ?_
                      refine lv_iadd hx hb dX4_value_115 ?_
                      have hl24 : (24 : Int32).toInt = 24 := by decide
                      have ef12 := k_mul2 (x := 24) (y := (do_ i.toNatClampNeg)) (N := 24) (by decide) (by omega) (by omega)
                      have ef13 := k_add (x := (24 * (do_ i.toNatClampNeg))) (y := x) (by omega) (by omega)
                      have hi116 : vp_in ((24 * (do_ i.toNatClampNeg)) + x) 1920 := (k_in (by omega) (by omega))
                      refine va_iald hx hb hK hP 5 0 rfl rfl hi116 dX4_value_116 ?_
                      refine lv_istore_n (lv' := [(3, .int (wr ((24 * (do_ i.toNatClampNeg)) + x).toNatClampNeg)), (5, .int (do_ i.toNatClampNeg)), (4, .int i), (0, .ref h), (1, .int x), (2, .int y)]) hx hb dX4_value_117 rfl hl (by decide) rfl (fun ls hl => ?_)
                      refine lv_iinc (v := i + 1) (lv' := [(4, .int (i + 1)), (3, .int (wr ((24 * (do_ i.toNatClampNeg)) + x).toNatClampNeg)), (5, .int (do_ i.toNatClampNeg)), (0, .ref h), (1, .int x), (2, .int y)]) hx hb dX4_value_118 hl (k := 2) rfl (by rfl) (by decide) rfl (fun ls hl => ?_)
                      refine lv_goto (tgt := 30) hx hb dX4_value_121 (by decide) ?_
                      have e1 := k_inc (x := i) (by omega)
                      exact ih30 (i + 1) (wr ((24 * (do_ i.toNatClampNeg)) + x).toNatClampNeg) _ _ _ (by omega) (by omega) (hP.sub [0, 1, 2, 3, 4, 5] rfl) (hD.sub [0, 1, 2, 3, 4, 5] (by decide) rfl) hS (lv_sub hl [0, 1, 3, 4, 5] rfl)
                  · skip
                    have c8 := k_nlt c8
                    have hl24 : (24 : Int32).toInt = 24 := by decide
                    refine lv_iload_n hx hb dX4_value_68 rfl (lv_at hl 2 rfl) ?_
                    refine lv_aload_n hx hb dX4_value_69 rfl (lv_at hl 3 rfl) ?_
                    refine va_get (D := D) (ci := 4) (v := .ref mgives) (C := RX4) (T := TX4) (N := 39) hx hb hts kin_X4_value_X4 hown hK hP 0 rfl rfl 25 (by decide) (hts _ kw_X4_value__fieldLink_RX4_80_ActHouseModel_gives_I_) (fun _ h9 => h9) rfl dX4_value_70 ?_
                    refine lv_bipush (v := 8) hx hb dX4_value_73 (by decide) ?_
                    refine lv_iload hx hb dX4_value_75 (lv_at hl 0 rfl) ?_
                    refine lv_imul hx hb dX4_value_77 ?_
                    refine lv_iload_n hx hb dX4_value_78 rfl (lv_at hl 4 rfl) ?_
                    refine lv_iadd hx hb dX4_value_79 ?_
                    refine lv_bipush (v := 24) hx hb dX4_value_80 (by decide) ?_
                    refine lv_isub hx hb dX4_value_82 ?_
                    have hl8 : (8 : Int32).toInt = 8 := by decide
                    have ef14 := k_mul2 (x := 8) (y := (do_ i.toNatClampNeg)) (N := 8) (by decide) (by omega) (by omega)
                    have ef15 := k_add (x := (8 * (do_ i.toNatClampNeg))) (y := x) (by omega) (by omega)
                    have hl24 : (24 : Int32).toInt = 24 := by decide
                    have ef16 := k_sub (x := ((8 * (do_ i.toNatClampNeg)) + x)) (y := 24) (by omega) (by omega)
                    have hi83 : vp_in (((8 * (do_ i.toNatClampNeg)) + x) - 24) 640 := (k_in (by omega) (by omega))
                    refine va_iald hx hb hK hP 3 0 rfl rfl hi83 dX4_value_83 ?_
                    refine lv_iadd hx hb dX4_value_84 ?_
                    refine lv_istore_n (lv' := [(3, .int (tt + (gv (((8 * (do_ i.toNatClampNeg)) + x) - 24).toNatClampNeg))), (5, .int (do_ i.toNatClampNeg)), (4, .int i), (0, .ref h), (1, .int x), (2, .int y)]) hx hb dX4_value_85 rfl hl (by decide) rfl (fun ls hl => ?_)
                    refine lv_goto (tgt := 118) hx hb dX4_value_86 (by decide) ?_
                    refine lv_iinc (v := i + 1) (lv' := [(4, .int (i + 1)), (3, .int (tt + (gv (((8 * (do_ i.toNatClampNeg)) + x) - 24).toNatClampNeg))), (5, .int (do_ i.toNatClampNeg)), (0, .ref h), (1, .int x), (2, .int y)]) hx hb dX4_value_118 hl (k := 2) rfl (by rfl) (by decide) rfl (fun ls hl => ?_)
                    refine lv_goto (tgt := 30) hx hb dX4_value_121 (by decide) ?_
                    have e1 := k_inc (x := i) (by omega)
                    exact ih30 (i + 1) (tt + (gv (((8 * (do_ i.toNatClampNeg)) + x) - 24).toNatClampNeg)) _ _ _ (by omega) (by omega) (hP.sub [0, 1, 2, 3, 4, 5] rfl) (hD.sub [0, 1, 2, 3, 4, 5] (by decide) rfl) hS (lv_sub hl [0, 1, 3, 4, 5] rfl)
                · skip
                  have c7 := k_nle c7
                  refine lv_goto (tgt := 118) hx hb dX4_value_59 (by decide) ?_
                  refine lv_iinc (v := i + 1) (lv' := [(4, .int (i + 1)), (5, .int (do_ i.toNatClampNeg)), (3, .int tt), (0, .ref h), (1, .int x), (2, .int y)]) hx hb dX4_value_118 hl (k := 1) rfl (by rfl) (by decide) rfl (fun ls hl => ?_)
                  refine lv_goto (tgt := 30) hx hb dX4_value_121 (by decide) ?_
                  have e1 := k_inc (x := i) (by omega)
                  exact ih30 (i + 1) tt _ _ _ (by omega) (by omega) (hP.sub [0, 1, 2, 3, 4, 5] rfl) (hD.sub [0, 1, 2, 3, 4, 5] (by decide) rfl) hS (lv_sub hl [0, 2, 3, 4, 5] rfl)
          exact loop30 dn.toInt.toNat 0 0 _ _ _ (by decide) (by rw [show (0 : Int32).toInt = 0 from by decide]; omega) (hP.sub [0, 1, 2, 3, 4, 5] rfl) (hD.sub [0, 1, 2, 3, 4, 5] (by decide) rfl) hS (lv_sub hl [0, 1, 2, 3, 4] rfl)
        · skip
          exact absurd c4 (by decide)
      · skip
        obtain ⟨hP1, hK1, hD1⟩ := hB
        rw [ht] at hP1
        have hK1 := va_K.moved hvm.symm hK1
        obtain ⟨hP, hD⟩ := va_join (wr := [(h, .inr (4, [.int nw, .ref mcells, .ref mcounters, .ref mfloors, .ref mlimits, .ref mlongs, .ref msteps, .int ac, .ref mprogram, .ref mkind, .ref mrank, .ref mstate, .ref mactLong, .ref mactSteps, .ref mat, .ref mregister, .ref misHeld, .ref mdoneIn, .ref mundone, .ref mby, .ref mbegunIn, .ref misVoid, .ref misAgain, .ref mholds, .ref mwrites, .ref mgives, .ref mbelow, .ref mqueued, .ref mqueuedMany, .int dn, .ref mdone, .int en, .int kp, .ref mlog, .int rg, .int fa, .ref morder, .ref misReached, .ref mqueue])), (mdone, .inl (cI, 80, .inl do_)), (mdoneIn, .inl (cI, 80, .inl di)), (mgives, .inl (cI, 640, .inl gv)), (mholds, .inl (cI, 1920, .inl hd)), (mwrites, .inl (cI, 1920, .inl wr))]) (w1 := []) hP hD [] [0, 1, 2, 3, 4, 5] rfl rfl (by decide) (by decide) hk1 hFc hP1 hD1
        generalize H1 = H at hP hS ⊢
        have hP : va_P D vwCl [(h, .inr (4, [.int nw, .ref mcells, .ref mcounters, .ref mfloors, .ref mlimits, .ref mlongs, .ref msteps, .int ac, .ref mprogram, .ref mkind, .ref mrank, .ref mstate, .ref mactLong, .ref mactSteps, .ref mat, .ref mregister, .ref misHeld, .ref mdoneIn, .ref mundone, .ref mby, .ref mbegunIn, .ref misVoid, .ref misAgain, .ref mholds, .ref mwrites, .ref mgives, .ref mbelow, .ref mqueued, .ref mqueuedMany, .int dn, .ref mdone, .int en, .int kp, .ref mlog, .int rg, .int fa, .ref morder, .ref misReached, .ref mqueue])), (mdone, .inl (cI, 80, .inl do_)), (mdoneIn, .inl (cI, 80, .inl di)), (mgives, .inl (cI, 640, .inl gv)), (mholds, .inl (cI, 1920, .inl hd)), (mwrites, .inl (cI, 1920, .inl wr))] H := hP
        have hD : va_D A [(h, .inr (4, [.int nw, .ref mcells, .ref mcounters, .ref mfloors, .ref mlimits, .ref mlongs, .ref msteps, .int ac, .ref mprogram, .ref mkind, .ref mrank, .ref mstate, .ref mactLong, .ref mactSteps, .ref mat, .ref mregister, .ref misHeld, .ref mdoneIn, .ref mundone, .ref mby, .ref mbegunIn, .ref misVoid, .ref misAgain, .ref mholds, .ref mwrites, .ref mgives, .ref mbelow, .ref mqueued, .ref mqueuedMany, .int dn, .ref mdone, .int en, .int kp, .ref mlog, .int rg, .int fa, .ref morder, .ref misReached, .ref mqueue])), (mdone, .inl (cI, 80, .inl do_)), (mdoneIn, .inl (cI, 80, .inl di)), (mgives, .inl (cI, 640, .inl gv)), (mholds, .inl (cI, 1920, .inl hd)), (mwrites, .inl (cI, 1920, .inl wr))] := hD
        refine lv_if_ne (tgt := 25) hx hb dX4_value_19 (by decide) (fun c17 => ?_) (fun c17 => ?_)
        · skip
          exact absurd c17 (by decide)
        · skip
          refine lv_ldc (v := (-2147483648)) hx hb hown (hts _ kw_X4_value__constant_RX4_211_2147483648_) dX4_value_22 ?_
          subst hQ
          have hP := hP.sub (ws' := [(h, .inr (4, [.int nw, .ref mcells, .ref mcounters, .ref mfloors, .ref mlimits, .ref mlongs, .ref msteps, .int ac, .ref mprogram, .ref mkind, .ref mrank, .ref mstate, .ref mactLong, .ref mactSteps, .ref mat, .ref mregister, .ref misHeld, .ref mdoneIn, .ref mundone, .ref mby, .ref mbegunIn, .ref misVoid, .ref misAgain, .ref mholds, .ref mwrites, .ref mgives, .ref mbelow, .ref mqueued, .ref mqueuedMany, .int dn, .ref mdone, .int en, .int kp, .ref mlog, .int rg, .int fa, .ref morder, .ref misReached, .ref mqueue])), (mdone, .inl (cI, 80, .inl do_)), (mdoneIn, .inl (cI, 80, .inl di)), (mgives, .inl (cI, 640, .inl gv)), (mholds, .inl (cI, 1920, .inl hd)), (mwrites, .inl (cI, 1920, .inl wr))]) [0, 1, 2, 3, 4, 5] rfl
          have hD := hD.sub (ws' := [(h, .inr (4, [.int nw, .ref mcells, .ref mcounters, .ref mfloors, .ref mlimits, .ref mlongs, .ref msteps, .int ac, .ref mprogram, .ref mkind, .ref mrank, .ref mstate, .ref mactLong, .ref mactSteps, .ref mat, .ref mregister, .ref misHeld, .ref mdoneIn, .ref mundone, .ref mby, .ref mbegunIn, .ref misVoid, .ref misAgain, .ref mholds, .ref mwrites, .ref mgives, .ref mbelow, .ref mqueued, .ref mqueuedMany, .int dn, .ref mdone, .int en, .int kp, .ref mlog, .int rg, .int fa, .ref morder, .ref misReached, .ref mqueue])), (mdone, .inl (cI, 80, .inl do_)), (mdoneIn, .inl (cI, 80, .inl di)), (mgives, .inl (cI, 640, .inl gv)), (mholds, .inl (cI, 1920, .inl hd)), (mwrites, .inl (cI, 1920, .inl wr))]) [0, 1, 2, 3, 4, 5] (by decide) rfl
          have hK := hK.sub (tys' := [(cI, .int)]) [0] rfl
          refine W.widen (k := 0) (n := 0) (by decide) (by decide) ?_
          exact W.iret (v := (-2147483648)) hx hb hr (fun t ht hW => ⟨⟨(-2147483648), ([(h, .inr (4, [.int nw, .ref mcells, .ref mcounters, .ref mfloors, .ref mlimits, .ref mlongs, .ref msteps, .int ac, .ref mprogram, .ref mkind, .ref mrank, .ref mstate, .ref mactLong, .ref mactSteps, .ref mat, .ref mregister, .ref misHeld, .ref mdoneIn, .ref mundone, .ref mby, .ref mbegunIn, .ref misVoid, .ref misAgain, .ref mholds, .ref mwrites, .ref mgives, .ref mbelow, .ref mqueued, .ref mqueuedMany, .int dn, .ref mdone, .int en, .int kp, .ref mlog, .int rg, .int fa, .ref morder, .ref misReached, .ref mqueue])), (mdone, .inl (cI, 80, .inl do_)), (mdoneIn, .inl (cI, 80, .inl di)), (mgives, .inl (cI, 640, .inl gv)), (mholds, .inl (cI, 1920, .inl hd)), (mwrites, .inl (cI, 1920, .inl wr))], [(cI, .int)]), rfl, ⟨rfl, (by rfl)⟩, ⟨by rw [ht]; exact hP, va_K.moved hW.alike hK, hD⟩⟩, hS.F ht⟩) hS.2.2 dX4_value_24
  · skip
    obtain ⟨hP1, hK1, hD1⟩ := hB
    rw [ht] at hP1
    have hK1 := va_K.moved hvm.symm hK1
    obtain ⟨hP, hD⟩ := va_join (wr := [(h, .inr (4, [.int nw, .ref mcells, .ref mcounters, .ref mfloors, .ref mlimits, .ref mlongs, .ref msteps, .int ac, .ref mprogram, .ref mkind, .ref mrank, .ref mstate, .ref mactLong, .ref mactSteps, .ref mat, .ref mregister, .ref misHeld, .ref mdoneIn, .ref mundone, .ref mby, .ref mbegunIn, .ref misVoid, .ref misAgain, .ref mholds, .ref mwrites, .ref mgives, .ref mbelow, .ref mqueued, .ref mqueuedMany, .int dn, .ref mdone, .int en, .int kp, .ref mlog, .int rg, .int fa, .ref morder, .ref misReached, .ref mqueue])), (mdone, .inl (cI, 80, .inl do_)), (mdoneIn, .inl (cI, 80, .inl di)), (mgives, .inl (cI, 640, .inl gv)), (mholds, .inl (cI, 1920, .inl hd)), (mwrites, .inl (cI, 1920, .inl wr))]) (w1 := []) hP hD [] [0, 1, 2, 3, 4, 5] rfl rfl (by decide) (by decide) hk1 hFc hP1 hD1
    generalize H1 = H at hP hS ⊢
    have hP : va_P D vwCl [(h, .inr (4, [.int nw, .ref mcells, .ref mcounters, .ref mfloors, .ref mlimits, .ref mlongs, .ref msteps, .int ac, .ref mprogram, .ref mkind, .ref mrank, .ref mstate, .ref mactLong, .ref mactSteps, .ref mat, .ref mregister, .ref misHeld, .ref mdoneIn, .ref mundone, .ref mby, .ref mbegunIn, .ref misVoid, .ref misAgain, .ref mholds, .ref mwrites, .ref mgives, .ref mbelow, .ref mqueued, .ref mqueuedMany, .int dn, .ref mdone, .int en, .int kp, .ref mlog, .int rg, .int fa, .ref morder, .ref misReached, .ref mqueue])), (mdone, .inl (cI, 80, .inl do_)), (mdoneIn, .inl (cI, 80, .inl di)), (mgives, .inl (cI, 640, .inl gv)), (mholds, .inl (cI, 1920, .inl hd)), (mwrites, .inl (cI, 1920, .inl wr))] H := hP
    have hD : va_D A [(h, .inr (4, [.int nw, .ref mcells, .ref mcounters, .ref mfloors, .ref mlimits, .ref mlongs, .ref msteps, .int ac, .ref mprogram, .ref mkind, .ref mrank, .ref mstate, .ref mactLong, .ref mactSteps, .ref mat, .ref mregister, .ref misHeld, .ref mdoneIn, .ref mundone, .ref mby, .ref mbegunIn, .ref misVoid, .ref misAgain, .ref mholds, .ref mwrites, .ref mgives, .ref mbelow, .ref mqueued, .ref mqueuedMany, .int dn, .ref mdone, .int en, .int kp, .ref mlog, .int rg, .int fa, .ref morder, .ref misReached, .ref mqueue])), (mdone, .inl (cI, 80, .inl do_)), (mdoneIn, .inl (cI, 80, .inl di)), (mgives, .inl (cI, 640, .inl gv)), (mholds, .inl (cI, 1920, .inl hd)), (mwrites, .inl (cI, 1920, .inl wr))] := hD
    refine lv_if_eq (tgt := 22) hx hb dX4_value_7 (by decide) (fun c18 => ?_) (fun c18 => ?_)
    · skip
      refine lv_ldc (v := (-2147483648)) hx hb hown (hts _ kw_X4_value__constant_RX4_211_2147483648_) dX4_value_22 ?_
      subst hQ
      have hP := hP.sub (ws' := [(h, .inr (4, [.int nw, .ref mcells, .ref mcounters, .ref mfloors, .ref mlimits, .ref mlongs, .ref msteps, .int ac, .ref mprogram, .ref mkind, .ref mrank, .ref mstate, .ref mactLong, .ref mactSteps, .ref mat, .ref mregister, .ref misHeld, .ref mdoneIn, .ref mundone, .ref mby, .ref mbegunIn, .ref misVoid, .ref misAgain, .ref mholds, .ref mwrites, .ref mgives, .ref mbelow, .ref mqueued, .ref mqueuedMany, .int dn, .ref mdone, .int en, .int kp, .ref mlog, .int rg, .int fa, .ref morder, .ref misReached, .ref mqueue])), (mdone, .inl (cI, 80, .inl do_)), (mdoneIn, .inl (cI, 80, .inl di)), (mgives, .inl (cI, 640, .inl gv)), (mholds, .inl (cI, 1920, .inl hd)), (mwrites, .inl (cI, 1920, .inl wr))]) [0, 1, 2, 3, 4, 5] rfl
      have hD := hD.sub (ws' := [(h, .inr (4, [.int nw, .ref mcells, .ref mcounters, .ref mfloors, .ref mlimits, .ref mlongs, .ref msteps, .int ac, .ref mprogram, .ref mkind, .ref mrank, .ref mstate, .ref mactLong, .ref mactSteps, .ref mat, .ref mregister, .ref misHeld, .ref mdoneIn, .ref mundone, .ref mby, .ref mbegunIn, .ref misVoid, .ref misAgain, .ref mholds, .ref mwrites, .ref mgives, .ref mbelow, .ref mqueued, .ref mqueuedMany, .int dn, .ref mdone, .int en, .int kp, .ref mlog, .int rg, .int fa, .ref morder, .ref misReached, .ref mqueue])), (mdone, .inl (cI, 80, .inl do_)), (mdoneIn, .inl (cI, 80, .inl di)), (mgives, .inl (cI, 640, .inl gv)), (mholds, .inl (cI, 1920, .inl hd)), (mwrites, .inl (cI, 1920, .inl wr))]) [0, 1, 2, 3, 4, 5] (by decide) rfl
      have hK := hK.sub (tys' := [(cI, .int)]) [0] rfl
      refine W.widen (k := 0) (n := 0) (by decide) (by decide) ?_
      exact W.iret (v := (-2147483648)) hx hb hr (fun t ht hW => ⟨⟨(-2147483648), ([(h, .inr (4, [.int nw, .ref mcells, .ref mcounters, .ref mfloors, .ref mlimits, .ref mlongs, .ref msteps, .int ac, .ref mprogram, .ref mkind, .ref mrank, .ref mstate, .ref mactLong, .ref mactSteps, .ref mat, .ref mregister, .ref misHeld, .ref mdoneIn, .ref mundone, .ref mby, .ref mbegunIn, .ref misVoid, .ref misAgain, .ref mholds, .ref mwrites, .ref mgives, .ref mbelow, .ref mqueued, .ref mqueuedMany, .int dn, .ref mdone, .int en, .int kp, .ref mlog, .int rg, .int fa, .ref morder, .ref misReached, .ref mqueue])), (mdone, .inl (cI, 80, .inl do_)), (mdoneIn, .inl (cI, 80, .inl di)), (mgives, .inl (cI, 640, .inl gv)), (mholds, .inl (cI, 1920, .inl hd)), (mwrites, .inl (cI, 1920, .inl wr))], [(cI, .int)]), rfl, ⟨rfl, (by rfl)⟩, ⟨by rw [ht]; exact hP, va_K.moved hW.alike hK, hD⟩⟩, hS.F ht⟩) hS.2.2 dX4_value_24
    · skip
      exact absurd c18 (by decide)
