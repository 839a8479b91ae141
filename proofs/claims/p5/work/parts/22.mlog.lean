set_option maxRecDepth 100000 in
theorem kw_X4_logs__fieldLink_RX4_127_ActHouseModel_entries_I_ : (.fieldLink RX4 127 "ActHouseModel" "entries" "I" : Cond) ∈ wsX4_logs := by decide +kernel
set_option maxRecDepth 100000 in
theorem kin_X4_logs_X4 : ∀ w ∈ u_ws RX4 TX4 39, w ∈ wsX4_logs := by decide +kernel
set_option maxRecDepth 100000 in
theorem kw_X4_logs__fieldLink_RX4_95_ActHouseModel_log_I_ : (.fieldLink RX4 95 "ActHouseModel" "log" "[I" : Cond) ∈ wsX4_logs := by decide +kernel
set_option maxRecDepth 100000 in
theorem kw_X4_logs__fieldLink_RX4_130_ActHouseModel_now_I_ : (.fieldLink RX4 130 "ActHouseModel" "now" "I" : Cond) ∈ wsX4_logs := by decide +kernel
set_option maxRecDepth 100000 in
theorem kw_X4_logs__arrayClass_int : (.arrayClass .int : Cond) ∈ wsX4_logs := by decide +kernel
set_option maxHeartbeats 4000000 in
set_option maxRecDepth 100000 in
theorem c_X4_logs {l : Launch} {D : va_G} {hp : Heap} {h : Nat} {mcells : Nat} {mcounters : Nat} {mfloors : Nat} {mlimits : Nat} {mlongs : Nat} {msteps : Nat} {mprogram : Nat} {mkind : Nat} {mrank : Nat} {mstate : Nat} {mactLong : Nat} {mactSteps : Nat} {mat : Nat} {mregister : Nat} {misHeld : Nat} {mdoneIn : Nat} {mundone : Nat} {mby : Nat} {mbegunIn : Nat} {misVoid : Nat} {misAgain : Nat} {mholds : Nat} {mwrites : Nat} {mgives : Nat} {mbelow : Nat} {mqueued : Nat} {mqueuedMany : Nat} {mdone : Nat} {mlog : Nat} {morder : Nat} {misReached : Nat} {mqueue : Nat} {nw : Int32} {ac : Int32} {dn : Int32} {en : Int32} {kp : Int32} {rg : Int32} {fa : Int32} {x : Int32} {y : Int32} {z : Int32} {ln : Nat} {lg : Nat → Int32} {cI : ClassId} (hen : 0 ≤ en.toInt) (hln : 4 * en.toInt ≤ ln) (hln4 : 4 ≤ ln) (hlnb : ln ≤ 67108864) : Met l yX4_logs wsX4_logs ({ frames := 0, cells := 1, slots := 2 * ln, locals := 0 }) (va_Pc [.ref h, .int x, .int y, .int z] (k_PreH D [(cI, .int)] [(h, .inr (4, [.int nw, .ref mcells, .ref mcounters, .ref mfloors, .ref mlimits, .ref mlongs, .ref msteps, .int ac, .ref mprogram, .ref mkind, .ref mrank, .ref mstate, .ref mactLong, .ref mactSteps, .ref mat, .ref mregister, .ref misHeld, .ref mdoneIn, .ref mundone, .ref mby, .ref mbegunIn, .ref misVoid, .ref misAgain, .ref mholds, .ref mwrites, .ref mgives, .ref mbelow, .ref mqueued, .ref mqueuedMany, .int dn, .ref mdone, .int en, .int kp, .ref mlog, .int rg, .int fa, .ref morder, .ref misReached, .ref mqueue])), (mlog, .inl (cI, ln, .inl lg))] hp)) (va_Qv (fun (u : k_UH) => (∃ (lg2 : Nat → Int32), u = (([(h, .inr (4, [.int nw, .ref mcells, .ref mcounters, .ref mfloors, .ref mlimits, .ref mlongs, .ref msteps, .int ac, .ref mprogram, .ref mkind, .ref mrank, .ref mstate, .ref mactLong, .ref mactSteps, .ref mat, .ref mregister, .ref misHeld, .ref mdoneIn, .ref mundone, .ref mby, .ref mbegunIn, .ref misVoid, .ref misAgain, .ref mholds, .ref mwrites, .ref mgives, .ref mbelow, .ref mqueued, .ref mqueuedMany, .int dn, .ref mdone, .int (en + 1), .int kp, .ref mlog, .int rg, .int fa, .ref morder, .ref misReached, .ref mqueue])), (mlog, .inl (cI, ln, .inl lg2))], [(cI, .int)]), (0, 0)) ∧ 4 * (en.toInt + 1) ≤ ln) ∨ (∃ (q : Nat) (lg2 : Nat → Int32), u = (([(h, .inr (4, [.int nw, .ref mcells, .ref mcounters, .ref mfloors, .ref mlimits, .ref mlongs, .ref msteps, .int ac, .ref mprogram, .ref mkind, .ref mrank, .ref mstate, .ref mactLong, .ref mactSteps, .ref mat, .ref mregister, .ref misHeld, .ref mdoneIn, .ref mundone, .ref mby, .ref mbegunIn, .ref misVoid, .ref misAgain, .ref mholds, .ref mwrites, .ref mgives, .ref mbelow, .ref mqueued, .ref mqueuedMany, .int dn, .ref mdone, .int (en + 1), .int kp, .ref q, .int rg, .int fa, .ref morder, .ref misReached, .ref mqueue])), (q, .inl (cI, (2 * ln), .inl lg2))], [(cI, .int)]), (1, 2 * ln)) ∧ ln < 4 * (en.toInt + 1))) (k_BH D (va_A [(h, .inr (4, [.int nw, .ref mcells, .ref mcounters, .ref mfloors, .ref mlimits, .ref mlongs, .ref msteps, .int ac, .ref mprogram, .ref mkind, .ref mrank, .ref mstate, .ref mactLong, .ref mactSteps, .ref mat, .ref mregister, .ref misHeld, .ref mdoneIn, .ref mundone, .ref mby, .ref mbegunIn, .ref misVoid, .ref misAgain, .ref mholds, .ref mwrites, .ref mgives, .ref mbelow, .ref mqueued, .ref mqueuedMany, .int dn, .ref mdone, .int en, .int kp, .ref mlog, .int rg, .int fa, .ref morder, .ref misReached, .ref mqueue])), (mlog, .inl (cI, ln, .inl lg))] hp.size) hp) (va_A [(h, .inr (4, [.int nw, .ref mcells, .ref mcounters, .ref mfloors, .ref mlimits, .ref mlongs, .ref msteps, .int ac, .ref mprogram, .ref mkind, .ref mrank, .ref mstate, .ref mactLong, .ref mactSteps, .ref mat, .ref mregister, .ref misHeld, .ref mdoneIn, .ref mundone, .ref mby, .ref mbegunIn, .ref misVoid, .ref misAgain, .ref mholds, .ref mwrites, .ref mgives, .ref mbelow, .ref mqueued, .ref mqueuedMany, .int dn, .ref mdone, .int en, .int kp, .ref mlog, .int rg, .int fa, .ref morder, .ref misReached, .ref mqueue])), (mlog, .inl (cI, ln, .inl lg))] hp.size)) (1) (2 * ln) (va_A [(h, .inr (4, [.int nw, .ref mcells, .ref mcounters, .ref mfloors, .ref mlimits, .ref mlongs, .ref msteps, .int ac, .ref mprogram, .ref mkind, .ref mrank, .ref mstate, .ref mactLong, .ref mactSteps, .ref mat, .ref mregister, .ref misHeld, .ref mdoneIn, .ref mundone, .ref mby, .ref mbegunIn, .ref misVoid, .ref misAgain, .ref mholds, .ref mwrites, .ref mgives, .ref mbelow, .ref mqueued, .ref mqueuedMany, .int dn, .ref mdone, .int en, .int kp, .ref mlog, .int rg, .int fa, .ref morder, .ref misReached, .ref mqueue])), (mlog, .inl (cI, ln, .inl lg))] hp.size) := by
  refine Met.ofW (cc := cX4_logs) (maxL := 6) (ret := none) (by decide) rfl ?_
  intro p e s m args below meth c s₁ B hml hv
  obtain ⟨rfl, hsz, hP, hK, hD0⟩ := hv
  have hx := B.exec
  have hb := B.bytes
  have hr := B.returns
  have hts := atoms_spec (ws := wsX4_logs) B.pre
  have hown : s.vm.findClass RX4 = some m.cls := findClass_of_methodNamed B.named
  have hlocks := B.notSynchronized
  have hsz : s.heap = hp := hsz
  subst hsz
  have hD := hD0.self (sz := s.heap.size)
  generalize hAe : va_A [(h, .inr (4, [.int nw, .ref mcells, .ref mcounters, .ref mfloors, .ref mlimits, .ref mlongs, .ref msteps, .int ac, .ref mprogram, .ref mkind, .ref mrank, .ref mstate, .ref mactLong, .ref mactSteps, .ref mat, .ref mregister, .ref misHeld, .ref mdoneIn, .ref mundone, .ref mby, .ref mbegunIn, .ref misVoid, .ref misAgain, .ref mholds, .ref mwrites, .ref mgives, .ref mbelow, .ref mqueued, .ref mqueuedMany, .int dn, .ref mdone, .int en, .int kp, .ref mlog, .int rg, .int fa, .ref morder, .ref misReached, .ref mqueue])), (mlog, .inl (cI, ln, .inl lg))] s.heap.size = A at hD ⊢
  have hA : ∀ q : Nat, s.heap.size ≤ q → A q := fun q h => by rw [← hAe]; exact Or.inr h
  have hS : va_S A s.heap s.heap [] := va_S.rf
  have hl := lv_entry ([.ref h, .int x, .int y, .int z]) (n := 6) (Nat.le_of_ble_eq_true rfl)
  rw [lg_entry_eq]
  generalize (lg_sl ([.ref h, .int x, .int y, .int z]) ++ List.replicate (6 - (lg_sl ([.ref h, .int x, .int y, .int z])).length) Slot.unset).toArray = ls at hl ⊢
  have hl : lv_has ls 6 [(0, .ref h), (1, .int x), (2, .int y), (3, .int z)] := hl
  refine k_Q (fun Q hQ => ?_)
  have hn0 : (nI ln).toInt = ln := nI_toInt (by omega)
  have hl4 : (4 : Int32).toInt = 4 := by decide
  have hl1 : (1 : Int32).toInt = 1 := by decide
  have hl2 : (2 : Int32).toInt = 2 := by decide
  have hl3 : (3 : Int32).toInt = 3 := by decide
  have ee := k_add (x := en) (y := 1) (by omega) (by omega)
  have ef := k_mul2 (x := 4) (y := en + 1) (N := 4) (by decide) (by omega) (by omega)
  refine lv_iconst (v := 4) hx hb dX4_logs_0 (by decide) ?_
  refine lv_aload_n hx hb dX4_logs_1 rfl (lv_at hl 0 rfl) ?_
  refine va_get (D := D) (ci := 4) (v := .int en) (C := RX4) (T := TX4) (N := 39) hx hb hts kin_X4_logs_X4 hown hK hP 0 rfl rfl 31 (by decide) (hts _ kw_X4_logs__fieldLink_RX4_127_ActHouseModel_entries_I_) (fun _ h9 => h9) rfl dX4_logs_2 ?_
  refine lv_iconst (v := 1) hx hb dX4_logs_5 (by decide) ?_
  refine lv_iadd hx hb dX4_logs_6 ?_
  refine lv_imul hx hb dX4_logs_7 ?_
  refine lv_aload_n hx hb dX4_logs_8 rfl (lv_at hl 0 rfl) ?_
  refine va_get (D := D) (ci := 4) (v := .ref mlog) (C := RX4) (T := TX4) (N := 39) hx hb hts kin_X4_logs_X4 hown hK hP 0 rfl rfl 33 (by decide) (hts _ kw_X4_logs__fieldLink_RX4_95_ActHouseModel_log_I_) (fun _ h9 => h9) rfl dX4_logs_9 ?_
  refine va_alen hx hb hK hP 1 0 rfl rfl (v := nI ln) (by first | rfl | decide) dX4_logs_12 ?_
  refine lv_icmp_le (tgt := 64) hx hb dX4_logs_13 (by decide) (fun c1 => ?_) (fun c1 => ?_)
  · skip
    have c1 := k_le c1
    refine lv_aload_n hx hb dX4_logs_64 rfl (lv_at hl 0 rfl) ?_
    refine va_get (D := D) (ci := 4) (v := .ref mlog) (C := RX4) (T := TX4) (N := 39) hx hb hts kin_X4_logs_X4 hown hK hP 0 rfl rfl 33 (by decide) (hts _ kw_X4_logs__fieldLink_RX4_95_ActHouseModel_log_I_) (fun _ h9 => h9) rfl dX4_logs_65 ?_
    refine lv_iconst (v := 4) hx hb dX4_logs_68 (by decide) ?_
    refine lv_aload_n hx hb dX4_logs_69 rfl (lv_at hl 0 rfl) ?_
    refine va_get (D := D) (ci := 4) (v := .int en) (C := RX4) (T := TX4) (N := 39) hx hb hts kin_X4_logs_X4 hown hK hP 0 rfl rfl 31 (by decide) (hts _ kw_X4_logs__fieldLink_RX4_127_ActHouseModel_entries_I_) (fun _ h9 => h9) rfl dX4_logs_70 ?_
    refine lv_imul hx hb dX4_logs_73 ?_
    refine lv_iload_n hx hb dX4_logs_74 rfl (lv_at hl 1 rfl) ?_
    have hl4 : (4 : Int32).toInt = 4 := by decide
    have ef2 := k_mul2 (x := 4) (y := en) (N := 4) (by decide) (by omega) (by omega)
    have hi75 : vp_in (4 * en) ln := (k_in (by omega) (by omega))
    refine va_iast hx hb hK hP hD hS 1 0 rfl rfl hi75 dX4_logs_75 (fun H locs hP hD hS => ?_)
    have hP : va_P D vwCl [(h, .inr (4, [.int nw, .ref mcells, .ref mcounters, .ref mfloors, .ref mlimits, .ref mlongs, .ref msteps, .int ac, .ref mprogram, .ref mkind, .ref mrank, .ref mstate, .ref mactLong, .ref mactSteps, .ref mat, .ref mregister, .ref misHeld, .ref mdoneIn, .ref mundone, .ref mby, .ref mbegunIn, .ref misVoid, .ref misAgain, .ref mholds, .ref mwrites, .ref mgives, .ref mbelow, .ref mqueued, .ref mqueuedMany, .int dn, .ref mdone, .int en, .int kp, .ref mlog, .int rg, .int fa, .ref morder, .ref misReached, .ref mqueue])), (mlog, .inl (cI, ln, .inl (upd lg (4 * en).toNatClampNeg x)))] H := hP
    have hD : va_D A [(h, .inr (4, [.int nw, .ref mcells, .ref mcounters, .ref mfloors, .ref mlimits, .ref mlongs, .ref msteps, .int ac, .ref mprogram, .ref mkind, .ref mrank, .ref mstate, .ref mactLong, .ref mactSteps, .ref mat, .ref mregister, .ref misHeld, .ref mdoneIn, .ref mundone, .ref mby, .ref mbegunIn, .ref misVoid, .ref misAgain, .ref mholds, .ref mwrites, .ref mgives, .ref mbelow, .ref mqueued, .ref mqueuedMany, .int dn, .ref mdone, .int en, .int kp, .ref mlog, .int rg, .int fa, .ref morder, .ref misReached, .ref mqueue])), (mlog, .inl (cI, ln, .inl (upd lg (4 * en).toNatClampNeg x)))] := hD
    refine lv_aload_n hx hb dX4_logs_76 rfl (lv_at hl 0 rfl) ?_
    refine va_get (D := D) (ci := 4) (v := .ref mlog) (C := RX4) (T := TX4) (N := 39) hx hb hts kin_X4_logs_X4 hown hK hP 0 rfl rfl 33 (by decide) (hts _ kw_X4_logs__fieldLink_RX4_95_ActHouseModel_log_I_) (fun _ h9 => h9) rfl dX4_logs_77 ?_
    refine lv_iconst (v := 4) hx hb dX4_logs_80 (by decide) ?_
    refine lv_aload_n hx hb dX4_logs_81 rfl (lv_at hl 0 rfl) ?_
    refine va_get (D := D) (ci := 4) (v := .int en) (C := RX4) (T := TX4) (N := 39) hx hb hts kin_X4_logs_X4 hown hK hP 0 rfl rfl 31 (by decide) (hts _ kw_X4_logs__fieldLink_RX4_127_ActHouseModel_entries_I_) (fun _ h9 => h9) rfl dX4_logs_82 ?_
    refine lv_imul hx hb dX4_logs_85 ?_
    refine lv_iconst (v := 1) hx hb dX4_logs_86 (by decide) ?_
    refine lv_iadd hx hb dX4_logs_87 ?_
    refine lv_iload_n hx hb dX4_logs_88 rfl (lv_at hl 2 rfl) ?_
    have hl4 : (4 : Int32).toInt = 4 := by decide
    have ef3 := k_mul2 (x := 4) (y := en) (N := 4) (by decide) (by omega) (by omega)
    have hl1 : (1 : Int32).toInt = 1 := by decide
    have ef4 := k_add (x := (4 * en)) (y := 1) (by omega) (by omega)
    have hi89 : vp_in ((4 * en) + 1) ln := (k_in (by omega) (by omega))
    refine va_iast hx hb hK hP hD hS 1 0 rfl rfl hi89 dX4_logs_89 (fun H locs hP hD hS => ?_)
    have hP : va_P D vwCl [(h, .inr (4, [.int nw, .ref mcells, .ref mcounters, .ref mfloors, .ref mlimits, .ref mlongs, .ref msteps, .int ac, .ref mprogram, .ref mkind, .ref mrank, .ref mstate, .ref mactLong, .ref mactSteps, .ref mat, .ref mregister, .ref misHeld, .ref mdoneIn, .ref mundone, .ref mby, .ref mbegunIn, .ref misVoid, .ref misAgain, .ref mholds, .ref mwrites, .ref mgives, .ref mbelow, .ref mqueued, .ref mqueuedMany, .int dn, .ref mdone, .int en, .int kp, .ref mlog, .int rg, .int fa, .ref morder, .ref misReached, .ref mqueue])), (mlog, .inl (cI, ln, .inl (upd (upd lg (4 * en).toNatClampNeg x) ((4 * en) + 1).toNatClampNeg y)))] H := hP
    have hD : va_D A [(h, .inr (4, [.int nw, .ref mcells, .ref mcounters, .ref mfloors, .ref mlimits, .ref mlongs, .ref msteps, .int ac, .ref mprogram, .ref mkind, .ref mrank, .ref mstate, .ref mactLong, .ref mactSteps, .ref mat, .ref mregister, .ref misHeld, .ref mdoneIn, .ref mundone, .ref mby, .ref mbegunIn, .ref misVoid, .ref misAgain, .ref mholds, .ref mwrites, .ref mgives, .ref mbelow, .ref mqueued, .ref mqueuedMany, .int dn, .ref mdone, .int en, .int kp, .ref mlog, .int rg, .int fa, .ref morder, .ref misReached, .ref mqueue])), (mlog, .inl (cI, ln, .inl (upd (upd lg (4 * en).toNatClampNeg x) ((4 * en) + 1).toNatClampNeg y)))] := hD
    refine lv_aload_n hx hb dX4_logs_90 rfl (lv_at hl 0 rfl) ?_
    refine va_get (D := D) (ci := 4) (v := .ref mlog) (C := RX4) (T := TX4) (N := 39) hx hb hts kin_X4_logs_X4 hown hK hP 0 rfl rfl 33 (by decide) (hts _ kw_X4_logs__fieldLink_RX4_95_ActHouseModel_log_I_) (fun _ h9 => h9) rfl dX4_logs_91 ?_
    refine lv_iconst (v := 4) hx hb dX4_logs_94 (by decide) ?_
    refine lv_aload_n hx hb dX4_logs_95 rfl (lv_at hl 0 rfl) ?_
    refine va_get (D := D) (ci := 4) (v := .int en) (C := RX4) (T := TX4) (N := 39) hx hb hts kin_X4_logs_X4 hown hK hP 0 rfl rfl 31 (by decide) (hts _ kw_X4_logs__fieldLink_RX4_127_ActHouseModel_entries_I_) (fun _ h9 => h9) rfl dX4_logs_96 ?_
    refine lv_imul hx hb dX4_logs_99 ?_
    refine lv_iconst (v := 2) hx hb dX4_logs_100 (by decide) ?_
    refine lv_iadd hx hb dX4_logs_101 ?_
    refine lv_iload_n hx hb dX4_logs_102 rfl (lv_at hl 3 rfl) ?_
    have hl4 : (4 : Int32).toInt = 4 := by decide
    have ef5 := k_mul2 (x := 4) (y := en) (N := 4) (by decide) (by omega) (by omega)
    have hl2 : (2 : Int32).toInt = 2 := by decide
    have ef6 := k_add (x := (4 * en)) (y := 2) (by omega) (by omega)
    have hi103 : vp_in ((4 * en) + 2) ln := (k_in (by omega) (by omega))
    refine va_iast hx hb hK hP hD hS 1 0 rfl rfl hi103 dX4_logs_103 (fun H locs hP hD hS => ?_)
    have hP : va_P D vwCl [(h, .inr (4, [.int nw, .ref mcells, .ref mcounters, .ref mfloors, .ref mlimits, .ref mlongs, .ref msteps, .int ac, .ref mprogram, .ref mkind, .ref mrank, .ref mstate, .ref mactLong, .ref mactSteps, .ref mat, .ref mregister, .ref misHeld, .ref mdoneIn, .ref mundone, .ref mby, .ref mbegunIn, .ref misVoid, .ref misAgain, .ref mholds, .ref mwrites, .ref mgives, .ref mbelow, .ref mqueued, .ref mqueuedMany, .int dn, .ref mdone, .int en, .int kp, .ref mlog, .int rg, .int fa, .ref morder, .ref misReached, .ref mqueue])), (mlog, .inl (cI, ln, .inl (upd (upd (upd lg (4 * en).toNatClampNeg x) ((4 * en) + 1).toNatClampNeg y) ((4 * en) + 2).toNatClampNeg z)))] H := hP
    have hD : va_D A [(h, .inr (4, [.int nw, .ref mcells, .ref mcounters, .ref mfloors, .ref mlimits, .ref mlongs, .ref msteps, .int ac, .ref mprogram, .ref mkind, .ref mrank, .ref mstate, .ref mactLong, .ref mactSteps, .ref mat, .ref mregister, .ref misHeld, .ref mdoneIn, .ref mundone, .ref mby, .ref mbegunIn, .ref misVoid, .ref misAgain, .ref mholds, .ref mwrites, .ref mgives, .ref mbelow, .ref mqueued, .ref mqueuedMany, .int dn, .ref mdone, .int en, .int kp, .ref mlog, .int rg, .int fa, .ref morder, .ref misReached, .ref mqueue])), (mlog, .inl (cI, ln, .inl (upd (upd (upd lg (4 * en).toNatClampNeg x) ((4 * en) + 1).toNatClampNeg y) ((4 * en) + 2).toNatClampNeg z)))] := hD
    refine lv_aload_n hx hb dX4_logs_104 rfl (lv_at hl 0 rfl) ?_
    refine va_get (D := D) (ci := 4) (v := .ref mlog) (C := RX4) (T := TX4) (N := 39) hx hb hts kin_X4_logs_X4 hown hK hP 0 rfl rfl 33 (by decide) (hts _ kw_X4_logs__fieldLink_RX4_95_ActHouseModel_log_I_) (fun _ h9 => h9) rfl dX4_logs_105 ?_
    refine lv_iconst (v := 4) hx hb dX4_logs_108 (by decide) ?_
    refine lv_aload_n hx hb dX4_logs_109 rfl (lv_at hl 0 rfl) ?_
    refine va_get (D := D) (ci := 4) (v := .int en) (C := RX4) (T := TX4) (N := 39) hx hb hts kin_X4_logs_X4 hown hK hP 0 rfl rfl 31 (by decide) (hts _ kw_X4_logs__fieldLink_RX4_127_ActHouseModel_entries_I_) (fun _ h9 => h9) rfl dX4_logs_110 ?_
    refine lv_imul hx hb dX4_logs_113 ?_
    refine lv_iconst (v := 3) hx hb dX4_logs_114 (by decide) ?_
    refine lv_iadd hx hb dX4_logs_115 ?_
    refine lv_aload_n hx hb dX4_logs_116 rfl (lv_at hl 0 rfl) ?_
    refine va_get (D := D) (ci := 4) (v := .int nw) (C := RX4) (T := TX4) (N := 39) hx hb hts kin_X4_logs_X4 hown hK hP 0 rfl rfl 0 (by decide) (hts _ kw_X4_logs__fieldLink_RX4_130_ActHouseModel_now_I_) (fun _ h9 => h9) rfl dX4_logs_117 ?_
    have hl4 : (4 : Int32).toInt = 4 := by decide
    have ef7 := k_mul2 (x := 4) (y := en) (N := 4) (by decide) (by omega) (by omega)
    have hl3 : (3 : Int32).toInt = 3 := by decide
    have ef8 := k_add (x := (4 * en)) (y := 3) (by omega) (by omega)
    have hi120 : vp_in ((4 * en) + 3) ln := (k_in (by omega) (by omega))
    refine va_iast hx hb hK hP hD hS 1 0 rfl rfl hi120 dX4_logs_120 (fun H locs hP hD hS => ?_)
    have hP : va_P D vwCl [(h, .inr (4, [.int nw, .ref mcells, .ref mcounters, .ref mfloors, .ref mlimits, .ref mlongs, .ref msteps, .int ac, .ref mprogram, .ref mkind, .ref mrank, .ref mstate, .ref mactLong, .ref mactSteps, .ref mat, .ref mregister, .ref misHeld, .ref mdoneIn, .ref mundone, .ref mby, .ref mbegunIn, .ref misVoid, .ref misAgain, .ref mholds, .ref mwrites, .ref mgives, .ref mbelow, .ref mqueued, .ref mqueuedMany, .int dn, .ref mdone, .int en, .int kp, .ref mlog, .int rg, .int fa, .ref morder, .ref misReached, .ref mqueue])), (mlog, .inl (cI, ln, .inl (upd (upd (upd (upd lg (4 * en).toNatClampNeg x) ((4 * en) + 1).toNatClampNeg y) ((4 * en) + 2).toNatClampNeg z) ((4 * en) + 3).toNatClampNeg nw)))] H := hP
    have hD : va_D A [(h, .inr (4, [.int nw, .ref mcells, .ref mcounters, .ref mfloors, .ref mlimits, .ref mlongs, .ref msteps, .int ac, .ref mprogram, .ref mkind, .ref mrank, .ref mstate, .ref mactLong, .ref mactSteps, .ref mat, .ref mregister, .ref misHeld, .ref mdoneIn, .ref mundone, .ref mby, .ref mbegunIn, .ref misVoid, .ref misAgain, .ref mholds, .ref mwrites, .ref mgives, .ref mbelow, .ref mqueued, .ref mqueuedMany, .int dn, .ref mdone, .int en, .int kp, .ref mlog, .int rg, .int fa, .ref morder, .ref misReached, .ref mqueue])), (mlog, .inl (cI, ln, .inl (upd (upd (upd (upd lg (4 * en).toNatClampNeg x) ((4 * en) + 1).toNatClampNeg y) ((4 * en) + 2).toNatClampNeg z) ((4 * en) + 3).toNatClampNeg nw)))] := hD
    refine lv_aload_n hx hb dX4_logs_121 rfl (lv_at hl 0 rfl) ?_
    refine lv_dup hx hb dX4_logs_122 rfl ?_
    refine va_get (D := D) (ci := 4) (v := .int en) (C := RX4) (T := TX4) (N := 39) hx hb hts kin_X4_logs_X4 hown hK hP 0 rfl rfl 31 (by decide) (hts _ kw_X4_logs__fieldLink_RX4_127_ActHouseModel_entries_I_) (fun _ h9 => h9) rfl dX4_logs_123 ?_
    refine lv_iconst (v := 1) hx hb dX4_logs_126 (by decide) ?_
    refine lv_iadd hx hb dX4_logs_127 ?_
    refine va_put (D := D) (ci := 4) (v := .int (en + 1)) (ty := .int) (C := RX4) (T := TX4) (N := 39) hx hb hts kin_X4_logs_X4 tyX4 tyX4_ok nmX4 hown hK hP hD hS 0 rfl rfl 31 (by decide) (hts _ kw_X4_logs__fieldLink_RX4_127_ActHouseModel_entries_I_) (fun _ h9 => h9) rfl (by decide +kernel) rfl rfl (Nat.le_of_ble_eq_true rfl) dX4_logs_128 (fun H locs hP hD hS => ?_)
    have hP : va_P D vwCl [(h, .inr (4, [.int nw, .ref mcells, .ref mcounters, .ref mfloors, .ref mlimits, .ref mlongs, .ref msteps, .int ac, .ref mprogram, .ref mkind, .ref mrank, .ref mstate, .ref mactLong, .ref mactSteps, .ref mat, .ref mregister, .ref misHeld, .ref mdoneIn, .ref mundone, .ref mby, .ref mbegunIn, .ref misVoid, .ref misAgain, .ref mholds, .ref mwrites, .ref mgives, .ref mbelow, .ref mqueued, .ref mqueuedMany, .int dn, .ref mdone, .int (en + 1), .int kp, .ref mlog, .int rg, .int fa, .ref morder, .ref misReached, .ref mqueue])), (mlog, .inl (cI, ln, .inl (upd (upd (upd (upd lg (4 * en).toNatClampNeg x) ((4 * en) + 1).toNatClampNeg y) ((4 * en) + 2).toNatClampNeg z) ((4 * en) + 3).toNatClampNeg nw)))] H := hP
    have hD : va_D A [(h, .inr (4, [.int nw, .ref mcells, .ref mcounters, .ref mfloors, .ref mlimits, .ref mlongs, .ref msteps, .int ac, .ref mprogram, .ref mkind, .ref mrank, .ref mstate, .ref mactLong, .ref mactSteps, .ref mat, .ref mregister, .ref misHeld, .ref mdoneIn, .ref mundone, .ref mby, .ref mbegunIn, .ref misVoid, .ref misAgain, .ref mholds, .ref mwrites, .ref mgives, .ref mbelow, .ref mqueued, .ref mqueuedMany, .int dn, .ref mdone, .int (en + 1), .int kp, .ref mlog, .int rg, .int fa, .ref morder, .ref misReached, .ref mqueue])), (mlog, .inl (cI, ln, .inl (upd (upd (upd (upd lg (4 * en).toNatClampNeg x) ((4 * en) + 1).toNatClampNeg y) ((4 * en) + 2).toNatClampNeg z) ((4 * en) + 3).toNatClampNeg nw)))] := hD
    subst hQ
    have hP := hP.sub (ws' := [(h, .inr (4, [.int nw, .ref mcells, .ref mcounters, .ref mfloors, .ref mlimits, .ref mlongs, .ref msteps, .int ac, .ref mprogram, .ref mkind, .ref mrank, .ref mstate, .ref mactLong, .ref mactSteps, .ref mat, .ref mregister, .ref misHeld, .ref mdoneIn, .ref mundone, .ref mby, .ref mbegunIn, .ref misVoid, .ref misAgain, .ref mholds, .ref mwrites, .ref mgives, .ref mbelow, .ref mqueued, .ref mqueuedMany, .int dn, .ref mdone, .int (en + 1), .int kp, .ref mlog, .int rg, .int fa, .ref morder, .ref misReached, .ref mqueue])), (mlog, .inl (cI, ln, .inl (upd (upd (upd (upd lg (4 * en).toNatClampNeg x) ((4 * en) + 1).toNatClampNeg y) ((4 * en) + 2).toNatClampNeg z) ((4 * en) + 3).toNatClampNeg nw)))]) [0, 1] rfl
    have hD := hD.sub (ws' := [(h, .inr (4, [.int nw, .ref mcells, .ref mcounters, .ref mfloors, .ref mlimits, .ref mlongs, .ref msteps, .int ac, .ref mprogram, .ref mkind, .ref mrank, .ref mstate, .ref mactLong, .ref mactSteps, .ref mat, .ref mregister, .ref misHeld, .ref mdoneIn, .ref mundone, .ref mby, .ref mbegunIn, .ref misVoid, .ref misAgain, .ref mholds, .ref mwrites, .ref mgives, .ref mbelow, .ref mqueued, .ref mqueuedMany, .int dn, .ref mdone, .int (en + 1), .int kp, .ref mlog, .int rg, .int fa, .ref morder, .ref misReached, .ref mqueue])), (mlog, .inl (cI, ln, .inl (upd (upd (upd (upd lg (4 * en).toNatClampNeg x) ((4 * en) + 1).toNatClampNeg y) ((4 * en) + 2).toNatClampNeg z) ((4 * en) + 3).toNatClampNeg nw)))]) [0, 1] (by decide) rfl
    have hK := hK.sub (tys' := [(cI, .int)]) [0] rfl
    refine k_facts (fun hm1 hm2 hm3 => ?_)
    refine W.widen (k := 1) (n := 2 * ln) (by omega) (by omega) ?_
    exact W.vret hx hb hr (fun t ht hW => ⟨⟨(([(h, .inr (4, [.int nw, .ref mcells, .ref mcounters, .ref mfloors, .ref mlimits, .ref mlongs, .ref msteps, .int ac, .ref mprogram, .ref mkind, .ref mrank, .ref mstate, .ref mactLong, .ref mactSteps, .ref mat, .ref mregister, .ref misHeld, .ref mdoneIn, .ref mundone, .ref mby, .ref mbegunIn, .ref misVoid, .ref misAgain, .ref mholds, .ref mwrites, .ref mgives, .ref mbelow, .ref mqueued, .ref mqueuedMany, .int dn, .ref mdone, .int (en + 1), .int kp, .ref mlog, .int rg, .int fa, .ref morder, .ref misReached, .ref mqueue])), (mlog, .inl (cI, ln, .inl (upd (upd (upd (upd lg (4 * en).toNatClampNeg x) ((4 * en) + 1).toNatClampNeg y) ((4 * en) + 2).toNatClampNeg z) ((4 * en) + 3).toNatClampNeg nw)))], [(cI, .int)]), (0, 0)), rfl, Or.inl ⟨(upd (upd (upd (upd lg (4 * en).toNatClampNeg x) ((4 * en) + 1).toNatClampNeg y) ((4 * en) + 2).toNatClampNeg z) ((4 * en) + 3).toNatClampNeg nw), rfl, (by omega)⟩, ⟨⟨by rw [ht]; exact hP, va_K.moved hW.alike hK, hD⟩, by rw [ht]; exact hm3, by rw [ht]; omega, by rw [ht]; omega⟩⟩, hS.F ht⟩) hS.2.2 dX4_logs_131
  · skip
    have c1 := k_nle c1
    refine lv_iconst (v := 2) hx hb dX4_logs_16 (by decide) ?_
    refine lv_aload_n hx hb dX4_logs_17 rfl (lv_at hl 0 rfl) ?_
    refine va_get (D := D) (ci := 4) (v := .ref mlog) (C := RX4) (T := TX4) (N := 39) hx hb hts kin_X4_logs_X4 hown hK hP 0 rfl rfl 33 (by decide) (hts _ kw_X4_logs__fieldLink_RX4_95_ActHouseModel_log_I_) (fun _ h9 => h9) rfl dX4_logs_18 ?_
    refine va_alen hx hb hK hP 1 0 rfl rfl (v := nI ln) (by first | rfl | decide) dX4_logs_21 ?_
    refine lv_imul hx hb dX4_logs_22 ?_
    have hl2 : (2 : Int32).toInt = 2 := by decide
    have ef9 := k_mul2 (x := 2) (y := nI ln) (N := 2) (by decide) (by omega) (by omega)
    refine k_newa (ty := .int) (N' := 2 * ln) (a0 := (2 * ln, .inl (fun _ => 0))) (atype := .int) hx hb (hts _ kw_X4_logs__arrayClass_int) rfl hK 0 rfl (fun _ _ => rfl) hP hD hS hA (fun _ => rfl) (by intro q; have q := k_lt q; have hl0 : (0 : Int32).toInt = 0 := (by decide); omega) (by simp only [k_cl]; omega) (by show 2 * ln * 4 ≤ 536870912; omega) (by show 0 + 1 ≤ 1; omega) (by show 0 + 2 * ln ≤ 2 * ln; omega) dX4_logs_23 (fun q23 H hP hD hS => ?_)
    refine W.widen (k := 1) (n := 2 * ln) (by omega) (by omega) ?_
    have hP : va_P D vwCl [(h, .inr (4, [.int nw, .ref mcells, .ref mcounters, .ref mfloors, .ref mlimits, .ref mlongs, .ref msteps, .int ac, .ref mprogram, .ref mkind, .ref mrank, .ref mstate, .ref mactLong, .ref mactSteps, .ref mat, .ref mregister, .ref misHeld, .ref mdoneIn, .ref mundone, .ref mby, .ref mbegunIn, .ref misVoid, .ref misAgain, .ref mholds, .ref mwrites, .ref mgives, .ref mbelow, .ref mqueued, .ref mqueuedMany, .int dn, .ref mdone, .int en, .int kp, .ref mlog, .int rg, .int fa, .ref morder, .ref misReached, .ref mqueue])), (mlog, .inl (cI, ln, .inl lg)), (q23, .inl (cI, (2 * ln), .inl (fun _ => 0)))] H := hP
    have hD : va_D A [(h, .inr (4, [.int nw, .ref mcells, .ref mcounters, .ref mfloors, .ref mlimits, .ref mlongs, .ref msteps, .int ac, .ref mprogram, .ref mkind, .ref mrank, .ref mstate, .ref mactLong, .ref mactSteps, .ref mat, .ref mregister, .ref misHeld, .ref mdoneIn, .ref mundone, .ref mby, .ref mbegunIn, .ref misVoid, .ref misAgain, .ref mholds, .ref mwrites, .ref mgives, .ref mbelow, .ref mqueued, .ref mqueuedMany, .int dn, .ref mdone, .int en, .int kp, .ref mlog, .int rg, .int fa, .ref morder, .ref misReached, .ref mqueue])), (mlog, .inl (cI, ln, .inl lg)), (q23, .inl (cI, (2 * ln), .inl (fun _ => 0)))] := hD
    refine lv_astore (lv' := [(4, .ref q23), (0, .ref h), (1, .int x), (2, .int y), (3, .int z)]) hx hb dX4_logs_25 hl (by decide) rfl (fun ls hl => ?_)
    refine lv_iconst (v := 0) hx hb dX4_logs_27 (by decide) ?_
    refine lv_istore (lv' := [(5, .int 0), (4, .ref q23), (0, .ref h), (1, .int x), (2, .int y), (3, .int z)]) hx hb dX4_logs_28 hl (by decide) rfl (fun ls hl => ?_)
    have loop30 : ∀ (k : Nat) (i : Int32) (f : Nat → Int32) (H : Heap) (locs : List Loc) (ls : Array Slot), (0 ≤ i.toInt) → (i.toInt + k = ln) → va_P D vwCl [(h, .inr (4, [.int nw, .ref mcells, .ref mcounters, .ref mfloors, .ref mlimits, .ref mlongs, .ref msteps, .int ac, .ref mprogram, .ref mkind, .ref mrank, .ref mstate, .ref mactLong, .ref mactSteps, .ref mat, .ref mregister, .ref misHeld, .ref mdoneIn, .ref mundone, .ref mby, .ref mbegunIn, .ref misVoid, .ref misAgain, .ref mholds, .ref mwrites, .ref mgives, .ref mbelow, .ref mqueued, .ref mqueuedMany, .int dn, .ref mdone, .int en, .int kp, .ref mlog, .int rg, .int fa, .ref morder, .ref misReached, .ref mqueue])), (mlog, .inl (cI, ln, .inl lg)), (q23, .inl (cI, (2 * ln), .inl f))] H → va_D A [(h, .inr (4, [.int nw, .ref mcells, .ref mcounters, .ref mfloors, .ref mlimits, .ref mlongs, .ref msteps, .int ac, .ref mprogram, .ref mkind, .ref mrank, .ref mstate, .ref mactLong, .ref mactSteps, .ref mat, .ref mregister, .ref misHeld, .ref mdoneIn, .ref mundone, .ref mby, .ref mbegunIn, .ref misVoid, .ref misAgain, .ref mholds, .ref mwrites, .ref mgives, .ref mbelow, .ref mqueued, .ref mqueuedMany, .int dn, .ref mdone, .int en, .int kp, .ref mlog, .int rg, .int fa, .ref morder, .ref misReached, .ref mqueue])), (mlog, .inl (cI, ln, .inl lg)), (q23, .inl (cI, (2 * ln), .inl f))] → va_S A s.heap H locs → lv_has ls 6 [(5, .int i), (4, .ref q23), (0, .ref h), (1, .int x), (2, .int y), (3, .int z)] → W p l e (headSpec wsX4_logs ({ frames := 0, cells := 1, slots := 2 * ln, locals := 0 })).room s m ([.ref h, .int x, .int y, .int z] : List Value).toArray below meth c H locs (1) (2 * ln) Q (F0 m 30 ls []) := by
      intro k30
      induction k30 with
      | zero =>
        intro i f H locs ls h0 hi hP hD hS hl
        refine lv_iload hx hb dX4_logs_30 (lv_at hl 0 rfl) ?_
        refine lv_aload_n hx hb dX4_logs_32 rfl (lv_at hl 2 rfl) ?_
        refine va_get (D := D) (ci := 4) (v := .ref mlog) (C := RX4) (T := TX4) (N := 39) hx hb hts kin_X4_logs_X4 hown hK hP 0 rfl rfl 33 (by decide) (hts _ kw_X4_logs__fieldLink_RX4_95_ActHouseModel_log_I_) (fun _ h9 => h9) rfl dX4_logs_33 ?_
        refine va_alen hx hb hK hP 1 0 rfl rfl (v := nI ln) (by first | rfl | decide) dX4_logs_36 ?_
        refine lv_icmp_ge (tgt := 58) hx hb dX4_logs_37 (by decide) (fun c10 => ?_) (fun c10 => ?_)
        · skip
          have c10 := k_le c10
          refine lv_aload_n hx hb dX4_logs_58 rfl (lv_at hl 2 rfl) ?_
          refine lv_aload hx hb dX4_logs_59 (lv_at hl 1 rfl) ?_
          refine va_put (D := D) (ci := 4) (v := .ref q23) (ty := .array .int) (C := RX4) (T := TX4) (N := 39) hx hb hts kin_X4_logs_X4 tyX4 tyX4_ok nmX4 hown hK hP hD hS 0 rfl rfl 33 (by decide) (hts _ kw_X4_logs__fieldLink_RX4_95_ActHouseModel_log_I_) (fun _ h9 => h9) rfl (by decide +kernel) rfl rfl (Nat.le_of_ble_eq_true rfl) dX4_logs_61 (fun H locs hP hD hS => ?_)
          have hP : va_P D vwCl [(h, .inr (4, [.int nw, .ref mcells, .ref mcounters, .ref mfloors, .ref mlimits, .ref mlongs, .ref msteps, .int ac, .ref mprogram, .ref mkind, .ref mrank, .ref mstate, .ref mactLong, .ref mactSteps, .ref mat, .ref mregister, .ref misHeld, .ref mdoneIn, .ref mundone, .ref mby, .ref mbegunIn, .ref misVoid, .ref misAgain, .ref mholds, .ref mwrites, .ref mgives, .ref mbelow, .ref mqueued, .ref mqueuedMany, .int dn, .ref mdone, .int en, .int kp, .ref q23, .int rg, .int fa, .ref morder, .ref misReached, .ref mqueue])), (mlog, .inl (cI, ln, .inl lg)), (q23, .inl (cI, (2 * ln), .inl f))] H := hP
          have hD : va_D A [(h, .inr (4, [.int nw, .ref mcells, .ref mcounters, .ref mfloors, .ref mlimits, .ref mlongs, .ref msteps, .int ac, .ref mprogram, .ref mkind, .ref mrank, .ref mstate, .ref mactLong, .ref mactSteps, .ref mat, .ref mregister, .ref misHeld, .ref mdoneIn, .ref mundone, .ref mby, .ref mbegunIn, .ref misVoid, .ref misAgain, .ref mholds, .ref mwrites, .ref mgives, .ref mbelow, .ref mqueued, .ref mqueuedMany, .int dn, .ref mdone, .int en, .int kp, .ref q23, .int rg, .int fa, .ref morder, .ref misReached, .ref mqueue])), (mlog, .inl (cI, ln, .inl lg)), (q23, .inl (cI, (2 * ln), .inl f))] := hD
          refine lv_aload_n hx hb dX4_logs_64 rfl (lv_at hl 2 rfl) ?_
          refine va_get (D := D) (ci := 4) (v := .ref q23) (C := RX4) (T := TX4) (N := 39) hx hb hts kin_X4_logs_X4 hown hK hP 0 rfl rfl 33 (by decide) (hts _ kw_X4_logs__fieldLink_RX4_95_ActHouseModel_log_I_) (fun _ h9 => h9) rfl dX4_logs_65 ?_
          refine lv_iconst (v := 4) hx hb dX4_logs_68 (by decide) ?_
          refine lv_aload_n hx hb dX4_logs_69 rfl (lv_at hl 2 rfl) ?_
          refine va_get (D := D) (ci := 4) (v := .int en) (C := RX4) (T := TX4) (N := 39) hx hb hts kin_X4_logs_X4 hown hK hP 0 rfl rfl 31 (by decide) (hts _ kw_X4_logs__fieldLink_RX4_127_ActHouseModel_entries_I_) (fun _ h9 => h9) rfl dX4_logs_70 ?_
          refine lv_imul hx hb dX4_logs_73 ?_
          refine lv_iload_n hx hb dX4_logs_74 rfl (lv_at hl 3 rfl) ?_
          have hl4 : (4 : Int32).toInt = 4 := by decide
          have ef11 := k_mul2 (x := 4) (y := en) (N := 4) (by decide) (by omega) (by omega)
          have hi75 : vp_in (4 * en) (2 * ln) := (k_in (by omega) (by omega))
          refine va_iast hx hb hK hP hD hS 2 0 rfl rfl hi75 dX4_logs_75 (fun H locs hP hD hS => ?_)
          have hP : va_P D vwCl [(h, .inr (4, [.int nw, .ref mcells, .ref mcounters, .ref mfloors, .ref mlimits, .ref mlongs, .ref msteps, .int ac, .ref mprogram, .ref mkind, .ref mrank, .ref mstate, .ref mactLong, .ref mactSteps, .ref mat, .ref mregister, .ref misHeld, .ref mdoneIn, .ref mundone, .ref mby, .ref mbegunIn, .ref misVoid, .ref misAgain, .ref mholds, .ref mwrites, .ref mgives, .ref mbelow, .ref mqueued, .ref mqueuedMany, .int dn, .ref mdone, .int en, .int kp, .ref q23, .int rg, .int fa, .ref morder, .ref misReached, .ref mqueue])), (mlog, .inl (cI, ln, .inl lg)), (q23, .inl (cI, (2 * ln), .inl (upd f (4 * en).toNatClampNeg x)))] H := hP
          have hD : va_D A [(h, .inr (4, [.int nw, .ref mcells, .ref mcounters, .ref mfloors, .ref mlimits, .ref mlongs, .ref msteps, .int ac, .ref mprogram, .ref mkind, .ref mrank, .ref mstate, .ref mactLong, .ref mactSteps, .ref mat, .ref mregister, .ref misHeld, .ref mdoneIn, .ref mundone, .ref mby, .ref mbegunIn, .ref misVoid, .ref misAgain, .ref mholds, .ref mwrites, .ref mgives, .ref mbelow, .ref mqueued, .ref mqueuedMany, .int dn, .ref mdone, .int en, .int kp, .ref q23, .int rg, .int fa, .ref morder, .ref misReached, .ref mqueue])), (mlog, .inl (cI, ln, .inl lg)), (q23, .inl (cI, (2 * ln), .inl (upd f (4 * en).toNatClampNeg x)))] := hD
          refine lv_aload_n hx hb dX4_logs_76 rfl (lv_at hl 2 rfl) ?_
          refine va_get (D := D) (ci := 4) (v := .ref q23) (C := RX4) (T := TX4) (N := 39) hx hb hts kin_X4_logs_X4 hown hK hP 0 rfl rfl 33 (by decide) (hts _ kw_X4_logs__fieldLink_RX4_95_ActHouseModel_log_I_) (fun _ h9 => h9) rfl dX4_logs_77 ?_
          refine lv_iconst (v := 4) hx hb dX4_logs_80 (by decide) ?_
          refine lv_aload_n hx hb dX4_logs_81 rfl (lv_at hl 2 rfl) ?_
          refine va_get (D := D) (ci := 4) (v := .int en) (C := RX4) (T := TX4) (N := 39) hx hb hts kin_X4_logs_X4 hown hK hP 0 rfl rfl 31 (by decide) (hts _ kw_X4_logs__fieldLink_RX4_127_ActHouseModel_entries_I_) (fun _ h9 => h9) rfl dX4_logs_82 ?_
          refine lv_imul hx hb dX4_logs_85 ?_
          refine lv_iconst (v := 1) hx hb dX4_logs_86 (by decide) ?_
          refine lv_iadd hx hb dX4_logs_87 ?_
          refine lv_iload_n hx hb dX4_logs_88 rfl (lv_at hl 4 rfl) ?_
          have hl4 : (4 : Int32).toInt = 4 := by decide
          have ef12 := k_mul2 (x := 4) (y := en) (N := 4) (by decide) (by omega) (by omega)
          have hl1 : (1 : Int32).toInt = 1 := by decide
          have ef13 := k_add (x := (4 * en)) (y := 1) (by omega) (by omega)
          have hi89 : vp_in ((4 * en) + 1) (2 * ln) := (k_in (by omega) (by omega))
          refine va_iast hx hb hK hP hD hS 2 0 rfl rfl hi89 dX4_logs_89 (fun H locs hP hD hS => ?_)
          have hP : va_P D vwCl [(h, .inr (4, [.int nw, .ref mcells, .ref mcounters, .ref mfloors, .ref mlimits, .ref mlongs, .ref msteps, .int ac, .ref mprogram, .ref mkind, .ref mrank, .ref mstate, .ref mactLong, .ref mactSteps, .ref mat, .ref mregister, .ref misHeld, .ref mdoneIn, .ref mundone, .ref mby, .ref mbegunIn, .ref misVoid, .ref misAgain, .ref mholds, .ref mwrites, .ref mgives, .ref mbelow, .ref mqueued, .ref mqueuedMany, .int dn, .ref mdone, .int en, .int kp, .ref q23, .int rg, .int fa, .ref morder, .ref misReached, .ref mqueue])), (mlog, .inl (cI, ln, .inl lg)), (q23, .inl (cI, (2 * ln), .inl (upd (upd f (4 * en).toNatClampNeg x) ((4 * en) + 1).toNatClampNeg y)))] H := hP
          have hD : va_D A [(h, .inr (4, [.int nw, .ref mcells, .ref mcounters, .ref mfloors, .ref mlimits, .ref mlongs, .ref msteps, .int ac, .ref mprogram, .ref mkind, .ref mrank, .ref mstate, .ref mactLong, .ref mactSteps, .ref mat, .ref mregister, .ref misHeld, .ref mdoneIn, .ref mundone, .ref mby, .ref mbegunIn, .ref misVoid, .ref misAgain, .ref mholds, .ref mwrites, .ref mgives, .ref mbelow, .ref mqueued, .ref mqueuedMany, .int dn, .ref mdone, .int en, .int kp, .ref q23, .int rg, .int fa, .ref morder, .ref misReached, .ref mqueue])), (mlog, .inl (cI, ln, .inl lg)), (q23, .inl (cI, (2 * ln), .inl (upd (upd f (4 * en).toNatClampNeg x) ((4 * en) + 1).toNatClampNeg y)))] := hD
          refine lv_aload_n hx hb dX4_logs_90 rfl (lv_at hl 2 rfl) ?_
          refine va_get (D := D) (ci := 4) (v := .ref q23) (C := RX4) (T := TX4) (N := 39) hx hb hts kin_X4_logs_X4 hown hK hP 0 rfl rfl 33 (by decide) (hts _ kw_X4_logs__fieldLink_RX4_95_ActHouseModel_log_I_) (fun _ h9 => h9) rfl dX4_logs_91 ?_
          refine lv_iconst (v := 4) hx hb dX4_logs_94 (by decide) ?_
          refine lv_aload_n hx hb dX4_logs_95 rfl (lv_at hl 2 rfl) ?_
          refine va_get (D := D) (ci := 4) (v := .int en) (C := RX4) (T := TX4) (N := 39) hx hb hts kin_X4_logs_X4 hown hK hP 0 rfl rfl 31 (by decide) (hts _ kw_X4_logs__fieldLink_RX4_127_ActHouseModel_entries_I_) (fun _ h9 => h9) rfl dX4_logs_96 ?_
          refine lv_imul hx hb dX4_logs_99 ?_
          refine lv_iconst (v := 2) hx hb dX4_logs_100 (by decide) ?_
          refine lv_iadd hx hb dX4_logs_101 ?_
          refine lv_iload_n hx hb dX4_logs_102 rfl (lv_at hl 5 rfl) ?_
          have hl4 : (4 : Int32).toInt = 4 := by decide
          have ef14 := k_mul2 (x := 4) (y := en) (N := 4) (by decide) (by omega) (by omega)
          have hl2 : (2 : Int32).toInt = 2 := by decide
          have ef15 := k_add (x := (4 * en)) (y := 2) (by omega) (by omega)
          have hi103 : vp_in ((4 * en) + 2) (2 * ln) := (k_in (by omega) (by omega))
          refine va_iast hx hb hK hP hD hS 2 0 rfl rfl hi103 dX4_logs_103 (fun H locs hP hD hS => ?_)
          have hP : va_P D vwCl [(h, .inr (4, [.int nw, .ref mcells, .ref mcounters, .ref mfloors, .ref mlimits, .ref mlongs, .ref msteps, .int ac, .ref mprogram, .ref mkind, .ref mrank, .ref mstate, .ref mactLong, .ref mactSteps, .ref mat, .ref mregister, .ref misHeld, .ref mdoneIn, .ref mundone, .ref mby, .ref mbegunIn, .ref misVoid, .ref misAgain, .ref mholds, .ref mwrites, .ref mgives, .ref mbelow, .ref mqueued, .ref mqueuedMany, .int dn, .ref mdone, .int en, .int kp, .ref q23, .int rg, .int fa, .ref morder, .ref misReached, .ref mqueue])), (mlog, .inl (cI, ln, .inl lg)), (q23, .inl (cI, (2 * ln), .inl (upd (upd (upd f (4 * en).toNatClampNeg x) ((4 * en) + 1).toNatClampNeg y) ((4 * en) + 2).toNatClampNeg z)))] H := hP
          have hD : va_D A [(h, .inr (4, [.int nw, .ref mcells, .ref mcounters, .ref mfloors, .ref mlimits, .ref mlongs, .ref msteps, .int ac, .ref mprogram, .ref mkind, .ref mrank, .ref mstate, .ref mactLong, .ref mactSteps, .ref mat, .ref mregister, .ref misHeld, .ref mdoneIn, .ref mundone, .ref mby, .ref mbegunIn, .ref misVoid, .ref misAgain, .ref mholds, .ref mwrites, .ref mgives, .ref mbelow, .ref mqueued, .ref mqueuedMany, .int dn, .ref mdone, .int en, .int kp, .ref q23, .int rg, .int fa, .ref morder, .ref misReached, .ref mqueue])), (mlog, .inl (cI, ln, .inl lg)), (q23, .inl (cI, (2 * ln), .inl (upd (upd (upd f (4 * en).toNatClampNeg x) ((4 * en) + 1).toNatClampNeg y) ((4 * en) + 2).toNatClampNeg z)))] := hD
          refine lv_aload_n hx hb dX4_logs_104 rfl (lv_at hl 2 rfl) ?_
          refine va_get (D := D) (ci := 4) (v := .ref q23) (C := RX4) (T := TX4) (N := 39) hx hb hts kin_X4_logs_X4 hown hK hP 0 rfl rfl 33 (by decide) (hts _ kw_X4_logs__fieldLink_RX4_95_ActHouseModel_log_I_) (fun _ h9 => h9) rfl dX4_logs_105 ?_
          refine lv_iconst (v := 4) hx hb dX4_logs_108 (by decide) ?_
          refine lv_aload_n hx hb dX4_logs_109 rfl (lv_at hl 2 rfl) ?_
          refine va_get (D := D) (ci := 4) (v := .int en) (C := RX4) (T := TX4) (N := 39) hx hb hts kin_X4_logs_X4 hown hK hP 0 rfl rfl 31 (by decide) (hts _ kw_X4_logs__fieldLink_RX4_127_ActHouseModel_entries_I_) (fun _ h9 => h9) rfl dX4_logs_110 ?_
          refine lv_imul hx hb dX4_logs_113 ?_
          refine lv_iconst (v := 3) hx hb dX4_logs_114 (by decide) ?_
          refine lv_iadd hx hb dX4_logs_115 ?_
          refine lv_aload_n hx hb dX4_logs_116 rfl (lv_at hl 2 rfl) ?_
          refine va_get (D := D) (ci := 4) (v := .int nw) (C := RX4) (T := TX4) (N := 39) hx hb hts kin_X4_logs_X4 hown hK hP 0 rfl rfl 0 (by decide) (hts _ kw_X4_logs__fieldLink_RX4_130_ActHouseModel_now_I_) (fun _ h9 => h9) rfl dX4_logs_117 ?_
          have hl4 : (4 : Int32).toInt = 4 := by decide
          have ef16 := k_mul2 (x := 4) (y := en) (N := 4) (by decide) (by omega) (by omega)
          have hl3 : (3 : Int32).toInt = 3 := by decide
          have ef17 := k_add (x := (4 * en)) (y := 3) (by omega) (by omega)
          have hi120 : vp_in ((4 * en) + 3) (2 * ln) := (k_in (by omega) (by omega))
          refine va_iast hx hb hK hP hD hS 2 0 rfl rfl hi120 dX4_logs_120 (fun H locs hP hD hS => ?_)
          have hP : va_P D vwCl [(h, .inr (4, [.int nw, .ref mcells, .ref mcounters, .ref mfloors, .ref mlimits, .ref mlongs, .ref msteps, .int ac, .ref mprogram, .ref mkind, .ref mrank, .ref mstate, .ref mactLong, .ref mactSteps, .ref mat, .ref mregister, .ref misHeld, .ref mdoneIn, .ref mundone, .ref mby, .ref mbegunIn, .ref misVoid, .ref misAgain, .ref mholds, .ref mwrites, .ref mgives, .ref mbelow, .ref mqueued, .ref mqueuedMany, .int dn, .ref mdone, .int en, .int kp, .ref q23, .int rg, .int fa, .ref morder, .ref misReached, .ref mqueue])), (mlog, .inl (cI, ln, .inl lg)), (q23, .inl (cI, (2 * ln), .inl (upd (upd (upd (upd f (4 * en).toNatClampNeg x) ((4 * en) + 1).toNatClampNeg y) ((4 * en) + 2).toNatClampNeg z) ((4 * en) + 3).toNatClampNeg nw)))] H := hP
          have hD : va_D A [(h, .inr (4, [.int nw, .ref mcells, .ref mcounters, .ref mfloors, .ref mlimits, .ref mlongs, .ref msteps, .int ac, .ref mprogram, .ref mkind, .ref mrank, .ref mstate, .ref mactLong, .ref mactSteps, .ref mat, .ref mregister, .ref misHeld, .ref mdoneIn, .ref mundone, .ref mby, .ref mbegunIn, .ref misVoid, .ref misAgain, .ref mholds, .ref mwrites, .ref mgives, .ref mbelow, .ref mqueued, .ref mqueuedMany, .int dn, .ref mdone, .int en, .int kp, .ref q23, .int rg, .int fa, .ref morder, .ref misReached, .ref mqueue])), (mlog, .inl (cI, ln, .inl lg)), (q23, .inl (cI, (2 * ln), .inl (upd (upd (upd (upd f (4 * en).toNatClampNeg x) ((4 * en) + 1).toNatClampNeg y) ((4 * en) + 2).toNatClampNeg z) ((4 * en) + 3).toNatClampNeg nw)))] := hD
          refine lv_aload_n hx hb dX4_logs_121 rfl (lv_at hl 2 rfl) ?_
          refine lv_dup hx hb dX4_logs_122 rfl ?_
          refine va_get (D := D) (ci := 4) (v := .int en) (C := RX4) (T := TX4) (N := 39) hx hb hts kin_X4_logs_X4 hown hK hP 0 rfl rfl 31 (by decide) (hts _ kw_X4_logs__fieldLink_RX4_127_ActHouseModel_entries_I_) (fun _ h9 => h9) rfl dX4_logs_123 ?_
          refine lv_iconst (v := 1) hx hb dX4_logs_126 (by decide) ?_
          refine lv_iadd hx hb dX4_logs_127 ?_
          refine va_put (D := D) (ci := 4) (v := .int (en + 1)) (ty := .int) (C := RX4) (T := TX4) (N := 39) hx hb hts kin_X4_logs_X4 tyX4 tyX4_ok nmX4 hown hK hP hD hS 0 rfl rfl 31 (by decide) (hts _ kw_X4_logs__fieldLink_RX4_127_ActHouseModel_entries_I_) (fun _ h9 => h9) rfl (by decide +kernel) rfl rfl (Nat.le_of_ble_eq_true rfl) dX4_logs_128 (fun H locs hP hD hS => ?_)
          have hP : va_P D vwCl [(h, .inr (4, [.int nw, .ref mcells, .ref mcounters, .ref mfloors, .ref mlimits, .ref mlongs, .ref msteps, .int ac, .ref mprogram, .ref mkind, .ref mrank, .ref mstate, .ref mactLong, .ref mactSteps, .ref mat, .ref mregister, .ref misHeld, .ref mdoneIn, .ref mundone, .ref mby, .ref mbegunIn, .ref misVoid, .ref misAgain, .ref mholds, .ref mwrites, .ref mgives, .ref mbelow, .ref mqueued, .ref mqueuedMany, .int dn, .ref mdone, .int (en + 1), .int kp, .ref q23, .int rg, .int fa, .ref morder, .ref misReached, .ref mqueue])), (mlog, .inl (cI, ln, .inl lg)), (q23, .inl (cI, (2 * ln), .inl (upd (upd (upd (upd f (4 * en).toNatClampNeg x) ((4 * en) + 1).toNatClampNeg y) ((4 * en) + 2).toNatClampNeg z) ((4 * en) + 3).toNatClampNeg nw)))] H := hP
          have hD : va_D A [(h, .inr (4, [.int nw, .ref mcells, .ref mcounters, .ref mfloors, .ref mlimits, .ref mlongs, .ref msteps, .int ac, .ref mprogram, .ref mkind, .ref mrank, .ref mstate, .ref mactLong, .ref mactSteps, .ref mat, .ref mregister, .ref misHeld, .ref mdoneIn, .ref mundone, .ref mby, .ref mbegunIn, .ref misVoid, .ref misAgain, .ref mholds, .ref mwrites, .ref mgives, .ref mbelow, .ref mqueued, .ref mqueuedMany, .int dn, .ref mdone, .int (en + 1), .int kp, .ref q23, .int rg, .int fa, .ref morder, .ref misReached, .ref mqueue])), (mlog, .inl (cI, ln, .inl lg)), (q23, .inl (cI, (2 * ln), .inl (upd (upd (upd (upd f (4 * en).toNatClampNeg x) ((4 * en) + 1).toNatClampNeg y) ((4 * en) + 2).toNatClampNeg z) ((4 * en) + 3).toNatClampNeg nw)))] := hD
          subst hQ
          have hP := hP.sub (ws' := [(h, .inr (4, [.int nw, .ref mcells, .ref mcounters, .ref mfloors, .ref mlimits, .ref mlongs, .ref msteps, .int ac, .ref mprogram, .ref mkind, .ref mrank, .ref mstate, .ref mactLong, .ref mactSteps, .ref mat, .ref mregister, .ref misHeld, .ref mdoneIn, .ref mundone, .ref mby, .ref mbegunIn, .ref misVoid, .ref misAgain, .ref mholds, .ref mwrites, .ref mgives, .ref mbelow, .ref mqueued, .ref mqueuedMany, .int dn, .ref mdone, .int (en + 1), .int kp, .ref q23, .int rg, .int fa, .ref morder, .ref misReached, .ref mqueue])), (q23, .inl (cI, (2 * ln), .inl (upd (upd (upd (upd f (4 * en).toNatClampNeg x) ((4 * en) + 1).toNatClampNeg y) ((4 * en) + 2).toNatClampNeg z) ((4 * en) + 3).toNatClampNeg nw)))]) [0, 2] rfl
          have hD := hD.sub (ws' := [(h, .inr (4, [.int nw, .ref mcells, .ref mcounters, .ref mfloors, .ref mlimits, .ref mlongs, .ref msteps, .int ac, .ref mprogram, .ref mkind, .ref mrank, .ref mstate, .ref mactLong, .ref mactSteps, .ref mat, .ref mregister, .ref misHeld, .ref mdoneIn, .ref mundone, .ref mby, .ref mbegunIn, .ref misVoid, .ref misAgain, .ref mholds, .ref mwrites, .ref mgives, .ref mbelow, .ref mqueued, .ref mqueuedMany, .int dn, .ref mdone, .int (en + 1), .int kp, .ref q23, .int rg, .int fa, .ref morder, .ref misReached, .ref mqueue])), (q23, .inl (cI, (2 * ln), .inl (upd (upd (upd (upd f (4 * en).toNatClampNeg x) ((4 * en) + 1).toNatClampNeg y) ((4 * en) + 2).toNatClampNeg z) ((4 * en) + 3).toNatClampNeg nw)))]) [0, 2] (by decide) rfl
          have hK := hK.sub (tys' := [(cI, .int)]) [0] rfl
          refine k_facts (fun hm1 hm2 hm3 => ?_)
          refine W.widen (k := 1) (n := 2 * ln) (by omega) (by omega) ?_
          exact W.vret hx hb hr (fun t ht hW => ⟨⟨(([(h, .inr (4, [.int nw, .ref mcells, .ref mcounters, .ref mfloors, .ref mlimits, .ref mlongs, .ref msteps, .int ac, .ref mprogram, .ref mkind, .ref mrank, .ref mstate, .ref mactLong, .ref mactSteps, .ref mat, .ref mregister, .ref misHeld, .ref mdoneIn, .ref mundone, .ref mby, .ref mbegunIn, .ref misVoid, .ref misAgain, .ref mholds, .ref mwrites, .ref mgives, .ref mbelow, .ref mqueued, .ref mqueuedMany, .int dn, .ref mdone, .int (en + 1), .int kp, .ref q23, .int rg, .int fa, .ref morder, .ref misReached, .ref mqueue])), (q23, .inl (cI, (2 * ln), .inl (upd (upd (upd (upd f (4 * en).toNatClampNeg x) ((4 * en) + 1).toNatClampNeg y) ((4 * en) + 2).toNatClampNeg z) ((4 * en) + 3).toNatClampNeg nw)))], [(cI, .int)]), (1, 2 * ln)), rfl, Or.inr (⟨q23, (upd (upd (upd (upd f (4 * en).toNatClampNeg x) ((4 * en) + 1).toNatClampNeg y) ((4 * en) + 2).toNatClampNeg z) ((4 * en) + 3).toNatClampNeg nw), rfl, (by omega)⟩), ⟨⟨by rw [ht]; exact hP, va_K.moved hW.alike hK, hD⟩, by rw [ht]; exact hm3, by rw [ht]; omega, by rw [ht]; omega⟩⟩, hS.F ht⟩) hS.2.2 dX4_logs_131
        · skip
          have c10 := k_nle c10
          exfalso; omega
      | succ k30 ih30 =>
        intro i f H locs ls h0 hi hP hD hS hl
        refine lv_iload hx hb dX4_logs_30 (lv_at hl 0 rfl) ?_
        refine lv_aload_n hx hb dX4_logs_32 rfl (lv_at hl 2 rfl) ?_
        refine va_get (D := D) (ci := 4) (v := .ref mlog) (C := RX4) (T := TX4) (N := 39) hx hb hts kin_X4_logs_X4 hown hK hP 0 rfl rfl 33 (by decide) (hts _ kw_X4_logs__fieldLink_RX4_95_ActHouseModel_log_I_) (fun _ h9 => h9) rfl dX4_logs_33 ?_
        refine va_alen hx hb hK hP 1 0 rfl rfl (v := nI ln) (by first | rfl | decide) dX4_logs_36 ?_
        refine lv_icmp_ge (tgt := 58) hx hb dX4_logs_37 (by decide) (fun c18 => ?_) (fun c18 => ?_)
        · skip
          have c18 := k_le c18
          refine lv_aload_n hx hb dX4_logs_58 rfl (lv_at hl 2 rfl) ?_
          refine lv_aload hx hb dX4_logs_59 (lv_at hl 1 rfl) ?_
          refine va_put (D := D) (ci := 4) (v := .ref q23) (ty := .array .int) (C := RX4) (T := TX4) (N := 39) hx hb hts kin_X4_logs_X4 tyX4 tyX4_ok nmX4 hown hK hP hD hS 0 rfl rfl 33 (by decide) (hts _ kw_X4_logs__fieldLink_RX4_95_ActHouseModel_log_I_) (fun _ h9 => h9) rfl (by decide +kernel) rfl rfl (Nat.le_of_ble_eq_true rfl) dX4_logs_61 (fun H locs hP hD hS => ?_)
          have hP : va_P D vwCl [(h, .inr (4, [.int nw, .ref mcells, .ref mcounters, .ref mfloors, .ref mlimits, .ref mlongs, .ref msteps, .int ac, .ref mprogram, .ref mkind, .ref mrank, .ref mstate, .ref mactLong, .ref mactSteps, .ref mat, .ref mregister, .ref misHeld, .ref mdoneIn, .ref mundone, .ref mby, .ref mbegunIn, .ref misVoid, .ref misAgain, .ref mholds, .ref mwrites, .ref mgives, .ref mbelow, .ref mqueued, .ref mqueuedMany, .int dn, .ref mdone, .int en, .int kp, .ref q23, .int rg, .int fa, .ref morder, .ref misReached, .ref mqueue])), (mlog, .inl (cI, ln, .inl lg)), (q23, .inl (cI, (2 * ln), .inl f))] H := hP
          have hD : va_D A [(h, .inr (4, [.int nw, .ref mcells, .ref mcounters, .ref mfloors, .ref mlimits, .ref mlongs, .ref msteps, .int ac, .ref mprogram, .ref mkind, .ref mrank, .ref mstate, .ref mactLong, .ref mactSteps, .ref mat, .ref mregister, .ref misHeld, .ref mdoneIn, .ref mundone, .ref mby, .ref mbegunIn, .ref misVoid, .ref misAgain, .ref mholds, .ref mwrites, .ref mgives, .ref mbelow, .ref mqueued, .ref mqueuedMany, .int dn, .ref mdone, .int en, .int kp, .ref q23, .int rg, .int fa, .ref morder, .ref misReached, .ref mqueue])), (mlog, .inl (cI, ln, .inl lg)), (q23, .inl (cI, (2 * ln), .inl f))] := hD
          refine lv_aload_n hx hb dX4_logs_64 rfl (lv_at hl 2 rfl) ?_
          refine va_get (D := D) (ci := 4) (v := .ref q23) (C := RX4) (T := TX4) (N := 39) hx hb hts kin_X4_logs_X4 hown hK hP 0 rfl rfl 33 (by decide) (hts _ kw_X4_logs__fieldLink_RX4_95_ActHouseModel_log_I_) (fun _ h9 => h9) rfl dX4_logs_65 ?_
          refine lv_iconst (v := 4) hx hb dX4_logs_68 (by decide) ?_
          refine lv_aload_n hx hb dX4_logs_69 rfl (lv_at hl 2 rfl) ?_
          refine va_get (D := D) (ci := 4) (v := .int en) (C := RX4) (T := TX4) (N := 39) hx hb hts kin_X4_logs_X4 hown hK hP 0 rfl rfl 31 (by decide) (hts _ kw_X4_logs__fieldLink_RX4_127_ActHouseModel_entries_I_) (fun _ h9 => h9) rfl dX4_logs_70 ?_
          refine lv_imul hx hb dX4_logs_73 ?_
          refine lv_iload_n hx hb dX4_logs_74 rfl (lv_at hl 3 rfl) ?_
          have hl4 : (4 : Int32).toInt = 4 := by decide
          have ef19 := k_mul2 (x := 4) (y := en) (N := 4) (by decide) (by omega) (by omega)
          have hi75 : vp_in (4 * en) (2 * ln) := (k_in (by omega) (by omega))
          refine va_iast hx hb hK hP hD hS 2 0 rfl rfl hi75 dX4_logs_75 (fun H locs hP hD hS => ?_)
          have hP : va_P D vwCl [(h, .inr (4, [.int nw, .ref mcells, .ref mcounters, .ref mfloors, .ref mlimits, .ref mlongs, .ref msteps, .int ac, .ref mprogram, .ref mkind, .ref mrank, .ref mstate, .ref mactLong, .ref mactSteps, .ref mat, .ref mregister, .ref misHeld, .ref mdoneIn, .ref mundone, .ref mby, .ref mbegunIn, .ref misVoid, .ref misAgain, .ref mholds, .ref mwrites, .ref mgives, .ref mbelow, .ref mqueued, .ref mqueuedMany, .int dn, .ref mdone, .int en, .int kp, .ref q23, .int rg, .int fa, .ref morder, .ref misReached, .ref mqueue])), (mlog, .inl (cI, ln, .inl lg)), (q23, .inl (cI, (2 * ln), .inl (upd f (4 * en).toNatClampNeg x)))] H := hP
          have hD : va_D A [(h, .inr (4, [.int nw, .ref mcells, .ref mcounters, .ref mfloors, .ref mlimits, .ref mlongs, .ref msteps, .int ac, .ref mprogram, .ref mkind, .ref mrank, .ref mstate, .ref mactLong, .ref mactSteps, .ref mat, .ref mregister, .ref misHeld, .ref mdoneIn, .ref mundone, .ref mby, .ref mbegunIn, .ref misVoid, .ref misAgain, .ref mholds, .ref mwrites, .ref mgives, .ref mbelow, .ref mqueued, .ref mqueuedMany, .int dn, .ref mdone, .int en, .int kp, .ref q23, .int rg, .int fa, .ref morder, .ref misReached, .ref mqueue])), (mlog, .inl (cI, ln, .inl lg)), (q23, .inl (cI, (2 * ln), .inl (upd f (4 * en).toNatClampNeg x)))] := hD
          refine lv_aload_n hx hb dX4_logs_76 rfl (lv_at hl 2 rfl) ?_
          refine va_get (D := D) (ci := 4) (v := .ref q23) (C := RX4) (T := TX4) (N := 39) hx hb hts kin_X4_logs_X4 hown hK hP 0 rfl rfl 33 (by decide) (hts _ kw_X4_logs__fieldLink_RX4_95_ActHouseModel_log_I_) (fun _ h9 => h9) rfl dX4_logs_77 ?_
          refine lv_iconst (v := 4) hx hb dX4_logs_80 (by decide) ?_
          refine lv_aload_n hx hb dX4_logs_81 rfl (lv_at hl 2 rfl) ?_
          refine va_get (D := D) (ci := 4) (v := .int en) (C := RX4) (T := TX4) (N := 39) hx hb hts kin_X4_logs_X4 hown hK hP 0 rfl rfl 31 (by decide) (hts _ kw_X4_logs__fieldLink_RX4_127_ActHouseModel_entries_I_) (fun _ h9 => h9) rfl dX4_logs_82 ?_
          refine lv_imul hx hb dX4_logs_85 ?_
          refine lv_iconst (v := 1) hx hb dX4_logs_86 (by decide) ?_
          refine lv_iadd hx hb dX4_logs_87 ?_
          refine lv_iload_n hx hb dX4_logs_88 rfl (lv_at hl 4 rfl) ?_
          have hl4 : (4 : Int32).toInt = 4 := by decide
          have ef20 := k_mul2 (x := 4) (y := en) (N := 4) (by decide) (by omega) (by omega)
          have hl1 : (1 : Int32).toInt = 1 := by decide
          have ef21 := k_add (x := (4 * en)) (y := 1) (by omega) (by omega)
          have hi89 : vp_in ((4 * en) + 1) (2 * ln) := (k_in (by omega) (by omega))
          refine va_iast hx hb hK hP hD hS 2 0 rfl rfl hi89 dX4_logs_89 (fun H locs hP hD hS => ?_)
          have hP : va_P D vwCl [(h, .inr (4, [.int nw, .ref mcells, .ref mcounters, .ref mfloors, .ref mlimits, .ref mlongs, .ref msteps, .int ac, .ref mprogram, .ref mkind, .ref mrank, .ref mstate, .ref mactLong, .ref mactSteps, .ref mat, .ref mregister, .ref misHeld, .ref mdoneIn, .ref mundone, .ref mby, .ref mbegunIn, .ref misVoid, .ref misAgain, .ref mholds, .ref mwrites, .ref mgives, .ref mbelow, .ref mqueued, .ref mqueuedMany, .int dn, .ref mdone, .int en, .int kp, .ref q23, .int rg, .int fa, .ref morder, .ref misReached, .ref mqueue])), (mlog, .inl (cI, ln, .inl lg)), (q23, .inl (cI, (2 * ln), .inl (upd (upd f (4 * en).toNatClampNeg x) ((4 * en) + 1).toNatClampNeg y)))] H := hP
          have hD : va_D A [(h, .inr (4, [.int nw, .ref mcells, .ref mcounters, .ref mfloors, .ref mlimits, .ref mlongs, .ref msteps, .int ac, .ref mprogram, .ref mkind, .ref mrank, .ref mstate, .ref mactLong, .ref mactSteps, .ref mat, .ref mregister, .ref misHeld, .ref mdoneIn, .ref mundone, .ref mby, .ref mbegunIn, .ref misVoid, .ref misAgain, .ref mholds, .ref mwrites, .ref mgives, .ref mbelow, .ref mqueued, .ref mqueuedMany, .int dn, .ref mdone, .int en, .int kp, .ref q23, .int rg, .int fa, .ref morder, .ref misReached, .ref mqueue])), (mlog, .inl (cI, ln, .inl lg)), (q23, .inl (cI, (2 * ln), .inl (upd (upd f (4 * en).toNatClampNeg x) ((4 * en) + 1).toNatClampNeg y)))] := hD
          refine lv_aload_n hx hb dX4_logs_90 rfl (lv_at hl 2 rfl) ?_
          refine va_get (D := D) (ci := 4) (v := .ref q23) (C := RX4) (T := TX4) (N := 39) hx hb hts kin_X4_logs_X4 hown hK hP 0 rfl rfl 33 (by decide) (hts _ kw_X4_logs__fieldLink_RX4_95_ActHouseModel_log_I_) (fun _ h9 => h9) rfl dX4_logs_91 ?_
          refine lv_iconst (v := 4) hx hb dX4_logs_94 (by decide) ?_
          refine lv_aload_n hx hb dX4_logs_95 rfl (lv_at hl 2 rfl) ?_
          refine va_get (D := D) (ci := 4) (v := .int en) (C := RX4) (T := TX4) (N := 39) hx hb hts kin_X4_logs_X4 hown hK hP 0 rfl rfl 31 (by decide) (hts _ kw_X4_logs__fieldLink_RX4_127_ActHouseModel_entries_I_) (fun _ h9 => h9) rfl dX4_logs_96 ?_
          refine lv_imul hx hb dX4_logs_99 ?_
          refine lv_iconst (v := 2) hx hb dX4_logs_100 (by decide) ?_
          refine lv_iadd hx hb dX4_logs_101 ?_
          refine lv_iload_n hx hb dX4_logs_102 rfl (lv_at hl 5 rfl) ?_
          have hl4 : (4 : Int32).toInt = 4 := by decide
          have ef22 := k_mul2 (x := 4) (y := en) (N := 4) (by decide) (by omega) (by omega)
          have hl2 : (2 : Int32).toInt = 2 := by decide
          have ef23 := k_add (x := (4 * en)) (y := 2) (by omega) (by omega)
          have hi103 : vp_in ((4 * en) + 2) (2 * ln) := (k_in (by omega) (by omega))
          refine va_iast hx hb hK hP hD hS 2 0 rfl rfl hi103 dX4_logs_103 (fun H locs hP hD hS => ?_)
          have hP : va_P D vwCl [(h, .inr (4, [.int nw, .ref mcells, .ref mcounters, .ref mfloors, .ref mlimits, .ref mlongs, .ref msteps, .int ac, .ref mprogram, .ref mkind, .ref mrank, .ref mstate, .ref mactLong, .ref mactSteps, .ref mat, .ref mregister, .ref misHeld, .ref mdoneIn, .ref mundone, .ref mby, .ref mbegunIn, .ref misVoid, .ref misAgain, .ref mholds, .ref mwrites, .ref mgives, .ref mbelow, .ref mqueued, .ref mqueuedMany, .int dn, .ref mdone, .int en, .int kp, .ref q23, .int rg, .int fa, .ref morder, .ref misReached, .ref mqueue])), (mlog, .inl (cI, ln, .inl lg)), (q23, .inl (cI, (2 * ln), .inl (upd (upd (upd f (4 * en).toNatClampNeg x) ((4 * en) + 1).toNatClampNeg y) ((4 * en) + 2).toNatClampNeg z)))] H := hP
          have hD : va_D A [(h, .inr (4, [.int nw, .ref mcells, .ref mcounters, .ref mfloors, .ref mlimits, .ref mlongs, .ref msteps, .int ac, .ref mprogram, .ref mkind, .ref mrank, .ref mstate, .ref mactLong, .ref mactSteps, .ref mat, .ref mregister, .ref misHeld, .ref mdoneIn, .ref mundone, .ref mby, .ref mbegunIn, .ref misVoid, .ref misAgain, .ref mholds, .ref mwrites, .ref mgives, .ref mbelow, .ref mqueued, .ref mqueuedMany, .int dn, .ref mdone, .int en, .int kp, .ref q23, .int rg, .int fa, .ref morder, .ref misReached, .ref mqueue])), (mlog, .inl (cI, ln, .inl lg)), (q23, .inl (cI, (2 * ln), .inl (upd (upd (upd f (4 * en).toNatClampNeg x) ((4 * en) + 1).toNatClampNeg y) ((4 * en) + 2).toNatClampNeg z)))] := hD
          refine lv_aload_n hx hb dX4_logs_104 rfl (lv_at hl 2 rfl) ?_
          refine va_get (D := D) (ci := 4) (v := .ref q23) (C := RX4) (T := TX4) (N := 39) hx hb hts kin_X4_logs_X4 hown hK hP 0 rfl rfl 33 (by decide) (hts _ kw_X4_logs__fieldLink_RX4_95_ActHouseModel_log_I_) (fun _ h9 => h9) rfl dX4_logs_105 ?_
          refine lv_iconst (v := 4) hx hb dX4_logs_108 (by decide) ?_
          refine lv_aload_n hx hb dX4_logs_109 rfl (lv_at hl 2 rfl) ?_
          refine va_get (D := D) (ci := 4) (v := .int en) (C := RX4) (T := TX4) (N := 39) hx hb hts kin_X4_logs_X4 hown hK hP 0 rfl rfl 31 (by decide) (hts _ kw_X4_logs__fieldLink_RX4_127_ActHouseModel_entries_I_) (fun _ h9 => h9) rfl dX4_logs_110 ?_
          refine lv_imul hx hb dX4_logs_113 ?_
          refine lv_iconst (v := 3) hx hb dX4_logs_114 (by decide) ?_
          refine lv_iadd hx hb dX4_logs_115 ?_
          refine lv_aload_n hx hb dX4_logs_116 rfl (lv_at hl 2 rfl) ?_
          refine va_get (D := D) (ci := 4) (v := .int nw) (C := RX4) (T := TX4) (N := 39) hx hb hts kin_X4_logs_X4 hown hK hP 0 rfl rfl 0 (by decide) (hts _ kw_X4_logs__fieldLink_RX4_130_ActHouseModel_now_I_) (fun _ h9 => h9) rfl dX4_logs_117 ?_
          have hl4 : (4 : Int32).toInt = 4 := by decide
          have ef24 := k_mul2 (x := 4) (y := en) (N := 4) (by decide) (by omega) (by omega)
          have hl3 : (3 : Int32).toInt = 3 := by decide
          have ef25 := k_add (x := (4 * en)) (y := 3) (by omega) (by omega)
          have hi120 : vp_in ((4 * en) + 3) (2 * ln) := (k_in (by omega) (by omega))
          refine va_iast hx hb hK hP hD hS 2 0 rfl rfl hi120 dX4_logs_120 (fun H locs hP hD hS => ?_)
          have hP : va_P D vwCl [(h, .inr (4, [.int nw, .ref mcells, .ref mcounters, .ref mfloors, .ref mlimits, .ref mlongs, .ref msteps, .int ac, .ref mprogram, .ref mkind, .ref mrank, .ref mstate, .ref mactLong, .ref mactSteps, .ref mat, .ref mregister, .ref misHeld, .ref mdoneIn, .ref mundone, .ref mby, .ref mbegunIn, .ref misVoid, .ref misAgain, .ref mholds, .ref mwrites, .ref mgives, .ref mbelow, .ref mqueued, .ref mqueuedMany, .int dn, .ref mdone, .int en, .int kp, .ref q23, .int rg, .int fa, .ref morder, .ref misReached, .ref mqueue])), (mlog, .inl (cI, ln, .inl lg)), (q23, .inl (cI, (2 * ln), .inl (upd (upd (upd (upd f (4 * en).toNatClampNeg x) ((4 * en) + 1).toNatClampNeg y) ((4 * en) + 2).toNatClampNeg z) ((4 * en) + 3).toNatClampNeg nw)))] H := hP
          have hD : va_D A [(h, .inr (4, [.int nw, .ref mcells, .ref mcounters, .ref mfloors, .ref mlimits, .ref mlongs, .ref msteps, .int ac, .ref mprogram, .ref mkind, .ref mrank, .ref mstate, .ref mactLong, .ref mactSteps, .ref mat, .ref mregister, .ref misHeld, .ref mdoneIn, .ref mundone, .ref mby, .ref mbegunIn, .ref misVoid, .ref misAgain, .ref mholds, .ref mwrites, .ref mgives, .ref mbelow, .ref mqueued, .ref mqueuedMany, .int dn, .ref mdone, .int en, .int kp, .ref q23, .int rg, .int fa, .ref morder, .ref misReached, .ref mqueue])), (mlog, .inl (cI, ln, .inl lg)), (q23, .inl (cI, (2 * ln), .inl (upd (upd (upd (upd f (4 * en).toNatClampNeg x) ((4 * en) + 1).toNatClampNeg y) ((4 * en) + 2).toNatClampNeg z) ((4 * en) + 3).toNatClampNeg nw)))] := hD
          refine lv_aload_n hx hb dX4_logs_121 rfl (lv_at hl 2 rfl) ?_
          refine lv_dup hx hb dX4_logs_122 rfl ?_
          refine va_get (D := D) (ci := 4) (v := .int en) (C := RX4) (T := TX4) (N := 39) hx hb hts kin_X4_logs_X4 hown hK hP 0 rfl rfl 31 (by decide) (hts _ kw_X4_logs__fieldLink_RX4_127_ActHouseModel_entries_I_) (fun _ h9 => h9) rfl dX4_logs_123 ?_
          refine lv_iconst (v := 1) hx hb dX4_logs_126 (by decide) ?_
          refine lv_iadd hx hb dX4_logs_127 ?_
          refine va_put (D := D) (ci := 4) (v := .int (en + 1)) (ty := .int) (C := RX4) (T := TX4) (N := 39) hx hb hts kin_X4_logs_X4 tyX4 tyX4_ok nmX4 hown hK hP hD hS 0 rfl rfl 31 (by decide) (hts _ kw_X4_logs__fieldLink_RX4_127_ActHouseModel_entries_I_) (fun _ h9 => h9) rfl (by decide +kernel) rfl rfl (Nat.le_of_ble_eq_true rfl) dX4_logs_128 (fun H locs hP hD hS => ?_)
          have hP : va_P D vwCl [(h, .inr (4, [.int nw, .ref mcells, .ref mcounters, .ref mfloors, .ref mlimits, .ref mlongs, .ref msteps, .int ac, .ref mprogram, .ref mkind, .ref mrank, .ref mstate, .ref mactLong, .ref mactSteps, .ref mat, .ref mregister, .ref misHeld, .ref mdoneIn, .ref mundone, .ref mby, .ref mbegunIn, .ref misVoid, .ref misAgain, .ref mholds, .ref mwrites, .ref mgives, .ref mbelow, .ref mqueued, .ref mqueuedMany, .int dn, .ref mdone, .int (en + 1), .int kp, .ref q23, .int rg, .int fa, .ref morder, .ref misReached, .ref mqueue])), (mlog, .inl (cI, ln, .inl lg)), (q23, .inl (cI, (2 * ln), .inl (upd (upd (upd (upd f (4 * en).toNatClampNeg x) ((4 * en) + 1).toNatClampNeg y) ((4 * en) + 2).toNatClampNeg z) ((4 * en) + 3).toNatClampNeg nw)))] H := hP
          have hD : va_D A [(h, .inr (4, [.int nw, .ref mcells, .ref mcounters, .ref mfloors, .ref mlimits, .ref mlongs, .ref msteps, .int ac, .ref mprogram, .ref mkind, .ref mrank, .ref mstate, .ref mactLong, .ref mactSteps, .ref mat, .ref mregister, .ref misHeld, .ref mdoneIn, .ref mundone, .ref mby, .ref mbegunIn, .ref misVoid, .ref misAgain, .ref mholds, .ref mwrites, .ref mgives, .ref mbelow, .ref mqueued, .ref mqueuedMany, .int dn, .ref mdone, .int (en + 1), .int kp, .ref q23, .int rg, .int fa, .ref morder, .ref misReached, .ref mqueue])), (mlog, .inl (cI, ln, .inl lg)), (q23, .inl (cI, (2 * ln), .inl (upd (upd (upd (upd f (4 * en).toNatClampNeg x) ((4 * en) + 1).toNatClampNeg y) ((4 * en) + 2).toNatClampNeg z) ((4 * en) + 3).toNatClampNeg nw)))] := hD
          subst hQ
          have hP := hP.sub (ws' := [(h, .inr (4, [.int nw, .ref mcells, .ref mcounters, .ref mfloors, .ref mlimits, .ref mlongs, .ref msteps, .int ac, .ref mprogram, .ref mkind, .ref mrank, .ref mstate, .ref mactLong, .ref mactSteps, .ref mat, .ref mregister, .ref misHeld, .ref mdoneIn, .ref mundone, .ref mby, .ref mbegunIn, .ref misVoid, .ref misAgain, .ref mholds, .ref mwrites, .ref mgives, .ref mbelow, .ref mqueued, .ref mqueuedMany, .int dn, .ref mdone, .int (en + 1), .int kp, .ref q23, .int rg, .int fa, .ref morder, .ref misReached, .ref mqueue])), (q23, .inl (cI, (2 * ln), .inl (upd (upd (upd (upd f (4 * en).toNatClampNeg x) ((4 * en) + 1).toNatClampNeg y) ((4 * en) + 2).toNatClampNeg z) ((4 * en) + 3).toNatClampNeg nw)))]) [0, 2] rfl
          have hD := hD.sub (ws' := [(h, .inr (4, [.int nw, .ref mcells, .ref mcounters, .ref mfloors, .ref mlimits, .ref mlongs, .ref msteps, .int ac, .ref mprogram, .ref mkind, .ref mrank, .ref mstate, .ref mactLong, .ref mactSteps, .ref mat, .ref mregister, .ref misHeld, .ref mdoneIn, .ref mundone, .ref mby, .ref mbegunIn, .ref misVoid, .ref misAgain, .ref mholds, .ref mwrites, .ref mgives, .ref mbelow, .ref mqueued, .ref mqueuedMany, .int dn, .ref mdone, .int (en + 1), .int kp, .ref q23, .int rg, .int fa, .ref morder, .ref misReached, .ref mqueue])), (q23, .inl (cI, (2 * ln), .inl (upd (upd (upd (upd f (4 * en).toNatClampNeg x) ((4 * en) + 1).toNatClampNeg y) ((4 * en) + 2).toNatClampNeg z) ((4 * en) + 3).toNatClampNeg nw)))]) [0, 2] (by decide) rfl
          have hK := hK.sub (tys' := [(cI, .int)]) [0] rfl
          refine k_facts (fun hm1 hm2 hm3 => ?_)
          refine W.widen (k := 1) (n := 2 * ln) (by omega) (by omega) ?_
          exact W.vret hx hb hr (fun t ht hW => ⟨⟨(([(h, .inr (4, [.int nw, .ref mcells, .ref mcounters, .ref mfloors, .ref mlimits, .ref mlongs, .ref msteps, .int ac, .ref mprogram, .ref mkind, .ref mrank, .ref mstate, .ref mactLong, .ref mactSteps, .ref mat, .ref mregister, .ref misHeld, .ref mdoneIn, .ref mundone, .ref mby, .ref mbegunIn, .ref misVoid, .ref misAgain, .ref mholds, .ref mwrites, .ref mgives, .ref mbelow, .ref mqueued, .ref mqueuedMany, .int dn, .ref mdone, .int (en + 1), .int kp, .ref q23, .int rg, .int fa, .ref morder, .ref misReached, .ref mqueue])), (q23, .inl (cI, (2 * ln), .inl (upd (upd (upd (upd f (4 * en).toNatClampNeg x) ((4 * en) + 1).toNatClampNeg y) ((4 * en) + 2).toNatClampNeg z) ((4 * en) + 3).toNatClampNeg nw)))], [(cI, .int)]), (1, 2 * ln)), rfl, Or.inr (⟨q23, (upd (upd (upd (upd f (4 * en).toNatClampNeg x) ((4 * en) + 1).toNatClampNeg y) ((4 * en) + 2).toNatClampNeg z) ((4 * en) + 3).toNatClampNeg nw), rfl, (by omega)⟩), ⟨⟨by rw [ht]; exact hP, va_K.moved hW.alike hK, hD⟩, by rw [ht]; exact hm3, by rw [ht]; omega, by rw [ht]; omega⟩⟩, hS.F ht⟩) hS.2.2 dX4_logs_131
        · skip
          have c18 := k_nle c18
          refine lv_aload hx hb dX4_logs_40 (lv_at hl 1 rfl) ?_
          refine lv_iload hx hb dX4_logs_42 (lv_at hl 0 rfl) ?_
          refine lv_aload_n hx hb dX4_logs_44 rfl (lv_at hl 2 rfl) ?_
          refine va_get (D := D) (ci := 4) (v := .ref mlog) (C := RX4) (T := TX4) (N := 39) hx hb hts kin_X4_logs_X4 hown hK hP 0 rfl rfl 33 (by decide) (hts _ kw_X4_logs__fieldLink_RX4_95_ActHouseModel_log_I_) (fun _ h9 => h9) rfl dX4_logs_45 ?_
          refine lv_iload hx hb dX4_logs_48 (lv_at hl 0 rfl) ?_
          have hi50 : vp_in i ln := (k_in (by omega) (by omega))
          refine va_iald hx hb hK hP 1 0 rfl rfl hi50 dX4_logs_50 ?_
          have hi51 : vp_in i (2 * ln) := (k_in (by omega) (by omega))
          refine va_iast hx hb hK hP hD hS 2 0 rfl rfl hi51 dX4_logs_51 (fun H locs hP hD hS => ?_)
          have hP : va_P D vwCl [(h, .inr (4, [.int nw, .ref mcells, .ref mcounters, .ref mfloors, .ref mlimits, .ref mlongs, .ref msteps, .int ac, .ref mprogram, .ref mkind, .ref mrank, .ref mstate, .ref mactLong, .ref mactSteps, .ref mat, .ref mregister, .ref misHeld, .ref mdoneIn, .ref mundone, .ref mby, .ref mbegunIn, .ref misVoid, .ref misAgain, .ref mholds, .ref mwrites, .ref mgives, .ref mbelow, .ref mqueued, .ref mqueuedMany, .int dn, .ref mdone, .int en, .int kp, .ref mlog, .int rg, .int fa, .ref morder, .ref misReached, .ref mqueue])), (mlog, .inl (cI, ln, .inl lg)), (q23, .inl (cI, (2 * ln), .inl (upd f i.toNatClampNeg (lg i.toNatClampNeg))))] H := hP
          have hD : va_D A [(h, .inr (4, [.int nw, .ref mcells, .ref mcounters, .ref mfloors, .ref mlimits, .ref mlongs, .ref msteps, .int ac, .ref mprogram, .ref mkind, .ref mrank, .ref mstate, .ref mactLong, .ref mactSteps, .ref mat, .ref mregister, .ref misHeld, .ref mdoneIn, .ref mundone, .ref mby, .ref mbegunIn, .ref misVoid, .ref misAgain, .ref mholds, .ref mwrites, .ref mgives, .ref mbelow, .ref mqueued, .ref mqueuedMany, .int dn, .ref mdone, .int en, .int kp, .ref mlog, .int rg, .int fa, .ref morder, .ref misReached, .ref mqueue])), (mlog, .inl (cI, ln, .inl lg)), (q23, .inl (cI, (2 * ln), .inl (upd f i.toNatClampNeg (lg i.toNatClampNeg))))] := hD
          refine lv_iinc (v := i + 1) (lv' := [(5, .int (i + 1)), (4, .ref q23), (0, .ref h), (1, .int x), (2, .int y), (3, .int z)]) hx hb dX4_logs_52 hl (k := 0) rfl (by rfl) (by decide) rfl (fun ls hl => ?_)
          refine lv_goto (tgt := 30) hx hb dX4_logs_55 (by decide) ?_
          have e1 := k_inc (x := i) (by omega)
          exact ih30 (i + 1) (upd f i.toNatClampNeg (lg i.toNatClampNeg)) _ _ _ (by omega) (by omega) (hP.sub [0, 1, 2] rfl) (hD.sub [0, 1, 2] (by decide) rfl) hS (lv_sub hl [0, 1, 2, 3, 4, 5] rfl)
    exact loop30 ln 0 (fun _ => 0) _ _ _ (by decide) (by rw [show (0 : Int32).toInt = 0 from by decide]; omega) (hP.sub [0, 1, 2] rfl) (hD.sub [0, 1, 2] (by decide) rfl) hS (lv_sub hl [0, 1, 2, 3, 4, 5] rfl)
