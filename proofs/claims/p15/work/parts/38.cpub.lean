set_option maxRecDepth 100000 in
theorem kw_X3_program__fieldLink_RX3_13_ActHouse_programLengths_I_ : (.fieldLink RX3 13 "ActHouse" "programLengths" "[I" : Cond) ∈ wsX3_program := by decide +kernel
set_option maxRecDepth 100000 in
theorem kin_X3_program_X3 : ∀ w ∈ u_ws RX3 TX3 18, w ∈ wsX3_program := by decide +kernel
def f_X3_program (x1 : Int32) (C0 : CS) : Option (Int32 × CS) := (if (f_X3_isBelow x1 (8 : Int32)) = 0 then some ((0 : Int32), C0) else (if 0 ≤ x1.toInt ∧ x1.toInt < 8 then (k_let (cAF C0 1 (upd (C0.2.1 1) x1.toNatClampNeg (0 : Int32))) fun C4 => some ((1 : Int32), C4)) else none))
set_option maxHeartbeats 4000000 in
set_option maxRecDepth 100000 in
theorem c_X3_program {l : Launch} {D : va_G} {sz : Nat} {cI cJ cO : ClassId} {h : Nat} {xa : Nat → Nat} {ea0 : Nat} {pa0 : Nat → Nat → Nat} {C0 C' : CS} {x1 r' : Int32} (hf : f_X3_program x1 C0 = some (r', C')) : Met l yX3_program wsX3_program ({ frames := 1, cells := 0, slots := 0, locals := 21 }) (va_Pc [.ref h, .int x1] (k_Pre D [(cI, .int), (cO, .object RX0), (cJ, .long)] (cW cI cJ cO h xa ea0 pa0 C0) sz)) (va_Qi (fun (r0 : Int32) (u : va_W × List (ClassId × FieldType)) => r0 = r' ∧ u = (cW cI cJ cO h xa ea0 pa0 C', [(cI, .int), (cO, .object RX0), (cJ, .long)]) ∧ gN C' = gN C0 ∧ gE C' = gE C0) (k_B D (va_A (cW cI cJ cO h xa ea0 pa0 C0) sz)) (va_A (cW cI cJ cO h xa ea0 pa0 C0) sz)) (0) (0) (va_A (cW cI cJ cO h xa ea0 pa0 C0) sz) := by
  refine Met.ofW (cc := cX3_program) (maxL := 2) (ret := (some .boolean)) (by decide) rfl ?_
  intro p e s m args below meth c s₁ B hml hv
  obtain ⟨rfl, hsz, hP, hK, hD0⟩ := hv
  have hx := B.exec
  have hb := B.bytes
  have hr := B.returns
  have hts := atoms_spec (ws := wsX3_program) B.pre
  have hown : s.vm.findClass RX3 = some m.cls := findClass_of_methodNamed B.named
  have hlocks := B.notSynchronized
  subst hsz
  have hD := hD0.self (sz := s.heap.size)
  generalize hAe : va_A (cW cI cJ cO h xa ea0 pa0 C0) s.heap.size = A at hD ⊢
  have hA : ∀ q : Nat, s.heap.size ≤ q → A q := fun q h => by rw [← hAe]; exact Or.inr h
  have hS : va_S A s.heap s.heap [] := va_S.rf
  have hl := lv_entry ([.ref h, .int x1]) (n := 2) (Nat.le_of_ble_eq_true rfl)
  rw [lg_entry_eq]
  generalize (lg_sl ([.ref h, .int x1]) ++ List.replicate (2 - (lg_sl ([.ref h, .int x1])).length) Slot.unset).toArray = ls at hl ⊢
  have hl : lv_has ls 2 [(0, .ref h), (1, .int x1)] := hl
  refine k_Q (fun Q hQ => ?_)
  have hg0 : gN C0 = gN C0 ∧ gE C0 = gE C0 := ⟨rfl, rfl⟩
  have hq := hf
  rw [f_X3_program] at hq
  refine lv_iload_n hx hb dX3_program_0 rfl (lv_at hl 1 rfl) ?_
  refine lv_bipush (v := 8) hx hb dX3_program_1 (by decide) ?_
  have hFc := k_free hD hS hA
  refine va_calli (va_runS (As := [.int x1, .int 8]) (rest := []) ⟨hx, hb, hml, hown, hts⟩ (c_X3_isBelow (l := l) (D := D) (cI := cI) (cJ := cJ) (cO := cO) (h := h) (xa := xa) (ea0 := ea0) (pa0 := pa0) (C0 := C0) (hf := rfl)) (va_cwS 2 hts gX3_program_X3_isBelow rfl rfl rfl (by decide +kernel) ⟨Nat.le_of_ble_eq_true rfl, Nat.le_of_ble_eq_true rfl⟩) ⟨k_blind, fun U hU hW => ⟨rfl, k_pre hU hW hP hK hD⟩⟩ rfl rfl hl.1 rfl (lv_room (Nat.le_of_ble_eq_true rfl)) dX3_program_3 ⟨by decide, by decide⟩) hS (fun q _ h => hFc q h) hFc (fun r1 u t H1 locs ht hvm hw hB hz1 hk1 hS => ?_)
  obtain ⟨rfl, rfl⟩ := hw
  refine W.widen (k := 0) (n := 0) (Nat.le_refl _) (Nat.le_refl _) ?_
  obtain ⟨hP1, hK1, hD1⟩ := hB
  rw [ht] at hP1
  have hP := hP1
  have hD := k_weak hD1 hFc
  generalize H1 = H at hP hS ⊢
  have hP : va_P D vwCl (cW cI cJ cO h xa ea0 pa0 C0) _ := hP
  have hD : va_D A (cW cI cJ cO h xa ea0 pa0 C0) := hD
  refine lv_if_ne (tgt := 11) hx hb dX3_program_6 (by decide) (fun c2 => ?_) (fun c2 => ?_)
  · skip
    rw [if_neg c2] at hq
    refine lv_aload_n hx hb dX3_program_11 rfl (lv_at hl 0 rfl) ?_
    refine va_get (D := D) (ci := 3) (v := .ref (xa 1)) (C := RX3) (T := TX3) (N := 18) hx hb hts kin_X3_program_X3 hown hK hP 0 rfl rfl 1 (by decide) (hts _ kw_X3_program__fieldLink_RX3_13_ActHouse_programLengths_I_) (fun _ h9 => h9) rfl dX3_program_12 ?_
    refine lv_iload_n hx hb dX3_program_15 rfl (lv_at hl 1 rfl) ?_
    refine lv_iconst (v := 0) hx hb dX3_program_16 (by decide) ?_
    obtain ⟨b3, hq⟩ := k_if hq
    refine va_iast hx hb hK hP hD hS 2 0 (f := (C0.2.1 1)) rfl rfl (x := 0) (k_in b3.1 b3.2) dX3_program_17 (fun H locs hP hD hS => ?_)
    obtain ⟨C4, eC4, hg4, hh4, hq⟩ := k_lc (C := C0) hq rfl rfl
    rw [cW_F1, ← eC4] at hP hD
    have hP : va_P D vwCl (cW cI cJ cO h xa ea0 pa0 C4) _ := hP
    have hD : va_D A (cW cI cJ cO h xa ea0 pa0 C4) := hD
    refine lv_iconst (v := 1) hx hb dX3_program_18 (by decide) ?_
    obtain ⟨e2, e3⟩ := k_so hq
    subst hQ
    have hP : va_P D vwCl (cW cI cJ cO h xa ea0 pa0 C4) _ := hP
    have hD : va_D A (cW cI cJ cO h xa ea0 pa0 C4) := hD
    have hgE := congrArg (fun X : CS => gN X) e3
    have hgE : gN C4 = gN C' := hgE
    have hhE := congrArg (fun X : CS => gE X) e3
    have hhE : gE C4 = gE C' := hhE
    refine W.widen (k := 0) (n := 0) (by decide) (by decide) ?_
    exact W.zret (v := 1) hx hb hr (by decide) (fun t ht hW => ⟨⟨1, (cW cI cJ cO h xa ea0 pa0 C4, [(cI, .int), (cO, .object RX0), (cJ, .long)]), rfl, ⟨e2, (congrArg (fun X : CS => ((cW cI cJ cO h xa ea0 pa0 X, [(cI, .int), (cO, .object RX0), (cJ, .long)]) : va_W × List (ClassId × FieldType))) e3), by omega, by omega⟩, ⟨by rw [ht]; exact hP, va_K.moved hW.alike hK, hD⟩⟩, hS.F ht⟩) hS.2.2 dX3_program_19
  · skip
    rw [if_pos c2] at hq
    refine lv_iconst (v := 0) hx hb dX3_program_9 (by decide) ?_
    obtain ⟨e2, e3⟩ := k_so hq
    subst hQ
    have hP : va_P D vwCl (cW cI cJ cO h xa ea0 pa0 C0) _ := hP
    have hD : va_D A (cW cI cJ cO h xa ea0 pa0 C0) := hD
    have hgE := congrArg (fun X : CS => gN X) e3
    have hgE : gN C0 = gN C' := hgE
    have hhE := congrArg (fun X : CS => gE X) e3
    have hhE : gE C0 = gE C' := hhE
    refine W.widen (k := 0) (n := 0) (by decide) (by decide) ?_
    exact W.zret (v := 0) hx hb hr (by decide) (fun t ht hW => ⟨⟨0, (cW cI cJ cO h xa ea0 pa0 C0, [(cI, .int), (cO, .object RX0), (cJ, .long)]), rfl, ⟨e2, (congrArg (fun X : CS => ((cW cI cJ cO h xa ea0 pa0 X, [(cI, .int), (cO, .object RX0), (cJ, .long)]) : va_W × List (ClassId × FieldType))) e3), by omega, by omega⟩, ⟨by rw [ht]; exact hP, va_K.moved hW.alike hK, hD⟩⟩, hS.F ht⟩) hS.2.2 dX3_program_10
set_option maxRecDepth 100000 in
theorem kw_X3_step__fieldLink_RX3_13_ActHouse_programLengths_I_ : (.fieldLink RX3 13 "ActHouse" "programLengths" "[I" : Cond) ∈ wsX3_step := by decide +kernel
set_option maxRecDepth 100000 in
theorem kin_X3_step_X3 : ∀ w ∈ u_ws RX3 TX3 18, w ∈ wsX3_step := by decide +kernel
set_option maxRecDepth 100000 in
theorem kw_X3_step__fieldLink_RX3_9_ActHouse_programSteps_I_ : (.fieldLink RX3 9 "ActHouse" "programSteps" "[I" : Cond) ∈ wsX3_step := by decide +kernel
def f_X3_step (x1 : Int32) (x2 : Int32) (C0 : CS) : Option (Int32 × CS) := (if (f_X3_isBelow x1 (8 : Int32)) = 0 then some (((-1) : Int32), C0) else (if (f_X3_isStep x2) = 0 then some (((-1) : Int32), C0) else (if 0 ≤ x1.toInt ∧ x1.toInt < 8 then (if ((C0.2.1 1) x1.toNatClampNeg) < 12 then (if 0 ≤ ((x1 * 12) + ((C0.2.1 1) x1.toNatClampNeg)).toInt ∧ ((x1 * 12) + ((C0.2.1 1) x1.toNatClampNeg)).toInt < 96 then (k_let (cAF C0 0 (upd (C0.2.1 0) (((x1 * 12) + ((C0.2.1 1) x1.toNatClampNeg)).toNatClampNeg) x2)) fun C8 => (k_let (cAF C8 1 (upd (C8.2.1 1) x1.toNatClampNeg (((C0.2.1 1) x1.toNatClampNeg) + 1))) fun C9 => some ((((C0.2.1 1) x1.toNatClampNeg) + 1), C9))) else none) else some (((-1) : Int32), C0)) else none)))
set_option maxHeartbeats 4000000 in
set_option maxRecDepth 100000 in
theorem c_X3_step {l : Launch} {D : va_G} {sz : Nat} {cI cJ cO : ClassId} {h : Nat} {xa : Nat → Nat} {ea0 : Nat} {pa0 : Nat → Nat → Nat} {C0 C' : CS} {x1 x2 r' : Int32} (hf : f_X3_step x1 x2 C0 = some (r', C')) : Met l yX3_step wsX3_step ({ frames := 2, cells := 0, slots := 0, locals := 40 }) (va_Pc [.ref h, .int x1, .int x2] (k_Pre D [(cI, .int), (cO, .object RX0), (cJ, .long)] (cW cI cJ cO h xa ea0 pa0 C0) sz)) (va_Qi (fun (r0 : Int32) (u : va_W × List (ClassId × FieldType)) => r0 = r' ∧ u = (cW cI cJ cO h xa ea0 pa0 C', [(cI, .int), (cO, .object RX0), (cJ, .long)]) ∧ gN C' = gN C0 ∧ gE C' = gE C0) (k_B D (va_A (cW cI cJ cO h xa ea0 pa0 C0) sz)) (va_A (cW cI cJ cO h xa ea0 pa0 C0) sz)) (0) (0) (va_A (cW cI cJ cO h xa ea0 pa0 C0) sz) := by
  refine Met.ofW (cc := cX3_step) (maxL := 4) (ret := (some .int)) (by decide) rfl ?_
  intro p e s m args below meth c s₁ B hml hv
  obtain ⟨rfl, hsz, hP, hK, hD0⟩ := hv
  have hx := B.exec
  have hb := B.bytes
  have hr := B.returns
  have hts := atoms_spec (ws := wsX3_step) B.pre
  have hown : s.vm.findClass RX3 = some m.cls := findClass_of_methodNamed B.named
  have hlocks := B.notSynchronized
  subst hsz
  have hD := hD0.self (sz := s.heap.size)
  generalize hAe : va_A (cW cI cJ cO h xa ea0 pa0 C0) s.heap.size = A at hD ⊢
  have hA : ∀ q : Nat, s.heap.size ≤ q → A q := fun q h => by rw [← hAe]; exact Or.inr h
  have hS : va_S A s.heap s.heap [] := va_S.rf
  have hl := lv_entry ([.ref h, .int x1, .int x2]) (n := 4) (Nat.le_of_ble_eq_true rfl)
  rw [lg_entry_eq]
  generalize (lg_sl ([.ref h, .int x1, .int x2]) ++ List.replicate (4 - (lg_sl ([.ref h, .int x1, .int x2])).length) Slot.unset).toArray = ls at hl ⊢
  have hl : lv_has ls 4 [(0, .ref h), (1, .int x1), (2, .int x2)] := hl
  refine k_Q (fun Q hQ => ?_)
  have hg0 : gN C0 = gN C0 ∧ gE C0 = gE C0 := ⟨rfl, rfl⟩
  have hq := hf
  rw [f_X3_step] at hq
  refine lv_iload_n hx hb dX3_step_0 rfl (lv_at hl 1 rfl) ?_
  refine lv_bipush (v := 8) hx hb dX3_step_1 (by decide) ?_
  have hFc := k_free hD hS hA
  refine va_calli (va_runS (As := [.int x1, .int 8]) (rest := []) ⟨hx, hb, hml, hown, hts⟩ (c_X3_isBelow (l := l) (D := D) (cI := cI) (cJ := cJ) (cO := cO) (h := h) (xa := xa) (ea0 := ea0) (pa0 := pa0) (C0 := C0) (hf := rfl)) (va_cwS 2 hts gX3_step_X3_isBelow rfl rfl rfl (by decide +kernel) ⟨Nat.le_of_ble_eq_true rfl, Nat.le_of_ble_eq_true rfl⟩) ⟨k_blind, fun U hU hW => ⟨rfl, k_pre hU hW hP hK hD⟩⟩ rfl rfl hl.1 rfl (lv_room (Nat.le_of_ble_eq_true rfl)) dX3_step_3 ⟨by decide, by decide⟩) hS (fun q _ h => hFc q h) hFc (fun r1 u t H1 locs ht hvm hw hB hz1 hk1 hS => ?_)
  obtain ⟨rfl, rfl⟩ := hw
  refine W.widen (k := 0) (n := 0) (Nat.le_refl _) (Nat.le_refl _) ?_
  obtain ⟨hP1, hK1, hD1⟩ := hB
  rw [ht] at hP1
  have hP := hP1
  have hD := k_weak hD1 hFc
  generalize H1 = H at hP hS ⊢
  have hP : va_P D vwCl (cW cI cJ cO h xa ea0 pa0 C0) _ := hP
  have hD : va_D A (cW cI cJ cO h xa ea0 pa0 C0) := hD
  refine lv_if_eq (tgt := 16) hx hb dX3_step_6 (by decide) (fun c2 => ?_) (fun c2 => ?_)
  · skip
    rw [if_pos c2] at hq
    refine lv_iconst (v := (-1)) hx hb dX3_step_16 (by decide) ?_
    obtain ⟨e2, e3⟩ := k_so hq
    subst hQ
    have hP : va_P D vwCl (cW cI cJ cO h xa ea0 pa0 C0) _ := hP
    have hD : va_D A (cW cI cJ cO h xa ea0 pa0 C0) := hD
    have hgE := congrArg (fun X : CS => gN X) e3
    have hgE : gN C0 = gN C' := hgE
    have hhE := congrArg (fun X : CS => gE X) e3
    have hhE : gE C0 = gE C' := hhE
    refine W.widen (k := 0) (n := 0) (by decide) (by decide) ?_
    exact W.iret (v := (-1)) hx hb hr (fun t ht hW => ⟨⟨(-1), (cW cI cJ cO h xa ea0 pa0 C0, [(cI, .int), (cO, .object RX0), (cJ, .long)]), rfl, ⟨e2, (congrArg (fun X : CS => ((cW cI cJ cO h xa ea0 pa0 X, [(cI, .int), (cO, .object RX0), (cJ, .long)]) : va_W × List (ClassId × FieldType))) e3), by omega, by omega⟩, ⟨by rw [ht]; exact hP, va_K.moved hW.alike hK, hD⟩⟩, hS.F ht⟩) hS.2.2 dX3_step_17
  · skip
    rw [if_neg c2] at hq
    refine lv_iload_n hx hb dX3_step_9 rfl (lv_at hl 2 rfl) ?_
    have hFc := k_free hD hS hA
    refine va_calli (va_runS (As := [.int x2]) (rest := []) ⟨hx, hb, hml, hown, hts⟩ (c_X3_isStep (l := l) (D := D) (cI := cI) (cJ := cJ) (cO := cO) (h := h) (xa := xa) (ea0 := ea0) (pa0 := pa0) (C0 := C0) (hf := rfl)) (va_cwS 1 hts gX3_step_X3_isStep rfl rfl rfl (by decide +kernel) ⟨Nat.le_of_ble_eq_true rfl, Nat.le_of_ble_eq_true rfl⟩) ⟨k_blind, fun U hU hW => ⟨rfl, k_pre hU hW hP hK hD⟩⟩ rfl rfl hl.1 rfl (lv_room (Nat.le_of_ble_eq_true rfl)) dX3_step_10 ⟨by decide, by decide⟩) hS (fun q _ h => hFc q h) hFc (fun r3 u t H1 locs ht hvm hw hB hz1 hk1 hS => ?_)
    obtain ⟨rfl, rfl⟩ := hw
    refine W.widen (k := 0) (n := 0) (Nat.le_refl _) (Nat.le_refl _) ?_
    obtain ⟨hP1, hK1, hD1⟩ := hB
    rw [ht] at hP1
    have hP := hP1
    have hD := k_weak hD1 hFc
    generalize H1 = H at hP hS ⊢
    have hP : va_P D vwCl (cW cI cJ cO h xa ea0 pa0 C0) _ := hP
    have hD : va_D A (cW cI cJ cO h xa ea0 pa0 C0) := hD
    refine lv_if_ne (tgt := 18) hx hb dX3_step_13 (by decide) (fun c4 => ?_) (fun c4 => ?_)
    · skip
      rw [if_neg c4] at hq
      refine lv_aload_n hx hb dX3_step_18 rfl (lv_at hl 0 rfl) ?_
      refine va_get (D := D) (ci := 3) (v := .ref (xa 1)) (C := RX3) (T := TX3) (N := 18) hx hb hts kin_X3_step_X3 hown hK hP 0 rfl rfl 1 (by decide) (hts _ kw_X3_step__fieldLink_RX3_13_ActHouse_programLengths_I_) (fun _ h9 => h9) rfl dX3_step_19 ?_
      refine lv_iload_n hx hb dX3_step_22 rfl (lv_at hl 1 rfl) ?_
      obtain ⟨b5, hq⟩ := k_if hq
      refine va_iald hx hb hK hP 2 0 (f := (C0.2.1 1)) rfl rfl (k_in b5.1 b5.2) dX3_step_23 ?_
      refine lv_istore_n (lv' := [(3, .int ((C0.2.1 1) x1.toNatClampNeg)), (0, .ref h), (1, .int x1), (2, .int x2)]) hx hb dX3_step_24 rfl hl (by decide) rfl (fun ls hl => ?_)
      refine lv_iload_n hx hb dX3_step_25 rfl (lv_at hl 0 rfl) ?_
      refine lv_bipush (v := 12) hx hb dX3_step_26 (by decide) ?_
      refine lv_icmp_lt (tgt := 33) hx hb dX3_step_28 (by decide) (fun c6 => ?_) (fun c6 => ?_)
      · skip
        rw [if_pos c6] at hq
        refine lv_aload_n hx hb dX3_step_33 rfl (lv_at hl 1 rfl) ?_
        refine va_get (D := D) (ci := 3) (v := .ref (xa 0)) (C := RX3) (T := TX3) (N := 18) hx hb hts kin_X3_step_X3 hown hK hP 0 rfl rfl 0 (by decide) (hts _ kw_X3_step__fieldLink_RX3_9_ActHouse_programSteps_I_) (fun _ h9 => h9) rfl dX3_step_34 ?_
        refine lv_iload_n hx hb dX3_step_37 rfl (lv_at hl 2 rfl) ?_
        refine lv_bipush (v := 12) hx hb dX3_step_38 (by decide) ?_
        refine lv_imul hx hb dX3_step_40 ?_
        refine lv_iload_n hx hb dX3_step_41 rfl (lv_at hl 0 rfl) ?_
        refine lv_iadd hx hb dX3_step_42 ?_
        refine lv_iload_n hx hb dX3_step_43 rfl (lv_at hl 3 rfl) ?_
        obtain ⟨b7, hq⟩ := k_if hq
        refine va_iast hx hb hK hP hD hS 1 0 (f := (C0.2.1 0)) rfl rfl (x := x2) (k_in b7.1 b7.2) dX3_step_44 (fun H locs hP hD hS => ?_)
        obtain ⟨C8, eC8, hg8, hh8, hq⟩ := k_lc (C := C0) hq rfl rfl
        rw [cW_F0, ← eC8] at hP hD
        have hP : va_P D vwCl (cW cI cJ cO h xa ea0 pa0 C8) _ := hP
        have hD : va_D A (cW cI cJ cO h xa ea0 pa0 C8) := hD
        refine lv_aload_n hx hb dX3_step_45 rfl (lv_at hl 1 rfl) ?_
        refine va_get (D := D) (ci := 3) (v := .ref (xa 1)) (C := RX3) (T := TX3) (N := 18) hx hb hts kin_X3_step_X3 hown hK hP 0 rfl rfl 1 (by decide) (hts _ kw_X3_step__fieldLink_RX3_13_ActHouse_programLengths_I_) (fun _ h9 => h9) rfl dX3_step_46 ?_
        refine lv_iload_n hx hb dX3_step_49 rfl (lv_at hl 2 rfl) ?_
        refine lv_iload_n hx hb dX3_step_50 rfl (lv_at hl 0 rfl) ?_
        refine lv_iconst (v := 1) hx hb dX3_step_51 (by decide) ?_
        refine lv_iadd hx hb dX3_step_52 ?_
        refine va_iast hx hb hK hP hD hS 2 0 (f := (C8.2.1 1)) rfl rfl (x := (((C0.2.1 1) x1.toNatClampNeg) + 1)) (k_in b5.1 b5.2) dX3_step_53 (fun H locs hP hD hS => ?_)
        obtain ⟨C9, eC9, hg9, hh9, hq⟩ := k_lc (C := C8) hq rfl rfl
        rw [cW_F1, ← eC9] at hP hD
        have hP : va_P D vwCl (cW cI cJ cO h xa ea0 pa0 C9) _ := hP
        have hD : va_D A (cW cI cJ cO h xa ea0 pa0 C9) := hD
        refine lv_iload_n hx hb dX3_step_54 rfl (lv_at hl 0 rfl) ?_
        refine lv_iconst (v := 1) hx hb dX3_step_55 (by decide) ?_
        refine lv_iadd hx hb dX3_step_56 ?_
        obtain ⟨e2, e3⟩ := k_so hq
        subst hQ
        have hP : va_P D vwCl (cW cI cJ cO h xa ea0 pa0 C9) _ := hP
        have hD : va_D A (cW cI cJ cO h xa ea0 pa0 C9) := hD
        have hgE := congrArg (fun X : CS => gN X) e3
        have hgE : gN C9 = gN C' := hgE
        have hhE := congrArg (fun X : CS => gE X) e3
        have hhE : gE C9 = gE C' := hhE
        refine W.widen (k := 0) (n := 0) (by decide) (by decide) ?_
        exact W.iret (v := ((C0.2.1 1) x1.toNatClampNeg) + 1) hx hb hr (fun t ht hW => ⟨⟨((C0.2.1 1) x1.toNatClampNeg) + 1, (cW cI cJ cO h xa ea0 pa0 C9, [(cI, .int), (cO, .object RX0), (cJ, .long)]), rfl, ⟨e2, (congrArg (fun X : CS => ((cW cI cJ cO h xa ea0 pa0 X, [(cI, .int), (cO, .object RX0), (cJ, .long)]) : va_W × List (ClassId × FieldType))) e3), by omega, by omega⟩, ⟨by rw [ht]; exact hP, va_K.moved hW.alike hK, hD⟩⟩, hS.F ht⟩) hS.2.2 dX3_step_57
      · skip
        rw [if_neg c6] at hq
        refine lv_iconst (v := (-1)) hx hb dX3_step_31 (by decide) ?_
        obtain ⟨e2, e3⟩ := k_so hq
        subst hQ
        have hP : va_P D vwCl (cW cI cJ cO h xa ea0 pa0 C0) _ := hP
        have hD : va_D A (cW cI cJ cO h xa ea0 pa0 C0) := hD
        have hgE := congrArg (fun X : CS => gN X) e3
        have hgE : gN C0 = gN C' := hgE
        have hhE := congrArg (fun X : CS => gE X) e3
        have hhE : gE C0 = gE C' := hhE
        refine W.widen (k := 0) (n := 0) (by decide) (by decide) ?_
        exact W.iret (v := (-1)) hx hb hr (fun t ht hW => ⟨⟨(-1), (cW cI cJ cO h xa ea0 pa0 C0, [(cI, .int), (cO, .object RX0), (cJ, .long)]), rfl, ⟨e2, (congrArg (fun X : CS => ((cW cI cJ cO h xa ea0 pa0 X, [(cI, .int), (cO, .object RX0), (cJ, .long)]) : va_W × List (ClassId × FieldType))) e3), by omega, by omega⟩, ⟨by rw [ht]; exact hP, va_K.moved hW.alike hK, hD⟩⟩, hS.F ht⟩) hS.2.2 dX3_step_32
    · skip
      rw [if_pos c4] at hq
      refine lv_iconst (v := (-1)) hx hb dX3_step_16 (by decide) ?_
      obtain ⟨e2, e3⟩ := k_so hq
      subst hQ
      have hP : va_P D vwCl (cW cI cJ cO h xa ea0 pa0 C0) _ := hP
      have hD : va_D A (cW cI cJ cO h xa ea0 pa0 C0) := hD
      have hgE := congrArg (fun X : CS => gN X) e3
      have hgE : gN C0 = gN C' := hgE
      have hhE := congrArg (fun X : CS => gE X) e3
      have hhE : gE C0 = gE C' := hhE
      refine W.widen (k := 0) (n := 0) (by decide) (by decide) ?_
      exact W.iret (v := (-1)) hx hb hr (fun t ht hW => ⟨⟨(-1), (cW cI cJ cO h xa ea0 pa0 C0, [(cI, .int), (cO, .object RX0), (cJ, .long)]), rfl, ⟨e2, (congrArg (fun X : CS => ((cW cI cJ cO h xa ea0 pa0 X, [(cI, .int), (cO, .object RX0), (cJ, .long)]) : va_W × List (ClassId × FieldType))) e3), by omega, by omega⟩, ⟨by rw [ht]; exact hP, va_K.moved hW.alike hK, hD⟩⟩, hS.F ht⟩) hS.2.2 dX3_step_17
def f_X3_act (x1 : Int32) (x2 : Int32) (x3 : Int32) (C0 : CS) : Option (Int32 × CS) := (if (f_X3_isBelow x1 (8 : Int32)) = 0 then some (((-1) : Int32), C0) else (if (f_X3_isBelow x2 (4 : Int32)) = 0 then some (((-1) : Int32), C0) else (if (f_X3_isBelow x3 (10 : Int32)) = 0 then some (((-1) : Int32), C0) else (k_bind (f_X3_admit x1 x2 x3 ((-1) : Int32) C0) fun r7 C7 => some (r7, C7)))))
set_option maxHeartbeats 4000000 in
set_option maxRecDepth 100000 in
theorem c_X3_act {l : Launch} {D : va_G} {hp : Heap} {cI cJ cO : ClassId} {h : Nat} {xa : Nat → Nat} {ea0 : Nat} {pa0 : Nat → Nat → Nat} {C0 C' : CS} {x1 x2 x3 r' : Int32} (hg : gN C0 ≤ 80 ∧ gE C0 ≤ 1048576) (hf : f_X3_act x1 x2 x3 C0 = some (r', C')) : Met l yX3_act wsX3_act ({ frames := 3, cells := 7 * (80 - gN C0) + (1048576 - gE C0) / 256, slots := 108 * (80 - gN C0) + 2 * (1048576 - gE C0), locals := 62 }) (va_Pc [.ref h, .int x1, .int x2, .int x3] (k_PreH D [(cI, .int), (cO, .object RX0), (cJ, .long)] (cW cI cJ cO h xa ea0 pa0 C0) hp)) (va_Qi (fun (r0 : Int32) (u : va_W × List (ClassId × FieldType)) => ∃ (ea' : Nat) (pa' : Nat → Nat → Nat), r0 = r' ∧ u = (cW cI cJ cO h xa ea' pa' C', [(cI, .int), (cO, .object RX0), (cJ, .long)]) ∧ (gN C0 ≤ gN C' ∧ gN C' ≤ 80 ∧ gE C0 ≤ gE C' ∧ gE C' ≤ 1048576) ∧ ∀ n, n < gN C0 → pa' n = pa0 n) (k_BM D (va_A (cW cI cJ cO h xa ea0 pa0 C0) hp.size) hp (7 * (gN C' - gN C0) + (gE C' - gE C0) / 256) (108 * (gN C' - gN C0) + 2 * (gE C' - gE C0))) (va_A (cW cI cJ cO h xa ea0 pa0 C0) hp.size)) (7 * (80 - gN C0) + (1048576 - gE C0) / 256) (108 * (80 - gN C0) + 2 * (1048576 - gE C0)) (va_A (cW cI cJ cO h xa ea0 pa0 C0) hp.size) := by
  refine Met.ofW (cc := cX3_act) (maxL := 4) (ret := (some .int)) (by decide) rfl ?_
  intro p e s m args below meth c s₁ B hml hv
  obtain ⟨rfl, hsz, hP, hK, hD0⟩ := hv
  have hx := B.exec
  have hb := B.bytes
  have hr := B.returns
  have hts := atoms_spec (ws := wsX3_act) B.pre
  have hown : s.vm.findClass RX3 = some m.cls := findClass_of_methodNamed B.named
  have hlocks := B.notSynchronized
  have hsz : s.heap = hp := hsz
  subst hsz
  have hD := hD0.self (sz := s.heap.size)
  generalize hAe : va_A (cW cI cJ cO h xa ea0 pa0 C0) s.heap.size = A at hD ⊢
  have hA : ∀ q : Nat, s.heap.size ≤ q → A q := fun q h => by rw [← hAe]; exact Or.inr h
  have hS : va_S A s.heap s.heap [] := va_S.rf
  have hl := lv_entry ([.ref h, .int x1, .int x2, .int x3]) (n := 4) (Nat.le_of_ble_eq_true rfl)
  rw [lg_entry_eq]
  generalize (lg_sl ([.ref h, .int x1, .int x2, .int x3]) ++ List.replicate (4 - (lg_sl ([.ref h, .int x1, .int x2, .int x3])).length) Slot.unset).toArray = ls at hl ⊢
  have hl : lv_has ls 4 [(0, .ref h), (1, .int x1), (2, .int x2), (3, .int x3)] := hl
  refine k_Q (fun Q hQ => ?_)
  refine W.widen (k := (7 * (gN C0 - gN C0) + (gE C0 - gE C0) / 256)) (n := (108 * (gN C0 - gN C0) + 2 * (gE C0 - gE C0))) (by omega) (by omega) ?_
  have hpa : ∀ n, n < gN C0 → pa0 n = pa0 n := fun _ _ => rfl
  have hq := hf
  rw [f_X3_act] at hq
  refine lv_iload_n hx hb dX3_act_0 rfl (lv_at hl 1 rfl) ?_
  refine lv_bipush (v := 8) hx hb dX3_act_1 (by decide) ?_
  have hFc := k_free hD hS hA
  refine va_calli (va_runS (As := [.int x1, .int 8]) (rest := []) ⟨hx, hb, hml, hown, hts⟩ (c_X3_isBelow (l := l) (D := D) (cI := cI) (cJ := cJ) (cO := cO) (h := h) (xa := xa) (ea0 := ea0) (pa0 := pa0) (C0 := C0) (hf := rfl)) (va_cwS 2 hts gX3_act_X3_isBelow rfl rfl rfl (by decide +kernel) ⟨Nat.le_of_ble_eq_true rfl, Nat.le_of_ble_eq_true rfl⟩) ⟨k_blind, fun U hU hW => ⟨rfl, k_pre hU hW hP hK hD⟩⟩ rfl rfl hl.1 rfl (lv_room (Nat.le_of_ble_eq_true rfl)) dX3_act_3 ⟨by show (7 * (gN C0 - gN C0) + (gE C0 - gE C0) / 256) + 0 ≤ 7 * (80 - gN C0) + (1048576 - gE C0) / 256; omega, by show (108 * (gN C0 - gN C0) + 2 * (gE C0 - gE C0)) + 0 ≤ 108 * (80 - gN C0) + 2 * (1048576 - gE C0); omega⟩) hS (fun q _ h => hFc q h) hFc (fun r1 u t H1 locs ht hvm hw hB hz1 hk1 hS => ?_)
  obtain ⟨rfl, rfl⟩ := hw
  refine W.widen (k := (7 * (gN C0 - gN C0) + (gE C0 - gE C0) / 256)) (n := (108 * (gN C0 - gN C0) + 2 * (gE C0 - gE C0))) (by omega) (by omega) ?_
  obtain ⟨hP1, hK1, hD1⟩ := hB
  rw [ht] at hP1
  have hP := hP1
  have hD := k_weak hD1 hFc
  generalize H1 = H at hP hS ⊢
  have hP : va_P D vwCl (cW cI cJ cO h xa ea0 pa0 C0) _ := hP
  have hD : va_D A (cW cI cJ cO h xa ea0 pa0 C0) := hD
  refine lv_if_eq (tgt := 26) hx hb dX3_act_6 (by decide) (fun c2 => ?_) (fun c2 => ?_)
  · skip
    rw [if_pos c2] at hq
    refine lv_iconst (v := (-1)) hx hb dX3_act_26 (by decide) ?_
    obtain ⟨e2, e3⟩ := k_so hq
    subst hQ
    have hP : va_P D vwCl (cW cI cJ cO h xa ea0 pa0 C0) _ := hP
    have hD : va_D A (cW cI cJ cO h xa ea0 pa0 C0) := hD
    have hgE := congrArg (fun X : CS => gN X) e3
    have hgE : gN C0 = gN C' := hgE
    have hhE := congrArg (fun X : CS => gE X) e3
    have hhE : gE C0 = gE C' := hhE
    refine k_facts (fun hm1 hm2 hm3 => ?_)
    refine W.widen (k := 7 * (80 - gN C0) + (1048576 - gE C0) / 256) (n := 108 * (80 - gN C0) + 2 * (1048576 - gE C0)) (by omega) (by omega) ?_
    exact W.iret (v := (-1)) hx hb hr (fun t ht hW => ⟨⟨(-1), (cW cI cJ cO h xa ea0 pa0 C0, [(cI, .int), (cO, .object RX0), (cJ, .long)]), rfl, ⟨ea0, pa0, e2, (congrArg (fun X : CS => ((cW cI cJ cO h xa ea0 pa0 X, [(cI, .int), (cO, .object RX0), (cJ, .long)]) : va_W × List (ClassId × FieldType))) e3), (by show gN C0 ≤ gN C' ∧ gN C' ≤ 80 ∧ gE C0 ≤ gE C' ∧ gE C' ≤ 1048576; omega), hpa⟩, ⟨⟨by rw [ht]; exact hP, va_K.moved hW.alike hK, hD⟩, by rw [ht]; exact hm3, by rw [ht]; omega, by rw [ht]; omega⟩⟩, hS.F ht⟩) hS.2.2 dX3_act_27
  · skip
    rw [if_neg c2] at hq
    refine lv_iload_n hx hb dX3_act_9 rfl (lv_at hl 2 rfl) ?_
    refine lv_iconst (v := 4) hx hb dX3_act_10 (by decide) ?_
    have hFc := k_free hD hS hA
    refine va_calli (va_runS (As := [.int x2, .int 4]) (rest := []) ⟨hx, hb, hml, hown, hts⟩ (c_X3_isBelow (l := l) (D := D) (cI := cI) (cJ := cJ) (cO := cO) (h := h) (xa := xa) (ea0 := ea0) (pa0 := pa0) (C0 := C0) (hf := rfl)) (va_cwS 2 hts gX3_act_X3_isBelow rfl rfl rfl (by decide +kernel) ⟨Nat.le_of_ble_eq_true rfl, Nat.le_of_ble_eq_true rfl⟩) ⟨k_blind, fun U hU hW => ⟨rfl, k_pre hU hW hP hK hD⟩⟩ rfl rfl hl.1 rfl (lv_room (Nat.le_of_ble_eq_true rfl)) dX3_act_11 ⟨by show (7 * (gN C0 - gN C0) + (gE C0 - gE C0) / 256) + 0 ≤ 7 * (80 - gN C0) + (1048576 - gE C0) / 256; omega, by show (108 * (gN C0 - gN C0) + 2 * (gE C0 - gE C0)) + 0 ≤ 108 * (80 - gN C0) + 2 * (1048576 - gE C0); omega⟩) hS (fun q _ h => hFc q h) hFc (fun r3 u t H1 locs ht hvm hw hB hz1 hk1 hS => ?_)
    obtain ⟨rfl, rfl⟩ := hw
    refine W.widen (k := (7 * (gN C0 - gN C0) + (gE C0 - gE C0) / 256)) (n := (108 * (gN C0 - gN C0) + 2 * (gE C0 - gE C0))) (by omega) (by omega) ?_
    obtain ⟨hP1, hK1, hD1⟩ := hB
    rw [ht] at hP1
    have hP := hP1
    have hD := k_weak hD1 hFc
    generalize H1 = H at hP hS ⊢
    have hP : va_P D vwCl (cW cI cJ cO h xa ea0 pa0 C0) _ := hP
    have hD : va_D A (cW cI cJ cO h xa ea0 pa0 C0) := hD
    refine lv_if_eq (tgt := 26) hx hb dX3_act_14 (by decide) (fun c4 => ?_) (fun c4 => ?_)
    · skip
      rw [if_pos c4] at hq
      refine lv_iconst (v := (-1)) hx hb dX3_act_26 (by decide) ?_
      obtain ⟨e2, e3⟩ := k_so hq
      subst hQ
      have hP : va_P D vwCl (cW cI cJ cO h xa ea0 pa0 C0) _ := hP
      have hD : va_D A (cW cI cJ cO h xa ea0 pa0 C0) := hD
      have hgE := congrArg (fun X : CS => gN X) e3
      have hgE : gN C0 = gN C' := hgE
      have hhE := congrArg (fun X : CS => gE X) e3
      have hhE : gE C0 = gE C' := hhE
      refine k_facts (fun hm1 hm2 hm3 => ?_)
      refine W.widen (k := 7 * (80 - gN C0) + (1048576 - gE C0) / 256) (n := 108 * (80 - gN C0) + 2 * (1048576 - gE C0)) (by omega) (by omega) ?_
      exact W.iret (v := (-1)) hx hb hr (fun t ht hW => ⟨⟨(-1), (cW cI cJ cO h xa ea0 pa0 C0, [(cI, .int), (cO, .object RX0), (cJ, .long)]), rfl, ⟨ea0, pa0, e2, (congrArg (fun X : CS => ((cW cI cJ cO h xa ea0 pa0 X, [(cI, .int), (cO, .object RX0), (cJ, .long)]) : va_W × List (ClassId × FieldType))) e3), (by show gN C0 ≤ gN C' ∧ gN C' ≤ 80 ∧ gE C0 ≤ gE C' ∧ gE C' ≤ 1048576; omega), hpa⟩, ⟨⟨by rw [ht]; exact hP, va_K.moved hW.alike hK, hD⟩, by rw [ht]; exact hm3, by rw [ht]; omega, by rw [ht]; omega⟩⟩, hS.F ht⟩) hS.2.2 dX3_act_27
    · skip
      rw [if_neg c4] at hq
      refine lv_iload_n hx hb dX3_act_17 rfl (lv_at hl 3 rfl) ?_
      refine lv_bipush (v := 10) hx hb dX3_act_18 (by decide) ?_
      have hFc := k_free hD hS hA
      refine va_calli (va_runS (As := [.int x3, .int 10]) (rest := []) ⟨hx, hb, hml, hown, hts⟩ (c_X3_isBelow (l := l) (D := D) (cI := cI) (cJ := cJ) (cO := cO) (h := h) (xa := xa) (ea0 := ea0) (pa0 := pa0) (C0 := C0) (hf := rfl)) (va_cwS 2 hts gX3_act_X3_isBelow rfl rfl rfl (by decide +kernel) ⟨Nat.le_of_ble_eq_true rfl, Nat.le_of_ble_eq_true rfl⟩) ⟨k_blind, fun U hU hW => ⟨rfl, k_pre hU hW hP hK hD⟩⟩ rfl rfl hl.1 rfl (lv_room (Nat.le_of_ble_eq_true rfl)) dX3_act_20 ⟨by show (7 * (gN C0 - gN C0) + (gE C0 - gE C0) / 256) + 0 ≤ 7 * (80 - gN C0) + (1048576 - gE C0) / 256; omega, by show (108 * (gN C0 - gN C0) + 2 * (gE C0 - gE C0)) + 0 ≤ 108 * (80 - gN C0) + 2 * (1048576 - gE C0); omega⟩) hS (fun q _ h => hFc q h) hFc (fun r5 u t H1 locs ht hvm hw hB hz1 hk1 hS => ?_)
      obtain ⟨rfl, rfl⟩ := hw
      refine W.widen (k := (7 * (gN C0 - gN C0) + (gE C0 - gE C0) / 256)) (n := (108 * (gN C0 - gN C0) + 2 * (gE C0 - gE C0))) (by omega) (by omega) ?_
      obtain ⟨hP1, hK1, hD1⟩ := hB
      rw [ht] at hP1
      have hP := hP1
      have hD := k_weak hD1 hFc
      generalize H1 = H at hP hS ⊢
      have hP : va_P D vwCl (cW cI cJ cO h xa ea0 pa0 C0) _ := hP
      have hD : va_D A (cW cI cJ cO h xa ea0 pa0 C0) := hD
      refine lv_if_ne (tgt := 28) hx hb dX3_act_23 (by decide) (fun c6 => ?_) (fun c6 => ?_)
      · skip
        rw [if_neg c6] at hq
        refine lv_aload_n hx hb dX3_act_28 rfl (lv_at hl 0 rfl) ?_
        refine lv_iload_n hx hb dX3_act_29 rfl (lv_at hl 1 rfl) ?_
        refine lv_iload_n hx hb dX3_act_30 rfl (lv_at hl 2 rfl) ?_
        refine lv_iload_n hx hb dX3_act_31 rfl (lv_at hl 3 rfl) ?_
        refine lv_iconst (v := (-1)) hx hb dX3_act_32 (by decide) ?_
        obtain ⟨q7, C7, h7, hq⟩ := k_bd hq
        have hFc := k_free hD hS hA
        refine k_facts (fun hn1 hn2 hn3 => ?_)
        refine va_calli (va_runV (As := [.int x1, .int x2, .int x3, .int (-1)]) (rest := []) ⟨hx, hb, hml, hown, hts⟩ (c_X3_admit (l := l) (D := D) (cI := cI) (cJ := cJ) (cO := cO) (h := h) (xa := xa) (ea0 := ea0) (pa0 := pa0)  (hg := by show gN C0 ≤ 80 ∧ gE C0 ≤ 1048576; omega) (hf := h7)) (cwV 4 hts gX3_act_X3_admit rfl rfl rfl (by decide +kernel) ⟨Nat.le_of_ble_eq_true rfl, Nat.le_of_ble_eq_true rfl⟩) ⟨k_blindH, va_recv hK hP (ci := 3) (q0 := 0) rfl rfl, fun U hU hW => ⟨rfl, k_preH hU hW hP hK hD⟩⟩ rfl rfl hl.1 rfl (lv_room (Nat.le_of_ble_eq_true rfl)) dX3_act_33 ⟨by show (7 * (gN C0 - gN C0) + (gE C0 - gE C0) / 256) + (7 * (80 - gN C0) + (1048576 - gE C0) / 256) ≤ 7 * (80 - gN C0) + (1048576 - gE C0) / 256; omega, by show (108 * (gN C0 - gN C0) + 2 * (gE C0 - gE C0)) + (108 * (80 - gN C0) + 2 * (1048576 - gE C0)) ≤ 108 * (80 - gN C0) + 2 * (1048576 - gE C0); omega⟩) hS (fun q _ h => hFc q h) hFc (fun r7 u t H1 locs ht hvm hw hB hz1 hk1 hS => ?_)
        obtain ⟨ea7, pa7, rfl, rfl, hg7, hp7⟩ := hw
        have hg7 : gN C0 ≤ gN C7 ∧ gN C7 ≤ 80 ∧ gE C0 ≤ gE C7 ∧ gE C7 ≤ 1048576 := hg7
        have hpa : ∀ n, n < gN C0 → pa7 n = pa0 n := fun n hn => (hp7 n (by show n < gN C0; omega)).trans (hpa n hn)
        obtain ⟨hB, hz2, hz3, hz4⟩ := hB
        rw [ht] at hz2 hz3 hz4
        refine k_tight (k := (7 * (gN C7 - gN C0) + (gE C7 - gE C0) / 256)) (n := (108 * (gN C7 - gN C0) + 2 * (gE C7 - gE C0))) (by omega) (by rw [k_nS_tr hn3.1 hz2]; omega) ?_
        obtain ⟨hP1, hK1, hD1⟩ := hB
        rw [ht] at hP1
        have hP := hP1
        have hD := k_weak hD1 hFc
        generalize H1 = H at hP hS ⊢
        have hP : va_P D vwCl (cW cI cJ cO h xa ea7 pa7 C7) _ := hP
        have hD : va_D A (cW cI cJ cO h xa ea7 pa7 C7) := hD
        obtain ⟨e2, e3⟩ := k_so hq
        subst hQ
        have hP : va_P D vwCl (cW cI cJ cO h xa ea7 pa7 C7) _ := hP
        have hD : va_D A (cW cI cJ cO h xa ea7 pa7 C7) := hD
        have hgE := congrArg (fun X : CS => gN X) e3
        have hgE : gN C7 = gN C' := hgE
        have hhE := congrArg (fun X : CS => gE X) e3
        have hhE : gE C7 = gE C' := hhE
        refine k_facts (fun hm1 hm2 hm3 => ?_)
        refine W.widen (k := 7 * (80 - gN C0) + (1048576 - gE C0) / 256) (n := 108 * (80 - gN C0) + 2 * (1048576 - gE C0)) (by omega) (by omega) ?_
        exact W.iret (v := r7) hx hb hr (fun t ht hW => ⟨⟨r7, (cW cI cJ cO h xa ea7 pa7 C7, [(cI, .int), (cO, .object RX0), (cJ, .long)]), rfl, ⟨ea7, pa7, e2, (congrArg (fun X : CS => ((cW cI cJ cO h xa ea7 pa7 X, [(cI, .int), (cO, .object RX0), (cJ, .long)]) : va_W × List (ClassId × FieldType))) e3), (by show gN C0 ≤ gN C' ∧ gN C' ≤ 80 ∧ gE C0 ≤ gE C' ∧ gE C' ≤ 1048576; omega), hpa⟩, ⟨⟨by rw [ht]; exact hP, va_K.moved hW.alike hK, hD⟩, by rw [ht]; exact hm3, by rw [ht]; omega, by rw [ht]; omega⟩⟩, hS.F ht⟩) hS.2.2 dX3_act_36
      · skip
        rw [if_pos c6] at hq
        refine lv_iconst (v := (-1)) hx hb dX3_act_26 (by decide) ?_
        obtain ⟨e2, e3⟩ := k_so hq
        subst hQ
        have hP : va_P D vwCl (cW cI cJ cO h xa ea0 pa0 C0) _ := hP
        have hD : va_D A (cW cI cJ cO h xa ea0 pa0 C0) := hD
        have hgE := congrArg (fun X : CS => gN X) e3
        have hgE : gN C0 = gN C' := hgE
        have hhE := congrArg (fun X : CS => gE X) e3
        have hhE : gE C0 = gE C' := hhE
        refine k_facts (fun hm1 hm2 hm3 => ?_)
        refine W.widen (k := 7 * (80 - gN C0) + (1048576 - gE C0) / 256) (n := 108 * (80 - gN C0) + 2 * (1048576 - gE C0)) (by omega) (by omega) ?_
        exact W.iret (v := (-1)) hx hb hr (fun t ht hW => ⟨⟨(-1), (cW cI cJ cO h xa ea0 pa0 C0, [(cI, .int), (cO, .object RX0), (cJ, .long)]), rfl, ⟨ea0, pa0, e2, (congrArg (fun X : CS => ((cW cI cJ cO h xa ea0 pa0 X, [(cI, .int), (cO, .object RX0), (cJ, .long)]) : va_W × List (ClassId × FieldType))) e3), (by show gN C0 ≤ gN C' ∧ gN C' ≤ 80 ∧ gE C0 ≤ gE C' ∧ gE C' ≤ 1048576; omega), hpa⟩, ⟨⟨by rw [ht]; exact hP, va_K.moved hW.alike hK, hD⟩, by rw [ht]; exact hm3, by rw [ht]; omega, by rw [ht]; omega⟩⟩, hS.F ht⟩) hS.2.2 dX3_act_27
set_option maxRecDepth 100000 in
theorem kw_X3_limit__fieldLink_RX3_16_ActHouse_limits_I_ : (.fieldLink RX3 16 "ActHouse" "limits" "[I" : Cond) ∈ wsX3_limit := by decide +kernel
set_option maxRecDepth 100000 in
theorem kin_X3_limit_X3 : ∀ w ∈ u_ws RX3 TX3 18, w ∈ wsX3_limit := by decide +kernel
def f_X3_limit (x1 : Int32) (x2 : Int32) (C0 : CS) : Option (Int32 × CS) := (if (f_X3_isBelow x1 (4 : Int32)) = 0 then some ((0 : Int32), C0) else (if x2 < 0 then some ((0 : Int32), C0) else (if x2 ≤ 9 then (if 0 ≤ x1.toInt ∧ x1.toInt < 4 then (k_let (cAF C0 2 (upd (C0.2.1 2) x1.toNatClampNeg x2)) fun C6 => some ((1 : Int32), C6)) else none) else some ((0 : Int32), C0))))
set_option maxHeartbeats 4000000 in
set_option maxRecDepth 100000 in
theorem c_X3_limit {l : Launch} {D : va_G} {sz : Nat} {cI cJ cO : ClassId} {h : Nat} {xa : Nat → Nat} {ea0 : Nat} {pa0 : Nat → Nat → Nat} {C0 C' : CS} {x1 x2 r' : Int32} (hf : f_X3_limit x1 x2 C0 = some (r', C')) : Met l yX3_limit wsX3_limit ({ frames := 1, cells := 0, slots := 0, locals := 21 }) (va_Pc [.ref h, .int x1, .int x2] (k_Pre D [(cI, .int), (cO, .object RX0), (cJ, .long)] (cW cI cJ cO h xa ea0 pa0 C0) sz)) (va_Qi (fun (r0 : Int32) (u : va_W × List (ClassId × FieldType)) => r0 = r' ∧ u = (cW cI cJ cO h xa ea0 pa0 C', [(cI, .int), (cO, .object RX0), (cJ, .long)]) ∧ gN C' = gN C0 ∧ gE C' = gE C0) (k_B D (va_A (cW cI cJ cO h xa ea0 pa0 C0) sz)) (va_A (cW cI cJ cO h xa ea0 pa0 C0) sz)) (0) (0) (va_A (cW cI cJ cO h xa ea0 pa0 C0) sz) := by
  refine Met.ofW (cc := cX3_limit) (maxL := 3) (ret := (some .boolean)) (by decide) rfl ?_
  intro p e s m args below meth c s₁ B hml hv
  obtain ⟨rfl, hsz, hP, hK, hD0⟩ := hv
  have hx := B.exec
  have hb := B.bytes
  have hr := B.returns
  have hts := atoms_spec (ws := wsX3_limit) B.pre
  have hown : s.vm.findClass RX3 = some m.cls := findClass_of_methodNamed B.named
  have hlocks := B.notSynchronized
  subst hsz
  have hD := hD0.self (sz := s.heap.size)
  generalize hAe : va_A (cW cI cJ cO h xa ea0 pa0 C0) s.heap.size = A at hD ⊢
  have hA : ∀ q : Nat, s.heap.size ≤ q → A q := fun q h => by rw [← hAe]; exact Or.inr h
  have hS : va_S A s.heap s.heap [] := va_S.rf
  have hl := lv_entry ([.ref h, .int x1, .int x2]) (n := 3) (Nat.le_of_ble_eq_true rfl)
  rw [lg_entry_eq]
  generalize (lg_sl ([.ref h, .int x1, .int x2]) ++ List.replicate (3 - (lg_sl ([.ref h, .int x1, .int x2])).length) Slot.unset).toArray = ls at hl ⊢
  have hl : lv_has ls 3 [(0, .ref h), (1, .int x1), (2, .int x2)] := hl
  refine k_Q (fun Q hQ => ?_)
  have hg0 : gN C0 = gN C0 ∧ gE C0 = gE C0 := ⟨rfl, rfl⟩
  have hq := hf
  rw [f_X3_limit] at hq
  refine lv_iload_n hx hb dX3_limit_0 rfl (lv_at hl 1 rfl) ?_
  refine lv_iconst (v := 4) hx hb dX3_limit_1 (by decide) ?_
  have hFc := k_free hD hS hA
  refine va_calli (va_runS (As := [.int x1, .int 4]) (rest := []) ⟨hx, hb, hml, hown, hts⟩ (c_X3_isBelow (l := l) (D := D) (cI := cI) (cJ := cJ) (cO := cO) (h := h) (xa := xa) (ea0 := ea0) (pa0 := pa0) (C0 := C0) (hf := rfl)) (va_cwS 2 hts gX3_limit_X3_isBelow rfl rfl rfl (by decide +kernel) ⟨Nat.le_of_ble_eq_true rfl, Nat.le_of_ble_eq_true rfl⟩) ⟨k_blind, fun U hU hW => ⟨rfl, k_pre hU hW hP hK hD⟩⟩ rfl rfl hl.1 rfl (lv_room (Nat.le_of_ble_eq_true rfl)) dX3_limit_2 ⟨by decide, by decide⟩) hS (fun q _ h => hFc q h) hFc (fun r1 u t H1 locs ht hvm hw hB hz1 hk1 hS => ?_)
  obtain ⟨rfl, rfl⟩ := hw
  refine W.widen (k := 0) (n := 0) (Nat.le_refl _) (Nat.le_refl _) ?_
  obtain ⟨hP1, hK1, hD1⟩ := hB
  rw [ht] at hP1
  have hP := hP1
  have hD := k_weak hD1 hFc
  generalize H1 = H at hP hS ⊢
  have hP : va_P D vwCl (cW cI cJ cO h xa ea0 pa0 C0) _ := hP
  have hD : va_D A (cW cI cJ cO h xa ea0 pa0 C0) := hD
  refine lv_if_eq (tgt := 18) hx hb dX3_limit_5 (by decide) (fun c2 => ?_) (fun c2 => ?_)
  · skip
    rw [if_pos c2] at hq
    refine lv_iconst (v := 0) hx hb dX3_limit_18 (by decide) ?_
    obtain ⟨e2, e3⟩ := k_so hq
    subst hQ
    have hP : va_P D vwCl (cW cI cJ cO h xa ea0 pa0 C0) _ := hP
    have hD : va_D A (cW cI cJ cO h xa ea0 pa0 C0) := hD
    have hgE := congrArg (fun X : CS => gN X) e3
    have hgE : gN C0 = gN C' := hgE
    have hhE := congrArg (fun X : CS => gE X) e3
    have hhE : gE C0 = gE C' := hhE
    refine W.widen (k := 0) (n := 0) (by decide) (by decide) ?_
    exact W.zret (v := 0) hx hb hr (by decide) (fun t ht hW => ⟨⟨0, (cW cI cJ cO h xa ea0 pa0 C0, [(cI, .int), (cO, .object RX0), (cJ, .long)]), rfl, ⟨e2, (congrArg (fun X : CS => ((cW cI cJ cO h xa ea0 pa0 X, [(cI, .int), (cO, .object RX0), (cJ, .long)]) : va_W × List (ClassId × FieldType))) e3), by omega, by omega⟩, ⟨by rw [ht]; exact hP, va_K.moved hW.alike hK, hD⟩⟩, hS.F ht⟩) hS.2.2 dX3_limit_19
  · skip
    rw [if_neg c2] at hq
    refine lv_iload_n hx hb dX3_limit_8 rfl (lv_at hl 2 rfl) ?_
    refine lv_if_lt (tgt := 18) hx hb dX3_limit_9 (by decide) (fun c3 => ?_) (fun c3 => ?_)
    · skip
      rw [if_pos c3] at hq
      refine lv_iconst (v := 0) hx hb dX3_limit_18 (by decide) ?_
      obtain ⟨e2, e3⟩ := k_so hq
      subst hQ
      have hP : va_P D vwCl (cW cI cJ cO h xa ea0 pa0 C0) _ := hP
      have hD : va_D A (cW cI cJ cO h xa ea0 pa0 C0) := hD
      have hgE := congrArg (fun X : CS => gN X) e3
      have hgE : gN C0 = gN C' := hgE
      have hhE := congrArg (fun X : CS => gE X) e3
      have hhE : gE C0 = gE C' := hhE
      refine W.widen (k := 0) (n := 0) (by decide) (by decide) ?_
      exact W.zret (v := 0) hx hb hr (by decide) (fun t ht hW => ⟨⟨0, (cW cI cJ cO h xa ea0 pa0 C0, [(cI, .int), (cO, .object RX0), (cJ, .long)]), rfl, ⟨e2, (congrArg (fun X : CS => ((cW cI cJ cO h xa ea0 pa0 X, [(cI, .int), (cO, .object RX0), (cJ, .long)]) : va_W × List (ClassId × FieldType))) e3), by omega, by omega⟩, ⟨by rw [ht]; exact hP, va_K.moved hW.alike hK, hD⟩⟩, hS.F ht⟩) hS.2.2 dX3_limit_19
    · skip
      rw [if_neg c3] at hq
      refine lv_iload_n hx hb dX3_limit_12 rfl (lv_at hl 2 rfl) ?_
      refine lv_bipush (v := 9) hx hb dX3_limit_13 (by decide) ?_
      refine lv_icmp_le (tgt := 20) hx hb dX3_limit_15 (by decide) (fun c4 => ?_) (fun c4 => ?_)
      · skip
        rw [if_pos c4] at hq
        refine lv_aload_n hx hb dX3_limit_20 rfl (lv_at hl 0 rfl) ?_
        refine va_get (D := D) (ci := 3) (v := .ref (xa 2)) (C := RX3) (T := TX3) (N := 18) hx hb hts kin_X3_limit_X3 hown hK hP 0 rfl rfl 2 (by decide) (hts _ kw_X3_limit__fieldLink_RX3_16_ActHouse_limits_I_) (fun _ h9 => h9) rfl dX3_limit_21 ?_
        refine lv_iload_n hx hb dX3_limit_24 rfl (lv_at hl 1 rfl) ?_
        refine lv_iload_n hx hb dX3_limit_25 rfl (lv_at hl 2 rfl) ?_
        obtain ⟨b5, hq⟩ := k_if hq
        refine va_iast hx hb hK hP hD hS 3 0 (f := (C0.2.1 2)) rfl rfl (x := x2) (k_in b5.1 b5.2) dX3_limit_26 (fun H locs hP hD hS => ?_)
        obtain ⟨C6, eC6, hg6, hh6, hq⟩ := k_lc (C := C0) hq rfl rfl
        rw [cW_F2, ← eC6] at hP hD
        have hP : va_P D vwCl (cW cI cJ cO h xa ea0 pa0 C6) _ := hP
        have hD : va_D A (cW cI cJ cO h xa ea0 pa0 C6) := hD
        refine lv_iconst (v := 1) hx hb dX3_limit_27 (by decide) ?_
        obtain ⟨e2, e3⟩ := k_so hq
        subst hQ
        have hP : va_P D vwCl (cW cI cJ cO h xa ea0 pa0 C6) _ := hP
        have hD : va_D A (cW cI cJ cO h xa ea0 pa0 C6) := hD
        have hgE := congrArg (fun X : CS => gN X) e3
        have hgE : gN C6 = gN C' := hgE
        have hhE := congrArg (fun X : CS => gE X) e3
        have hhE : gE C6 = gE C' := hhE
        refine W.widen (k := 0) (n := 0) (by decide) (by decide) ?_
        exact W.zret (v := 1) hx hb hr (by decide) (fun t ht hW => ⟨⟨1, (cW cI cJ cO h xa ea0 pa0 C6, [(cI, .int), (cO, .object RX0), (cJ, .long)]), rfl, ⟨e2, (congrArg (fun X : CS => ((cW cI cJ cO h xa ea0 pa0 X, [(cI, .int), (cO, .object RX0), (cJ, .long)]) : va_W × List (ClassId × FieldType))) e3), by omega, by omega⟩, ⟨by rw [ht]; exact hP, va_K.moved hW.alike hK, hD⟩⟩, hS.F ht⟩) hS.2.2 dX3_limit_28
      · skip
        rw [if_neg c4] at hq
        refine lv_iconst (v := 0) hx hb dX3_limit_18 (by decide) ?_
        obtain ⟨e2, e3⟩ := k_so hq
        subst hQ
        have hP : va_P D vwCl (cW cI cJ cO h xa ea0 pa0 C0) _ := hP
        have hD : va_D A (cW cI cJ cO h xa ea0 pa0 C0) := hD
        have hgE := congrArg (fun X : CS => gN X) e3
        have hgE : gN C0 = gN C' := hgE
        have hhE := congrArg (fun X : CS => gE X) e3
        have hhE : gE C0 = gE C' := hhE
        refine W.widen (k := 0) (n := 0) (by decide) (by decide) ?_
        exact W.zret (v := 0) hx hb hr (by decide) (fun t ht hW => ⟨⟨0, (cW cI cJ cO h xa ea0 pa0 C0, [(cI, .int), (cO, .object RX0), (cJ, .long)]), rfl, ⟨e2, (congrArg (fun X : CS => ((cW cI cJ cO h xa ea0 pa0 X, [(cI, .int), (cO, .object RX0), (cJ, .long)]) : va_W × List (ClassId × FieldType))) e3), by omega, by omega⟩, ⟨by rw [ht]; exact hP, va_K.moved hW.alike hK, hD⟩⟩, hS.F ht⟩) hS.2.2 dX3_limit_19
set_option maxRecDepth 100000 in
theorem kw_X3_floor__fieldLink_RX3_19_ActHouse_floors_I_ : (.fieldLink RX3 19 "ActHouse" "floors" "[I" : Cond) ∈ wsX3_floor := by decide +kernel
set_option maxRecDepth 100000 in
theorem kin_X3_floor_X3 : ∀ w ∈ u_ws RX3 TX3 18, w ∈ wsX3_floor := by decide +kernel
def f_X3_floor (x1 : Int32) (x2 : Int32) (C0 : CS) : Option (Int32 × CS) := (if (f_X3_isBelow x1 (8 : Int32)) = 0 then some ((0 : Int32), C0) else (if x2 < (-1000) then some ((0 : Int32), C0) else (if x2 ≤ 0 then (k_bind (f_X3_leastToCome x1 C0) fun r5 C5 => (if x2 ≤ r5 then (if 0 ≤ x1.toInt ∧ x1.toInt < 8 then (k_let (cAF C5 3 (upd (C5.2.1 3) x1.toNatClampNeg x2)) fun C8 => some ((1 : Int32), C8)) else none) else some ((0 : Int32), C5))) else some ((0 : Int32), C0))))
set_option maxHeartbeats 4000000 in
set_option maxRecDepth 100000 in
theorem c_X3_floor {l : Launch} {D : va_G} {sz : Nat} {cI cJ cO : ClassId} {h : Nat} {xa : Nat → Nat} {ea0 : Nat} {pa0 : Nat → Nat → Nat} {C0 C' : CS} {x1 x2 r' : Int32} (hf : f_X3_floor x1 x2 C0 = some (r', C')) : Met l yX3_floor wsX3_floor ({ frames := 1, cells := 0, slots := 0, locals := 23 }) (va_Pc [.ref h, .int x1, .int x2] (k_Pre D [(cI, .int), (cO, .object RX0), (cJ, .long)] (cW cI cJ cO h xa ea0 pa0 C0) sz)) (va_Qi (fun (r0 : Int32) (u : va_W × List (ClassId × FieldType)) => r0 = r' ∧ u = (cW cI cJ cO h xa ea0 pa0 C', [(cI, .int), (cO, .object RX0), (cJ, .long)]) ∧ gN C' = gN C0 ∧ gE C' = gE C0) (k_B D (va_A (cW cI cJ cO h xa ea0 pa0 C0) sz)) (va_A (cW cI cJ cO h xa ea0 pa0 C0) sz)) (0) (0) (va_A (cW cI cJ cO h xa ea0 pa0 C0) sz) := by
  refine Met.ofW (cc := cX3_floor) (maxL := 3) (ret := (some .boolean)) (by decide) rfl ?_
  intro p e s m args below meth c s₁ B hml hv
  obtain ⟨rfl, hsz, hP, hK, hD0⟩ := hv
  have hx := B.exec
  have hb := B.bytes
  have hr := B.returns
  have hts := atoms_spec (ws := wsX3_floor) B.pre
  have hown : s.vm.findClass RX3 = some m.cls := findClass_of_methodNamed B.named
  have hlocks := B.notSynchronized
  subst hsz
  have hD := hD0.self (sz := s.heap.size)
  generalize hAe : va_A (cW cI cJ cO h xa ea0 pa0 C0) s.heap.size = A at hD ⊢
  have hA : ∀ q : Nat, s.heap.size ≤ q → A q := fun q h => by rw [← hAe]; exact Or.inr h
  have hS : va_S A s.heap s.heap [] := va_S.rf
  have hl := lv_entry ([.ref h, .int x1, .int x2]) (n := 3) (Nat.le_of_ble_eq_true rfl)
  rw [lg_entry_eq]
  generalize (lg_sl ([.ref h, .int x1, .int x2]) ++ List.replicate (3 - (lg_sl ([.ref h, .int x1, .int x2])).length) Slot.unset).toArray = ls at hl ⊢
  have hl : lv_has ls 3 [(0, .ref h), (1, .int x1), (2, .int x2)] := hl
  refine k_Q (fun Q hQ => ?_)
  have hg0 : gN C0 = gN C0 ∧ gE C0 = gE C0 := ⟨rfl, rfl⟩
  have hq := hf
  rw [f_X3_floor] at hq
  refine lv_iload_n hx hb dX3_floor_0 rfl (lv_at hl 1 rfl) ?_
  refine lv_bipush (v := 8) hx hb dX3_floor_1 (by decide) ?_
  have hFc := k_free hD hS hA
  refine va_calli (va_runS (As := [.int x1, .int 8]) (rest := []) ⟨hx, hb, hml, hown, hts⟩ (c_X3_isBelow (l := l) (D := D) (cI := cI) (cJ := cJ) (cO := cO) (h := h) (xa := xa) (ea0 := ea0) (pa0 := pa0) (C0 := C0) (hf := rfl)) (va_cwS 2 hts gX3_floor_X3_isBelow rfl rfl rfl (by decide +kernel) ⟨Nat.le_of_ble_eq_true rfl, Nat.le_of_ble_eq_true rfl⟩) ⟨k_blind, fun U hU hW => ⟨rfl, k_pre hU hW hP hK hD⟩⟩ rfl rfl hl.1 rfl (lv_room (Nat.le_of_ble_eq_true rfl)) dX3_floor_3 ⟨by decide, by decide⟩) hS (fun q _ h => hFc q h) hFc (fun r1 u t H1 locs ht hvm hw hB hz1 hk1 hS => ?_)
  obtain ⟨rfl, rfl⟩ := hw
  refine W.widen (k := 0) (n := 0) (Nat.le_refl _) (Nat.le_refl _) ?_
  obtain ⟨hP1, hK1, hD1⟩ := hB
  rw [ht] at hP1
  have hP := hP1
  have hD := k_weak hD1 hFc
  generalize H1 = H at hP hS ⊢
  have hP : va_P D vwCl (cW cI cJ cO h xa ea0 pa0 C0) _ := hP
  have hD : va_D A (cW cI cJ cO h xa ea0 pa0 C0) := hD
  refine lv_if_eq (tgt := 20) hx hb dX3_floor_6 (by decide) (fun c2 => ?_) (fun c2 => ?_)
  · skip
    rw [if_pos c2] at hq
    refine lv_iconst (v := 0) hx hb dX3_floor_20 (by decide) ?_
    obtain ⟨e2, e3⟩ := k_so hq
    subst hQ
    have hP : va_P D vwCl (cW cI cJ cO h xa ea0 pa0 C0) _ := hP
    have hD : va_D A (cW cI cJ cO h xa ea0 pa0 C0) := hD
    have hgE := congrArg (fun X : CS => gN X) e3
    have hgE : gN C0 = gN C' := hgE
    have hhE := congrArg (fun X : CS => gE X) e3
    have hhE : gE C0 = gE C' := hhE
    refine W.widen (k := 0) (n := 0) (by decide) (by decide) ?_
    exact W.zret (v := 0) hx hb hr (by decide) (fun t ht hW => ⟨⟨0, (cW cI cJ cO h xa ea0 pa0 C0, [(cI, .int), (cO, .object RX0), (cJ, .long)]), rfl, ⟨e2, (congrArg (fun X : CS => ((cW cI cJ cO h xa ea0 pa0 X, [(cI, .int), (cO, .object RX0), (cJ, .long)]) : va_W × List (ClassId × FieldType))) e3), by omega, by omega⟩, ⟨by rw [ht]; exact hP, va_K.moved hW.alike hK, hD⟩⟩, hS.F ht⟩) hS.2.2 dX3_floor_21
  · skip
    rw [if_neg c2] at hq
    refine lv_iload_n hx hb dX3_floor_9 rfl (lv_at hl 2 rfl) ?_
    refine lv_sipush (v := (-1000)) hx hb dX3_floor_10 (by decide) ?_
    refine lv_icmp_lt (tgt := 20) hx hb dX3_floor_13 (by decide) (fun c3 => ?_) (fun c3 => ?_)
    · skip
      rw [if_pos c3] at hq
      refine lv_iconst (v := 0) hx hb dX3_floor_20 (by decide) ?_
      obtain ⟨e2, e3⟩ := k_so hq
      subst hQ
      have hP : va_P D vwCl (cW cI cJ cO h xa ea0 pa0 C0) _ := hP
      have hD : va_D A (cW cI cJ cO h xa ea0 pa0 C0) := hD
      have hgE := congrArg (fun X : CS => gN X) e3
      have hgE : gN C0 = gN C' := hgE
      have hhE := congrArg (fun X : CS => gE X) e3
      have hhE : gE C0 = gE C' := hhE
      refine W.widen (k := 0) (n := 0) (by decide) (by decide) ?_
      exact W.zret (v := 0) hx hb hr (by decide) (fun t ht hW => ⟨⟨0, (cW cI cJ cO h xa ea0 pa0 C0, [(cI, .int), (cO, .object RX0), (cJ, .long)]), rfl, ⟨e2, (congrArg (fun X : CS => ((cW cI cJ cO h xa ea0 pa0 X, [(cI, .int), (cO, .object RX0), (cJ, .long)]) : va_W × List (ClassId × FieldType))) e3), by omega, by omega⟩, ⟨by rw [ht]; exact hP, va_K.moved hW.alike hK, hD⟩⟩, hS.F ht⟩) hS.2.2 dX3_floor_21
    · skip
      rw [if_neg c3] at hq
      refine lv_iload_n hx hb dX3_floor_16 rfl (lv_at hl 2 rfl) ?_
      refine lv_if_le (tgt := 22) hx hb dX3_floor_17 (by decide) (fun c4 => ?_) (fun c4 => ?_)
      · skip
        rw [if_pos c4] at hq
        refine lv_aload_n hx hb dX3_floor_22 rfl (lv_at hl 0 rfl) ?_
        refine lv_iload_n hx hb dX3_floor_23 rfl (lv_at hl 1 rfl) ?_
        obtain ⟨q5, C5, h5, hq⟩ := k_bd hq
        have hFc := k_free hD hS hA
        refine va_calli (va_runV (As := [.int x1]) (rest := []) ⟨hx, hb, hml, hown, hts⟩ (c_X3_leastToCome (l := l) (D := D) (cI := cI) (cJ := cJ) (cO := cO) (h := h) (xa := xa) (ea0 := ea0) (pa0 := pa0)  (hf := h5)) (cwV 1 hts gX3_floor_X3_leastToCome rfl rfl rfl (by decide +kernel) ⟨Nat.le_of_ble_eq_true rfl, Nat.le_of_ble_eq_true rfl⟩) ⟨k_blind, va_recv hK hP (ci := 3) (q0 := 0) rfl rfl, fun U hU hW => ⟨rfl, k_pre hU hW hP hK hD⟩⟩ rfl rfl hl.1 rfl (lv_room (Nat.le_of_ble_eq_true rfl)) dX3_floor_24 ⟨by decide, by decide⟩) hS (fun q _ h => hFc q h) hFc (fun r5 u t H1 locs ht hvm hw hB hz1 hk1 hS => ?_)
        obtain ⟨rfl, rfl, hg5, hh5⟩ := hw
        have hg5 : gN C5 = gN C0 := hg5
        have hh5 : gE C5 = gE C0 := hh5
        refine W.widen (k := 0) (n := 0) (Nat.le_refl _) (Nat.le_refl _) ?_
        obtain ⟨hP1, hK1, hD1⟩ := hB
        rw [ht] at hP1
        have hP := hP1
        have hD := k_weak hD1 hFc
        generalize H1 = H at hP hS ⊢
        have hP : va_P D vwCl (cW cI cJ cO h xa ea0 pa0 C5) _ := hP
        have hD : va_D A (cW cI cJ cO h xa ea0 pa0 C5) := hD
        refine lv_iload_n hx hb dX3_floor_27 rfl (lv_at hl 2 rfl) ?_
        refine lv_icmp_ge (tgt := 33) hx hb dX3_floor_28 (by decide) (fun c6 => ?_) (fun c6 => ?_)
        · skip
          rw [if_pos c6] at hq
          refine lv_aload_n hx hb dX3_floor_33 rfl (lv_at hl 0 rfl) ?_
          refine va_get (D := D) (ci := 3) (v := .ref (xa 3)) (C := RX3) (T := TX3) (N := 18) hx hb hts kin_X3_floor_X3 hown hK hP 0 rfl rfl 3 (by decide) (hts _ kw_X3_floor__fieldLink_RX3_19_ActHouse_floors_I_) (fun _ h9 => h9) rfl dX3_floor_34 ?_
          refine lv_iload_n hx hb dX3_floor_37 rfl (lv_at hl 1 rfl) ?_
          refine lv_iload_n hx hb dX3_floor_38 rfl (lv_at hl 2 rfl) ?_
          obtain ⟨b7, hq⟩ := k_if hq
          refine va_iast hx hb hK hP hD hS 4 0 (f := (C5.2.1 3)) rfl rfl (x := x2) (k_in b7.1 b7.2) dX3_floor_39 (fun H locs hP hD hS => ?_)
          obtain ⟨C8, eC8, hg8, hh8, hq⟩ := k_lc (C := C5) hq rfl rfl
          rw [cW_F3, ← eC8] at hP hD
          have hP : va_P D vwCl (cW cI cJ cO h xa ea0 pa0 C8) _ := hP
          have hD : va_D A (cW cI cJ cO h xa ea0 pa0 C8) := hD
          refine lv_iconst (v := 1) hx hb dX3_floor_40 (by decide) ?_
          obtain ⟨e2, e3⟩ := k_so hq
          subst hQ
          have hP : va_P D vwCl (cW cI cJ cO h xa ea0 pa0 C8) _ := hP
          have hD : va_D A (cW cI cJ cO h xa ea0 pa0 C8) := hD
          have hgE := congrArg (fun X : CS => gN X) e3
          have hgE : gN C8 = gN C' := hgE
          have hhE := congrArg (fun X : CS => gE X) e3
          have hhE : gE C8 = gE C' := hhE
          refine W.widen (k := 0) (n := 0) (by decide) (by decide) ?_
          exact W.zret (v := 1) hx hb hr (by decide) (fun t ht hW => ⟨⟨1, (cW cI cJ cO h xa ea0 pa0 C8, [(cI, .int), (cO, .object RX0), (cJ, .long)]), rfl, ⟨e2, (congrArg (fun X : CS => ((cW cI cJ cO h xa ea0 pa0 X, [(cI, .int), (cO, .object RX0), (cJ, .long)]) : va_W × List (ClassId × FieldType))) e3), by omega, by omega⟩, ⟨by rw [ht]; exact hP, va_K.moved hW.alike hK, hD⟩⟩, hS.F ht⟩) hS.2.2 dX3_floor_41
        · skip
          rw [if_neg c6] at hq
          refine lv_iconst (v := 0) hx hb dX3_floor_31 (by decide) ?_
          obtain ⟨e2, e3⟩ := k_so hq
          subst hQ
          have hP : va_P D vwCl (cW cI cJ cO h xa ea0 pa0 C5) _ := hP
          have hD : va_D A (cW cI cJ cO h xa ea0 pa0 C5) := hD
          have hgE := congrArg (fun X : CS => gN X) e3
          have hgE : gN C5 = gN C' := hgE
          have hhE := congrArg (fun X : CS => gE X) e3
          have hhE : gE C5 = gE C' := hhE
          refine W.widen (k := 0) (n := 0) (by decide) (by decide) ?_
          exact W.zret (v := 0) hx hb hr (by decide) (fun t ht hW => ⟨⟨0, (cW cI cJ cO h xa ea0 pa0 C5, [(cI, .int), (cO, .object RX0), (cJ, .long)]), rfl, ⟨e2, (congrArg (fun X : CS => ((cW cI cJ cO h xa ea0 pa0 X, [(cI, .int), (cO, .object RX0), (cJ, .long)]) : va_W × List (ClassId × FieldType))) e3), by omega, by omega⟩, ⟨by rw [ht]; exact hP, va_K.moved hW.alike hK, hD⟩⟩, hS.F ht⟩) hS.2.2 dX3_floor_32
      · skip
        rw [if_neg c4] at hq
        refine lv_iconst (v := 0) hx hb dX3_floor_20 (by decide) ?_
        obtain ⟨e2, e3⟩ := k_so hq
        subst hQ
        have hP : va_P D vwCl (cW cI cJ cO h xa ea0 pa0 C0) _ := hP
        have hD : va_D A (cW cI cJ cO h xa ea0 pa0 C0) := hD
        have hgE := congrArg (fun X : CS => gN X) e3
        have hgE : gN C0 = gN C' := hgE
        have hhE := congrArg (fun X : CS => gE X) e3
        have hhE : gE C0 = gE C' := hhE
        refine W.widen (k := 0) (n := 0) (by decide) (by decide) ?_
        exact W.zret (v := 0) hx hb hr (by decide) (fun t ht hW => ⟨⟨0, (cW cI cJ cO h xa ea0 pa0 C0, [(cI, .int), (cO, .object RX0), (cJ, .long)]), rfl, ⟨e2, (congrArg (fun X : CS => ((cW cI cJ cO h xa ea0 pa0 X, [(cI, .int), (cO, .object RX0), (cJ, .long)]) : va_W × List (ClassId × FieldType))) e3), by omega, by omega⟩, ⟨by rw [ht]; exact hP, va_K.moved hW.alike hK, hD⟩⟩, hS.F ht⟩) hS.2.2 dX3_floor_21
set_option maxRecDepth 100000 in
theorem kw_X3_told__fieldLink_RX3_102_ActHouse_actCount_I_ : (.fieldLink RX3 102 "ActHouse" "actCount" "I" : Cond) ∈ wsX3_told := by decide +kernel
set_option maxRecDepth 100000 in
theorem kin_X3_told_X3 : ∀ w ∈ u_ws RX3 TX3 18, w ∈ wsX3_told := by decide +kernel
set_option maxRecDepth 100000 in
theorem kw_X3_told__fieldLink_RX3_27_ActHouse_acts_LActHouse_Act_ : (.fieldLink RX3 27 "ActHouse" "acts" "[LActHouse$Act;" : Cond) ∈ wsX3_told := by decide +kernel
set_option maxRecDepth 100000 in
theorem kw_X3_told__fieldLink_RX3_117_ActHouse_Act_state_I_ : (.fieldLink RX3 117 "ActHouse$Act" "state" "I" : Cond) ∈ wsX3_told := by decide +kernel
set_option maxRecDepth 100000 in
theorem kin_X3_told_X0 : ∀ w ∈ u_ws RX0 TX0 20, w ∈ wsX3_told := by decide +kernel
set_option maxRecDepth 100000 in
theorem kw_X3_told__fieldLink_RX3_120_ActHouse_Act_program_I_ : (.fieldLink RX3 120 "ActHouse$Act" "program" "I" : Cond) ∈ wsX3_told := by decide +kernel
set_option maxRecDepth 100000 in
theorem kw_X3_told__fieldLink_RX3_123_ActHouse_Act_kind_I_ : (.fieldLink RX3 123 "ActHouse$Act" "kind" "I" : Cond) ∈ wsX3_told := by decide +kernel
set_option maxRecDepth 100000 in
theorem kw_X3_told__fieldLink_RX3_126_ActHouse_Act_rank_I_ : (.fieldLink RX3 126 "ActHouse$Act" "rank" "I" : Cond) ∈ wsX3_told := by decide +kernel
set_option maxRecDepth 100000 in
theorem kw_X3_told__fieldLink_RX3_129_ActHouse_Act_at_I_ : (.fieldLink RX3 129 "ActHouse$Act" "at" "I" : Cond) ∈ wsX3_told := by decide +kernel
set_option maxRecDepth 100000 in
theorem kw_X3_told__fieldLink_RX3_132_ActHouse_Act_heldTick_I_ : (.fieldLink RX3 132 "ActHouse$Act" "heldTick" "I" : Cond) ∈ wsX3_told := by decide +kernel
set_option maxRecDepth 100000 in
theorem kw_X3_told__fieldLink_RX3_79_ActHouse_now_I_ : (.fieldLink RX3 79 "ActHouse" "now" "I" : Cond) ∈ wsX3_told := by decide +kernel
set_option maxRecDepth 100000 in
theorem kw_X3_told__fieldLink_RX3_135_ActHouse_Act_doneTick_I_ : (.fieldLink RX3 135 "ActHouse$Act" "doneTick" "I" : Cond) ∈ wsX3_told := by decide +kernel
set_option maxRecDepth 100000 in
theorem kw_X3_told__fieldLink_RX3_138_ActHouse_Act_timesUndone_I_ : (.fieldLink RX3 138 "ActHouse$Act" "timesUndone" "I" : Cond) ∈ wsX3_told := by decide +kernel
set_option maxRecDepth 100000 in
theorem kw_X3_told__fieldLink_RX3_141_ActHouse_Act_parent_I_ : (.fieldLink RX3 141 "ActHouse$Act" "parent" "I" : Cond) ∈ wsX3_told := by decide +kernel
set_option maxRecDepth 100000 in
theorem kw_X3_told__fieldLink_RX3_144_ActHouse_Act_begunTick_I_ : (.fieldLink RX3 144 "ActHouse$Act" "begunTick" "I" : Cond) ∈ wsX3_told := by decide +kernel
def f_X3_told_33  (v2 : Int32) (y3 : Nat) (s0 : Int32)  (C : CS) : Option (Int32 × CS) := (if v2.toInt = 0 then some ((gP C y3 12), C) else (if v2.toInt = 1 then some ((gP C y3 0), C) else (if v2.toInt = 2 then some ((gP C y3 1), C) else (if v2.toInt = 3 then some ((gP C y3 2), C) else (if v2.toInt = 4 then (if s0 = 0 then some (((-1) : Int32), C) else some ((gP C y3 14), C)) else (if v2.toInt = 5 then (if s0 = 0 then some ((0 : Int32), C) else (if (gP C y3 15) = ((C.1 15) - 1) then some ((1 : Int32), C) else some ((0 : Int32), C))) else (if v2.toInt = 6 then some ((gP C y3 17), C) else (if v2.toInt = 7 then some ((gP C y3 19), C) else (if v2.toInt = 8 then some ((gP C y3 3), C) else (if v2.toInt = 9 then some ((gP C y3 16), C) else some (((-1) : Int32), C)))))))))))
def f_X3_told (x1 : Int32) (x2 : Int32) (C0 : CS) : Option (Int32 × CS) := (if (f_X3_isBelow x1 (C0.1 12)) = 0 then some (((-1) : Int32), C0) else (if (0 ≤ x1.toInt ∧ x1.toInt < 80) ∧ x1.toNatClampNeg < gN C0 then (if (gP C0 x1.toNatClampNeg 12) = 1 then f_X3_told_33  x2 x1.toNatClampNeg (1 : Int32) C0 else f_X3_told_33  x2 x1.toNatClampNeg (0 : Int32) C0) else none))
set_option maxHeartbeats 4000000 in
set_option maxRecDepth 100000 in
theorem c_X3_told {l : Launch} {D : va_G} {sz : Nat} {cI cJ cO : ClassId} {h : Nat} {xa : Nat → Nat} {ea0 : Nat} {pa0 : Nat → Nat → Nat} {C0 C' : CS} {x1 x2 r' : Int32} (hf : f_X3_told x1 x2 C0 = some (r', C')) : Met l yX3_told wsX3_told ({ frames := 1, cells := 0, slots := 0, locals := 21 }) (va_Pc [.ref h, .int x1, .int x2] (k_Pre D [(cI, .int), (cO, .object RX0), (cJ, .long)] (cW cI cJ cO h xa ea0 pa0 C0) sz)) (va_Qi (fun (r0 : Int32) (u : va_W × List (ClassId × FieldType)) => r0 = r' ∧ u = (cW cI cJ cO h xa ea0 pa0 C', [(cI, .int), (cO, .object RX0), (cJ, .long)]) ∧ gN C' = gN C0 ∧ gE C' = gE C0) (k_B D (va_A (cW cI cJ cO h xa ea0 pa0 C0) sz)) (va_A (cW cI cJ cO h xa ea0 pa0 C0) sz)) (0) (0) (va_A (cW cI cJ cO h xa ea0 pa0 C0) sz) := by
  refine Met.ofW (cc := cX3_told) (maxL := 5) (ret := (some .int)) (by decide) rfl ?_
  intro p e s m args below meth c s₁ B hml hv
  obtain ⟨rfl, hsz, hP, hK, hD0⟩ := hv
  have hx := B.exec
  have hb := B.bytes
  have hr := B.returns
  have hts := atoms_spec (ws := wsX3_told) B.pre
  have hown : s.vm.findClass RX3 = some m.cls := findClass_of_methodNamed B.named
  have hlocks := B.notSynchronized
  subst hsz
  have hD := hD0.self (sz := s.heap.size)
  generalize hAe : va_A (cW cI cJ cO h xa ea0 pa0 C0) s.heap.size = A at hD ⊢
  have hA : ∀ q : Nat, s.heap.size ≤ q → A q := fun q h => by rw [← hAe]; exact Or.inr h
  have hS : va_S A s.heap s.heap [] := va_S.rf
  have hl := lv_entry ([.ref h, .int x1, .int x2]) (n := 5) (Nat.le_of_ble_eq_true rfl)
  rw [lg_entry_eq]
  generalize (lg_sl ([.ref h, .int x1, .int x2]) ++ List.replicate (5 - (lg_sl ([.ref h, .int x1, .int x2])).length) Slot.unset).toArray = ls at hl ⊢
  have hl : lv_has ls 5 [(0, .ref h), (1, .int x1), (2, .int x2)] := hl
  refine k_Q (fun Q hQ => ?_)
  have hg0 : gN C0 = gN C0 ∧ gE C0 = gE C0 := ⟨rfl, rfl⟩
  have B33 : ∀ (v2 : Int32) (y3 : Nat) (s0 : Int32)  (C : CS)  (H : Heap) (locs : List Loc) (ls : Array Slot), f_X3_told_33 v2 y3 s0 C = some (r', C') → (gN C = gN C0 ∧ gE C = gE C0) → y3 < gN C → va_P D vwCl (cW cI cJ cO h xa ea0 pa0 C) H → va_D A (cW cI cJ cO h xa ea0 pa0 C) → va_S A s.heap H locs → lv_has ls 5 [(0, .ref h), (2, .int v2), (3, .ref (pa0 y3 0))] → W p l e (headSpec wsX3_told ({ frames := 1, cells := 0, slots := 0, locals := 21 })).room s m ([.ref h, .int x1, .int x2] : List Value).toArray below meth c H locs (0) (0) Q (F0 m 33 ls [.int s0]) := by
    intro v2 y3 s0  C  H locs ls hq hg hn_y3 hP hD hS hl
    rw [f_X3_told_33] at hq
    refine lv_istore (lv' := [(4, .int s0), (0, .ref h), (2, .int v2), (3, .ref (pa0 y3 0))]) hx hb dX3_told_33 hl (by decide) rfl (fun ls hl => ?_)
    refine lv_iload_n hx hb dX3_told_35 rfl (lv_at hl 2 rfl) ?_
    by_cases hs5_0 : v2.toInt = 0
    · skip
      rw [if_pos hs5_0] at hq
      refine lv_tableIn (off := 56) (tgt := 92) hx hb dX3_told_36 (by rw [hs5_0]; decide) (by rw [hs5_0]; decide) (by rw [hs5_0]; rfl) (by decide) ?_
      refine lv_aload_n hx hb dX3_told_92 rfl (lv_at hl 3 rfl) ?_
      refine va_get (D := D) (ci := 0) (v := .int (gP C y3 12)) (C := RX0) (T := TX0) (N := 20) hx hb hts kin_X3_told_X0 hown hK hP (16 + (7 * y3 + 0)) (cW_get (show y3 < gN C from by omega) rfl) rfl 12 (by decide) (hts _ kw_X3_told__fieldLink_RX3_117_ActHouse_Act_state_I_) (fun _ h9 => h9) rfl dX3_told_93 ?_
      obtain ⟨e2, e3⟩ := k_so hq
      subst hQ
      have hP : va_P D vwCl (cW cI cJ cO h xa ea0 pa0 C) _ := hP
      have hD : va_D A (cW cI cJ cO h xa ea0 pa0 C) := hD
      have hgE := congrArg (fun X : CS => gN X) e3
      have hgE : gN C = gN C' := hgE
      have hhE := congrArg (fun X : CS => gE X) e3
      have hhE : gE C = gE C' := hhE
      refine W.widen (k := 0) (n := 0) (by decide) (by decide) ?_
      exact W.iret (v := gP C y3 12) hx hb hr (fun t ht hW => ⟨⟨gP C y3 12, (cW cI cJ cO h xa ea0 pa0 C, [(cI, .int), (cO, .object RX0), (cJ, .long)]), rfl, ⟨e2, (congrArg (fun X : CS => ((cW cI cJ cO h xa ea0 pa0 X, [(cI, .int), (cO, .object RX0), (cJ, .long)]) : va_W × List (ClassId × FieldType))) e3), by omega, by omega⟩, ⟨by rw [ht]; exact hP, va_K.moved hW.alike hK, hD⟩⟩, hS.F ht⟩) hS.2.2 dX3_told_96
    rw [if_neg hs5_0] at hq
    by_cases hs5_1 : v2.toInt = 1
    · skip
      rw [if_pos hs5_1] at hq
      refine lv_tableIn (off := 61) (tgt := 97) hx hb dX3_told_36 (by rw [hs5_1]; decide) (by rw [hs5_1]; decide) (by rw [hs5_1]; rfl) (by decide) ?_
      refine lv_aload_n hx hb dX3_told_97 rfl (lv_at hl 3 rfl) ?_
      refine va_get (D := D) (ci := 0) (v := .int (gP C y3 0)) (C := RX0) (T := TX0) (N := 20) hx hb hts kin_X3_told_X0 hown hK hP (16 + (7 * y3 + 0)) (cW_get (show y3 < gN C from by omega) rfl) rfl 0 (by decide) (hts _ kw_X3_told__fieldLink_RX3_120_ActHouse_Act_program_I_) (fun _ h9 => h9) rfl dX3_told_98 ?_
      obtain ⟨e2, e3⟩ := k_so hq
      subst hQ
      have hP : va_P D vwCl (cW cI cJ cO h xa ea0 pa0 C) _ := hP
      have hD : va_D A (cW cI cJ cO h xa ea0 pa0 C) := hD
      have hgE := congrArg (fun X : CS => gN X) e3
      have hgE : gN C = gN C' := hgE
      have hhE := congrArg (fun X : CS => gE X) e3
      have hhE : gE C = gE C' := hhE
      refine W.widen (k := 0) (n := 0) (by decide) (by decide) ?_
      exact W.iret (v := gP C y3 0) hx hb hr (fun t ht hW => ⟨⟨gP C y3 0, (cW cI cJ cO h xa ea0 pa0 C, [(cI, .int), (cO, .object RX0), (cJ, .long)]), rfl, ⟨e2, (congrArg (fun X : CS => ((cW cI cJ cO h xa ea0 pa0 X, [(cI, .int), (cO, .object RX0), (cJ, .long)]) : va_W × List (ClassId × FieldType))) e3), by omega, by omega⟩, ⟨by rw [ht]; exact hP, va_K.moved hW.alike hK, hD⟩⟩, hS.F ht⟩) hS.2.2 dX3_told_101
    rw [if_neg hs5_1] at hq
    by_cases hs5_2 : v2.toInt = 2
    · skip
      rw [if_pos hs5_2] at hq
      refine lv_tableIn (off := 66) (tgt := 102) hx hb dX3_told_36 (by rw [hs5_2]; decide) (by rw [hs5_2]; decide) (by rw [hs5_2]; rfl) (by decide) ?_
      refine lv_aload_n hx hb dX3_told_102 rfl (lv_at hl 3 rfl) ?_
      refine va_get (D := D) (ci := 0) (v := .int (gP C y3 1)) (C := RX0) (T := TX0) (N := 20) hx hb hts kin_X3_told_X0 hown hK hP (16 + (7 * y3 + 0)) (cW_get (show y3 < gN C from by omega) rfl) rfl 1 (by decide) (hts _ kw_X3_told__fieldLink_RX3_123_ActHouse_Act_kind_I_) (fun _ h9 => h9) rfl dX3_told_103 ?_
      obtain ⟨e2, e3⟩ := k_so hq
      subst hQ
      have hP : va_P D vwCl (cW cI cJ cO h xa ea0 pa0 C) _ := hP
      have hD : va_D A (cW cI cJ cO h xa ea0 pa0 C) := hD
      have hgE := congrArg (fun X : CS => gN X) e3
      have hgE : gN C = gN C' := hgE
      have hhE := congrArg (fun X : CS => gE X) e3
      have hhE : gE C = gE C' := hhE
      refine W.widen (k := 0) (n := 0) (by decide) (by decide) ?_
      exact W.iret (v := gP C y3 1) hx hb hr (fun t ht hW => ⟨⟨gP C y3 1, (cW cI cJ cO h xa ea0 pa0 C, [(cI, .int), (cO, .object RX0), (cJ, .long)]), rfl, ⟨e2, (congrArg (fun X : CS => ((cW cI cJ cO h xa ea0 pa0 X, [(cI, .int), (cO, .object RX0), (cJ, .long)]) : va_W × List (ClassId × FieldType))) e3), by omega, by omega⟩, ⟨by rw [ht]; exact hP, va_K.moved hW.alike hK, hD⟩⟩, hS.F ht⟩) hS.2.2 dX3_told_106
    rw [if_neg hs5_2] at hq
    by_cases hs5_3 : v2.toInt = 3
    · skip
      rw [if_pos hs5_3] at hq
      refine lv_tableIn (off := 71) (tgt := 107) hx hb dX3_told_36 (by rw [hs5_3]; decide) (by rw [hs5_3]; decide) (by rw [hs5_3]; rfl) (by decide) ?_
      refine lv_aload_n hx hb dX3_told_107 rfl (lv_at hl 3 rfl) ?_
      refine va_get (D := D) (ci := 0) (v := .int (gP C y3 2)) (C := RX0) (T := TX0) (N := 20) hx hb hts kin_X3_told_X0 hown hK hP (16 + (7 * y3 + 0)) (cW_get (show y3 < gN C from by omega) rfl) rfl 2 (by decide) (hts _ kw_X3_told__fieldLink_RX3_126_ActHouse_Act_rank_I_) (fun _ h9 => h9) rfl dX3_told_108 ?_
      obtain ⟨e2, e3⟩ := k_so hq
      subst hQ
      have hP : va_P D vwCl (cW cI cJ cO h xa ea0 pa0 C) _ := hP
      have hD : va_D A (cW cI cJ cO h xa ea0 pa0 C) := hD
      have hgE := congrArg (fun X : CS => gN X) e3
      have hgE : gN C = gN C' := hgE
      have hhE := congrArg (fun X : CS => gE X) e3
      have hhE : gE C = gE C' := hhE
      refine W.widen (k := 0) (n := 0) (by decide) (by decide) ?_
      exact W.iret (v := gP C y3 2) hx hb hr (fun t ht hW => ⟨⟨gP C y3 2, (cW cI cJ cO h xa ea0 pa0 C, [(cI, .int), (cO, .object RX0), (cJ, .long)]), rfl, ⟨e2, (congrArg (fun X : CS => ((cW cI cJ cO h xa ea0 pa0 X, [(cI, .int), (cO, .object RX0), (cJ, .long)]) : va_W × List (ClassId × FieldType))) e3), by omega, by omega⟩, ⟨by rw [ht]; exact hP, va_K.moved hW.alike hK, hD⟩⟩, hS.F ht⟩) hS.2.2 dX3_told_111
    rw [if_neg hs5_3] at hq
    by_cases hs5_4 : v2.toInt = 4
    · skip
      rw [if_pos hs5_4] at hq
      refine lv_tableIn (off := 76) (tgt := 112) hx hb dX3_told_36 (by rw [hs5_4]; decide) (by rw [hs5_4]; decide) (by rw [hs5_4]; rfl) (by decide) ?_
      refine lv_iload hx hb dX3_told_112 (lv_at hl 0 rfl) ?_
      refine lv_if_eq (tgt := 124) hx hb dX3_told_114 (by decide) (fun c6 => ?_) (fun c6 => ?_)
      · skip
        rw [if_pos c6] at hq
        refine lv_iconst (v := (-1)) hx hb dX3_told_124 (by decide) ?_
        obtain ⟨e2, e3⟩ := k_so hq
        subst hQ
        have hP : va_P D vwCl (cW cI cJ cO h xa ea0 pa0 C) _ := hP
        have hD : va_D A (cW cI cJ cO h xa ea0 pa0 C) := hD
        have hgE := congrArg (fun X : CS => gN X) e3
        have hgE : gN C = gN C' := hgE
        have hhE := congrArg (fun X : CS => gE X) e3
        have hhE : gE C = gE C' := hhE
        refine W.widen (k := 0) (n := 0) (by decide) (by decide) ?_
        exact W.iret (v := (-1)) hx hb hr (fun t ht hW => ⟨⟨(-1), (cW cI cJ cO h xa ea0 pa0 C, [(cI, .int), (cO, .object RX0), (cJ, .long)]), rfl, ⟨e2, (congrArg (fun X : CS => ((cW cI cJ cO h xa ea0 pa0 X, [(cI, .int), (cO, .object RX0), (cJ, .long)]) : va_W × List (ClassId × FieldType))) e3), by omega, by omega⟩, ⟨by rw [ht]; exact hP, va_K.moved hW.alike hK, hD⟩⟩, hS.F ht⟩) hS.2.2 dX3_told_125
      · skip
        rw [if_neg c6] at hq
        refine lv_aload_n hx hb dX3_told_117 rfl (lv_at hl 3 rfl) ?_
        refine va_get (D := D) (ci := 0) (v := .int (gP C y3 14)) (C := RX0) (T := TX0) (N := 20) hx hb hts kin_X3_told_X0 hown hK hP (16 + (7 * y3 + 0)) (cW_get (show y3 < gN C from by omega) rfl) rfl 14 (by decide) (hts _ kw_X3_told__fieldLink_RX3_129_ActHouse_Act_at_I_) (fun _ h9 => h9) rfl dX3_told_118 ?_
        refine lv_goto (tgt := 125) hx hb dX3_told_121 (by decide) ?_
        obtain ⟨e2, e3⟩ := k_so hq
        subst hQ
        have hP : va_P D vwCl (cW cI cJ cO h xa ea0 pa0 C) _ := hP
        have hD : va_D A (cW cI cJ cO h xa ea0 pa0 C) := hD
        have hgE := congrArg (fun X : CS => gN X) e3
        have hgE : gN C = gN C' := hgE
        have hhE := congrArg (fun X : CS => gE X) e3
        have hhE : gE C = gE C' := hhE
        refine W.widen (k := 0) (n := 0) (by decide) (by decide) ?_
        exact W.iret (v := gP C y3 14) hx hb hr (fun t ht hW => ⟨⟨gP C y3 14, (cW cI cJ cO h xa ea0 pa0 C, [(cI, .int), (cO, .object RX0), (cJ, .long)]), rfl, ⟨e2, (congrArg (fun X : CS => ((cW cI cJ cO h xa ea0 pa0 X, [(cI, .int), (cO, .object RX0), (cJ, .long)]) : va_W × List (ClassId × FieldType))) e3), by omega, by omega⟩, ⟨by rw [ht]; exact hP, va_K.moved hW.alike hK, hD⟩⟩, hS.F ht⟩) hS.2.2 dX3_told_125
    rw [if_neg hs5_4] at hq
    by_cases hs5_5 : v2.toInt = 5
    · skip
      rw [if_pos hs5_5] at hq
      refine lv_tableIn (off := 90) (tgt := 126) hx hb dX3_told_36 (by rw [hs5_5]; decide) (by rw [hs5_5]; decide) (by rw [hs5_5]; rfl) (by decide) ?_
      refine lv_iload hx hb dX3_told_126 (lv_at hl 0 rfl) ?_
      refine lv_if_eq (tgt := 148) hx hb dX3_told_128 (by decide) (fun c7 => ?_) (fun c7 => ?_)
      · skip
        rw [if_pos c7] at hq
        refine lv_iconst (v := 0) hx hb dX3_told_148 (by decide) ?_
        obtain ⟨e2, e3⟩ := k_so hq
        subst hQ
        have hP : va_P D vwCl (cW cI cJ cO h xa ea0 pa0 C) _ := hP
        have hD : va_D A (cW cI cJ cO h xa ea0 pa0 C) := hD
        have hgE := congrArg (fun X : CS => gN X) e3
        have hgE : gN C = gN C' := hgE
        have hhE := congrArg (fun X : CS => gE X) e3
        have hhE : gE C = gE C' := hhE
        refine W.widen (k := 0) (n := 0) (by decide) (by decide) ?_
        exact W.iret (v := 0) hx hb hr (fun t ht hW => ⟨⟨0, (cW cI cJ cO h xa ea0 pa0 C, [(cI, .int), (cO, .object RX0), (cJ, .long)]), rfl, ⟨e2, (congrArg (fun X : CS => ((cW cI cJ cO h xa ea0 pa0 X, [(cI, .int), (cO, .object RX0), (cJ, .long)]) : va_W × List (ClassId × FieldType))) e3), by omega, by omega⟩, ⟨by rw [ht]; exact hP, va_K.moved hW.alike hK, hD⟩⟩, hS.F ht⟩) hS.2.2 dX3_told_149
      · skip
        rw [if_neg c7] at hq
        refine lv_aload_n hx hb dX3_told_131 rfl (lv_at hl 3 rfl) ?_
        refine va_get (D := D) (ci := 0) (v := .int (gP C y3 15)) (C := RX0) (T := TX0) (N := 20) hx hb hts kin_X3_told_X0 hown hK hP (16 + (7 * y3 + 0)) (cW_get (show y3 < gN C from by omega) rfl) rfl 15 (by decide) (hts _ kw_X3_told__fieldLink_RX3_132_ActHouse_Act_heldTick_I_) (fun _ h9 => h9) rfl dX3_told_132 ?_
        refine lv_aload_n hx hb dX3_told_135 rfl (lv_at hl 1 rfl) ?_
        refine va_get (D := D) (ci := 3) (v := .int (C.1 15)) (C := RX3) (T := TX3) (N := 18) hx hb hts kin_X3_told_X3 hown hK hP 0 rfl rfl 15 (by decide) (hts _ kw_X3_told__fieldLink_RX3_79_ActHouse_now_I_) (fun _ h9 => h9) rfl dX3_told_136 ?_
        refine lv_iconst (v := 1) hx hb dX3_told_139 (by decide) ?_
        refine lv_isub hx hb dX3_told_140 ?_
        refine lv_icmp_ne (tgt := 148) hx hb dX3_told_141 (by decide) (fun c8 => ?_) (fun c8 => ?_)
        · skip
          rw [if_neg c8] at hq
          refine lv_iconst (v := 0) hx hb dX3_told_148 (by decide) ?_
          obtain ⟨e2, e3⟩ := k_so hq
          subst hQ
          have hP : va_P D vwCl (cW cI cJ cO h xa ea0 pa0 C) _ := hP
          have hD : va_D A (cW cI cJ cO h xa ea0 pa0 C) := hD
          have hgE := congrArg (fun X : CS => gN X) e3
          have hgE : gN C = gN C' := hgE
          have hhE := congrArg (fun X : CS => gE X) e3
          have hhE : gE C = gE C' := hhE
          refine W.widen (k := 0) (n := 0) (by decide) (by decide) ?_
          exact W.iret (v := 0) hx hb hr (fun t ht hW => ⟨⟨0, (cW cI cJ cO h xa ea0 pa0 C, [(cI, .int), (cO, .object RX0), (cJ, .long)]), rfl, ⟨e2, (congrArg (fun X : CS => ((cW cI cJ cO h xa ea0 pa0 X, [(cI, .int), (cO, .object RX0), (cJ, .long)]) : va_W × List (ClassId × FieldType))) e3), by omega, by omega⟩, ⟨by rw [ht]; exact hP, va_K.moved hW.alike hK, hD⟩⟩, hS.F ht⟩) hS.2.2 dX3_told_149
        · skip
          rw [if_pos c8] at hq
          refine lv_iconst (v := 1) hx hb dX3_told_144 (by decide) ?_
          refine lv_goto (tgt := 149) hx hb dX3_told_145 (by decide) ?_
          obtain ⟨e2, e3⟩ := k_so hq
          subst hQ
          have hP : va_P D vwCl (cW cI cJ cO h xa ea0 pa0 C) _ := hP
          have hD : va_D A (cW cI cJ cO h xa ea0 pa0 C) := hD
          have hgE := congrArg (fun X : CS => gN X) e3
          have hgE : gN C = gN C' := hgE
          have hhE := congrArg (fun X : CS => gE X) e3
          have hhE : gE C = gE C' := hhE
          refine W.widen (k := 0) (n := 0) (by decide) (by decide) ?_
          exact W.iret (v := 1) hx hb hr (fun t ht hW => ⟨⟨1, (cW cI cJ cO h xa ea0 pa0 C, [(cI, .int), (cO, .object RX0), (cJ, .long)]), rfl, ⟨e2, (congrArg (fun X : CS => ((cW cI cJ cO h xa ea0 pa0 X, [(cI, .int), (cO, .object RX0), (cJ, .long)]) : va_W × List (ClassId × FieldType))) e3), by omega, by omega⟩, ⟨by rw [ht]; exact hP, va_K.moved hW.alike hK, hD⟩⟩, hS.F ht⟩) hS.2.2 dX3_told_149
    rw [if_neg hs5_5] at hq
    by_cases hs5_6 : v2.toInt = 6
    · skip
      rw [if_pos hs5_6] at hq
      refine lv_tableIn (off := 114) (tgt := 150) hx hb dX3_told_36 (by rw [hs5_6]; decide) (by rw [hs5_6]; decide) (by rw [hs5_6]; rfl) (by decide) ?_
      refine lv_aload_n hx hb dX3_told_150 rfl (lv_at hl 3 rfl) ?_
      refine va_get (D := D) (ci := 0) (v := .int (gP C y3 17)) (C := RX0) (T := TX0) (N := 20) hx hb hts kin_X3_told_X0 hown hK hP (16 + (7 * y3 + 0)) (cW_get (show y3 < gN C from by omega) rfl) rfl 17 (by decide) (hts _ kw_X3_told__fieldLink_RX3_135_ActHouse_Act_doneTick_I_) (fun _ h9 => h9) rfl dX3_told_151 ?_
      obtain ⟨e2, e3⟩ := k_so hq
      subst hQ
      have hP : va_P D vwCl (cW cI cJ cO h xa ea0 pa0 C) _ := hP
      have hD : va_D A (cW cI cJ cO h xa ea0 pa0 C) := hD
      have hgE := congrArg (fun X : CS => gN X) e3
      have hgE : gN C = gN C' := hgE
      have hhE := congrArg (fun X : CS => gE X) e3
      have hhE : gE C = gE C' := hhE
      refine W.widen (k := 0) (n := 0) (by decide) (by decide) ?_
      exact W.iret (v := gP C y3 17) hx hb hr (fun t ht hW => ⟨⟨gP C y3 17, (cW cI cJ cO h xa ea0 pa0 C, [(cI, .int), (cO, .object RX0), (cJ, .long)]), rfl, ⟨e2, (congrArg (fun X : CS => ((cW cI cJ cO h xa ea0 pa0 X, [(cI, .int), (cO, .object RX0), (cJ, .long)]) : va_W × List (ClassId × FieldType))) e3), by omega, by omega⟩, ⟨by rw [ht]; exact hP, va_K.moved hW.alike hK, hD⟩⟩, hS.F ht⟩) hS.2.2 dX3_told_154
    rw [if_neg hs5_6] at hq
    by_cases hs5_7 : v2.toInt = 7
    · skip
      rw [if_pos hs5_7] at hq
      refine lv_tableIn (off := 119) (tgt := 155) hx hb dX3_told_36 (by rw [hs5_7]; decide) (by rw [hs5_7]; decide) (by rw [hs5_7]; rfl) (by decide) ?_
      refine lv_aload_n hx hb dX3_told_155 rfl (lv_at hl 3 rfl) ?_
      refine va_get (D := D) (ci := 0) (v := .int (gP C y3 19)) (C := RX0) (T := TX0) (N := 20) hx hb hts kin_X3_told_X0 hown hK hP (16 + (7 * y3 + 0)) (cW_get (show y3 < gN C from by omega) rfl) rfl 19 (by decide) (hts _ kw_X3_told__fieldLink_RX3_138_ActHouse_Act_timesUndone_I_) (fun _ h9 => h9) rfl dX3_told_156 ?_
      obtain ⟨e2, e3⟩ := k_so hq
      subst hQ
      have hP : va_P D vwCl (cW cI cJ cO h xa ea0 pa0 C) _ := hP
      have hD : va_D A (cW cI cJ cO h xa ea0 pa0 C) := hD
      have hgE := congrArg (fun X : CS => gN X) e3
      have hgE : gN C = gN C' := hgE
      have hhE := congrArg (fun X : CS => gE X) e3
      have hhE : gE C = gE C' := hhE
      refine W.widen (k := 0) (n := 0) (by decide) (by decide) ?_
      exact W.iret (v := gP C y3 19) hx hb hr (fun t ht hW => ⟨⟨gP C y3 19, (cW cI cJ cO h xa ea0 pa0 C, [(cI, .int), (cO, .object RX0), (cJ, .long)]), rfl, ⟨e2, (congrArg (fun X : CS => ((cW cI cJ cO h xa ea0 pa0 X, [(cI, .int), (cO, .object RX0), (cJ, .long)]) : va_W × List (ClassId × FieldType))) e3), by omega, by omega⟩, ⟨by rw [ht]; exact hP, va_K.moved hW.alike hK, hD⟩⟩, hS.F ht⟩) hS.2.2 dX3_told_159
    rw [if_neg hs5_7] at hq
    by_cases hs5_8 : v2.toInt = 8
    · skip
      rw [if_pos hs5_8] at hq
      refine lv_tableIn (off := 124) (tgt := 160) hx hb dX3_told_36 (by rw [hs5_8]; decide) (by rw [hs5_8]; decide) (by rw [hs5_8]; rfl) (by decide) ?_
      refine lv_aload_n hx hb dX3_told_160 rfl (lv_at hl 3 rfl) ?_
      refine va_get (D := D) (ci := 0) (v := .int (gP C y3 3)) (C := RX0) (T := TX0) (N := 20) hx hb hts kin_X3_told_X0 hown hK hP (16 + (7 * y3 + 0)) (cW_get (show y3 < gN C from by omega) rfl) rfl 3 (by decide) (hts _ kw_X3_told__fieldLink_RX3_141_ActHouse_Act_parent_I_) (fun _ h9 => h9) rfl dX3_told_161 ?_
      obtain ⟨e2, e3⟩ := k_so hq
      subst hQ
      have hP : va_P D vwCl (cW cI cJ cO h xa ea0 pa0 C) _ := hP
      have hD : va_D A (cW cI cJ cO h xa ea0 pa0 C) := hD
      have hgE := congrArg (fun X : CS => gN X) e3
      have hgE : gN C = gN C' := hgE
      have hhE := congrArg (fun X : CS => gE X) e3
      have hhE : gE C = gE C' := hhE
      refine W.widen (k := 0) (n := 0) (by decide) (by decide) ?_
      exact W.iret (v := gP C y3 3) hx hb hr (fun t ht hW => ⟨⟨gP C y3 3, (cW cI cJ cO h xa ea0 pa0 C, [(cI, .int), (cO, .object RX0), (cJ, .long)]), rfl, ⟨e2, (congrArg (fun X : CS => ((cW cI cJ cO h xa ea0 pa0 X, [(cI, .int), (cO, .object RX0), (cJ, .long)]) : va_W × List (ClassId × FieldType))) e3), by omega, by omega⟩, ⟨by rw [ht]; exact hP, va_K.moved hW.alike hK, hD⟩⟩, hS.F ht⟩) hS.2.2 dX3_told_164
    rw [if_neg hs5_8] at hq
    by_cases hs5_9 : v2.toInt = 9
    · skip
      rw [if_pos hs5_9] at hq
      refine lv_tableIn (off := 129) (tgt := 165) hx hb dX3_told_36 (by rw [hs5_9]; decide) (by rw [hs5_9]; decide) (by rw [hs5_9]; rfl) (by decide) ?_
      refine lv_aload_n hx hb dX3_told_165 rfl (lv_at hl 3 rfl) ?_
      refine va_get (D := D) (ci := 0) (v := .int (gP C y3 16)) (C := RX0) (T := TX0) (N := 20) hx hb hts kin_X3_told_X0 hown hK hP (16 + (7 * y3 + 0)) (cW_get (show y3 < gN C from by omega) rfl) rfl 16 (by decide) (hts _ kw_X3_told__fieldLink_RX3_144_ActHouse_Act_begunTick_I_) (fun _ h9 => h9) rfl dX3_told_166 ?_
      obtain ⟨e2, e3⟩ := k_so hq
      subst hQ
      have hP : va_P D vwCl (cW cI cJ cO h xa ea0 pa0 C) _ := hP
      have hD : va_D A (cW cI cJ cO h xa ea0 pa0 C) := hD
      have hgE := congrArg (fun X : CS => gN X) e3
      have hgE : gN C = gN C' := hgE
      have hhE := congrArg (fun X : CS => gE X) e3
      have hhE : gE C = gE C' := hhE
      refine W.widen (k := 0) (n := 0) (by decide) (by decide) ?_
      exact W.iret (v := gP C y3 16) hx hb hr (fun t ht hW => ⟨⟨gP C y3 16, (cW cI cJ cO h xa ea0 pa0 C, [(cI, .int), (cO, .object RX0), (cJ, .long)]), rfl, ⟨e2, (congrArg (fun X : CS => ((cW cI cJ cO h xa ea0 pa0 X, [(cI, .int), (cO, .object RX0), (cJ, .long)]) : va_W × List (ClassId × FieldType))) e3), by omega, by omega⟩, ⟨by rw [ht]; exact hP, va_K.moved hW.alike hK, hD⟩⟩, hS.F ht⟩) hS.2.2 dX3_told_169
    rw [if_neg hs5_9] at hq
    refine lv_tableOut (tgt := 170) hx hb dX3_told_36 (by omega) (by decide) ?_
    refine lv_iconst (v := (-1)) hx hb dX3_told_170 (by decide) ?_
    obtain ⟨e2, e3⟩ := k_so hq
    subst hQ
    have hP : va_P D vwCl (cW cI cJ cO h xa ea0 pa0 C) _ := hP
    have hD : va_D A (cW cI cJ cO h xa ea0 pa0 C) := hD
    have hgE := congrArg (fun X : CS => gN X) e3
    have hgE : gN C = gN C' := hgE
    have hhE := congrArg (fun X : CS => gE X) e3
    have hhE : gE C = gE C' := hhE
    refine W.widen (k := 0) (n := 0) (by decide) (by decide) ?_
    exact W.iret (v := (-1)) hx hb hr (fun t ht hW => ⟨⟨(-1), (cW cI cJ cO h xa ea0 pa0 C, [(cI, .int), (cO, .object RX0), (cJ, .long)]), rfl, ⟨e2, (congrArg (fun X : CS => ((cW cI cJ cO h xa ea0 pa0 X, [(cI, .int), (cO, .object RX0), (cJ, .long)]) : va_W × List (ClassId × FieldType))) e3), by omega, by omega⟩, ⟨by rw [ht]; exact hP, va_K.moved hW.alike hK, hD⟩⟩, hS.F ht⟩) hS.2.2 dX3_told_171
  have hq := hf
  rw [f_X3_told] at hq
  refine lv_iload_n hx hb dX3_told_0 rfl (lv_at hl 1 rfl) ?_
  refine lv_aload_n hx hb dX3_told_1 rfl (lv_at hl 0 rfl) ?_
  refine va_get (D := D) (ci := 3) (v := .int (C0.1 12)) (C := RX3) (T := TX3) (N := 18) hx hb hts kin_X3_told_X3 hown hK hP 0 rfl rfl 12 (by decide) (hts _ kw_X3_told__fieldLink_RX3_102_ActHouse_actCount_I_) (fun _ h9 => h9) rfl dX3_told_2 ?_
  have hFc := k_free hD hS hA
  refine va_calli (va_runS (As := [.int x1, .int (C0.1 12)]) (rest := []) ⟨hx, hb, hml, hown, hts⟩ (c_X3_isBelow (l := l) (D := D) (cI := cI) (cJ := cJ) (cO := cO) (h := h) (xa := xa) (ea0 := ea0) (pa0 := pa0) (C0 := C0) (hf := rfl)) (va_cwS 2 hts gX3_told_X3_isBelow rfl rfl rfl (by decide +kernel) ⟨Nat.le_of_ble_eq_true rfl, Nat.le_of_ble_eq_true rfl⟩) ⟨k_blind, fun U hU hW => ⟨rfl, k_pre hU hW hP hK hD⟩⟩ rfl rfl hl.1 rfl (lv_room (Nat.le_of_ble_eq_true rfl)) dX3_told_5 ⟨by decide, by decide⟩) hS (fun q _ h => hFc q h) hFc (fun r1 u t H1 locs ht hvm hw hB hz1 hk1 hS => ?_)
  obtain ⟨rfl, rfl⟩ := hw
  refine W.widen (k := 0) (n := 0) (Nat.le_refl _) (Nat.le_refl _) ?_
  obtain ⟨hP1, hK1, hD1⟩ := hB
  rw [ht] at hP1
  have hP := hP1
  have hD := k_weak hD1 hFc
  generalize H1 = H at hP hS ⊢
  have hP : va_P D vwCl (cW cI cJ cO h xa ea0 pa0 C0) _ := hP
  have hD : va_D A (cW cI cJ cO h xa ea0 pa0 C0) := hD
  refine lv_if_ne (tgt := 13) hx hb dX3_told_8 (by decide) (fun c2 => ?_) (fun c2 => ?_)
  · skip
    rw [if_neg c2] at hq
    refine lv_aload_n hx hb dX3_told_13 rfl (lv_at hl 0 rfl) ?_
    refine va_get (D := D) (ci := 3) (v := .ref (xa 5)) (C := RX3) (T := TX3) (N := 18) hx hb hts kin_X3_told_X3 hown hK hP 0 rfl rfl 5 (by decide) (hts _ kw_X3_told__fieldLink_RX3_27_ActHouse_acts_LActHouse_Act_) (fun _ h9 => h9) rfl dX3_told_14 ?_
    refine lv_iload_n hx hb dX3_told_17 rfl (lv_at hl 1 rfl) ?_
    obtain ⟨b3, hq⟩ := k_if hq
    refine va_aldq hx hb hK hP 6 1 (f := cActs pa0 (gN C0)) rfl rfl (k_in b3.1.1 b3.1.2) dX3_told_18 ?_
    refine W.eq (g2 := F0 m 19 ls [.ref (pa0 x1.toNatClampNeg 0)]) (by rw [cActs_lt b3.2]; rfl) ?_
    refine lv_astore_n (lv' := [(3, .ref (pa0 x1.toNatClampNeg 0)), (0, .ref h), (1, .int x1), (2, .int x2)]) hx hb dX3_told_19 rfl hl (by decide) rfl (fun ls hl => ?_)
    refine lv_aload_n hx hb dX3_told_20 rfl (lv_at hl 0 rfl) ?_
    refine va_get (D := D) (ci := 0) (v := .int (gP C0 x1.toNatClampNeg 12)) (C := RX0) (T := TX0) (N := 20) hx hb hts kin_X3_told_X0 hown hK hP (16 + (7 * x1.toNatClampNeg + 0)) (cW_get (show x1.toNatClampNeg < gN C0 from by omega) rfl) rfl 12 (by decide) (hts _ kw_X3_told__fieldLink_RX3_117_ActHouse_Act_state_I_) (fun _ h9 => h9) rfl dX3_told_21 ?_
    refine lv_iconst (v := 1) hx hb dX3_told_24 (by decide) ?_
    refine lv_icmp_ne (tgt := 32) hx hb dX3_told_25 (by decide) (fun c4 => ?_) (fun c4 => ?_)
    · skip
      rw [if_neg c4] at hq
      refine lv_iconst (v := 0) hx hb dX3_told_32 (by decide) ?_
      exact B33  x2 x1.toNatClampNeg (0 : Int32) C0  _ _ _ hq (by show (gN C0 = gN C0 ∧ gE C0 = gE C0); omega) (by show x1.toNatClampNeg < gN C0; omega) hP hD hS (lv_sub hl [1, 3, 0] rfl)
    · skip
      rw [if_pos c4] at hq
      refine lv_iconst (v := 1) hx hb dX3_told_28 (by decide) ?_
      refine lv_goto (tgt := 33) hx hb dX3_told_29 (by decide) ?_
      exact B33  x2 x1.toNatClampNeg (1 : Int32) C0  _ _ _ hq (by show (gN C0 = gN C0 ∧ gE C0 = gE C0); omega) (by show x1.toNatClampNeg < gN C0; omega) hP hD hS (lv_sub hl [1, 3, 0] rfl)
  · skip
    rw [if_pos c2] at hq
    refine lv_iconst (v := (-1)) hx hb dX3_told_11 (by decide) ?_
    obtain ⟨e2, e3⟩ := k_so hq
    subst hQ
    have hP : va_P D vwCl (cW cI cJ cO h xa ea0 pa0 C0) _ := hP
    have hD : va_D A (cW cI cJ cO h xa ea0 pa0 C0) := hD
    have hgE := congrArg (fun X : CS => gN X) e3
    have hgE : gN C0 = gN C' := hgE
    have hhE := congrArg (fun X : CS => gE X) e3
    have hhE : gE C0 = gE C' := hhE
    refine W.widen (k := 0) (n := 0) (by decide) (by decide) ?_
    exact W.iret (v := (-1)) hx hb hr (fun t ht hW => ⟨⟨(-1), (cW cI cJ cO h xa ea0 pa0 C0, [(cI, .int), (cO, .object RX0), (cJ, .long)]), rfl, ⟨e2, (congrArg (fun X : CS => ((cW cI cJ cO h xa ea0 pa0 X, [(cI, .int), (cO, .object RX0), (cJ, .long)]) : va_W × List (ClassId × FieldType))) e3), by omega, by omega⟩, ⟨by rw [ht]; exact hP, va_K.moved hW.alike hK, hD⟩⟩, hS.F ht⟩) hS.2.2 dX3_told_12
set_option maxRecDepth 100000 in
theorem kw_X3_register__fieldLink_RX3_102_ActHouse_actCount_I_ : (.fieldLink RX3 102 "ActHouse" "actCount" "I" : Cond) ∈ wsX3_register := by decide +kernel
set_option maxRecDepth 100000 in
theorem kin_X3_register_X3 : ∀ w ∈ u_ws RX3 TX3 18, w ∈ wsX3_register := by decide +kernel
set_option maxRecDepth 100000 in
theorem kw_X3_register__constant_RX3_147_2147483648_ : (.constant RX3 147 (-2147483648) : Cond) ∈ wsX3_register := by decide +kernel
set_option maxRecDepth 100000 in
theorem kw_X3_register__fieldLink_RX3_27_ActHouse_acts_LActHouse_Act_ : (.fieldLink RX3 27 "ActHouse" "acts" "[LActHouse$Act;" : Cond) ∈ wsX3_register := by decide +kernel
set_option maxRecDepth 100000 in
theorem kw_X3_register__fieldLink_RX3_117_ActHouse_Act_state_I_ : (.fieldLink RX3 117 "ActHouse$Act" "state" "I" : Cond) ∈ wsX3_register := by decide +kernel
set_option maxRecDepth 100000 in
theorem kin_X3_register_X0 : ∀ w ∈ u_ws RX0 TX0 20, w ∈ wsX3_register := by decide +kernel
set_option maxRecDepth 100000 in
theorem kw_X3_register__fieldLink_RX3_148_ActHouse_Act_register_I_ : (.fieldLink RX3 148 "ActHouse$Act" "register" "I" : Cond) ∈ wsX3_register := by decide +kernel
def f_X3_register (x1 : Int32) (C0 : CS) : Option (Int32 × CS) := (if (f_X3_isBelow x1 (C0.1 12)) = 0 then some (((-2147483648) : Int32), C0) else (if (0 ≤ x1.toInt ∧ x1.toInt < 80) ∧ x1.toNatClampNeg < gN C0 then (if (gP C0 x1.toNatClampNeg 12) = 1 then some ((gP C0 x1.toNatClampNeg 13), C0) else some (((-2147483648) : Int32), C0)) else none))
set_option maxHeartbeats 4000000 in
set_option maxRecDepth 100000 in
theorem c_X3_register {l : Launch} {D : va_G} {sz : Nat} {cI cJ cO : ClassId} {h : Nat} {xa : Nat → Nat} {ea0 : Nat} {pa0 : Nat → Nat → Nat} {C0 C' : CS} {x1 r' : Int32} (hf : f_X3_register x1 C0 = some (r', C')) : Met l yX3_register wsX3_register ({ frames := 1, cells := 0, slots := 0, locals := 21 }) (va_Pc [.ref h, .int x1] (k_Pre D [(cI, .int), (cO, .object RX0), (cJ, .long)] (cW cI cJ cO h xa ea0 pa0 C0) sz)) (va_Qi (fun (r0 : Int32) (u : va_W × List (ClassId × FieldType)) => r0 = r' ∧ u = (cW cI cJ cO h xa ea0 pa0 C', [(cI, .int), (cO, .object RX0), (cJ, .long)]) ∧ gN C' = gN C0 ∧ gE C' = gE C0) (k_B D (va_A (cW cI cJ cO h xa ea0 pa0 C0) sz)) (va_A (cW cI cJ cO h xa ea0 pa0 C0) sz)) (0) (0) (va_A (cW cI cJ cO h xa ea0 pa0 C0) sz) := by
  refine Met.ofW (cc := cX3_register) (maxL := 2) (ret := (some .int)) (by decide) rfl ?_
  intro p e s m args below meth c s₁ B hml hv
  obtain ⟨rfl, hsz, hP, hK, hD0⟩ := hv
  have hx := B.exec
  have hb := B.bytes
  have hr := B.returns
  have hts := atoms_spec (ws := wsX3_register) B.pre
  have hown : s.vm.findClass RX3 = some m.cls := findClass_of_methodNamed B.named
  have hlocks := B.notSynchronized
  subst hsz
  have hD := hD0.self (sz := s.heap.size)
  generalize hAe : va_A (cW cI cJ cO h xa ea0 pa0 C0) s.heap.size = A at hD ⊢
  have hA : ∀ q : Nat, s.heap.size ≤ q → A q := fun q h => by rw [← hAe]; exact Or.inr h
  have hS : va_S A s.heap s.heap [] := va_S.rf
  have hl := lv_entry ([.ref h, .int x1]) (n := 2) (Nat.le_of_ble_eq_true rfl)
  rw [lg_entry_eq]
  generalize (lg_sl ([.ref h, .int x1]) ++ List.replicate (2 - (lg_sl ([.ref h, .int x1])).length) Slot.unset).toArray = ls at hl ⊢
  have hl : lv_has ls 2 [(0, .ref h), (1, .int x1)] := hl
  refine k_Q (fun Q hQ => ?_)
  have hg0 : gN C0 = gN C0 ∧ gE C0 = gE C0 := ⟨rfl, rfl⟩
  have hq := hf
  rw [f_X3_register] at hq
  refine lv_iload_n hx hb dX3_register_0 rfl (lv_at hl 1 rfl) ?_
  refine lv_aload_n hx hb dX3_register_1 rfl (lv_at hl 0 rfl) ?_
  refine va_get (D := D) (ci := 3) (v := .int (C0.1 12)) (C := RX3) (T := TX3) (N := 18) hx hb hts kin_X3_register_X3 hown hK hP 0 rfl rfl 12 (by decide) (hts _ kw_X3_register__fieldLink_RX3_102_ActHouse_actCount_I_) (fun _ h9 => h9) rfl dX3_register_2 ?_
  have hFc := k_free hD hS hA
  refine va_calli (va_runS (As := [.int x1, .int (C0.1 12)]) (rest := []) ⟨hx, hb, hml, hown, hts⟩ (c_X3_isBelow (l := l) (D := D) (cI := cI) (cJ := cJ) (cO := cO) (h := h) (xa := xa) (ea0 := ea0) (pa0 := pa0) (C0 := C0) (hf := rfl)) (va_cwS 2 hts gX3_register_X3_isBelow rfl rfl rfl (by decide +kernel) ⟨Nat.le_of_ble_eq_true rfl, Nat.le_of_ble_eq_true rfl⟩) ⟨k_blind, fun U hU hW => ⟨rfl, k_pre hU hW hP hK hD⟩⟩ rfl rfl hl.1 rfl (lv_room (Nat.le_of_ble_eq_true rfl)) dX3_register_5 ⟨by decide, by decide⟩) hS (fun q _ h => hFc q h) hFc (fun r1 u t H1 locs ht hvm hw hB hz1 hk1 hS => ?_)
  obtain ⟨rfl, rfl⟩ := hw
  refine W.widen (k := 0) (n := 0) (Nat.le_refl _) (Nat.le_refl _) ?_
  obtain ⟨hP1, hK1, hD1⟩ := hB
  rw [ht] at hP1
  have hP := hP1
  have hD := k_weak hD1 hFc
  generalize H1 = H at hP hS ⊢
  have hP : va_P D vwCl (cW cI cJ cO h xa ea0 pa0 C0) _ := hP
  have hD : va_D A (cW cI cJ cO h xa ea0 pa0 C0) := hD
  refine lv_if_eq (tgt := 24) hx hb dX3_register_8 (by decide) (fun c2 => ?_) (fun c2 => ?_)
  · skip
    rw [if_pos c2] at hq
    refine lv_ldc (v := (-2147483648)) hx hb hown (hts _ kw_X3_register__constant_RX3_147_2147483648_) dX3_register_24 ?_
    obtain ⟨e2, e3⟩ := k_so hq
    subst hQ
    have hP : va_P D vwCl (cW cI cJ cO h xa ea0 pa0 C0) _ := hP
    have hD : va_D A (cW cI cJ cO h xa ea0 pa0 C0) := hD
    have hgE := congrArg (fun X : CS => gN X) e3
    have hgE : gN C0 = gN C' := hgE
    have hhE := congrArg (fun X : CS => gE X) e3
    have hhE : gE C0 = gE C' := hhE
    refine W.widen (k := 0) (n := 0) (by decide) (by decide) ?_
    exact W.iret (v := (-2147483648)) hx hb hr (fun t ht hW => ⟨⟨(-2147483648), (cW cI cJ cO h xa ea0 pa0 C0, [(cI, .int), (cO, .object RX0), (cJ, .long)]), rfl, ⟨e2, (congrArg (fun X : CS => ((cW cI cJ cO h xa ea0 pa0 X, [(cI, .int), (cO, .object RX0), (cJ, .long)]) : va_W × List (ClassId × FieldType))) e3), by omega, by omega⟩, ⟨by rw [ht]; exact hP, va_K.moved hW.alike hK, hD⟩⟩, hS.F ht⟩) hS.2.2 dX3_register_26
  · skip
    rw [if_neg c2] at hq
    refine lv_aload_n hx hb dX3_register_11 rfl (lv_at hl 0 rfl) ?_
    refine va_get (D := D) (ci := 3) (v := .ref (xa 5)) (C := RX3) (T := TX3) (N := 18) hx hb hts kin_X3_register_X3 hown hK hP 0 rfl rfl 5 (by decide) (hts _ kw_X3_register__fieldLink_RX3_27_ActHouse_acts_LActHouse_Act_) (fun _ h9 => h9) rfl dX3_register_12 ?_
    refine lv_iload_n hx hb dX3_register_15 rfl (lv_at hl 1 rfl) ?_
    obtain ⟨b3, hq⟩ := k_if hq
    refine va_aldq hx hb hK hP 6 1 (f := cActs pa0 (gN C0)) rfl rfl (k_in b3.1.1 b3.1.2) dX3_register_16 ?_
    refine W.eq (g2 := F0 m 17 ls [.ref (pa0 x1.toNatClampNeg 0)]) (by rw [cActs_lt b3.2]; rfl) ?_
    refine va_get (D := D) (ci := 0) (v := .int (gP C0 x1.toNatClampNeg 12)) (C := RX0) (T := TX0) (N := 20) hx hb hts kin_X3_register_X0 hown hK hP (16 + (7 * x1.toNatClampNeg + 0)) (cW_get (show x1.toNatClampNeg < gN C0 from by omega) rfl) rfl 12 (by decide) (hts _ kw_X3_register__fieldLink_RX3_117_ActHouse_Act_state_I_) (fun _ h9 => h9) rfl dX3_register_17 ?_
    refine lv_iconst (v := 1) hx hb dX3_register_20 (by decide) ?_
    refine lv_icmp_eq (tgt := 27) hx hb dX3_register_21 (by decide) (fun c4 => ?_) (fun c4 => ?_)
    · skip
      rw [if_pos c4] at hq
      refine lv_aload_n hx hb dX3_register_27 rfl (lv_at hl 0 rfl) ?_
      refine va_get (D := D) (ci := 3) (v := .ref (xa 5)) (C := RX3) (T := TX3) (N := 18) hx hb hts kin_X3_register_X3 hown hK hP 0 rfl rfl 5 (by decide) (hts _ kw_X3_register__fieldLink_RX3_27_ActHouse_acts_LActHouse_Act_) (fun _ h9 => h9) rfl dX3_register_28 ?_
      refine lv_iload_n hx hb dX3_register_31 rfl (lv_at hl 1 rfl) ?_
      refine va_aldq hx hb hK hP 6 1 (f := cActs pa0 (gN C0)) rfl rfl (k_in b3.1.1 b3.1.2) dX3_register_32 ?_
      refine W.eq (g2 := F0 m 33 ls [.ref (pa0 x1.toNatClampNeg 0)]) (by rw [cActs_lt b3.2]; rfl) ?_
      refine va_get (D := D) (ci := 0) (v := .int (gP C0 x1.toNatClampNeg 13)) (C := RX0) (T := TX0) (N := 20) hx hb hts kin_X3_register_X0 hown hK hP (16 + (7 * x1.toNatClampNeg + 0)) (cW_get (show x1.toNatClampNeg < gN C0 from by omega) rfl) rfl 13 (by decide) (hts _ kw_X3_register__fieldLink_RX3_148_ActHouse_Act_register_I_) (fun _ h9 => h9) rfl dX3_register_33 ?_
      obtain ⟨e2, e3⟩ := k_so hq
      subst hQ
      have hP : va_P D vwCl (cW cI cJ cO h xa ea0 pa0 C0) _ := hP
      have hD : va_D A (cW cI cJ cO h xa ea0 pa0 C0) := hD
      have hgE := congrArg (fun X : CS => gN X) e3
      have hgE : gN C0 = gN C' := hgE
      have hhE := congrArg (fun X : CS => gE X) e3
      have hhE : gE C0 = gE C' := hhE
      refine W.widen (k := 0) (n := 0) (by decide) (by decide) ?_
      exact W.iret (v := gP C0 x1.toNatClampNeg 13) hx hb hr (fun t ht hW => ⟨⟨gP C0 x1.toNatClampNeg 13, (cW cI cJ cO h xa ea0 pa0 C0, [(cI, .int), (cO, .object RX0), (cJ, .long)]), rfl, ⟨e2, (congrArg (fun X : CS => ((cW cI cJ cO h xa ea0 pa0 X, [(cI, .int), (cO, .object RX0), (cJ, .long)]) : va_W × List (ClassId × FieldType))) e3), by omega, by omega⟩, ⟨by rw [ht]; exact hP, va_K.moved hW.alike hK, hD⟩⟩, hS.F ht⟩) hS.2.2 dX3_register_36
    · skip
      rw [if_neg c4] at hq
      refine lv_ldc (v := (-2147483648)) hx hb hown (hts _ kw_X3_register__constant_RX3_147_2147483648_) dX3_register_24 ?_
      obtain ⟨e2, e3⟩ := k_so hq
      subst hQ
      have hP : va_P D vwCl (cW cI cJ cO h xa ea0 pa0 C0) _ := hP
      have hD : va_D A (cW cI cJ cO h xa ea0 pa0 C0) := hD
      have hgE := congrArg (fun X : CS => gN X) e3
      have hgE : gN C0 = gN C' := hgE
      have hhE := congrArg (fun X : CS => gE X) e3
      have hhE : gE C0 = gE C' := hhE
      refine W.widen (k := 0) (n := 0) (by decide) (by decide) ?_
      exact W.iret (v := (-2147483648)) hx hb hr (fun t ht hW => ⟨⟨(-2147483648), (cW cI cJ cO h xa ea0 pa0 C0, [(cI, .int), (cO, .object RX0), (cJ, .long)]), rfl, ⟨e2, (congrArg (fun X : CS => ((cW cI cJ cO h xa ea0 pa0 X, [(cI, .int), (cO, .object RX0), (cJ, .long)]) : va_W × List (ClassId × FieldType))) e3), by omega, by omega⟩, ⟨by rw [ht]; exact hP, va_K.moved hW.alike hK, hD⟩⟩, hS.F ht⟩) hS.2.2 dX3_register_26
set_option maxRecDepth 100000 in
theorem kw_X3_holds__fieldLink_RX3_102_ActHouse_actCount_I_ : (.fieldLink RX3 102 "ActHouse" "actCount" "I" : Cond) ∈ wsX3_holds := by decide +kernel
set_option maxRecDepth 100000 in
theorem kin_X3_holds_X3 : ∀ w ∈ u_ws RX3 TX3 18, w ∈ wsX3_holds := by decide +kernel
set_option maxRecDepth 100000 in
theorem kw_X3_holds__fieldLink_RX3_27_ActHouse_acts_LActHouse_Act_ : (.fieldLink RX3 27 "ActHouse" "acts" "[LActHouse$Act;" : Cond) ∈ wsX3_holds := by decide +kernel
set_option maxRecDepth 100000 in
theorem kw_X3_holds__fieldLink_RX3_117_ActHouse_Act_state_I_ : (.fieldLink RX3 117 "ActHouse$Act" "state" "I" : Cond) ∈ wsX3_holds := by decide +kernel
set_option maxRecDepth 100000 in
theorem kin_X3_holds_X0 : ∀ w ∈ u_ws RX0 TX0 20, w ∈ wsX3_holds := by decide +kernel
set_option maxRecDepth 100000 in
theorem kw_X3_holds__fieldLink_RX3_151_ActHouse_Act_locks_I_ : (.fieldLink RX3 151 "ActHouse$Act" "locks" "[I" : Cond) ∈ wsX3_holds := by decide +kernel
def f_X3_holds (x1 : Int32) (x2 : Int32) (C0 : CS) : Option (Int32 × CS) := (if (f_X3_isBelow x1 (C0.1 12)) = 0 then some (((-1) : Int32), C0) else (if (f_X3_isBelow x2 (24 : Int32)) = 0 then some (((-1) : Int32), C0) else (if (0 ≤ x1.toInt ∧ x1.toInt < 80) ∧ x1.toNatClampNeg < gN C0 then (if (gP C0 x1.toNatClampNeg 12) = 1 then (if 0 ≤ x2.toInt ∧ x2.toInt < 24 then some (((gQ C0 x1.toNatClampNeg 5) x2.toNatClampNeg), C0) else none) else some ((0 : Int32), C0)) else none)))
set_option maxHeartbeats 4000000 in
set_option maxRecDepth 100000 in
theorem c_X3_holds {l : Launch} {D : va_G} {sz : Nat} {cI cJ cO : ClassId} {h : Nat} {xa : Nat → Nat} {ea0 : Nat} {pa0 : Nat → Nat → Nat} {C0 C' : CS} {x1 x2 r' : Int32} (hf : f_X3_holds x1 x2 C0 = some (r', C')) : Met l yX3_holds wsX3_holds ({ frames := 1, cells := 0, slots := 0, locals := 21 }) (va_Pc [.ref h, .int x1, .int x2] (k_Pre D [(cI, .int), (cO, .object RX0), (cJ, .long)] (cW cI cJ cO h xa ea0 pa0 C0) sz)) (va_Qi (fun (r0 : Int32) (u : va_W × List (ClassId × FieldType)) => r0 = r' ∧ u = (cW cI cJ cO h xa ea0 pa0 C', [(cI, .int), (cO, .object RX0), (cJ, .long)]) ∧ gN C' = gN C0 ∧ gE C' = gE C0) (k_B D (va_A (cW cI cJ cO h xa ea0 pa0 C0) sz)) (va_A (cW cI cJ cO h xa ea0 pa0 C0) sz)) (0) (0) (va_A (cW cI cJ cO h xa ea0 pa0 C0) sz) := by
  refine Met.ofW (cc := cX3_holds) (maxL := 3) (ret := (some .int)) (by decide) rfl ?_
  intro p e s m args below meth c s₁ B hml hv
  obtain ⟨rfl, hsz, hP, hK, hD0⟩ := hv
  have hx := B.exec
  have hb := B.bytes
  have hr := B.returns
  have hts := atoms_spec (ws := wsX3_holds) B.pre
  have hown : s.vm.findClass RX3 = some m.cls := findClass_of_methodNamed B.named
  have hlocks := B.notSynchronized
  subst hsz
  have hD := hD0.self (sz := s.heap.size)
  generalize hAe : va_A (cW cI cJ cO h xa ea0 pa0 C0) s.heap.size = A at hD ⊢
  have hA : ∀ q : Nat, s.heap.size ≤ q → A q := fun q h => by rw [← hAe]; exact Or.inr h
  have hS : va_S A s.heap s.heap [] := va_S.rf
  have hl := lv_entry ([.ref h, .int x1, .int x2]) (n := 3) (Nat.le_of_ble_eq_true rfl)
  rw [lg_entry_eq]
  generalize (lg_sl ([.ref h, .int x1, .int x2]) ++ List.replicate (3 - (lg_sl ([.ref h, .int x1, .int x2])).length) Slot.unset).toArray = ls at hl ⊢
  have hl : lv_has ls 3 [(0, .ref h), (1, .int x1), (2, .int x2)] := hl
  refine k_Q (fun Q hQ => ?_)
  have hg0 : gN C0 = gN C0 ∧ gE C0 = gE C0 := ⟨rfl, rfl⟩
  have hq := hf
  rw [f_X3_holds] at hq
  refine lv_iload_n hx hb dX3_holds_0 rfl (lv_at hl 1 rfl) ?_
  refine lv_aload_n hx hb dX3_holds_1 rfl (lv_at hl 0 rfl) ?_
  refine va_get (D := D) (ci := 3) (v := .int (C0.1 12)) (C := RX3) (T := TX3) (N := 18) hx hb hts kin_X3_holds_X3 hown hK hP 0 rfl rfl 12 (by decide) (hts _ kw_X3_holds__fieldLink_RX3_102_ActHouse_actCount_I_) (fun _ h9 => h9) rfl dX3_holds_2 ?_
  have hFc := k_free hD hS hA
  refine va_calli (va_runS (As := [.int x1, .int (C0.1 12)]) (rest := []) ⟨hx, hb, hml, hown, hts⟩ (c_X3_isBelow (l := l) (D := D) (cI := cI) (cJ := cJ) (cO := cO) (h := h) (xa := xa) (ea0 := ea0) (pa0 := pa0) (C0 := C0) (hf := rfl)) (va_cwS 2 hts gX3_holds_X3_isBelow rfl rfl rfl (by decide +kernel) ⟨Nat.le_of_ble_eq_true rfl, Nat.le_of_ble_eq_true rfl⟩) ⟨k_blind, fun U hU hW => ⟨rfl, k_pre hU hW hP hK hD⟩⟩ rfl rfl hl.1 rfl (lv_room (Nat.le_of_ble_eq_true rfl)) dX3_holds_5 ⟨by decide, by decide⟩) hS (fun q _ h => hFc q h) hFc (fun r1 u t H1 locs ht hvm hw hB hz1 hk1 hS => ?_)
  obtain ⟨rfl, rfl⟩ := hw
  refine W.widen (k := 0) (n := 0) (Nat.le_refl _) (Nat.le_refl _) ?_
  obtain ⟨hP1, hK1, hD1⟩ := hB
  rw [ht] at hP1
  have hP := hP1
  have hD := k_weak hD1 hFc
  generalize H1 = H at hP hS ⊢
  have hP : va_P D vwCl (cW cI cJ cO h xa ea0 pa0 C0) _ := hP
  have hD : va_D A (cW cI cJ cO h xa ea0 pa0 C0) := hD
  refine lv_if_eq (tgt := 20) hx hb dX3_holds_8 (by decide) (fun c2 => ?_) (fun c2 => ?_)
  · skip
    rw [if_pos c2] at hq
    refine lv_iconst (v := (-1)) hx hb dX3_holds_20 (by decide) ?_
    obtain ⟨e2, e3⟩ := k_so hq
    subst hQ
    have hP : va_P D vwCl (cW cI cJ cO h xa ea0 pa0 C0) _ := hP
    have hD : va_D A (cW cI cJ cO h xa ea0 pa0 C0) := hD
    have hgE := congrArg (fun X : CS => gN X) e3
    have hgE : gN C0 = gN C' := hgE
    have hhE := congrArg (fun X : CS => gE X) e3
    have hhE : gE C0 = gE C' := hhE
    refine W.widen (k := 0) (n := 0) (by decide) (by decide) ?_
    exact W.iret (v := (-1)) hx hb hr (fun t ht hW => ⟨⟨(-1), (cW cI cJ cO h xa ea0 pa0 C0, [(cI, .int), (cO, .object RX0), (cJ, .long)]), rfl, ⟨e2, (congrArg (fun X : CS => ((cW cI cJ cO h xa ea0 pa0 X, [(cI, .int), (cO, .object RX0), (cJ, .long)]) : va_W × List (ClassId × FieldType))) e3), by omega, by omega⟩, ⟨by rw [ht]; exact hP, va_K.moved hW.alike hK, hD⟩⟩, hS.F ht⟩) hS.2.2 dX3_holds_21
  · skip
    rw [if_neg c2] at hq
    refine lv_iload_n hx hb dX3_holds_11 rfl (lv_at hl 2 rfl) ?_
    refine lv_bipush (v := 24) hx hb dX3_holds_12 (by decide) ?_
    have hFc := k_free hD hS hA
    refine va_calli (va_runS (As := [.int x2, .int 24]) (rest := []) ⟨hx, hb, hml, hown, hts⟩ (c_X3_isBelow (l := l) (D := D) (cI := cI) (cJ := cJ) (cO := cO) (h := h) (xa := xa) (ea0 := ea0) (pa0 := pa0) (C0 := C0) (hf := rfl)) (va_cwS 2 hts gX3_holds_X3_isBelow rfl rfl rfl (by decide +kernel) ⟨Nat.le_of_ble_eq_true rfl, Nat.le_of_ble_eq_true rfl⟩) ⟨k_blind, fun U hU hW => ⟨rfl, k_pre hU hW hP hK hD⟩⟩ rfl rfl hl.1 rfl (lv_room (Nat.le_of_ble_eq_true rfl)) dX3_holds_14 ⟨by decide, by decide⟩) hS (fun q _ h => hFc q h) hFc (fun r3 u t H1 locs ht hvm hw hB hz1 hk1 hS => ?_)
    obtain ⟨rfl, rfl⟩ := hw
    refine W.widen (k := 0) (n := 0) (Nat.le_refl _) (Nat.le_refl _) ?_
    obtain ⟨hP1, hK1, hD1⟩ := hB
    rw [ht] at hP1
    have hP := hP1
    have hD := k_weak hD1 hFc
    generalize H1 = H at hP hS ⊢
    have hP : va_P D vwCl (cW cI cJ cO h xa ea0 pa0 C0) _ := hP
    have hD : va_D A (cW cI cJ cO h xa ea0 pa0 C0) := hD
    refine lv_if_ne (tgt := 22) hx hb dX3_holds_17 (by decide) (fun c4 => ?_) (fun c4 => ?_)
    · skip
      rw [if_neg c4] at hq
      refine lv_aload_n hx hb dX3_holds_22 rfl (lv_at hl 0 rfl) ?_
      refine va_get (D := D) (ci := 3) (v := .ref (xa 5)) (C := RX3) (T := TX3) (N := 18) hx hb hts kin_X3_holds_X3 hown hK hP 0 rfl rfl 5 (by decide) (hts _ kw_X3_holds__fieldLink_RX3_27_ActHouse_acts_LActHouse_Act_) (fun _ h9 => h9) rfl dX3_holds_23 ?_
      refine lv_iload_n hx hb dX3_holds_26 rfl (lv_at hl 1 rfl) ?_
      obtain ⟨b5, hq⟩ := k_if hq
      refine va_aldq hx hb hK hP 6 1 (f := cActs pa0 (gN C0)) rfl rfl (k_in b5.1.1 b5.1.2) dX3_holds_27 ?_
      refine W.eq (g2 := F0 m 28 ls [.ref (pa0 x1.toNatClampNeg 0)]) (by rw [cActs_lt b5.2]; rfl) ?_
      refine va_get (D := D) (ci := 0) (v := .int (gP C0 x1.toNatClampNeg 12)) (C := RX0) (T := TX0) (N := 20) hx hb hts kin_X3_holds_X0 hown hK hP (16 + (7 * x1.toNatClampNeg + 0)) (cW_get (show x1.toNatClampNeg < gN C0 from by omega) rfl) rfl 12 (by decide) (hts _ kw_X3_holds__fieldLink_RX3_117_ActHouse_Act_state_I_) (fun _ h9 => h9) rfl dX3_holds_28 ?_
      refine lv_iconst (v := 1) hx hb dX3_holds_31 (by decide) ?_
      refine lv_icmp_ne (tgt := 49) hx hb dX3_holds_32 (by decide) (fun c6 => ?_) (fun c6 => ?_)
      · skip
        rw [if_neg c6] at hq
        refine lv_iconst (v := 0) hx hb dX3_holds_49 (by decide) ?_
        obtain ⟨e2, e3⟩ := k_so hq
        subst hQ
        have hP : va_P D vwCl (cW cI cJ cO h xa ea0 pa0 C0) _ := hP
        have hD : va_D A (cW cI cJ cO h xa ea0 pa0 C0) := hD
        have hgE := congrArg (fun X : CS => gN X) e3
        have hgE : gN C0 = gN C' := hgE
        have hhE := congrArg (fun X : CS => gE X) e3
        have hhE : gE C0 = gE C' := hhE
        refine W.widen (k := 0) (n := 0) (by decide) (by decide) ?_
        exact W.iret (v := 0) hx hb hr (fun t ht hW => ⟨⟨0, (cW cI cJ cO h xa ea0 pa0 C0, [(cI, .int), (cO, .object RX0), (cJ, .long)]), rfl, ⟨e2, (congrArg (fun X : CS => ((cW cI cJ cO h xa ea0 pa0 X, [(cI, .int), (cO, .object RX0), (cJ, .long)]) : va_W × List (ClassId × FieldType))) e3), by omega, by omega⟩, ⟨by rw [ht]; exact hP, va_K.moved hW.alike hK, hD⟩⟩, hS.F ht⟩) hS.2.2 dX3_holds_50
      · skip
        rw [if_pos c6] at hq
        refine lv_aload_n hx hb dX3_holds_35 rfl (lv_at hl 0 rfl) ?_
        refine va_get (D := D) (ci := 3) (v := .ref (xa 5)) (C := RX3) (T := TX3) (N := 18) hx hb hts kin_X3_holds_X3 hown hK hP 0 rfl rfl 5 (by decide) (hts _ kw_X3_holds__fieldLink_RX3_27_ActHouse_acts_LActHouse_Act_) (fun _ h9 => h9) rfl dX3_holds_36 ?_
        refine lv_iload_n hx hb dX3_holds_39 rfl (lv_at hl 1 rfl) ?_
        refine va_aldq hx hb hK hP 6 1 (f := cActs pa0 (gN C0)) rfl rfl (k_in b5.1.1 b5.1.2) dX3_holds_40 ?_
        refine W.eq (g2 := F0 m 41 ls [.ref (pa0 x1.toNatClampNeg 0)]) (by rw [cActs_lt b5.2]; rfl) ?_
        refine va_get (D := D) (ci := 0) (v := .ref (pa0 x1.toNatClampNeg 5)) (C := RX0) (T := TX0) (N := 20) hx hb hts kin_X3_holds_X0 hown hK hP (16 + (7 * x1.toNatClampNeg + 0)) (cW_get (show x1.toNatClampNeg < gN C0 from by omega) rfl) rfl 5 (by decide) (hts _ kw_X3_holds__fieldLink_RX3_151_ActHouse_Act_locks_I_) (fun _ h9 => h9) rfl dX3_holds_41 ?_
        refine lv_iload_n hx hb dX3_holds_44 rfl (lv_at hl 2 rfl) ?_
        obtain ⟨b7, hq⟩ := k_if hq
        refine va_iald hx hb hK hP (16 + (7 * x1.toNatClampNeg + 2)) 0 (f := (gQ C0 x1.toNatClampNeg 5)) (cW_get (show x1.toNatClampNeg < gN C0 from by omega) rfl) rfl (k_in b7.1 b7.2) dX3_holds_45 ?_
        refine lv_goto (tgt := 50) hx hb dX3_holds_46 (by decide) ?_
        obtain ⟨e2, e3⟩ := k_so hq
        subst hQ
        have hP : va_P D vwCl (cW cI cJ cO h xa ea0 pa0 C0) _ := hP
        have hD : va_D A (cW cI cJ cO h xa ea0 pa0 C0) := hD
        have hgE := congrArg (fun X : CS => gN X) e3
        have hgE : gN C0 = gN C' := hgE
        have hhE := congrArg (fun X : CS => gE X) e3
        have hhE : gE C0 = gE C' := hhE
        refine W.widen (k := 0) (n := 0) (by decide) (by decide) ?_
        exact W.iret (v := (gQ C0 x1.toNatClampNeg 5) x2.toNatClampNeg) hx hb hr (fun t ht hW => ⟨⟨(gQ C0 x1.toNatClampNeg 5) x2.toNatClampNeg, (cW cI cJ cO h xa ea0 pa0 C0, [(cI, .int), (cO, .object RX0), (cJ, .long)]), rfl, ⟨e2, (congrArg (fun X : CS => ((cW cI cJ cO h xa ea0 pa0 X, [(cI, .int), (cO, .object RX0), (cJ, .long)]) : va_W × List (ClassId × FieldType))) e3), by omega, by omega⟩, ⟨by rw [ht]; exact hP, va_K.moved hW.alike hK, hD⟩⟩, hS.F ht⟩) hS.2.2 dX3_holds_50
    · skip
      rw [if_pos c4] at hq
      refine lv_iconst (v := (-1)) hx hb dX3_holds_20 (by decide) ?_
      obtain ⟨e2, e3⟩ := k_so hq
      subst hQ
      have hP : va_P D vwCl (cW cI cJ cO h xa ea0 pa0 C0) _ := hP
      have hD : va_D A (cW cI cJ cO h xa ea0 pa0 C0) := hD
      have hgE := congrArg (fun X : CS => gN X) e3
      have hgE : gN C0 = gN C' := hgE
      have hhE := congrArg (fun X : CS => gE X) e3
      have hhE : gE C0 = gE C' := hhE
      refine W.widen (k := 0) (n := 0) (by decide) (by decide) ?_
      exact W.iret (v := (-1)) hx hb hr (fun t ht hW => ⟨⟨(-1), (cW cI cJ cO h xa ea0 pa0 C0, [(cI, .int), (cO, .object RX0), (cJ, .long)]), rfl, ⟨e2, (congrArg (fun X : CS => ((cW cI cJ cO h xa ea0 pa0 X, [(cI, .int), (cO, .object RX0), (cJ, .long)]) : va_W × List (ClassId × FieldType))) e3), by omega, by omega⟩, ⟨by rw [ht]; exact hP, va_K.moved hW.alike hK, hD⟩⟩, hS.F ht⟩) hS.2.2 dX3_holds_21
set_option maxRecDepth 100000 in
theorem kw_X3_value__constant_RX3_147_2147483648_ : (.constant RX3 147 (-2147483648) : Cond) ∈ wsX3_value := by decide +kernel
set_option maxRecDepth 100000 in
theorem kw_X3_value__fieldLink_RX3_79_ActHouse_now_I_ : (.fieldLink RX3 79 "ActHouse" "now" "I" : Cond) ∈ wsX3_value := by decide +kernel
set_option maxRecDepth 100000 in
theorem kin_X3_value_X3 : ∀ w ∈ u_ws RX3 TX3 18, w ∈ wsX3_value := by decide +kernel
set_option maxRecDepth 100000 in
theorem kw_X3_value__fieldLink_RX3_154_ActHouse_doneCount_I_ : (.fieldLink RX3 154 "ActHouse" "doneCount" "I" : Cond) ∈ wsX3_value := by decide +kernel
set_option maxRecDepth 100000 in
theorem kw_X3_value__fieldLink_RX3_27_ActHouse_acts_LActHouse_Act_ : (.fieldLink RX3 27 "ActHouse" "acts" "[LActHouse$Act;" : Cond) ∈ wsX3_value := by decide +kernel
set_option maxRecDepth 100000 in
theorem kw_X3_value__fieldLink_RX3_34_ActHouse_doneRow_I_ : (.fieldLink RX3 34 "ActHouse" "doneRow" "[I" : Cond) ∈ wsX3_value := by decide +kernel
set_option maxRecDepth 100000 in
theorem kw_X3_value__fieldLink_RX3_135_ActHouse_Act_doneTick_I_ : (.fieldLink RX3 135 "ActHouse$Act" "doneTick" "I" : Cond) ∈ wsX3_value := by decide +kernel
set_option maxRecDepth 100000 in
theorem kin_X3_value_X0 : ∀ w ∈ u_ws RX0 TX0 20, w ∈ wsX3_value := by decide +kernel
set_option maxRecDepth 100000 in
theorem kw_X3_value__fieldLink_RX3_22_ActHouse_values_I_ : (.fieldLink RX3 22 "ActHouse" "values" "[I" : Cond) ∈ wsX3_value := by decide +kernel
def f_X3_value_84 (K44 : Int32 → Int32 → Int32 → Int32 → CS → Option (Int32 × CS)) (v1 : Int32) (v2 : Int32) (v3 : Int32) (v4 : Int32)  (C : CS) : Option (Int32 × CS) := K44 v1 v2 v3 (v4 + 1) C
def f_X3_value_44  : Nat → Int32 → Int32 → Int32 → Int32 → CS → Option (Int32 × CS)
  | 0, _, _, _, _, _ => none
  | k + 1, v1, v2, v3, v4, C => (if (C.1 13) ≤ v4 then some (v3, C) else (if 0 ≤ v4.toInt ∧ v4.toInt < 80 then (if (0 ≤ ((C.2.1 7) v4.toNatClampNeg).toInt ∧ ((C.2.1 7) v4.toNatClampNeg).toInt < 80) ∧ ((C.2.1 7) v4.toNatClampNeg).toNatClampNeg < gN C then (if v2 < (gP C (((C.2.1 7) v4.toNatClampNeg).toNatClampNeg) 17) then f_X3_value_84 (fun (v1 : Int32) (v2 : Int32) (v3 : Int32) (v4 : Int32) (C : CS) => f_X3_value_44  k v1 v2 v3 v4 C) v1 v2 v3 v4 C else (k_bind (f_X0_valueAfter (((C.2.1 7) v4.toNatClampNeg).toNatClampNeg) v1 v3 C) fun r10 C10 => f_X3_value_84 (fun (v1 : Int32) (v2 : Int32) (v3 : Int32) (v4 : Int32) (C : CS) => f_X3_value_44  k v1 v2 v3 v4 C) v1 v2 r10 v4 C10)) else none) else none))
def f_X3_value (x1 : Int32) (x2 : Int32) (C0 : CS) : Option (Int32 × CS) := (if (f_X3_isBelow x1 (32 : Int32)) = 0 then some (((-2147483648) : Int32), C0) else (if x2 < 0 then some (((-2147483648) : Int32), C0) else (if x2 ≤ (C0.1 15) then (if x2 = (C0.1 15) then (if 0 ≤ x1.toInt ∧ x1.toInt < 32 then some (((C0.2.1 4) x1.toNatClampNeg), C0) else none) else f_X3_value_44  200 x1 x2 (0 : Int32) (0 : Int32) C0) else some (((-2147483648) : Int32), C0))))
set_option maxHeartbeats 4000000 in
set_option maxRecDepth 100000 in
theorem c_X3_value {l : Launch} {D : va_G} {sz : Nat} {cI cJ cO : ClassId} {h : Nat} {xa : Nat → Nat} {ea0 : Nat} {pa0 : Nat → Nat → Nat} {C0 C' : CS} {x1 x2 r' : Int32} (hf : f_X3_value x1 x2 C0 = some (r', C')) : Met l yX3_value wsX3_value ({ frames := 1, cells := 0, slots := 0, locals := 22 }) (va_Pc [.ref h, .int x1, .int x2] (k_Pre D [(cI, .int), (cO, .object RX0), (cJ, .long)] (cW cI cJ cO h xa ea0 pa0 C0) sz)) (va_Qi (fun (r0 : Int32) (u : va_W × List (ClassId × FieldType)) => r0 = r' ∧ u = (cW cI cJ cO h xa ea0 pa0 C', [(cI, .int), (cO, .object RX0), (cJ, .long)]) ∧ gN C' = gN C0 ∧ gE C' = gE C0) (k_B D (va_A (cW cI cJ cO h xa ea0 pa0 C0) sz)) (va_A (cW cI cJ cO h xa ea0 pa0 C0) sz)) (0) (0) (va_A (cW cI cJ cO h xa ea0 pa0 C0) sz) := by
  refine Met.ofW (cc := cX3_value) (maxL := 6) (ret := (some .int)) (by decide) rfl ?_
  intro p e s m args below meth c s₁ B hml hv
  obtain ⟨rfl, hsz, hP, hK, hD0⟩ := hv
  have hx := B.exec
  have hb := B.bytes
  have hr := B.returns
  have hts := atoms_spec (ws := wsX3_value) B.pre
  have hown : s.vm.findClass RX3 = some m.cls := findClass_of_methodNamed B.named
  have hlocks := B.notSynchronized
  subst hsz
  have hD := hD0.self (sz := s.heap.size)
  generalize hAe : va_A (cW cI cJ cO h xa ea0 pa0 C0) s.heap.size = A at hD ⊢
  have hA : ∀ q : Nat, s.heap.size ≤ q → A q := fun q h => by rw [← hAe]; exact Or.inr h
  have hS : va_S A s.heap s.heap [] := va_S.rf
  have hl := lv_entry ([.ref h, .int x1, .int x2]) (n := 6) (Nat.le_of_ble_eq_true rfl)
  rw [lg_entry_eq]
  generalize (lg_sl ([.ref h, .int x1, .int x2]) ++ List.replicate (6 - (lg_sl ([.ref h, .int x1, .int x2])).length) Slot.unset).toArray = ls at hl ⊢
  have hl : lv_has ls 6 [(0, .ref h), (1, .int x1), (2, .int x2)] := hl
  refine k_Q (fun Q hQ => ?_)
  have hg0 : gN C0 = gN C0 ∧ gE C0 = gE C0 := ⟨rfl, rfl⟩
  have B84 : ∀ (K44 : Int32 → Int32 → Int32 → Int32 → CS → Option (Int32 × CS)) (hK44 : ∀ (v1 : Int32) (v2 : Int32) (v3 : Int32) (v4 : Int32)  (C : CS)  (H : Heap) (locs : List Loc) (ls : Array Slot), K44 v1 v2 v3 v4 C = some (r', C') → (gN C = gN C0 ∧ gE C = gE C0) → va_P D vwCl (cW cI cJ cO h xa ea0 pa0 C) H → va_D A (cW cI cJ cO h xa ea0 pa0 C) → va_S A s.heap H locs → lv_has ls 6 [(0, .ref h), (1, .int v1), (2, .int v2), (3, .int v3), (4, .int v4)] → W p l e (headSpec wsX3_value ({ frames := 1, cells := 0, slots := 0, locals := 22 })).room s m ([.ref h, .int x1, .int x2] : List Value).toArray below meth c H locs (0) (0) Q (F0 m 44 ls [])), ∀ (v1 : Int32) (v2 : Int32) (v3 : Int32) (v4 : Int32)  (C : CS)  (H : Heap) (locs : List Loc) (ls : Array Slot), f_X3_value_84 K44 v1 v2 v3 v4 C = some (r', C') → (gN C = gN C0 ∧ gE C = gE C0) → va_P D vwCl (cW cI cJ cO h xa ea0 pa0 C) H → va_D A (cW cI cJ cO h xa ea0 pa0 C) → va_S A s.heap H locs → lv_has ls 6 [(0, .ref h), (1, .int v1), (2, .int v2), (3, .int v3), (4, .int v4)] → W p l e (headSpec wsX3_value ({ frames := 1, cells := 0, slots := 0, locals := 22 })).room s m ([.ref h, .int x1, .int x2] : List Value).toArray below meth c H locs (0) (0) Q (F0 m 84 ls []) := by
    intro K44 hK44
    intro v1 v2 v3 v4  C  H locs ls hq hg  hP hD hS hl
    rw [f_X3_value_84] at hq
    refine lv_iinc (v := v4 + 1) (lv' := [(4, .int (v4 + 1)), (0, .ref h), (1, .int v1), (2, .int v2), (3, .int v3)]) hx hb dX3_value_84 hl (k := 4) rfl (by rfl) (by decide) rfl (fun ls hl => ?_)
    refine lv_goto (tgt := 44) hx hb dX3_value_87 (by decide) ?_
    exact hK44 v1 v2 v3 (v4 + 1) C  _ _ _ hq (by show (gN C = gN C0 ∧ gE C = gE C0); omega) hP hD hS (lv_sub hl [1, 2, 3, 4, 0] rfl)
  have B44 : ∀  (k : Nat), ∀ (v1 : Int32) (v2 : Int32) (v3 : Int32) (v4 : Int32)  (C : CS)  (H : Heap) (locs : List Loc) (ls : Array Slot), f_X3_value_44  k v1 v2 v3 v4 C = some (r', C') → (gN C = gN C0 ∧ gE C = gE C0) → va_P D vwCl (cW cI cJ cO h xa ea0 pa0 C) H → va_D A (cW cI cJ cO h xa ea0 pa0 C) → va_S A s.heap H locs → lv_has ls 6 [(0, .ref h), (1, .int v1), (2, .int v2), (3, .int v3), (4, .int v4)] → W p l e (headSpec wsX3_value ({ frames := 1, cells := 0, slots := 0, locals := 22 })).room s m ([.ref h, .int x1, .int x2] : List Value).toArray below meth c H locs (0) (0) Q (F0 m 44 ls []) := by
    intro  k
    induction k with
    | zero =>
      intro v1 v2 v3 v4  C  H locs ls hq hg  hP hD hS hl
      exact absurd hq (by rw [f_X3_value_44]; exact k_non)
    | succ k ih =>
      intro v1 v2 v3 v4  C  H locs ls hq hg  hP hD hS hl
      rw [f_X3_value_44] at hq
      refine lv_iload hx hb dX3_value_44 (lv_at hl 4 rfl) ?_
      refine lv_aload_n hx hb dX3_value_46 rfl (lv_at hl 0 rfl) ?_
      refine va_get (D := D) (ci := 3) (v := .int (C.1 13)) (C := RX3) (T := TX3) (N := 18) hx hb hts kin_X3_value_X3 hown hK hP 0 rfl rfl 13 (by decide) (hts _ kw_X3_value__fieldLink_RX3_154_ActHouse_doneCount_I_) (fun _ h9 => h9) rfl dX3_value_47 ?_
      refine lv_icmp_ge (tgt := 90) hx hb dX3_value_50 (by decide) (fun c6 => ?_) (fun c6 => ?_)
      · skip
        rw [if_pos c6] at hq
        refine lv_iload_n hx hb dX3_value_90 rfl (lv_at hl 3 rfl) ?_
        obtain ⟨e2, e3⟩ := k_so hq
        subst hQ
        have hP : va_P D vwCl (cW cI cJ cO h xa ea0 pa0 C) _ := hP
        have hD : va_D A (cW cI cJ cO h xa ea0 pa0 C) := hD
        have hgE := congrArg (fun X : CS => gN X) e3
        have hgE : gN C = gN C' := hgE
        have hhE := congrArg (fun X : CS => gE X) e3
        have hhE : gE C = gE C' := hhE
        refine W.widen (k := 0) (n := 0) (by decide) (by decide) ?_
        exact W.iret (v := v3) hx hb hr (fun t ht hW => ⟨⟨v3, (cW cI cJ cO h xa ea0 pa0 C, [(cI, .int), (cO, .object RX0), (cJ, .long)]), rfl, ⟨e2, (congrArg (fun X : CS => ((cW cI cJ cO h xa ea0 pa0 X, [(cI, .int), (cO, .object RX0), (cJ, .long)]) : va_W × List (ClassId × FieldType))) e3), by omega, by omega⟩, ⟨by rw [ht]; exact hP, va_K.moved hW.alike hK, hD⟩⟩, hS.F ht⟩) hS.2.2 dX3_value_91
      · skip
        rw [if_neg c6] at hq
        refine lv_aload_n hx hb dX3_value_53 rfl (lv_at hl 0 rfl) ?_
        refine va_get (D := D) (ci := 3) (v := .ref (xa 5)) (C := RX3) (T := TX3) (N := 18) hx hb hts kin_X3_value_X3 hown hK hP 0 rfl rfl 5 (by decide) (hts _ kw_X3_value__fieldLink_RX3_27_ActHouse_acts_LActHouse_Act_) (fun _ h9 => h9) rfl dX3_value_54 ?_
        refine lv_aload_n hx hb dX3_value_57 rfl (lv_at hl 0 rfl) ?_
        refine va_get (D := D) (ci := 3) (v := .ref (xa 7)) (C := RX3) (T := TX3) (N := 18) hx hb hts kin_X3_value_X3 hown hK hP 0 rfl rfl 7 (by decide) (hts _ kw_X3_value__fieldLink_RX3_34_ActHouse_doneRow_I_) (fun _ h9 => h9) rfl dX3_value_58 ?_
        refine lv_iload hx hb dX3_value_61 (lv_at hl 4 rfl) ?_
        obtain ⟨b7, hq⟩ := k_if hq
        refine va_iald hx hb hK hP 8 0 (f := (C.2.1 7)) rfl rfl (k_in b7.1 b7.2) dX3_value_63 ?_
        obtain ⟨b8, hq⟩ := k_if hq
        refine va_aldq hx hb hK hP 6 1 (f := cActs pa0 (gN C)) rfl rfl (k_in b8.1.1 b8.1.2) dX3_value_64 ?_
        refine W.eq (g2 := F0 m 65 ls [.ref (pa0 (((C.2.1 7) v4.toNatClampNeg).toNatClampNeg) 0)]) (by rw [cActs_lt b8.2]; rfl) ?_
        refine lv_astore (lv' := [(5, .ref (pa0 (((C.2.1 7) v4.toNatClampNeg).toNatClampNeg) 0)), (0, .ref h), (1, .int v1), (2, .int v2), (3, .int v3), (4, .int v4)]) hx hb dX3_value_65 hl (by decide) rfl (fun ls hl => ?_)
        refine lv_aload hx hb dX3_value_67 (lv_at hl 0 rfl) ?_
        refine va_get (D := D) (ci := 0) (v := .int (gP C (((C.2.1 7) v4.toNatClampNeg).toNatClampNeg) 17)) (C := RX0) (T := TX0) (N := 20) hx hb hts kin_X3_value_X0 hown hK hP (16 + (7 * (((C.2.1 7) v4.toNatClampNeg).toNatClampNeg) + 0)) (cW_get (show ((C.2.1 7) v4.toNatClampNeg).toNatClampNeg < gN C from by omega) rfl) rfl 17 (by decide) (hts _ kw_X3_value__fieldLink_RX3_135_ActHouse_Act_doneTick_I_) (fun _ h9 => h9) rfl dX3_value_69 ?_
        refine lv_iload_n hx hb dX3_value_72 rfl (lv_at hl 3 rfl) ?_
        refine lv_icmp_gt (tgt := 84) hx hb dX3_value_73 (by decide) (fun c9 => ?_) (fun c9 => ?_)
        · skip
          rw [if_pos c9] at hq
          exact B84 (fun (v1 : Int32) (v2 : Int32) (v3 : Int32) (v4 : Int32) (C : CS) => f_X3_value_44  k v1 v2 v3 v4 C) ih v1 v2 v3 v4 C  _ _ _ hq (by show (gN C = gN C0 ∧ gE C = gE C0); omega) hP hD hS (lv_sub hl [1, 2, 3, 4, 5] rfl)
        · skip
          rw [if_neg c9] at hq
          refine lv_aload hx hb dX3_value_76 (lv_at hl 0 rfl) ?_
          refine lv_iload_n hx hb dX3_value_78 rfl (lv_at hl 2 rfl) ?_
          refine lv_iload_n hx hb dX3_value_79 rfl (lv_at hl 4 rfl) ?_
          obtain ⟨q10, C10, h10, hq⟩ := k_bd hq
          have hFc := k_free hD hS hA
          refine va_calli (va_runV (As := [.int v1, .int v3]) (rest := []) ⟨hx, hb, hml, hown, hts⟩ (c_X0_valueAfter (l := l) (D := D) (cI := cI) (cJ := cJ) (cO := cO) (h := h) (xa := xa) (ea0 := ea0) (pa0 := pa0)  (hn0 := by show ((C.2.1 7) v4.toNatClampNeg).toNatClampNeg < gN C; omega) (hf := h10)) (cwV 2 hts gX3_value_X0_valueAfter rfl rfl rfl (by decide +kernel) ⟨Nat.le_of_ble_eq_true rfl, Nat.le_of_ble_eq_true rfl⟩) ⟨k_blind, va_recv hK hP (ci := 0) (q0 := (16 + (7 * (((C.2.1 7) v4.toNatClampNeg).toNatClampNeg) + 0))) rfl (cW_get (show ((C.2.1 7) v4.toNatClampNeg).toNatClampNeg < gN C from by omega) rfl), fun U hU hW => ⟨rfl, k_pre hU hW hP hK hD⟩⟩ rfl rfl hl.1 rfl (lv_room (Nat.le_of_ble_eq_true rfl)) dX3_value_80 ⟨by decide, by decide⟩) hS (fun q _ h => hFc q h) hFc (fun r10 u t H1 locs ht hvm hw hB hz1 hk1 hS => ?_)
          obtain ⟨rfl, rfl, hg10, hh10⟩ := hw
          have hg10 : gN C10 = gN C := hg10
          have hh10 : gE C10 = gE C := hh10
          refine W.widen (k := 0) (n := 0) (Nat.le_refl _) (Nat.le_refl _) ?_
          obtain ⟨hP1, hK1, hD1⟩ := hB
          rw [ht] at hP1
          have hP := hP1
          have hD := k_weak hD1 hFc
          generalize H1 = H at hP hS ⊢
          have hP : va_P D vwCl (cW cI cJ cO h xa ea0 pa0 C10) _ := hP
          have hD : va_D A (cW cI cJ cO h xa ea0 pa0 C10) := hD
          refine lv_istore_n (lv' := [(3, .int r10), (5, .ref (pa0 (((C.2.1 7) v4.toNatClampNeg).toNatClampNeg) 0)), (0, .ref h), (1, .int v1), (2, .int v2), (4, .int v4)]) hx hb dX3_value_83 rfl hl (by decide) rfl (fun ls hl => ?_)
          exact B84 (fun (v1 : Int32) (v2 : Int32) (v3 : Int32) (v4 : Int32) (C : CS) => f_X3_value_44  k v1 v2 v3 v4 C) ih v1 v2 r10 v4 C10  _ _ _ hq (by show (gN C10 = gN C0 ∧ gE C10 = gE C0); omega) hP hD hS (lv_sub hl [2, 3, 4, 0, 5] rfl)
  have hq := hf
  rw [f_X3_value] at hq
  refine lv_iload_n hx hb dX3_value_0 rfl (lv_at hl 1 rfl) ?_
  refine lv_bipush (v := 32) hx hb dX3_value_1 (by decide) ?_
  have hFc := k_free hD hS hA
  refine va_calli (va_runS (As := [.int x1, .int 32]) (rest := []) ⟨hx, hb, hml, hown, hts⟩ (c_X3_isBelow (l := l) (D := D) (cI := cI) (cJ := cJ) (cO := cO) (h := h) (xa := xa) (ea0 := ea0) (pa0 := pa0) (C0 := C0) (hf := rfl)) (va_cwS 2 hts gX3_value_X3_isBelow rfl rfl rfl (by decide +kernel) ⟨Nat.le_of_ble_eq_true rfl, Nat.le_of_ble_eq_true rfl⟩) ⟨k_blind, fun U hU hW => ⟨rfl, k_pre hU hW hP hK hD⟩⟩ rfl rfl hl.1 rfl (lv_room (Nat.le_of_ble_eq_true rfl)) dX3_value_3 ⟨by decide, by decide⟩) hS (fun q _ h => hFc q h) hFc (fun r1 u t H1 locs ht hvm hw hB hz1 hk1 hS => ?_)
  obtain ⟨rfl, rfl⟩ := hw
  refine W.widen (k := 0) (n := 0) (Nat.le_refl _) (Nat.le_refl _) ?_
  obtain ⟨hP1, hK1, hD1⟩ := hB
  rw [ht] at hP1
  have hP := hP1
  have hD := k_weak hD1 hFc
  generalize H1 = H at hP hS ⊢
  have hP : va_P D vwCl (cW cI cJ cO h xa ea0 pa0 C0) _ := hP
  have hD : va_D A (cW cI cJ cO h xa ea0 pa0 C0) := hD
  refine lv_if_eq (tgt := 21) hx hb dX3_value_6 (by decide) (fun c2 => ?_) (fun c2 => ?_)
  · skip
    rw [if_pos c2] at hq
    refine lv_ldc (v := (-2147483648)) hx hb hown (hts _ kw_X3_value__constant_RX3_147_2147483648_) dX3_value_21 ?_
    obtain ⟨e2, e3⟩ := k_so hq
    subst hQ
    have hP : va_P D vwCl (cW cI cJ cO h xa ea0 pa0 C0) _ := hP
    have hD : va_D A (cW cI cJ cO h xa ea0 pa0 C0) := hD
    have hgE := congrArg (fun X : CS => gN X) e3
    have hgE : gN C0 = gN C' := hgE
    have hhE := congrArg (fun X : CS => gE X) e3
    have hhE : gE C0 = gE C' := hhE
    refine W.widen (k := 0) (n := 0) (by decide) (by decide) ?_
    exact W.iret (v := (-2147483648)) hx hb hr (fun t ht hW => ⟨⟨(-2147483648), (cW cI cJ cO h xa ea0 pa0 C0, [(cI, .int), (cO, .object RX0), (cJ, .long)]), rfl, ⟨e2, (congrArg (fun X : CS => ((cW cI cJ cO h xa ea0 pa0 X, [(cI, .int), (cO, .object RX0), (cJ, .long)]) : va_W × List (ClassId × FieldType))) e3), by omega, by omega⟩, ⟨by rw [ht]; exact hP, va_K.moved hW.alike hK, hD⟩⟩, hS.F ht⟩) hS.2.2 dX3_value_23
  · skip
    rw [if_neg c2] at hq
    refine lv_iload_n hx hb dX3_value_9 rfl (lv_at hl 2 rfl) ?_
    refine lv_if_lt (tgt := 21) hx hb dX3_value_10 (by decide) (fun c3 => ?_) (fun c3 => ?_)
    · skip
      rw [if_pos c3] at hq
      refine lv_ldc (v := (-2147483648)) hx hb hown (hts _ kw_X3_value__constant_RX3_147_2147483648_) dX3_value_21 ?_
      obtain ⟨e2, e3⟩ := k_so hq
      subst hQ
      have hP : va_P D vwCl (cW cI cJ cO h xa ea0 pa0 C0) _ := hP
      have hD : va_D A (cW cI cJ cO h xa ea0 pa0 C0) := hD
      have hgE := congrArg (fun X : CS => gN X) e3
      have hgE : gN C0 = gN C' := hgE
      have hhE := congrArg (fun X : CS => gE X) e3
      have hhE : gE C0 = gE C' := hhE
      refine W.widen (k := 0) (n := 0) (by decide) (by decide) ?_
      exact W.iret (v := (-2147483648)) hx hb hr (fun t ht hW => ⟨⟨(-2147483648), (cW cI cJ cO h xa ea0 pa0 C0, [(cI, .int), (cO, .object RX0), (cJ, .long)]), rfl, ⟨e2, (congrArg (fun X : CS => ((cW cI cJ cO h xa ea0 pa0 X, [(cI, .int), (cO, .object RX0), (cJ, .long)]) : va_W × List (ClassId × FieldType))) e3), by omega, by omega⟩, ⟨by rw [ht]; exact hP, va_K.moved hW.alike hK, hD⟩⟩, hS.F ht⟩) hS.2.2 dX3_value_23
    · skip
      rw [if_neg c3] at hq
      refine lv_iload_n hx hb dX3_value_13 rfl (lv_at hl 2 rfl) ?_
      refine lv_aload_n hx hb dX3_value_14 rfl (lv_at hl 0 rfl) ?_
      refine va_get (D := D) (ci := 3) (v := .int (C0.1 15)) (C := RX3) (T := TX3) (N := 18) hx hb hts kin_X3_value_X3 hown hK hP 0 rfl rfl 15 (by decide) (hts _ kw_X3_value__fieldLink_RX3_79_ActHouse_now_I_) (fun _ h9 => h9) rfl dX3_value_15 ?_
      refine lv_icmp_le (tgt := 24) hx hb dX3_value_18 (by decide) (fun c4 => ?_) (fun c4 => ?_)
      · skip
        rw [if_pos c4] at hq
        refine lv_iload_n hx hb dX3_value_24 rfl (lv_at hl 2 rfl) ?_
        refine lv_aload_n hx hb dX3_value_25 rfl (lv_at hl 0 rfl) ?_
        refine va_get (D := D) (ci := 3) (v := .int (C0.1 15)) (C := RX3) (T := TX3) (N := 18) hx hb hts kin_X3_value_X3 hown hK hP 0 rfl rfl 15 (by decide) (hts _ kw_X3_value__fieldLink_RX3_79_ActHouse_now_I_) (fun _ h9 => h9) rfl dX3_value_26 ?_
        refine lv_icmp_ne (tgt := 39) hx hb dX3_value_29 (by decide) (fun c5 => ?_) (fun c5 => ?_)
        · skip
          rw [if_neg c5] at hq
          refine lv_iconst (v := 0) hx hb dX3_value_39 (by decide) ?_
          refine lv_istore_n (lv' := [(3, .int 0), (0, .ref h), (1, .int x1), (2, .int x2)]) hx hb dX3_value_40 rfl hl (by decide) rfl (fun ls hl => ?_)
          refine lv_iconst (v := 0) hx hb dX3_value_41 (by decide) ?_
          refine lv_istore (lv' := [(4, .int 0), (3, .int 0), (0, .ref h), (1, .int x1), (2, .int x2)]) hx hb dX3_value_42 hl (by decide) rfl (fun ls hl => ?_)
          exact B44  200 x1 x2 (0 : Int32) (0 : Int32) C0  _ _ _ hq (by show (gN C0 = gN C0 ∧ gE C0 = gE C0); omega) hP hD hS (lv_sub hl [2, 3, 4, 1, 0] rfl)
        · skip
          rw [if_pos c5] at hq
          refine lv_aload_n hx hb dX3_value_32 rfl (lv_at hl 0 rfl) ?_
          refine va_get (D := D) (ci := 3) (v := .ref (xa 4)) (C := RX3) (T := TX3) (N := 18) hx hb hts kin_X3_value_X3 hown hK hP 0 rfl rfl 4 (by decide) (hts _ kw_X3_value__fieldLink_RX3_22_ActHouse_values_I_) (fun _ h9 => h9) rfl dX3_value_33 ?_
          refine lv_iload_n hx hb dX3_value_36 rfl (lv_at hl 1 rfl) ?_
          obtain ⟨b11, hq⟩ := k_if hq
          refine va_iald hx hb hK hP 5 0 (f := (C0.2.1 4)) rfl rfl (k_in b11.1 b11.2) dX3_value_37 ?_
          obtain ⟨e2, e3⟩ := k_so hq
          subst hQ
          have hP : va_P D vwCl (cW cI cJ cO h xa ea0 pa0 C0) _ := hP
          have hD : va_D A (cW cI cJ cO h xa ea0 pa0 C0) := hD
          have hgE := congrArg (fun X : CS => gN X) e3
          have hgE : gN C0 = gN C' := hgE
          have hhE := congrArg (fun X : CS => gE X) e3
          have hhE : gE C0 = gE C' := hhE
          refine W.widen (k := 0) (n := 0) (by decide) (by decide) ?_
          exact W.iret (v := (C0.2.1 4) x1.toNatClampNeg) hx hb hr (fun t ht hW => ⟨⟨(C0.2.1 4) x1.toNatClampNeg, (cW cI cJ cO h xa ea0 pa0 C0, [(cI, .int), (cO, .object RX0), (cJ, .long)]), rfl, ⟨e2, (congrArg (fun X : CS => ((cW cI cJ cO h xa ea0 pa0 X, [(cI, .int), (cO, .object RX0), (cJ, .long)]) : va_W × List (ClassId × FieldType))) e3), by omega, by omega⟩, ⟨by rw [ht]; exact hP, va_K.moved hW.alike hK, hD⟩⟩, hS.F ht⟩) hS.2.2 dX3_value_38
      · skip
        rw [if_neg c4] at hq
        refine lv_ldc (v := (-2147483648)) hx hb hown (hts _ kw_X3_value__constant_RX3_147_2147483648_) dX3_value_21 ?_
        obtain ⟨e2, e3⟩ := k_so hq
        subst hQ
        have hP : va_P D vwCl (cW cI cJ cO h xa ea0 pa0 C0) _ := hP
        have hD : va_D A (cW cI cJ cO h xa ea0 pa0 C0) := hD
        have hgE := congrArg (fun X : CS => gN X) e3
        have hgE : gN C0 = gN C' := hgE
        have hhE := congrArg (fun X : CS => gE X) e3
        have hhE : gE C0 = gE C' := hhE
        refine W.widen (k := 0) (n := 0) (by decide) (by decide) ?_
        exact W.iret (v := (-2147483648)) hx hb hr (fun t ht hW => ⟨⟨(-2147483648), (cW cI cJ cO h xa ea0 pa0 C0, [(cI, .int), (cO, .object RX0), (cJ, .long)]), rfl, ⟨e2, (congrArg (fun X : CS => ((cW cI cJ cO h xa ea0 pa0 X, [(cI, .int), (cO, .object RX0), (cJ, .long)]) : va_W × List (ClassId × FieldType))) e3), by omega, by omega⟩, ⟨by rw [ht]; exact hP, va_K.moved hW.alike hK, hD⟩⟩, hS.F ht⟩) hS.2.2 dX3_value_23
set_option maxRecDepth 100000 in
theorem kw_X3_done__fieldLink_RX3_154_ActHouse_doneCount_I_ : (.fieldLink RX3 154 "ActHouse" "doneCount" "I" : Cond) ∈ wsX3_done := by decide +kernel
set_option maxRecDepth 100000 in
theorem kin_X3_done_X3 : ∀ w ∈ u_ws RX3 TX3 18, w ∈ wsX3_done := by decide +kernel
set_option maxRecDepth 100000 in
theorem kw_X3_done__fieldLink_RX3_34_ActHouse_doneRow_I_ : (.fieldLink RX3 34 "ActHouse" "doneRow" "[I" : Cond) ∈ wsX3_done := by decide +kernel
def f_X3_done (x1 : Int32) (C0 : CS) : Option (Int32 × CS) := (if (f_X3_isBelow x1 (C0.1 13)) = 0 then some (((-1) : Int32), C0) else (if 0 ≤ x1.toInt ∧ x1.toInt < 80 then some (((C0.2.1 7) x1.toNatClampNeg), C0) else none))
set_option maxHeartbeats 4000000 in
set_option maxRecDepth 100000 in
theorem c_X3_done {l : Launch} {D : va_G} {sz : Nat} {cI cJ cO : ClassId} {h : Nat} {xa : Nat → Nat} {ea0 : Nat} {pa0 : Nat → Nat → Nat} {C0 C' : CS} {x1 r' : Int32} (hf : f_X3_done x1 C0 = some (r', C')) : Met l yX3_done wsX3_done ({ frames := 1, cells := 0, slots := 0, locals := 21 }) (va_Pc [.ref h, .int x1] (k_Pre D [(cI, .int), (cO, .object RX0), (cJ, .long)] (cW cI cJ cO h xa ea0 pa0 C0) sz)) (va_Qi (fun (r0 : Int32) (u : va_W × List (ClassId × FieldType)) => r0 = r' ∧ u = (cW cI cJ cO h xa ea0 pa0 C', [(cI, .int), (cO, .object RX0), (cJ, .long)]) ∧ gN C' = gN C0 ∧ gE C' = gE C0) (k_B D (va_A (cW cI cJ cO h xa ea0 pa0 C0) sz)) (va_A (cW cI cJ cO h xa ea0 pa0 C0) sz)) (0) (0) (va_A (cW cI cJ cO h xa ea0 pa0 C0) sz) := by
  refine Met.ofW (cc := cX3_done) (maxL := 2) (ret := (some .int)) (by decide) rfl ?_
  intro p e s m args below meth c s₁ B hml hv
  obtain ⟨rfl, hsz, hP, hK, hD0⟩ := hv
  have hx := B.exec
  have hb := B.bytes
  have hr := B.returns
  have hts := atoms_spec (ws := wsX3_done) B.pre
  have hown : s.vm.findClass RX3 = some m.cls := findClass_of_methodNamed B.named
  have hlocks := B.notSynchronized
  subst hsz
  have hD := hD0.self (sz := s.heap.size)
  generalize hAe : va_A (cW cI cJ cO h xa ea0 pa0 C0) s.heap.size = A at hD ⊢
  have hA : ∀ q : Nat, s.heap.size ≤ q → A q := fun q h => by rw [← hAe]; exact Or.inr h
  have hS : va_S A s.heap s.heap [] := va_S.rf
  have hl := lv_entry ([.ref h, .int x1]) (n := 2) (Nat.le_of_ble_eq_true rfl)
  rw [lg_entry_eq]
  generalize (lg_sl ([.ref h, .int x1]) ++ List.replicate (2 - (lg_sl ([.ref h, .int x1])).length) Slot.unset).toArray = ls at hl ⊢
  have hl : lv_has ls 2 [(0, .ref h), (1, .int x1)] := hl
  refine k_Q (fun Q hQ => ?_)
  have hg0 : gN C0 = gN C0 ∧ gE C0 = gE C0 := ⟨rfl, rfl⟩
  have hq := hf
  rw [f_X3_done] at hq
  refine lv_iload_n hx hb dX3_done_0 rfl (lv_at hl 1 rfl) ?_
  refine lv_aload_n hx hb dX3_done_1 rfl (lv_at hl 0 rfl) ?_
  refine va_get (D := D) (ci := 3) (v := .int (C0.1 13)) (C := RX3) (T := TX3) (N := 18) hx hb hts kin_X3_done_X3 hown hK hP 0 rfl rfl 13 (by decide) (hts _ kw_X3_done__fieldLink_RX3_154_ActHouse_doneCount_I_) (fun _ h9 => h9) rfl dX3_done_2 ?_
  have hFc := k_free hD hS hA
  refine va_calli (va_runS (As := [.int x1, .int (C0.1 13)]) (rest := []) ⟨hx, hb, hml, hown, hts⟩ (c_X3_isBelow (l := l) (D := D) (cI := cI) (cJ := cJ) (cO := cO) (h := h) (xa := xa) (ea0 := ea0) (pa0 := pa0) (C0 := C0) (hf := rfl)) (va_cwS 2 hts gX3_done_X3_isBelow rfl rfl rfl (by decide +kernel) ⟨Nat.le_of_ble_eq_true rfl, Nat.le_of_ble_eq_true rfl⟩) ⟨k_blind, fun U hU hW => ⟨rfl, k_pre hU hW hP hK hD⟩⟩ rfl rfl hl.1 rfl (lv_room (Nat.le_of_ble_eq_true rfl)) dX3_done_5 ⟨by decide, by decide⟩) hS (fun q _ h => hFc q h) hFc (fun r1 u t H1 locs ht hvm hw hB hz1 hk1 hS => ?_)
  obtain ⟨rfl, rfl⟩ := hw
  refine W.widen (k := 0) (n := 0) (Nat.le_refl _) (Nat.le_refl _) ?_
  obtain ⟨hP1, hK1, hD1⟩ := hB
  rw [ht] at hP1
  have hP := hP1
  have hD := k_weak hD1 hFc
  generalize H1 = H at hP hS ⊢
  have hP : va_P D vwCl (cW cI cJ cO h xa ea0 pa0 C0) _ := hP
  have hD : va_D A (cW cI cJ cO h xa ea0 pa0 C0) := hD
  refine lv_if_eq (tgt := 20) hx hb dX3_done_8 (by decide) (fun c2 => ?_) (fun c2 => ?_)
  · skip
    rw [if_pos c2] at hq
    refine lv_iconst (v := (-1)) hx hb dX3_done_20 (by decide) ?_
    obtain ⟨e2, e3⟩ := k_so hq
    subst hQ
    have hP : va_P D vwCl (cW cI cJ cO h xa ea0 pa0 C0) _ := hP
    have hD : va_D A (cW cI cJ cO h xa ea0 pa0 C0) := hD
    have hgE := congrArg (fun X : CS => gN X) e3
    have hgE : gN C0 = gN C' := hgE
    have hhE := congrArg (fun X : CS => gE X) e3
    have hhE : gE C0 = gE C' := hhE
    refine W.widen (k := 0) (n := 0) (by decide) (by decide) ?_
    exact W.iret (v := (-1)) hx hb hr (fun t ht hW => ⟨⟨(-1), (cW cI cJ cO h xa ea0 pa0 C0, [(cI, .int), (cO, .object RX0), (cJ, .long)]), rfl, ⟨e2, (congrArg (fun X : CS => ((cW cI cJ cO h xa ea0 pa0 X, [(cI, .int), (cO, .object RX0), (cJ, .long)]) : va_W × List (ClassId × FieldType))) e3), by omega, by omega⟩, ⟨by rw [ht]; exact hP, va_K.moved hW.alike hK, hD⟩⟩, hS.F ht⟩) hS.2.2 dX3_done_21
  · skip
    rw [if_neg c2] at hq
    refine lv_aload_n hx hb dX3_done_11 rfl (lv_at hl 0 rfl) ?_
    refine va_get (D := D) (ci := 3) (v := .ref (xa 7)) (C := RX3) (T := TX3) (N := 18) hx hb hts kin_X3_done_X3 hown hK hP 0 rfl rfl 7 (by decide) (hts _ kw_X3_done__fieldLink_RX3_34_ActHouse_doneRow_I_) (fun _ h9 => h9) rfl dX3_done_12 ?_
    refine lv_iload_n hx hb dX3_done_15 rfl (lv_at hl 1 rfl) ?_
    obtain ⟨b3, hq⟩ := k_if hq
    refine va_iald hx hb hK hP 8 0 (f := (C0.2.1 7)) rfl rfl (k_in b3.1 b3.2) dX3_done_16 ?_
    refine lv_goto (tgt := 21) hx hb dX3_done_17 (by decide) ?_
    obtain ⟨e2, e3⟩ := k_so hq
    subst hQ
    have hP : va_P D vwCl (cW cI cJ cO h xa ea0 pa0 C0) _ := hP
    have hD : va_D A (cW cI cJ cO h xa ea0 pa0 C0) := hD
    have hgE := congrArg (fun X : CS => gN X) e3
    have hgE : gN C0 = gN C' := hgE
    have hhE := congrArg (fun X : CS => gE X) e3
    have hhE : gE C0 = gE C' := hhE
    refine W.widen (k := 0) (n := 0) (by decide) (by decide) ?_
    exact W.iret (v := (C0.2.1 7) x1.toNatClampNeg) hx hb hr (fun t ht hW => ⟨⟨(C0.2.1 7) x1.toNatClampNeg, (cW cI cJ cO h xa ea0 pa0 C0, [(cI, .int), (cO, .object RX0), (cJ, .long)]), rfl, ⟨e2, (congrArg (fun X : CS => ((cW cI cJ cO h xa ea0 pa0 X, [(cI, .int), (cO, .object RX0), (cJ, .long)]) : va_W × List (ClassId × FieldType))) e3), by omega, by omega⟩, ⟨by rw [ht]; exact hP, va_K.moved hW.alike hK, hD⟩⟩, hS.F ht⟩) hS.2.2 dX3_done_21
set_option maxRecDepth 100000 in
theorem kw_X3_log__fieldLink_RX3_46_ActHouse_book_LActHouse_LogBook_ : (.fieldLink RX3 46 "ActHouse" "book" "LActHouse$LogBook;" : Cond) ∈ wsX3_log := by decide +kernel
set_option maxRecDepth 100000 in
theorem kin_X3_log_X3 : ∀ w ∈ u_ws RX3 TX3 18, w ∈ wsX3_log := by decide +kernel
def f_X3_log (x1 : Int32) (x2 : Int32) (C0 : CS) : Option (Int32 × CS) := (k_bind (f_X1_tell x1 x2 C0) fun r1 C1 => some (r1, C1))
set_option maxHeartbeats 4000000 in
set_option maxRecDepth 100000 in
theorem c_X3_log {l : Launch} {D : va_G} {sz : Nat} {cI cJ cO : ClassId} {h : Nat} {xa : Nat → Nat} {ea0 : Nat} {pa0 : Nat → Nat → Nat} {C0 C' : CS} {x1 x2 r' : Int32} (hf : f_X3_log x1 x2 C0 = some (r', C')) : Met l yX3_log wsX3_log ({ frames := 1, cells := 0, slots := 0, locals := 23 }) (va_Pc [.ref h, .int x1, .int x2] (k_Pre D [(cI, .int), (cO, .object RX0), (cJ, .long)] (cW cI cJ cO h xa ea0 pa0 C0) sz)) (va_Qi (fun (r0 : Int32) (u : va_W × List (ClassId × FieldType)) => r0 = r' ∧ u = (cW cI cJ cO h xa ea0 pa0 C', [(cI, .int), (cO, .object RX0), (cJ, .long)]) ∧ gN C' = gN C0 ∧ gE C' = gE C0) (k_B D (va_A (cW cI cJ cO h xa ea0 pa0 C0) sz)) (va_A (cW cI cJ cO h xa ea0 pa0 C0) sz)) (0) (0) (va_A (cW cI cJ cO h xa ea0 pa0 C0) sz) := by
  refine Met.ofW (cc := cX3_log) (maxL := 3) (ret := (some .int)) (by decide) rfl ?_
  intro p e s m args below meth c s₁ B hml hv
  obtain ⟨rfl, hsz, hP, hK, hD0⟩ := hv
  have hx := B.exec
  have hb := B.bytes
  have hr := B.returns
  have hts := atoms_spec (ws := wsX3_log) B.pre
  have hown : s.vm.findClass RX3 = some m.cls := findClass_of_methodNamed B.named
  have hlocks := B.notSynchronized
  subst hsz
  have hD := hD0.self (sz := s.heap.size)
  generalize hAe : va_A (cW cI cJ cO h xa ea0 pa0 C0) s.heap.size = A at hD ⊢
  have hA : ∀ q : Nat, s.heap.size ≤ q → A q := fun q h => by rw [← hAe]; exact Or.inr h
  have hS : va_S A s.heap s.heap [] := va_S.rf
  have hl := lv_entry ([.ref h, .int x1, .int x2]) (n := 3) (Nat.le_of_ble_eq_true rfl)
  rw [lg_entry_eq]
  generalize (lg_sl ([.ref h, .int x1, .int x2]) ++ List.replicate (3 - (lg_sl ([.ref h, .int x1, .int x2])).length) Slot.unset).toArray = ls at hl ⊢
  have hl : lv_has ls 3 [(0, .ref h), (1, .int x1), (2, .int x2)] := hl
  refine k_Q (fun Q hQ => ?_)
  have hg0 : gN C0 = gN C0 ∧ gE C0 = gE C0 := ⟨rfl, rfl⟩
  have hq := hf
  rw [f_X3_log] at hq
  refine lv_aload_n hx hb dX3_log_0 rfl (lv_at hl 0 rfl) ?_
  refine va_get (D := D) (ci := 3) (v := .ref (xa 10)) (C := RX3) (T := TX3) (N := 18) hx hb hts kin_X3_log_X3 hown hK hP 0 rfl rfl 10 (by decide) (hts _ kw_X3_log__fieldLink_RX3_46_ActHouse_book_LActHouse_LogBook_) (fun _ h9 => h9) rfl dX3_log_1 ?_
  refine lv_iload_n hx hb dX3_log_4 rfl (lv_at hl 1 rfl) ?_
  refine lv_iload_n hx hb dX3_log_5 rfl (lv_at hl 2 rfl) ?_
  obtain ⟨q1, C1, h1, hq⟩ := k_bd hq
  have hFc := k_free hD hS hA
  refine va_calli (va_runV (As := [.int x1, .int x2]) (rest := []) ⟨hx, hb, hml, hown, hts⟩ (c_X1_tell (l := l) (D := D) (cI := cI) (cJ := cJ) (cO := cO) (h := h) (xa := xa) (ea0 := ea0) (pa0 := pa0)  (hf := h1)) (cwV 2 hts gX3_log_X1_tell rfl rfl rfl (by decide +kernel) ⟨Nat.le_of_ble_eq_true rfl, Nat.le_of_ble_eq_true rfl⟩) ⟨k_blind, va_recv hK hP (ci := 1) (q0 := 11) rfl rfl, fun U hU hW => ⟨rfl, k_pre hU hW hP hK hD⟩⟩ rfl rfl hl.1 rfl (lv_room (Nat.le_of_ble_eq_true rfl)) dX3_log_6 ⟨by decide, by decide⟩) hS (fun q _ h => hFc q h) hFc (fun r1 u t H1 locs ht hvm hw hB hz1 hk1 hS => ?_)
  obtain ⟨rfl, rfl, hg1, hh1⟩ := hw
  have hg1 : gN C1 = gN C0 := hg1
  have hh1 : gE C1 = gE C0 := hh1
  refine W.widen (k := 0) (n := 0) (Nat.le_refl _) (Nat.le_refl _) ?_
  obtain ⟨hP1, hK1, hD1⟩ := hB
  rw [ht] at hP1
  have hP := hP1
  have hD := k_weak hD1 hFc
  generalize H1 = H at hP hS ⊢
  have hP : va_P D vwCl (cW cI cJ cO h xa ea0 pa0 C1) _ := hP
  have hD : va_D A (cW cI cJ cO h xa ea0 pa0 C1) := hD
  obtain ⟨e2, e3⟩ := k_so hq
  subst hQ
  have hP : va_P D vwCl (cW cI cJ cO h xa ea0 pa0 C1) _ := hP
  have hD : va_D A (cW cI cJ cO h xa ea0 pa0 C1) := hD
  have hgE := congrArg (fun X : CS => gN X) e3
  have hgE : gN C1 = gN C' := hgE
  have hhE := congrArg (fun X : CS => gE X) e3
  have hhE : gE C1 = gE C' := hhE
  refine W.widen (k := 0) (n := 0) (by decide) (by decide) ?_
  exact W.iret (v := r1) hx hb hr (fun t ht hW => ⟨⟨r1, (cW cI cJ cO h xa ea0 pa0 C1, [(cI, .int), (cO, .object RX0), (cJ, .long)]), rfl, ⟨e2, (congrArg (fun X : CS => ((cW cI cJ cO h xa ea0 pa0 X, [(cI, .int), (cO, .object RX0), (cJ, .long)]) : va_W × List (ClassId × FieldType))) e3), by omega, by omega⟩, ⟨by rw [ht]; exact hP, va_K.moved hW.alike hK, hD⟩⟩, hS.F ht⟩) hS.2.2 dX3_log_9
set_option maxRecDepth 100000 in
theorem kw_X3_count__fieldLink_RX3_79_ActHouse_now_I_ : (.fieldLink RX3 79 "ActHouse" "now" "I" : Cond) ∈ wsX3_count := by decide +kernel
set_option maxRecDepth 100000 in
theorem kin_X3_count_X3 : ∀ w ∈ u_ws RX3 TX3 18, w ∈ wsX3_count := by decide +kernel
set_option maxRecDepth 100000 in
theorem kw_X3_count__fieldLink_RX3_102_ActHouse_actCount_I_ : (.fieldLink RX3 102 "ActHouse" "actCount" "I" : Cond) ∈ wsX3_count := by decide +kernel
set_option maxRecDepth 100000 in
theorem kw_X3_count__fieldLink_RX3_46_ActHouse_book_LActHouse_LogBook_ : (.fieldLink RX3 46 "ActHouse" "book" "LActHouse$LogBook;" : Cond) ∈ wsX3_count := by decide +kernel
set_option maxRecDepth 100000 in
theorem kw_X3_count__fieldLink_RX3_86_ActHouse_LogBook_size_I_ : (.fieldLink RX3 86 "ActHouse$LogBook" "size" "I" : Cond) ∈ wsX3_count := by decide +kernel
set_option maxRecDepth 100000 in
theorem kin_X3_count_X1 : ∀ w ∈ u_ws RX1 TX1 3, w ∈ wsX3_count := by decide +kernel
set_option maxRecDepth 100000 in
theorem kw_X3_count__fieldLink_RX3_89_ActHouse_LogBook_kept_I_ : (.fieldLink RX3 89 "ActHouse$LogBook" "kept" "I" : Cond) ∈ wsX3_count := by decide +kernel
set_option maxRecDepth 100000 in
theorem kw_X3_count__fieldLink_RX3_154_ActHouse_doneCount_I_ : (.fieldLink RX3 154 "ActHouse" "doneCount" "I" : Cond) ∈ wsX3_count := by decide +kernel
set_option maxRecDepth 100000 in
theorem kw_X3_count__fieldLink_RX3_167_ActHouse_rings_I_ : (.fieldLink RX3 167 "ActHouse" "rings" "I" : Cond) ∈ wsX3_count := by decide +kernel
set_option maxRecDepth 100000 in
theorem kw_X3_count__fieldLink_RX3_99_ActHouse_falls_I_ : (.fieldLink RX3 99 "ActHouse" "falls" "I" : Cond) ∈ wsX3_count := by decide +kernel
def f_X3_count (x1 : Int32) (C0 : CS) : Option (Int32 × CS) := (if x1.toInt = 0 then some ((C0.1 15), C0) else (if x1.toInt = 1 then some ((C0.1 12), C0) else (if x1.toInt = 2 then some ((C0.1 21), C0) else (if x1.toInt = 3 then some ((C0.1 22), C0) else (if x1.toInt = 4 then (k_bind (f_X3_countState (0 : Int32) C0) fun r2 C2 => some (r2, C2)) else (if x1.toInt = 5 then (k_bind (f_X3_countState (1 : Int32) C0) fun r3 C3 => some (r3, C3)) else (if x1.toInt = 6 then some ((C0.1 13), C0) else (if x1.toInt = 7 then some ((C0.1 16), C0) else (if x1.toInt = 8 then some ((C0.1 17), C0) else some (((-1) : Int32), C0))))))))))
set_option maxHeartbeats 4000000 in
set_option maxRecDepth 100000 in
theorem c_X3_count {l : Launch} {D : va_G} {sz : Nat} {cI cJ cO : ClassId} {h : Nat} {xa : Nat → Nat} {ea0 : Nat} {pa0 : Nat → Nat → Nat} {C0 C' : CS} {x1 r' : Int32} (hf : f_X3_count x1 C0 = some (r', C')) : Met l yX3_count wsX3_count ({ frames := 1, cells := 0, slots := 0, locals := 23 }) (va_Pc [.ref h, .int x1] (k_Pre D [(cI, .int), (cO, .object RX0), (cJ, .long)] (cW cI cJ cO h xa ea0 pa0 C0) sz)) (va_Qi (fun (r0 : Int32) (u : va_W × List (ClassId × FieldType)) => r0 = r' ∧ u = (cW cI cJ cO h xa ea0 pa0 C', [(cI, .int), (cO, .object RX0), (cJ, .long)]) ∧ gN C' = gN C0 ∧ gE C' = gE C0) (k_B D (va_A (cW cI cJ cO h xa ea0 pa0 C0) sz)) (va_A (cW cI cJ cO h xa ea0 pa0 C0) sz)) (0) (0) (va_A (cW cI cJ cO h xa ea0 pa0 C0) sz) := by
  refine Met.ofW (cc := cX3_count) (maxL := 2) (ret := (some .int)) (by decide) rfl ?_
  intro p e s m args below meth c s₁ B hml hv
  obtain ⟨rfl, hsz, hP, hK, hD0⟩ := hv
  have hx := B.exec
  have hb := B.bytes
  have hr := B.returns
  have hts := atoms_spec (ws := wsX3_count) B.pre
  have hown : s.vm.findClass RX3 = some m.cls := findClass_of_methodNamed B.named
  have hlocks := B.notSynchronized
  subst hsz
  have hD := hD0.self (sz := s.heap.size)
  generalize hAe : va_A (cW cI cJ cO h xa ea0 pa0 C0) s.heap.size = A at hD ⊢
  have hA : ∀ q : Nat, s.heap.size ≤ q → A q := fun q h => by rw [← hAe]; exact Or.inr h
  have hS : va_S A s.heap s.heap [] := va_S.rf
  have hl := lv_entry ([.ref h, .int x1]) (n := 2) (Nat.le_of_ble_eq_true rfl)
  rw [lg_entry_eq]
  generalize (lg_sl ([.ref h, .int x1]) ++ List.replicate (2 - (lg_sl ([.ref h, .int x1])).length) Slot.unset).toArray = ls at hl ⊢
  have hl : lv_has ls 2 [(0, .ref h), (1, .int x1)] := hl
  refine k_Q (fun Q hQ => ?_)
  have hg0 : gN C0 = gN C0 ∧ gE C0 = gE C0 := ⟨rfl, rfl⟩
  have hq := hf
  rw [f_X3_count] at hq
  refine lv_iload_n hx hb dX3_count_0 rfl (lv_at hl 1 rfl) ?_
  by_cases hs1_0 : x1.toInt = 0
  · skip
    rw [if_pos hs1_0] at hq
    refine lv_tableIn (off := 51) (tgt := 52) hx hb dX3_count_1 (by rw [hs1_0]; decide) (by rw [hs1_0]; decide) (by rw [hs1_0]; rfl) (by decide) ?_
    refine lv_aload_n hx hb dX3_count_52 rfl (lv_at hl 0 rfl) ?_
    refine va_get (D := D) (ci := 3) (v := .int (C0.1 15)) (C := RX3) (T := TX3) (N := 18) hx hb hts kin_X3_count_X3 hown hK hP 0 rfl rfl 15 (by decide) (hts _ kw_X3_count__fieldLink_RX3_79_ActHouse_now_I_) (fun _ h9 => h9) rfl dX3_count_53 ?_
    obtain ⟨e2, e3⟩ := k_so hq
    subst hQ
    have hP : va_P D vwCl (cW cI cJ cO h xa ea0 pa0 C0) _ := hP
    have hD : va_D A (cW cI cJ cO h xa ea0 pa0 C0) := hD
    have hgE := congrArg (fun X : CS => gN X) e3
    have hgE : gN C0 = gN C' := hgE
    have hhE := congrArg (fun X : CS => gE X) e3
    have hhE : gE C0 = gE C' := hhE
    refine W.widen (k := 0) (n := 0) (by decide) (by decide) ?_
    exact W.iret (v := C0.1 15) hx hb hr (fun t ht hW => ⟨⟨C0.1 15, (cW cI cJ cO h xa ea0 pa0 C0, [(cI, .int), (cO, .object RX0), (cJ, .long)]), rfl, ⟨e2, (congrArg (fun X : CS => ((cW cI cJ cO h xa ea0 pa0 X, [(cI, .int), (cO, .object RX0), (cJ, .long)]) : va_W × List (ClassId × FieldType))) e3), by omega, by omega⟩, ⟨by rw [ht]; exact hP, va_K.moved hW.alike hK, hD⟩⟩, hS.F ht⟩) hS.2.2 dX3_count_56
  rw [if_neg hs1_0] at hq
  by_cases hs1_1 : x1.toInt = 1
  · skip
    rw [if_pos hs1_1] at hq
    refine lv_tableIn (off := 56) (tgt := 57) hx hb dX3_count_1 (by rw [hs1_1]; decide) (by rw [hs1_1]; decide) (by rw [hs1_1]; rfl) (by decide) ?_
    refine lv_aload_n hx hb dX3_count_57 rfl (lv_at hl 0 rfl) ?_
    refine va_get (D := D) (ci := 3) (v := .int (C0.1 12)) (C := RX3) (T := TX3) (N := 18) hx hb hts kin_X3_count_X3 hown hK hP 0 rfl rfl 12 (by decide) (hts _ kw_X3_count__fieldLink_RX3_102_ActHouse_actCount_I_) (fun _ h9 => h9) rfl dX3_count_58 ?_
    obtain ⟨e2, e3⟩ := k_so hq
    subst hQ
    have hP : va_P D vwCl (cW cI cJ cO h xa ea0 pa0 C0) _ := hP
    have hD : va_D A (cW cI cJ cO h xa ea0 pa0 C0) := hD
    have hgE := congrArg (fun X : CS => gN X) e3
    have hgE : gN C0 = gN C' := hgE
    have hhE := congrArg (fun X : CS => gE X) e3
    have hhE : gE C0 = gE C' := hhE
    refine W.widen (k := 0) (n := 0) (by decide) (by decide) ?_
    exact W.iret (v := C0.1 12) hx hb hr (fun t ht hW => ⟨⟨C0.1 12, (cW cI cJ cO h xa ea0 pa0 C0, [(cI, .int), (cO, .object RX0), (cJ, .long)]), rfl, ⟨e2, (congrArg (fun X : CS => ((cW cI cJ cO h xa ea0 pa0 X, [(cI, .int), (cO, .object RX0), (cJ, .long)]) : va_W × List (ClassId × FieldType))) e3), by omega, by omega⟩, ⟨by rw [ht]; exact hP, va_K.moved hW.alike hK, hD⟩⟩, hS.F ht⟩) hS.2.2 dX3_count_61
  rw [if_neg hs1_1] at hq
  by_cases hs1_2 : x1.toInt = 2
  · skip
    rw [if_pos hs1_2] at hq
    refine lv_tableIn (off := 61) (tgt := 62) hx hb dX3_count_1 (by rw [hs1_2]; decide) (by rw [hs1_2]; decide) (by rw [hs1_2]; rfl) (by decide) ?_
    refine lv_aload_n hx hb dX3_count_62 rfl (lv_at hl 0 rfl) ?_
    refine va_get (D := D) (ci := 3) (v := .ref (xa 10)) (C := RX3) (T := TX3) (N := 18) hx hb hts kin_X3_count_X3 hown hK hP 0 rfl rfl 10 (by decide) (hts _ kw_X3_count__fieldLink_RX3_46_ActHouse_book_LActHouse_LogBook_) (fun _ h9 => h9) rfl dX3_count_63 ?_
    refine va_get (D := D) (ci := 1) (v := .int (C0.1 21)) (C := RX1) (T := TX1) (N := 3) hx hb hts kin_X3_count_X1 hown hK hP 11 rfl rfl 1 (by decide) (hts _ kw_X3_count__fieldLink_RX3_86_ActHouse_LogBook_size_I_) (fun _ h9 => h9) rfl dX3_count_66 ?_
    obtain ⟨e2, e3⟩ := k_so hq
    subst hQ
    have hP : va_P D vwCl (cW cI cJ cO h xa ea0 pa0 C0) _ := hP
    have hD : va_D A (cW cI cJ cO h xa ea0 pa0 C0) := hD
    have hgE := congrArg (fun X : CS => gN X) e3
    have hgE : gN C0 = gN C' := hgE
    have hhE := congrArg (fun X : CS => gE X) e3
    have hhE : gE C0 = gE C' := hhE
    refine W.widen (k := 0) (n := 0) (by decide) (by decide) ?_
    exact W.iret (v := C0.1 21) hx hb hr (fun t ht hW => ⟨⟨C0.1 21, (cW cI cJ cO h xa ea0 pa0 C0, [(cI, .int), (cO, .object RX0), (cJ, .long)]), rfl, ⟨e2, (congrArg (fun X : CS => ((cW cI cJ cO h xa ea0 pa0 X, [(cI, .int), (cO, .object RX0), (cJ, .long)]) : va_W × List (ClassId × FieldType))) e3), by omega, by omega⟩, ⟨by rw [ht]; exact hP, va_K.moved hW.alike hK, hD⟩⟩, hS.F ht⟩) hS.2.2 dX3_count_69
  rw [if_neg hs1_2] at hq
  by_cases hs1_3 : x1.toInt = 3
  · skip
    rw [if_pos hs1_3] at hq
    refine lv_tableIn (off := 69) (tgt := 70) hx hb dX3_count_1 (by rw [hs1_3]; decide) (by rw [hs1_3]; decide) (by rw [hs1_3]; rfl) (by decide) ?_
    refine lv_aload_n hx hb dX3_count_70 rfl (lv_at hl 0 rfl) ?_
    refine va_get (D := D) (ci := 3) (v := .ref (xa 10)) (C := RX3) (T := TX3) (N := 18) hx hb hts kin_X3_count_X3 hown hK hP 0 rfl rfl 10 (by decide) (hts _ kw_X3_count__fieldLink_RX3_46_ActHouse_book_LActHouse_LogBook_) (fun _ h9 => h9) rfl dX3_count_71 ?_
    refine va_get (D := D) (ci := 1) (v := .int (C0.1 22)) (C := RX1) (T := TX1) (N := 3) hx hb hts kin_X3_count_X1 hown hK hP 11 rfl rfl 2 (by decide) (hts _ kw_X3_count__fieldLink_RX3_89_ActHouse_LogBook_kept_I_) (fun _ h9 => h9) rfl dX3_count_74 ?_
    obtain ⟨e2, e3⟩ := k_so hq
    subst hQ
    have hP : va_P D vwCl (cW cI cJ cO h xa ea0 pa0 C0) _ := hP
    have hD : va_D A (cW cI cJ cO h xa ea0 pa0 C0) := hD
    have hgE := congrArg (fun X : CS => gN X) e3
    have hgE : gN C0 = gN C' := hgE
    have hhE := congrArg (fun X : CS => gE X) e3
    have hhE : gE C0 = gE C' := hhE
    refine W.widen (k := 0) (n := 0) (by decide) (by decide) ?_
    exact W.iret (v := C0.1 22) hx hb hr (fun t ht hW => ⟨⟨C0.1 22, (cW cI cJ cO h xa ea0 pa0 C0, [(cI, .int), (cO, .object RX0), (cJ, .long)]), rfl, ⟨e2, (congrArg (fun X : CS => ((cW cI cJ cO h xa ea0 pa0 X, [(cI, .int), (cO, .object RX0), (cJ, .long)]) : va_W × List (ClassId × FieldType))) e3), by omega, by omega⟩, ⟨by rw [ht]; exact hP, va_K.moved hW.alike hK, hD⟩⟩, hS.F ht⟩) hS.2.2 dX3_count_77
  rw [if_neg hs1_3] at hq
  by_cases hs1_4 : x1.toInt = 4
  · skip
    rw [if_pos hs1_4] at hq
    refine lv_tableIn (off := 77) (tgt := 78) hx hb dX3_count_1 (by rw [hs1_4]; decide) (by rw [hs1_4]; decide) (by rw [hs1_4]; rfl) (by decide) ?_
    refine lv_aload_n hx hb dX3_count_78 rfl (lv_at hl 0 rfl) ?_
    refine lv_iconst (v := 0) hx hb dX3_count_79 (by decide) ?_
    obtain ⟨q2, C2, h2, hq⟩ := k_bd hq
    have hFc := k_free hD hS hA
    refine va_calli (va_runV (As := [.int 0]) (rest := []) ⟨hx, hb, hml, hown, hts⟩ (c_X3_countState (l := l) (D := D) (cI := cI) (cJ := cJ) (cO := cO) (h := h) (xa := xa) (ea0 := ea0) (pa0 := pa0)  (hf := h2)) (cwV 1 hts gX3_count_X3_countState rfl rfl rfl (by decide +kernel) ⟨Nat.le_of_ble_eq_true rfl, Nat.le_of_ble_eq_true rfl⟩) ⟨k_blind, va_recv hK hP (ci := 3) (q0 := 0) rfl rfl, fun U hU hW => ⟨rfl, k_pre hU hW hP hK hD⟩⟩ rfl rfl hl.1 rfl (lv_room (Nat.le_of_ble_eq_true rfl)) dX3_count_80 ⟨by decide, by decide⟩) hS (fun q _ h => hFc q h) hFc (fun r2 u t H1 locs ht hvm hw hB hz1 hk1 hS => ?_)
    obtain ⟨rfl, rfl, hg2, hh2⟩ := hw
    have hg2 : gN C2 = gN C0 := hg2
    have hh2 : gE C2 = gE C0 := hh2
    refine W.widen (k := 0) (n := 0) (Nat.le_refl _) (Nat.le_refl _) ?_
    obtain ⟨hP1, hK1, hD1⟩ := hB
    rw [ht] at hP1
    have hP := hP1
    have hD := k_weak hD1 hFc
    generalize H1 = H at hP hS ⊢
    have hP : va_P D vwCl (cW cI cJ cO h xa ea0 pa0 C2) _ := hP
    have hD : va_D A (cW cI cJ cO h xa ea0 pa0 C2) := hD
    obtain ⟨e2, e3⟩ := k_so hq
    subst hQ
    have hP : va_P D vwCl (cW cI cJ cO h xa ea0 pa0 C2) _ := hP
    have hD : va_D A (cW cI cJ cO h xa ea0 pa0 C2) := hD
    have hgE := congrArg (fun X : CS => gN X) e3
    have hgE : gN C2 = gN C' := hgE
    have hhE := congrArg (fun X : CS => gE X) e3
    have hhE : gE C2 = gE C' := hhE
    refine W.widen (k := 0) (n := 0) (by decide) (by decide) ?_
    exact W.iret (v := r2) hx hb hr (fun t ht hW => ⟨⟨r2, (cW cI cJ cO h xa ea0 pa0 C2, [(cI, .int), (cO, .object RX0), (cJ, .long)]), rfl, ⟨e2, (congrArg (fun X : CS => ((cW cI cJ cO h xa ea0 pa0 X, [(cI, .int), (cO, .object RX0), (cJ, .long)]) : va_W × List (ClassId × FieldType))) e3), by omega, by omega⟩, ⟨by rw [ht]; exact hP, va_K.moved hW.alike hK, hD⟩⟩, hS.F ht⟩) hS.2.2 dX3_count_83
  rw [if_neg hs1_4] at hq
  by_cases hs1_5 : x1.toInt = 5
  · skip
    rw [if_pos hs1_5] at hq
    refine lv_tableIn (off := 83) (tgt := 84) hx hb dX3_count_1 (by rw [hs1_5]; decide) (by rw [hs1_5]; decide) (by rw [hs1_5]; rfl) (by decide) ?_
    refine lv_aload_n hx hb dX3_count_84 rfl (lv_at hl 0 rfl) ?_
    refine lv_iconst (v := 1) hx hb dX3_count_85 (by decide) ?_
    obtain ⟨q3, C3, h3, hq⟩ := k_bd hq
    have hFc := k_free hD hS hA
    refine va_calli (va_runV (As := [.int 1]) (rest := []) ⟨hx, hb, hml, hown, hts⟩ (c_X3_countState (l := l) (D := D) (cI := cI) (cJ := cJ) (cO := cO) (h := h) (xa := xa) (ea0 := ea0) (pa0 := pa0)  (hf := h3)) (cwV 1 hts gX3_count_X3_countState rfl rfl rfl (by decide +kernel) ⟨Nat.le_of_ble_eq_true rfl, Nat.le_of_ble_eq_true rfl⟩) ⟨k_blind, va_recv hK hP (ci := 3) (q0 := 0) rfl rfl, fun U hU hW => ⟨rfl, k_pre hU hW hP hK hD⟩⟩ rfl rfl hl.1 rfl (lv_room (Nat.le_of_ble_eq_true rfl)) dX3_count_86 ⟨by decide, by decide⟩) hS (fun q _ h => hFc q h) hFc (fun r3 u t H1 locs ht hvm hw hB hz1 hk1 hS => ?_)
    obtain ⟨rfl, rfl, hg3, hh3⟩ := hw
    have hg3 : gN C3 = gN C0 := hg3
    have hh3 : gE C3 = gE C0 := hh3
    refine W.widen (k := 0) (n := 0) (Nat.le_refl _) (Nat.le_refl _) ?_
    obtain ⟨hP1, hK1, hD1⟩ := hB
    rw [ht] at hP1
    have hP := hP1
    have hD := k_weak hD1 hFc
    generalize H1 = H at hP hS ⊢
    have hP : va_P D vwCl (cW cI cJ cO h xa ea0 pa0 C3) _ := hP
    have hD : va_D A (cW cI cJ cO h xa ea0 pa0 C3) := hD
    obtain ⟨e2, e3⟩ := k_so hq
    subst hQ
    have hP : va_P D vwCl (cW cI cJ cO h xa ea0 pa0 C3) _ := hP
    have hD : va_D A (cW cI cJ cO h xa ea0 pa0 C3) := hD
    have hgE := congrArg (fun X : CS => gN X) e3
    have hgE : gN C3 = gN C' := hgE
    have hhE := congrArg (fun X : CS => gE X) e3
    have hhE : gE C3 = gE C' := hhE
    refine W.widen (k := 0) (n := 0) (by decide) (by decide) ?_
    exact W.iret (v := r3) hx hb hr (fun t ht hW => ⟨⟨r3, (cW cI cJ cO h xa ea0 pa0 C3, [(cI, .int), (cO, .object RX0), (cJ, .long)]), rfl, ⟨e2, (congrArg (fun X : CS => ((cW cI cJ cO h xa ea0 pa0 X, [(cI, .int), (cO, .object RX0), (cJ, .long)]) : va_W × List (ClassId × FieldType))) e3), by omega, by omega⟩, ⟨by rw [ht]; exact hP, va_K.moved hW.alike hK, hD⟩⟩, hS.F ht⟩) hS.2.2 dX3_count_89
  rw [if_neg hs1_5] at hq
  by_cases hs1_6 : x1.toInt = 6
  · skip
    rw [if_pos hs1_6] at hq
    refine lv_tableIn (off := 89) (tgt := 90) hx hb dX3_count_1 (by rw [hs1_6]; decide) (by rw [hs1_6]; decide) (by rw [hs1_6]; rfl) (by decide) ?_
    refine lv_aload_n hx hb dX3_count_90 rfl (lv_at hl 0 rfl) ?_
    refine va_get (D := D) (ci := 3) (v := .int (C0.1 13)) (C := RX3) (T := TX3) (N := 18) hx hb hts kin_X3_count_X3 hown hK hP 0 rfl rfl 13 (by decide) (hts _ kw_X3_count__fieldLink_RX3_154_ActHouse_doneCount_I_) (fun _ h9 => h9) rfl dX3_count_91 ?_
    obtain ⟨e2, e3⟩ := k_so hq
    subst hQ
    have hP : va_P D vwCl (cW cI cJ cO h xa ea0 pa0 C0) _ := hP
    have hD : va_D A (cW cI cJ cO h xa ea0 pa0 C0) := hD
    have hgE := congrArg (fun X : CS => gN X) e3
    have hgE : gN C0 = gN C' := hgE
    have hhE := congrArg (fun X : CS => gE X) e3
    have hhE : gE C0 = gE C' := hhE
    refine W.widen (k := 0) (n := 0) (by decide) (by decide) ?_
    exact W.iret (v := C0.1 13) hx hb hr (fun t ht hW => ⟨⟨C0.1 13, (cW cI cJ cO h xa ea0 pa0 C0, [(cI, .int), (cO, .object RX0), (cJ, .long)]), rfl, ⟨e2, (congrArg (fun X : CS => ((cW cI cJ cO h xa ea0 pa0 X, [(cI, .int), (cO, .object RX0), (cJ, .long)]) : va_W × List (ClassId × FieldType))) e3), by omega, by omega⟩, ⟨by rw [ht]; exact hP, va_K.moved hW.alike hK, hD⟩⟩, hS.F ht⟩) hS.2.2 dX3_count_94
  rw [if_neg hs1_6] at hq
  by_cases hs1_7 : x1.toInt = 7
  · skip
    rw [if_pos hs1_7] at hq
    refine lv_tableIn (off := 94) (tgt := 95) hx hb dX3_count_1 (by rw [hs1_7]; decide) (by rw [hs1_7]; decide) (by rw [hs1_7]; rfl) (by decide) ?_
    refine lv_aload_n hx hb dX3_count_95 rfl (lv_at hl 0 rfl) ?_
    refine va_get (D := D) (ci := 3) (v := .int (C0.1 16)) (C := RX3) (T := TX3) (N := 18) hx hb hts kin_X3_count_X3 hown hK hP 0 rfl rfl 16 (by decide) (hts _ kw_X3_count__fieldLink_RX3_167_ActHouse_rings_I_) (fun _ h9 => h9) rfl dX3_count_96 ?_
    obtain ⟨e2, e3⟩ := k_so hq
    subst hQ
    have hP : va_P D vwCl (cW cI cJ cO h xa ea0 pa0 C0) _ := hP
    have hD : va_D A (cW cI cJ cO h xa ea0 pa0 C0) := hD
    have hgE := congrArg (fun X : CS => gN X) e3
    have hgE : gN C0 = gN C' := hgE
    have hhE := congrArg (fun X : CS => gE X) e3
    have hhE : gE C0 = gE C' := hhE
    refine W.widen (k := 0) (n := 0) (by decide) (by decide) ?_
    exact W.iret (v := C0.1 16) hx hb hr (fun t ht hW => ⟨⟨C0.1 16, (cW cI cJ cO h xa ea0 pa0 C0, [(cI, .int), (cO, .object RX0), (cJ, .long)]), rfl, ⟨e2, (congrArg (fun X : CS => ((cW cI cJ cO h xa ea0 pa0 X, [(cI, .int), (cO, .object RX0), (cJ, .long)]) : va_W × List (ClassId × FieldType))) e3), by omega, by omega⟩, ⟨by rw [ht]; exact hP, va_K.moved hW.alike hK, hD⟩⟩, hS.F ht⟩) hS.2.2 dX3_count_99
  rw [if_neg hs1_7] at hq
  by_cases hs1_8 : x1.toInt = 8
  · skip
    rw [if_pos hs1_8] at hq
    refine lv_tableIn (off := 99) (tgt := 100) hx hb dX3_count_1 (by rw [hs1_8]; decide) (by rw [hs1_8]; decide) (by rw [hs1_8]; rfl) (by decide) ?_
    refine lv_aload_n hx hb dX3_count_100 rfl (lv_at hl 0 rfl) ?_
    refine va_get (D := D) (ci := 3) (v := .int (C0.1 17)) (C := RX3) (T := TX3) (N := 18) hx hb hts kin_X3_count_X3 hown hK hP 0 rfl rfl 17 (by decide) (hts _ kw_X3_count__fieldLink_RX3_99_ActHouse_falls_I_) (fun _ h9 => h9) rfl dX3_count_101 ?_
    obtain ⟨e2, e3⟩ := k_so hq
    subst hQ
    have hP : va_P D vwCl (cW cI cJ cO h xa ea0 pa0 C0) _ := hP
    have hD : va_D A (cW cI cJ cO h xa ea0 pa0 C0) := hD
    have hgE := congrArg (fun X : CS => gN X) e3
    have hgE : gN C0 = gN C' := hgE
    have hhE := congrArg (fun X : CS => gE X) e3
    have hhE : gE C0 = gE C' := hhE
    refine W.widen (k := 0) (n := 0) (by decide) (by decide) ?_
    exact W.iret (v := C0.1 17) hx hb hr (fun t ht hW => ⟨⟨C0.1 17, (cW cI cJ cO h xa ea0 pa0 C0, [(cI, .int), (cO, .object RX0), (cJ, .long)]), rfl, ⟨e2, (congrArg (fun X : CS => ((cW cI cJ cO h xa ea0 pa0 X, [(cI, .int), (cO, .object RX0), (cJ, .long)]) : va_W × List (ClassId × FieldType))) e3), by omega, by omega⟩, ⟨by rw [ht]; exact hP, va_K.moved hW.alike hK, hD⟩⟩, hS.F ht⟩) hS.2.2 dX3_count_104
  rw [if_neg hs1_8] at hq
  refine lv_tableOut (tgt := 105) hx hb dX3_count_1 (by omega) (by decide) ?_
  refine lv_iconst (v := (-1)) hx hb dX3_count_105 (by decide) ?_
  obtain ⟨e2, e3⟩ := k_so hq
  subst hQ
  have hP : va_P D vwCl (cW cI cJ cO h xa ea0 pa0 C0) _ := hP
  have hD : va_D A (cW cI cJ cO h xa ea0 pa0 C0) := hD
  have hgE := congrArg (fun X : CS => gN X) e3
  have hgE : gN C0 = gN C' := hgE
  have hhE := congrArg (fun X : CS => gE X) e3
  have hhE : gE C0 = gE C' := hhE
  refine W.widen (k := 0) (n := 0) (by decide) (by decide) ?_
  exact W.iret (v := (-1)) hx hb hr (fun t ht hW => ⟨⟨(-1), (cW cI cJ cO h xa ea0 pa0 C0, [(cI, .int), (cO, .object RX0), (cJ, .long)]), rfl, ⟨e2, (congrArg (fun X : CS => ((cW cI cJ cO h xa ea0 pa0 X, [(cI, .int), (cO, .object RX0), (cJ, .long)]) : va_W × List (ClassId × FieldType))) e3), by omega, by omega⟩, ⟨by rw [ht]; exact hP, va_K.moved hW.alike hK, hD⟩⟩, hS.F ht⟩) hS.2.2 dX3_count_106
