set_option maxRecDepth 100000 in
theorem kw_X1_keepAll__fieldLink_RX1_15_ActHouse_LogBook_size_I_ : (.fieldLink RX1 15 "ActHouse$LogBook" "size" "I" : Cond) ∈ wsX1_keepAll := by decide +kernel
set_option maxRecDepth 100000 in
theorem kin_X1_keepAll_X1 : ∀ w ∈ u_ws RX1 TX1 3, w ∈ wsX1_keepAll := by decide +kernel
set_option maxRecDepth 100000 in
theorem kw_X1_keepAll__fieldLink_RX1_26_ActHouse_LogBook_kept_I_ : (.fieldLink RX1 26 "ActHouse$LogBook" "kept" "I" : Cond) ∈ wsX1_keepAll := by decide +kernel
def f_X1_keepAll  (C0 : CS) : Option (Int32 × CS) := (k_let (cN C0 22 (C0.1 21)) fun C1 => some ((0 : Int32), C1))
set_option maxHeartbeats 4000000 in
set_option maxRecDepth 100000 in
theorem c_X1_keepAll {l : Launch} {D : va_G} {sz : Nat} {cI cJ cO : ClassId} {h : Nat} {xa : Nat → Nat} {ea0 : Nat} {pa0 : Nat → Nat → Nat} {C0 C' : CS} { r' : Int32} (hf : f_X1_keepAll  C0 = some (r', C')) : Met l yX1_keepAll wsX1_keepAll ({ frames := 0, cells := 0, slots := 0, locals := 0 }) (va_Pc [.ref (xa 10)] (k_Pre D [(cI, .int), (cO, .object RX0), (cJ, .long)] (cW cI cJ cO h xa ea0 pa0 C0) sz)) (va_Qv (fun (u : va_W × List (ClassId × FieldType)) => u = (cW cI cJ cO h xa ea0 pa0 C', [(cI, .int), (cO, .object RX0), (cJ, .long)]) ∧ gN C' = gN C0 ∧ gE C' = gE C0) (k_B D (va_A (cW cI cJ cO h xa ea0 pa0 C0) sz)) (va_A (cW cI cJ cO h xa ea0 pa0 C0) sz)) (0) (0) (va_A (cW cI cJ cO h xa ea0 pa0 C0) sz) := by
  refine Met.ofW (cc := cX1_keepAll) (maxL := 1) (ret := none) (by decide) rfl ?_
  intro p e s m args below meth c s₁ B hml hv
  obtain ⟨rfl, hsz, hP, hK, hD0⟩ := hv
  have hx := B.exec
  have hb := B.bytes
  have hr := B.returns
  have hts := atoms_spec (ws := wsX1_keepAll) B.pre
  have hown : s.vm.findClass RX1 = some m.cls := findClass_of_methodNamed B.named
  have hlocks := B.notSynchronized
  subst hsz
  have hD := hD0.self (sz := s.heap.size)
  generalize hAe : va_A (cW cI cJ cO h xa ea0 pa0 C0) s.heap.size = A at hD ⊢
  have hA : ∀ q : Nat, s.heap.size ≤ q → A q := fun q h => by rw [← hAe]; exact Or.inr h
  have hS : va_S A s.heap s.heap [] := va_S.rf
  have hl := lv_entry ([.ref (xa 10)]) (n := 1) (Nat.le_of_ble_eq_true rfl)
  rw [lg_entry_eq]
  generalize (lg_sl ([.ref (xa 10)]) ++ List.replicate (1 - (lg_sl ([.ref (xa 10)])).length) Slot.unset).toArray = ls at hl ⊢
  have hl : lv_has ls 1 [(0, .ref (xa 10))] := hl
  refine k_Q (fun Q hQ => ?_)
  have hg0 : gN C0 = gN C0 ∧ gE C0 = gE C0 := ⟨rfl, rfl⟩
  have hq := hf
  rw [f_X1_keepAll] at hq
  refine lv_aload_n hx hb dX1_keepAll_0 rfl (lv_at hl 0 rfl) ?_
  refine lv_aload_n hx hb dX1_keepAll_1 rfl (lv_at hl 0 rfl) ?_
  refine va_get (D := D) (ci := 1) (v := .int (C0.1 21)) (C := RX1) (T := TX1) (N := 3) hx hb hts kin_X1_keepAll_X1 hown hK hP 11 rfl rfl 1 (by decide) (hts _ kw_X1_keepAll__fieldLink_RX1_15_ActHouse_LogBook_size_I_) (fun _ h9 => h9) rfl dX1_keepAll_2 ?_
  refine va_put (D := D) (ci := 1) (v := .int (C0.1 21)) (ty := .int) (C := RX1) (T := TX1) (N := 3) hx hb hts kin_X1_keepAll_X1 tyX1 tyX1_ok nmX1 hown hK hP hD hS 11 (fs := bF xa ea0 C0) rfl rfl 2 (by decide) (hts _ kw_X1_keepAll__fieldLink_RX1_26_ActHouse_LogBook_kept_I_) (fun _ h9 => h9) rfl (by decide +kernel) rfl rfl (Nat.le_of_ble_eq_true rfl) dX1_keepAll_5 (fun H locs hP hD hS => ?_)
  obtain ⟨C1, eC1, hg1, hh1, hq⟩ := k_lc (C := C0) hq rfl rfl
  rw [cW_I22, ← eC1] at hP hD
  have hP : va_P D vwCl (cW cI cJ cO h xa ea0 pa0 C1) _ := hP
  have hD : va_D A (cW cI cJ cO h xa ea0 pa0 C1) := hD
  obtain ⟨e2, e3⟩ := k_so hq
  subst hQ
  have hP : va_P D vwCl (cW cI cJ cO h xa ea0 pa0 C1) _ := hP
  have hD : va_D A (cW cI cJ cO h xa ea0 pa0 C1) := hD
  have hgE := congrArg (fun X : CS => gN X) e3
  have hgE : gN C1 = gN C' := hgE
  have hhE := congrArg (fun X : CS => gE X) e3
  have hhE : gE C1 = gE C' := hhE
  refine W.widen (k := 0) (n := 0) (by decide) (by decide) ?_
  exact W.vret hx hb hr (fun t ht hW => ⟨⟨(cW cI cJ cO h xa ea0 pa0 C1, [(cI, .int), (cO, .object RX0), (cJ, .long)]), rfl, ⟨(congrArg (fun X : CS => ((cW cI cJ cO h xa ea0 pa0 X, [(cI, .int), (cO, .object RX0), (cJ, .long)]) : va_W × List (ClassId × FieldType))) e3), by omega, by omega⟩, ⟨by rw [ht]; exact hP, va_K.moved hW.alike hK, hD⟩⟩, hS.F ht⟩) hS.2.2 dX1_keepAll_8
set_option maxRecDepth 100000 in
theorem kw_X1_cut__fieldLink_RX1_15_ActHouse_LogBook_size_I_ : (.fieldLink RX1 15 "ActHouse$LogBook" "size" "I" : Cond) ∈ wsX1_cut := by decide +kernel
set_option maxRecDepth 100000 in
theorem kin_X1_cut_X1 : ∀ w ∈ u_ws RX1 TX1 3, w ∈ wsX1_cut := by decide +kernel
def f_X1_cut (x1 : Int32) (C0 : CS) : Option (Int32 × CS) := (if x1 < 0 then some ((0 : Int32), C0) else (if (C0.1 21) < x1 then some ((0 : Int32), C0) else (k_let (cN C0 21 x1) fun C3 => some ((0 : Int32), C3))))
set_option maxHeartbeats 4000000 in
set_option maxRecDepth 100000 in
theorem c_X1_cut {l : Launch} {D : va_G} {sz : Nat} {cI cJ cO : ClassId} {h : Nat} {xa : Nat → Nat} {ea0 : Nat} {pa0 : Nat → Nat → Nat} {C0 C' : CS} {x1 r' : Int32} (hf : f_X1_cut x1 C0 = some (r', C')) : Met l yX1_cut wsX1_cut ({ frames := 0, cells := 0, slots := 0, locals := 0 }) (va_Pc [.ref (xa 10), .int x1] (k_Pre D [(cI, .int), (cO, .object RX0), (cJ, .long)] (cW cI cJ cO h xa ea0 pa0 C0) sz)) (va_Qv (fun (u : va_W × List (ClassId × FieldType)) => u = (cW cI cJ cO h xa ea0 pa0 C', [(cI, .int), (cO, .object RX0), (cJ, .long)]) ∧ gN C' = gN C0 ∧ gE C' = gE C0) (k_B D (va_A (cW cI cJ cO h xa ea0 pa0 C0) sz)) (va_A (cW cI cJ cO h xa ea0 pa0 C0) sz)) (0) (0) (va_A (cW cI cJ cO h xa ea0 pa0 C0) sz) := by
  refine Met.ofW (cc := cX1_cut) (maxL := 2) (ret := none) (by decide) rfl ?_
  intro p e s m args below meth c s₁ B hml hv
  obtain ⟨rfl, hsz, hP, hK, hD0⟩ := hv
  have hx := B.exec
  have hb := B.bytes
  have hr := B.returns
  have hts := atoms_spec (ws := wsX1_cut) B.pre
  have hown : s.vm.findClass RX1 = some m.cls := findClass_of_methodNamed B.named
  have hlocks := B.notSynchronized
  subst hsz
  have hD := hD0.self (sz := s.heap.size)
  generalize hAe : va_A (cW cI cJ cO h xa ea0 pa0 C0) s.heap.size = A at hD ⊢
  have hA : ∀ q : Nat, s.heap.size ≤ q → A q := fun q h => by rw [← hAe]; exact Or.inr h
  have hS : va_S A s.heap s.heap [] := va_S.rf
  have hl := lv_entry ([.ref (xa 10), .int x1]) (n := 2) (Nat.le_of_ble_eq_true rfl)
  rw [lg_entry_eq]
  generalize (lg_sl ([.ref (xa 10), .int x1]) ++ List.replicate (2 - (lg_sl ([.ref (xa 10), .int x1])).length) Slot.unset).toArray = ls at hl ⊢
  have hl : lv_has ls 2 [(0, .ref (xa 10)), (1, .int x1)] := hl
  refine k_Q (fun Q hQ => ?_)
  have hg0 : gN C0 = gN C0 ∧ gE C0 = gE C0 := ⟨rfl, rfl⟩
  have hq := hf
  rw [f_X1_cut] at hq
  refine lv_iload_n hx hb dX1_cut_0 rfl (lv_at hl 1 rfl) ?_
  refine lv_if_lt (tgt := 17) hx hb dX1_cut_1 (by decide) (fun c1 => ?_) (fun c1 => ?_)
  · skip
    rw [if_pos c1] at hq
    obtain ⟨e2, e3⟩ := k_so hq
    subst hQ
    have hP : va_P D vwCl (cW cI cJ cO h xa ea0 pa0 C0) _ := hP
    have hD : va_D A (cW cI cJ cO h xa ea0 pa0 C0) := hD
    have hgE := congrArg (fun X : CS => gN X) e3
    have hgE : gN C0 = gN C' := hgE
    have hhE := congrArg (fun X : CS => gE X) e3
    have hhE : gE C0 = gE C' := hhE
    refine W.widen (k := 0) (n := 0) (by decide) (by decide) ?_
    exact W.vret hx hb hr (fun t ht hW => ⟨⟨(cW cI cJ cO h xa ea0 pa0 C0, [(cI, .int), (cO, .object RX0), (cJ, .long)]), rfl, ⟨(congrArg (fun X : CS => ((cW cI cJ cO h xa ea0 pa0 X, [(cI, .int), (cO, .object RX0), (cJ, .long)]) : va_W × List (ClassId × FieldType))) e3), by omega, by omega⟩, ⟨by rw [ht]; exact hP, va_K.moved hW.alike hK, hD⟩⟩, hS.F ht⟩) hS.2.2 dX1_cut_17
  · skip
    rw [if_neg c1] at hq
    refine lv_iload_n hx hb dX1_cut_4 rfl (lv_at hl 1 rfl) ?_
    refine lv_aload_n hx hb dX1_cut_5 rfl (lv_at hl 0 rfl) ?_
    refine va_get (D := D) (ci := 1) (v := .int (C0.1 21)) (C := RX1) (T := TX1) (N := 3) hx hb hts kin_X1_cut_X1 hown hK hP 11 rfl rfl 1 (by decide) (hts _ kw_X1_cut__fieldLink_RX1_15_ActHouse_LogBook_size_I_) (fun _ h9 => h9) rfl dX1_cut_6 ?_
    refine lv_icmp_gt (tgt := 17) hx hb dX1_cut_9 (by decide) (fun c2 => ?_) (fun c2 => ?_)
    · skip
      rw [if_pos c2] at hq
      obtain ⟨e2, e3⟩ := k_so hq
      subst hQ
      have hP : va_P D vwCl (cW cI cJ cO h xa ea0 pa0 C0) _ := hP
      have hD : va_D A (cW cI cJ cO h xa ea0 pa0 C0) := hD
      have hgE := congrArg (fun X : CS => gN X) e3
      have hgE : gN C0 = gN C' := hgE
      have hhE := congrArg (fun X : CS => gE X) e3
      have hhE : gE C0 = gE C' := hhE
      refine W.widen (k := 0) (n := 0) (by decide) (by decide) ?_
      exact W.vret hx hb hr (fun t ht hW => ⟨⟨(cW cI cJ cO h xa ea0 pa0 C0, [(cI, .int), (cO, .object RX0), (cJ, .long)]), rfl, ⟨(congrArg (fun X : CS => ((cW cI cJ cO h xa ea0 pa0 X, [(cI, .int), (cO, .object RX0), (cJ, .long)]) : va_W × List (ClassId × FieldType))) e3), by omega, by omega⟩, ⟨by rw [ht]; exact hP, va_K.moved hW.alike hK, hD⟩⟩, hS.F ht⟩) hS.2.2 dX1_cut_17
    · skip
      rw [if_neg c2] at hq
      refine lv_aload_n hx hb dX1_cut_12 rfl (lv_at hl 0 rfl) ?_
      refine lv_iload_n hx hb dX1_cut_13 rfl (lv_at hl 1 rfl) ?_
      refine va_put (D := D) (ci := 1) (v := .int x1) (ty := .int) (C := RX1) (T := TX1) (N := 3) hx hb hts kin_X1_cut_X1 tyX1 tyX1_ok nmX1 hown hK hP hD hS 11 (fs := bF xa ea0 C0) rfl rfl 1 (by decide) (hts _ kw_X1_cut__fieldLink_RX1_15_ActHouse_LogBook_size_I_) (fun _ h9 => h9) rfl (by decide +kernel) rfl rfl (Nat.le_of_ble_eq_true rfl) dX1_cut_14 (fun H locs hP hD hS => ?_)
      obtain ⟨C3, eC3, hg3, hh3, hq⟩ := k_lc (C := C0) hq rfl rfl
      rw [cW_I21, ← eC3] at hP hD
      have hP : va_P D vwCl (cW cI cJ cO h xa ea0 pa0 C3) _ := hP
      have hD : va_D A (cW cI cJ cO h xa ea0 pa0 C3) := hD
      obtain ⟨e2, e3⟩ := k_so hq
      subst hQ
      have hP : va_P D vwCl (cW cI cJ cO h xa ea0 pa0 C3) _ := hP
      have hD : va_D A (cW cI cJ cO h xa ea0 pa0 C3) := hD
      have hgE := congrArg (fun X : CS => gN X) e3
      have hgE : gN C3 = gN C' := hgE
      have hhE := congrArg (fun X : CS => gE X) e3
      have hhE : gE C3 = gE C' := hhE
      refine W.widen (k := 0) (n := 0) (by decide) (by decide) ?_
      exact W.vret hx hb hr (fun t ht hW => ⟨⟨(cW cI cJ cO h xa ea0 pa0 C3, [(cI, .int), (cO, .object RX0), (cJ, .long)]), rfl, ⟨(congrArg (fun X : CS => ((cW cI cJ cO h xa ea0 pa0 X, [(cI, .int), (cO, .object RX0), (cJ, .long)]) : va_W × List (ClassId × FieldType))) e3), by omega, by omega⟩, ⟨by rw [ht]; exact hP, va_K.moved hW.alike hK, hD⟩⟩, hS.F ht⟩) hS.2.2 dX1_cut_17
set_option maxRecDepth 100000 in
theorem kw_X1_tell__fieldLink_RX1_15_ActHouse_LogBook_size_I_ : (.fieldLink RX1 15 "ActHouse$LogBook" "size" "I" : Cond) ∈ wsX1_tell := by decide +kernel
set_option maxRecDepth 100000 in
theorem kin_X1_tell_X1 : ∀ w ∈ u_ws RX1 TX1 3, w ∈ wsX1_tell := by decide +kernel
set_option maxRecDepth 100000 in
theorem kw_X1_tell__fieldLink_RX1_11_ActHouse_LogBook_entries_I_ : (.fieldLink RX1 11 "ActHouse$LogBook" "entries" "[I" : Cond) ∈ wsX1_tell := by decide +kernel
def f_X1_tell (x1 : Int32) (x2 : Int32) (C0 : CS) : Option (Int32 × CS) := (if x1 < 0 then some (((-1) : Int32), C0) else (if x1 < (C0.1 21) then (if 0 ≤ x1.toInt ∧ x1.toInt < gE C0 then (if x2.toInt = 0 then some ((((C0.2.1 20) x1.toNatClampNeg) &&& 7), C0) else (if x2.toInt = 1 then some (((((C0.2.1 20) x1.toNatClampNeg) >>> (3 &&& 31)) &&& 127), C0) else (if x2.toInt = 2 then some ((((((C0.2.1 20) x1.toNatClampNeg) >>> (10 &&& 31)) &&& 31) - 1), C0) else (if x2.toInt = 3 then some ((((C0.2.1 20) x1.toNatClampNeg) >>> (15 &&& 31)), C0) else some (((-1) : Int32), C0))))) else none) else some (((-1) : Int32), C0)))
set_option maxHeartbeats 4000000 in
set_option maxRecDepth 100000 in
theorem c_X1_tell {l : Launch} {D : va_G} {sz : Nat} {cI cJ cO : ClassId} {h : Nat} {xa : Nat → Nat} {ea0 : Nat} {pa0 : Nat → Nat → Nat} {C0 C' : CS} {x1 x2 r' : Int32} (hf : f_X1_tell x1 x2 C0 = some (r', C')) : Met l yX1_tell wsX1_tell ({ frames := 0, cells := 0, slots := 0, locals := 0 }) (va_Pc [.ref (xa 10), .int x1, .int x2] (k_Pre D [(cI, .int), (cO, .object RX0), (cJ, .long)] (cW cI cJ cO h xa ea0 pa0 C0) sz)) (va_Qi (fun (r0 : Int32) (u : va_W × List (ClassId × FieldType)) => r0 = r' ∧ u = (cW cI cJ cO h xa ea0 pa0 C', [(cI, .int), (cO, .object RX0), (cJ, .long)]) ∧ gN C' = gN C0 ∧ gE C' = gE C0) (k_B D (va_A (cW cI cJ cO h xa ea0 pa0 C0) sz)) (va_A (cW cI cJ cO h xa ea0 pa0 C0) sz)) (0) (0) (va_A (cW cI cJ cO h xa ea0 pa0 C0) sz) := by
  refine Met.ofW (cc := cX1_tell) (maxL := 4) (ret := (some .int)) (by decide) rfl ?_
  intro p e s m args below meth c s₁ B hml hv
  obtain ⟨rfl, hsz, hP, hK, hD0⟩ := hv
  have hx := B.exec
  have hb := B.bytes
  have hr := B.returns
  have hts := atoms_spec (ws := wsX1_tell) B.pre
  have hown : s.vm.findClass RX1 = some m.cls := findClass_of_methodNamed B.named
  have hlocks := B.notSynchronized
  subst hsz
  have hD := hD0.self (sz := s.heap.size)
  generalize hAe : va_A (cW cI cJ cO h xa ea0 pa0 C0) s.heap.size = A at hD ⊢
  have hA : ∀ q : Nat, s.heap.size ≤ q → A q := fun q h => by rw [← hAe]; exact Or.inr h
  have hS : va_S A s.heap s.heap [] := va_S.rf
  have hl := lv_entry ([.ref (xa 10), .int x1, .int x2]) (n := 4) (Nat.le_of_ble_eq_true rfl)
  rw [lg_entry_eq]
  generalize (lg_sl ([.ref (xa 10), .int x1, .int x2]) ++ List.replicate (4 - (lg_sl ([.ref (xa 10), .int x1, .int x2])).length) Slot.unset).toArray = ls at hl ⊢
  have hl : lv_has ls 4 [(0, .ref (xa 10)), (1, .int x1), (2, .int x2)] := hl
  refine k_Q (fun Q hQ => ?_)
  have hg0 : gN C0 = gN C0 ∧ gE C0 = gE C0 := ⟨rfl, rfl⟩
  have hq := hf
  rw [f_X1_tell] at hq
  refine lv_iload_n hx hb dX1_tell_0 rfl (lv_at hl 1 rfl) ?_
  refine lv_if_lt (tgt := 12) hx hb dX1_tell_1 (by decide) (fun c1 => ?_) (fun c1 => ?_)
  · skip
    rw [if_pos c1] at hq
    refine lv_iconst (v := (-1)) hx hb dX1_tell_12 (by decide) ?_
    obtain ⟨e2, e3⟩ := k_so hq
    subst hQ
    have hP : va_P D vwCl (cW cI cJ cO h xa ea0 pa0 C0) _ := hP
    have hD : va_D A (cW cI cJ cO h xa ea0 pa0 C0) := hD
    have hgE := congrArg (fun X : CS => gN X) e3
    have hgE : gN C0 = gN C' := hgE
    have hhE := congrArg (fun X : CS => gE X) e3
    have hhE : gE C0 = gE C' := hhE
    refine W.widen (k := 0) (n := 0) (by decide) (by decide) ?_
    exact W.iret (v := (-1)) hx hb hr (fun t ht hW => ⟨⟨(-1), (cW cI cJ cO h xa ea0 pa0 C0, [(cI, .int), (cO, .object RX0), (cJ, .long)]), rfl, ⟨e2, (congrArg (fun X : CS => ((cW cI cJ cO h xa ea0 pa0 X, [(cI, .int), (cO, .object RX0), (cJ, .long)]) : va_W × List (ClassId × FieldType))) e3), by omega, by omega⟩, ⟨by rw [ht]; exact hP, va_K.moved hW.alike hK, hD⟩⟩, hS.F ht⟩) hS.2.2 dX1_tell_13
  · skip
    rw [if_neg c1] at hq
    refine lv_iload_n hx hb dX1_tell_4 rfl (lv_at hl 1 rfl) ?_
    refine lv_aload_n hx hb dX1_tell_5 rfl (lv_at hl 0 rfl) ?_
    refine va_get (D := D) (ci := 1) (v := .int (C0.1 21)) (C := RX1) (T := TX1) (N := 3) hx hb hts kin_X1_tell_X1 hown hK hP 11 rfl rfl 1 (by decide) (hts _ kw_X1_tell__fieldLink_RX1_15_ActHouse_LogBook_size_I_) (fun _ h9 => h9) rfl dX1_tell_6 ?_
    refine lv_icmp_lt (tgt := 14) hx hb dX1_tell_9 (by decide) (fun c2 => ?_) (fun c2 => ?_)
    · skip
      rw [if_pos c2] at hq
      refine lv_aload_n hx hb dX1_tell_14 rfl (lv_at hl 0 rfl) ?_
      refine va_get (D := D) (ci := 1) (v := .ref ea0) (C := RX1) (T := TX1) (N := 3) hx hb hts kin_X1_tell_X1 hown hK hP 11 rfl rfl 0 (by decide) (hts _ kw_X1_tell__fieldLink_RX1_11_ActHouse_LogBook_entries_I_) (fun _ h9 => h9) rfl dX1_tell_15 ?_
      refine lv_iload_n hx hb dX1_tell_18 rfl (lv_at hl 1 rfl) ?_
      obtain ⟨b3, hq⟩ := k_if hq
      refine va_iald hx hb hK hP 12 0 (f := (C0.2.1 20)) rfl rfl (k_in b3.1 b3.2) dX1_tell_19 ?_
      refine lv_istore_n (lv' := [(3, .int ((C0.2.1 20) x1.toNatClampNeg)), (0, .ref (xa 10)), (1, .int x1), (2, .int x2)]) hx hb dX1_tell_20 rfl hl (by decide) rfl (fun ls hl => ?_)
      refine lv_iload_n hx hb dX1_tell_21 rfl (lv_at hl 3 rfl) ?_
      by_cases hs4_0 : x2.toInt = 0
      · skip
        rw [if_pos hs4_0] at hq
        refine lv_tableIn (off := 30) (tgt := 52) hx hb dX1_tell_22 (by rw [hs4_0]; decide) (by rw [hs4_0]; decide) (by rw [hs4_0]; rfl) (by decide) ?_
        refine lv_iload_n hx hb dX1_tell_52 rfl (lv_at hl 0 rfl) ?_
        refine lv_bipush (v := 7) hx hb dX1_tell_53 (by decide) ?_
        refine lv_iand hx hb dX1_tell_55 ?_
        obtain ⟨e2, e3⟩ := k_so hq
        subst hQ
        have hP : va_P D vwCl (cW cI cJ cO h xa ea0 pa0 C0) _ := hP
        have hD : va_D A (cW cI cJ cO h xa ea0 pa0 C0) := hD
        have hgE := congrArg (fun X : CS => gN X) e3
        have hgE : gN C0 = gN C' := hgE
        have hhE := congrArg (fun X : CS => gE X) e3
        have hhE : gE C0 = gE C' := hhE
        refine W.widen (k := 0) (n := 0) (by decide) (by decide) ?_
        exact W.iret (v := ((C0.2.1 20) x1.toNatClampNeg) &&& 7) hx hb hr (fun t ht hW => ⟨⟨((C0.2.1 20) x1.toNatClampNeg) &&& 7, (cW cI cJ cO h xa ea0 pa0 C0, [(cI, .int), (cO, .object RX0), (cJ, .long)]), rfl, ⟨e2, (congrArg (fun X : CS => ((cW cI cJ cO h xa ea0 pa0 X, [(cI, .int), (cO, .object RX0), (cJ, .long)]) : va_W × List (ClassId × FieldType))) e3), by omega, by omega⟩, ⟨by rw [ht]; exact hP, va_K.moved hW.alike hK, hD⟩⟩, hS.F ht⟩) hS.2.2 dX1_tell_56
      rw [if_neg hs4_0] at hq
      by_cases hs4_1 : x2.toInt = 1
      · skip
        rw [if_pos hs4_1] at hq
        refine lv_tableIn (off := 35) (tgt := 57) hx hb dX1_tell_22 (by rw [hs4_1]; decide) (by rw [hs4_1]; decide) (by rw [hs4_1]; rfl) (by decide) ?_
        refine lv_iload_n hx hb dX1_tell_57 rfl (lv_at hl 0 rfl) ?_
        refine lv_iconst (v := 3) hx hb dX1_tell_58 (by decide) ?_
        refine lv_ishr hx hb dX1_tell_59 ?_
        refine lv_bipush (v := 127) hx hb dX1_tell_60 (by decide) ?_
        refine lv_iand hx hb dX1_tell_62 ?_
        obtain ⟨e2, e3⟩ := k_so hq
        subst hQ
        have hP : va_P D vwCl (cW cI cJ cO h xa ea0 pa0 C0) _ := hP
        have hD : va_D A (cW cI cJ cO h xa ea0 pa0 C0) := hD
        have hgE := congrArg (fun X : CS => gN X) e3
        have hgE : gN C0 = gN C' := hgE
        have hhE := congrArg (fun X : CS => gE X) e3
        have hhE : gE C0 = gE C' := hhE
        refine W.widen (k := 0) (n := 0) (by decide) (by decide) ?_
        exact W.iret (v := (((C0.2.1 20) x1.toNatClampNeg) >>> (3 &&& 31)) &&& 127) hx hb hr (fun t ht hW => ⟨⟨(((C0.2.1 20) x1.toNatClampNeg) >>> (3 &&& 31)) &&& 127, (cW cI cJ cO h xa ea0 pa0 C0, [(cI, .int), (cO, .object RX0), (cJ, .long)]), rfl, ⟨e2, (congrArg (fun X : CS => ((cW cI cJ cO h xa ea0 pa0 X, [(cI, .int), (cO, .object RX0), (cJ, .long)]) : va_W × List (ClassId × FieldType))) e3), by omega, by omega⟩, ⟨by rw [ht]; exact hP, va_K.moved hW.alike hK, hD⟩⟩, hS.F ht⟩) hS.2.2 dX1_tell_63
      rw [if_neg hs4_1] at hq
      by_cases hs4_2 : x2.toInt = 2
      · skip
        rw [if_pos hs4_2] at hq
        refine lv_tableIn (off := 42) (tgt := 64) hx hb dX1_tell_22 (by rw [hs4_2]; decide) (by rw [hs4_2]; decide) (by rw [hs4_2]; rfl) (by decide) ?_
        refine lv_iload_n hx hb dX1_tell_64 rfl (lv_at hl 0 rfl) ?_
        refine lv_bipush (v := 10) hx hb dX1_tell_65 (by decide) ?_
        refine lv_ishr hx hb dX1_tell_67 ?_
        refine lv_bipush (v := 31) hx hb dX1_tell_68 (by decide) ?_
        refine lv_iand hx hb dX1_tell_70 ?_
        refine lv_iconst (v := 1) hx hb dX1_tell_71 (by decide) ?_
        refine lv_isub hx hb dX1_tell_72 ?_
        obtain ⟨e2, e3⟩ := k_so hq
        subst hQ
        have hP : va_P D vwCl (cW cI cJ cO h xa ea0 pa0 C0) _ := hP
        have hD : va_D A (cW cI cJ cO h xa ea0 pa0 C0) := hD
        have hgE := congrArg (fun X : CS => gN X) e3
        have hgE : gN C0 = gN C' := hgE
        have hhE := congrArg (fun X : CS => gE X) e3
        have hhE : gE C0 = gE C' := hhE
        refine W.widen (k := 0) (n := 0) (by decide) (by decide) ?_
        exact W.iret (v := ((((C0.2.1 20) x1.toNatClampNeg) >>> (10 &&& 31)) &&& 31) - 1) hx hb hr (fun t ht hW => ⟨⟨((((C0.2.1 20) x1.toNatClampNeg) >>> (10 &&& 31)) &&& 31) - 1, (cW cI cJ cO h xa ea0 pa0 C0, [(cI, .int), (cO, .object RX0), (cJ, .long)]), rfl, ⟨e2, (congrArg (fun X : CS => ((cW cI cJ cO h xa ea0 pa0 X, [(cI, .int), (cO, .object RX0), (cJ, .long)]) : va_W × List (ClassId × FieldType))) e3), by omega, by omega⟩, ⟨by rw [ht]; exact hP, va_K.moved hW.alike hK, hD⟩⟩, hS.F ht⟩) hS.2.2 dX1_tell_73
      rw [if_neg hs4_2] at hq
      by_cases hs4_3 : x2.toInt = 3
      · skip
        rw [if_pos hs4_3] at hq
        refine lv_tableIn (off := 52) (tgt := 74) hx hb dX1_tell_22 (by rw [hs4_3]; decide) (by rw [hs4_3]; decide) (by rw [hs4_3]; rfl) (by decide) ?_
        refine lv_iload_n hx hb dX1_tell_74 rfl (lv_at hl 0 rfl) ?_
        refine lv_bipush (v := 15) hx hb dX1_tell_75 (by decide) ?_
        refine lv_ishr hx hb dX1_tell_77 ?_
        obtain ⟨e2, e3⟩ := k_so hq
        subst hQ
        have hP : va_P D vwCl (cW cI cJ cO h xa ea0 pa0 C0) _ := hP
        have hD : va_D A (cW cI cJ cO h xa ea0 pa0 C0) := hD
        have hgE := congrArg (fun X : CS => gN X) e3
        have hgE : gN C0 = gN C' := hgE
        have hhE := congrArg (fun X : CS => gE X) e3
        have hhE : gE C0 = gE C' := hhE
        refine W.widen (k := 0) (n := 0) (by decide) (by decide) ?_
        exact W.iret (v := ((C0.2.1 20) x1.toNatClampNeg) >>> (15 &&& 31)) hx hb hr (fun t ht hW => ⟨⟨((C0.2.1 20) x1.toNatClampNeg) >>> (15 &&& 31), (cW cI cJ cO h xa ea0 pa0 C0, [(cI, .int), (cO, .object RX0), (cJ, .long)]), rfl, ⟨e2, (congrArg (fun X : CS => ((cW cI cJ cO h xa ea0 pa0 X, [(cI, .int), (cO, .object RX0), (cJ, .long)]) : va_W × List (ClassId × FieldType))) e3), by omega, by omega⟩, ⟨by rw [ht]; exact hP, va_K.moved hW.alike hK, hD⟩⟩, hS.F ht⟩) hS.2.2 dX1_tell_78
      rw [if_neg hs4_3] at hq
      refine lv_tableOut (tgt := 79) hx hb dX1_tell_22 (by omega) (by decide) ?_
      refine lv_iconst (v := (-1)) hx hb dX1_tell_79 (by decide) ?_
      obtain ⟨e2, e3⟩ := k_so hq
      subst hQ
      have hP : va_P D vwCl (cW cI cJ cO h xa ea0 pa0 C0) _ := hP
      have hD : va_D A (cW cI cJ cO h xa ea0 pa0 C0) := hD
      have hgE := congrArg (fun X : CS => gN X) e3
      have hgE : gN C0 = gN C' := hgE
      have hhE := congrArg (fun X : CS => gE X) e3
      have hhE : gE C0 = gE C' := hhE
      refine W.widen (k := 0) (n := 0) (by decide) (by decide) ?_
      exact W.iret (v := (-1)) hx hb hr (fun t ht hW => ⟨⟨(-1), (cW cI cJ cO h xa ea0 pa0 C0, [(cI, .int), (cO, .object RX0), (cJ, .long)]), rfl, ⟨e2, (congrArg (fun X : CS => ((cW cI cJ cO h xa ea0 pa0 X, [(cI, .int), (cO, .object RX0), (cJ, .long)]) : va_W × List (ClassId × FieldType))) e3), by omega, by omega⟩, ⟨by rw [ht]; exact hP, va_K.moved hW.alike hK, hD⟩⟩, hS.F ht⟩) hS.2.2 dX1_tell_80
    · skip
      rw [if_neg c2] at hq
      refine lv_iconst (v := (-1)) hx hb dX1_tell_12 (by decide) ?_
      obtain ⟨e2, e3⟩ := k_so hq
      subst hQ
      have hP : va_P D vwCl (cW cI cJ cO h xa ea0 pa0 C0) _ := hP
      have hD : va_D A (cW cI cJ cO h xa ea0 pa0 C0) := hD
      have hgE := congrArg (fun X : CS => gN X) e3
      have hgE : gN C0 = gN C' := hgE
      have hhE := congrArg (fun X : CS => gE X) e3
      have hhE : gE C0 = gE C' := hhE
      refine W.widen (k := 0) (n := 0) (by decide) (by decide) ?_
      exact W.iret (v := (-1)) hx hb hr (fun t ht hW => ⟨⟨(-1), (cW cI cJ cO h xa ea0 pa0 C0, [(cI, .int), (cO, .object RX0), (cJ, .long)]), rfl, ⟨e2, (congrArg (fun X : CS => ((cW cI cJ cO h xa ea0 pa0 X, [(cI, .int), (cO, .object RX0), (cJ, .long)]) : va_W × List (ClassId × FieldType))) e3), by omega, by omega⟩, ⟨by rw [ht]; exact hP, va_K.moved hW.alike hK, hD⟩⟩, hS.F ht⟩) hS.2.2 dX1_tell_13
set_option maxRecDepth 100000 in
theorem kw_X2_clear__methodLink_RX2_18_Lib_Math_min_name : (.methodLink RX2 18 Lib.Math.min.name : Cond) ∈ wsX2_clear := by decide +kernel
set_option maxRecDepth 100000 in
theorem kw_X2_clear__static_Lib_Math_min_name : (.static Lib.Math.min.name : Cond) ∈ wsX2_clear := by decide +kernel
set_option maxRecDepth 100000 in
theorem kw_X2_clear__initialized_java_lang_Math_ : (.initialized "java/lang/Math" : Cond) ∈ wsX2_clear := by decide +kernel
set_option maxRecDepth 100000 in
theorem kw_X2_clear__code_Lib_Math_min_name_Lib_Math_min_code_2_some_int_ : (.code Lib.Math.min.name Lib.Math.min.code 2 (some .int) : Cond) ∈ wsX2_clear := by decide +kernel
set_option maxRecDepth 100000 in
theorem kw_X2_clear__fieldLink_RX2_24_ActHouse_Waits_many_I_ : (.fieldLink RX2 24 "ActHouse$Waits" "many" "I" : Cond) ∈ wsX2_clear := by decide +kernel
set_option maxRecDepth 100000 in
theorem kin_X2_clear_X2 : ∀ w ∈ u_ws RX2 TX2 3, w ∈ wsX2_clear := by decide +kernel
set_option maxRecDepth 100000 in
theorem kw_X2_clear__fieldLink_RX2_9_ActHouse_Waits_direct_J_ : (.fieldLink RX2 9 "ActHouse$Waits" "direct" "[J" : Cond) ∈ wsX2_clear := by decide +kernel
def f_X2_clear (x1 : Int32) (C0 : CS) : Option (Int32 × CS) := (k_let (cN C0 32 (if (36 : Int32) < x1 then (36 : Int32) else x1)) fun C1 => (k_let (cLF C1 30 (k_filL 36 (0 : Int64) (C1.2.2.1 30))) fun C2 => some ((0 : Int32), C2)))
set_option maxHeartbeats 4000000 in
set_option maxRecDepth 100000 in
theorem c_X2_clear {l : Launch} {D : va_G} {sz : Nat} {cI cJ cO : ClassId} {h : Nat} {xa : Nat → Nat} {ea0 : Nat} {pa0 : Nat → Nat → Nat} {C0 C' : CS} {x1 r' : Int32} (hf : f_X2_clear x1 C0 = some (r', C')) : Met l yX2_clear wsX2_clear ({ frames := 1, cells := 0, slots := 0, locals := 24 }) (va_Pc [.ref (xa 11), .int x1] (k_Pre D [(cI, .int), (cO, .object RX0), (cJ, .long)] (cW cI cJ cO h xa ea0 pa0 C0) sz)) (va_Qv (fun (u : va_W × List (ClassId × FieldType)) => u = (cW cI cJ cO h xa ea0 pa0 C', [(cI, .int), (cO, .object RX0), (cJ, .long)]) ∧ gN C' = gN C0 ∧ gE C' = gE C0) (k_B D (va_A (cW cI cJ cO h xa ea0 pa0 C0) sz)) (va_A (cW cI cJ cO h xa ea0 pa0 C0) sz)) (0) (0) (va_A (cW cI cJ cO h xa ea0 pa0 C0) sz) := by
  refine Met.ofW (cc := cX2_clear) (maxL := 2) (ret := none) (by decide) rfl ?_
  intro p e s m args below meth c s₁ B hml hv
  obtain ⟨rfl, hsz, hP, hK, hD0⟩ := hv
  have hx := B.exec
  have hb := B.bytes
  have hr := B.returns
  have hts := atoms_spec (ws := wsX2_clear) B.pre
  have hown : s.vm.findClass RX2 = some m.cls := findClass_of_methodNamed B.named
  have hlocks := B.notSynchronized
  subst hsz
  have hD := hD0.self (sz := s.heap.size)
  generalize hAe : va_A (cW cI cJ cO h xa ea0 pa0 C0) s.heap.size = A at hD ⊢
  have hA : ∀ q : Nat, s.heap.size ≤ q → A q := fun q h => by rw [← hAe]; exact Or.inr h
  have hS : va_S A s.heap s.heap [] := va_S.rf
  have hl := lv_entry ([.ref (xa 11), .int x1]) (n := 2) (Nat.le_of_ble_eq_true rfl)
  rw [lg_entry_eq]
  generalize (lg_sl ([.ref (xa 11), .int x1]) ++ List.replicate (2 - (lg_sl ([.ref (xa 11), .int x1])).length) Slot.unset).toArray = ls at hl ⊢
  have hl : lv_has ls 2 [(0, .ref (xa 11)), (1, .int x1)] := hl
  refine k_Q (fun Q hQ => ?_)
  have hg0 : gN C0 = gN C0 ∧ gE C0 = gE C0 := ⟨rfl, rfl⟩
  have hq := hf
  rw [f_X2_clear] at hq
  refine lv_aload_n hx hb dX2_clear_0 rfl (lv_at hl 0 rfl) ?_
  refine lv_iload_n hx hb dX2_clear_1 rfl (lv_at hl 1 rfl) ?_
  refine lv_bipush (v := 36) hx hb dX2_clear_2 (by decide) ?_
  refine va_mmin hx hb (by rw [hml]; exact hl.1.symm) hown (hts _ kw_X2_clear__methodLink_RX2_18_Lib_Math_min_name) (hts _ kw_X2_clear__static_Lib_Math_min_name) (hts _ kw_X2_clear__initialized_java_lang_Math_) (hts _ kw_X2_clear__code_Lib_Math_min_name_Lib_Math_min_code_2_some_int_) (Nat.le_of_ble_eq_true rfl) (Nat.le_of_ble_eq_true rfl) (by decide) (by decide) dX2_clear_4 ?_
  refine va_put (D := D) (ci := 2) (v := .int (if (36 : Int32) < x1 then (36 : Int32) else x1)) (ty := .int) (C := RX2) (T := TX2) (N := 3) hx hb hts kin_X2_clear_X2 tyX2 tyX2_ok nmX2 hown hK hP hD hS 13 (fs := wF xa C0) rfl rfl 2 (by decide) (hts _ kw_X2_clear__fieldLink_RX2_24_ActHouse_Waits_many_I_) (fun _ h9 => h9) rfl (by decide +kernel) rfl rfl (Nat.le_of_ble_eq_true rfl) dX2_clear_7 (fun H locs hP hD hS => ?_)
  obtain ⟨C1, eC1, hg1, hh1, hq⟩ := k_lc (C := C0) hq rfl rfl
  rw [cW_I32, ← eC1] at hP hD
  have hP : va_P D vwCl (cW cI cJ cO h xa ea0 pa0 C1) _ := hP
  have hD : va_D A (cW cI cJ cO h xa ea0 pa0 C1) := hD
  refine lv_aload_n hx hb dX2_clear_10 rfl (lv_at hl 0 rfl) ?_
  refine va_get (D := D) (ci := 2) (v := .ref (xa 30)) (C := RX2) (T := TX2) (N := 3) hx hb hts kin_X2_clear_X2 hown hK hP 13 rfl rfl 0 (by decide) (hts _ kw_X2_clear__fieldLink_RX2_9_ActHouse_Waits_direct_J_) (fun _ h9 => h9) rfl dX2_clear_11 ?_
  refine lv_lconst (v := 0) hx hb dX2_clear_14 (by decide) ?_
  have he9 : (cW cI cJ cO h xa ea0 pa0 C1)[14]? = some (xa 30, .inl (cJ, 36, .inr (.inl (C1.2.2.1 30)))) := rfl
  have hP9 := k_oneP he9 hP
  have hD9 := k_oneD he9 hD
  have hK9 := hK.sub (tys' := [(cJ, .long)]) [2] rfl
  have hF9 := k_free hD9 hS hA
  refine va_callv (va_runS (As := [.ref (xa 30), .long 0]) (rest := []) ⟨hx, hb, hml, hown, hts⟩ (c_J7_fill_d0a16 (l := l) (D := D) (a := xa 30) (v := (0 : Int64)) (n := 36) (f := (C1.2.2.1 30)) (cJ := cJ) (by decide)) (va_cwS 2 hts gX2_clear_J7_fill_d0a16 rfl rfl rfl (by decide +kernel) ⟨Nat.le_of_ble_eq_true rfl, Nat.le_of_ble_eq_true rfl⟩) ⟨k_blind, fun U hU hW => ⟨rfl, k_pre hU hW hP9 hK9 hD9⟩⟩ rfl rfl hl.1 rfl (lv_room (Nat.le_of_ble_eq_true rfl)) dX2_clear_15 ⟨by decide, by decide⟩) hS (fun q _ h => hF9 q h) hF9 (fun u t H1 locs ht hvm hw hB hz1 hk1 hS => ?_)
  obtain ⟨f9, rfl, rfl⟩ := hw
  obtain ⟨hP1, -, -⟩ := hB
  rw [ht] at hP1
  obtain ⟨hP, hD⟩ := k_oneS he9 hP hD hk1 hP1
  generalize H1 = H at hP hS ⊢
  refine W.widen (k := 0) (n := 0) (Nat.le_refl _) (Nat.le_refl _) ?_
  obtain ⟨C2, eC2, hg2, hh2, hq⟩ := k_lc (C := C1) hq rfl rfl
  rw [cW_L30, ← eC2] at hP hD
  have hP : va_P D vwCl (cW cI cJ cO h xa ea0 pa0 C2) _ := hP
  have hD : va_D A (cW cI cJ cO h xa ea0 pa0 C2) := hD
  obtain ⟨e2, e3⟩ := k_so hq
  subst hQ
  have hP : va_P D vwCl (cW cI cJ cO h xa ea0 pa0 C2) _ := hP
  have hD : va_D A (cW cI cJ cO h xa ea0 pa0 C2) := hD
  have hgE := congrArg (fun X : CS => gN X) e3
  have hgE : gN C2 = gN C' := hgE
  have hhE := congrArg (fun X : CS => gE X) e3
  have hhE : gE C2 = gE C' := hhE
  refine W.widen (k := 0) (n := 0) (by decide) (by decide) ?_
  exact W.vret hx hb hr (fun t ht hW => ⟨⟨(cW cI cJ cO h xa ea0 pa0 C2, [(cI, .int), (cO, .object RX0), (cJ, .long)]), rfl, ⟨(congrArg (fun X : CS => ((cW cI cJ cO h xa ea0 pa0 X, [(cI, .int), (cO, .object RX0), (cJ, .long)]) : va_W × List (ClassId × FieldType))) e3), by omega, by omega⟩, ⟨by rw [ht]; exact hP, va_K.moved hW.alike hK, hD⟩⟩, hS.F ht⟩) hS.2.2 dX2_clear_18
set_option maxRecDepth 100000 in
theorem kw_X2_add__fieldLink_RX2_9_ActHouse_Waits_direct_J_ : (.fieldLink RX2 9 "ActHouse$Waits" "direct" "[J" : Cond) ∈ wsX2_add := by decide +kernel
set_option maxRecDepth 100000 in
theorem kin_X2_add_X2 : ∀ w ∈ u_ws RX2 TX2 3, w ∈ wsX2_add := by decide +kernel
def f_X2_add (x1 : Int32) (x2 : Int32) (C0 : CS) : Option (Int32 × CS) := (if 0 ≤ x1.toInt ∧ x1.toInt < 36 then (k_let (cLF C0 30 (vp_updL (C0.2.2.1 30) x1.toNatClampNeg (((C0.2.2.1 30) x1.toNatClampNeg) ||| ((1 : Int64) <<< (x2.toInt64 &&& 63))))) fun C2 => some ((0 : Int32), C2)) else none)
set_option maxHeartbeats 4000000 in
set_option maxRecDepth 100000 in
theorem c_X2_add {l : Launch} {D : va_G} {sz : Nat} {cI cJ cO : ClassId} {h : Nat} {xa : Nat → Nat} {ea0 : Nat} {pa0 : Nat → Nat → Nat} {C0 C' : CS} {x1 x2 r' : Int32} (hf : f_X2_add x1 x2 C0 = some (r', C')) : Met l yX2_add wsX2_add ({ frames := 0, cells := 0, slots := 0, locals := 0 }) (va_Pc [.ref (xa 11), .int x1, .int x2] (k_Pre D [(cI, .int), (cO, .object RX0), (cJ, .long)] (cW cI cJ cO h xa ea0 pa0 C0) sz)) (va_Qv (fun (u : va_W × List (ClassId × FieldType)) => u = (cW cI cJ cO h xa ea0 pa0 C', [(cI, .int), (cO, .object RX0), (cJ, .long)]) ∧ gN C' = gN C0 ∧ gE C' = gE C0) (k_B D (va_A (cW cI cJ cO h xa ea0 pa0 C0) sz)) (va_A (cW cI cJ cO h xa ea0 pa0 C0) sz)) (0) (0) (va_A (cW cI cJ cO h xa ea0 pa0 C0) sz) := by
  refine Met.ofW (cc := cX2_add) (maxL := 3) (ret := none) (by decide) rfl ?_
  intro p e s m args below meth c s₁ B hml hv
  obtain ⟨rfl, hsz, hP, hK, hD0⟩ := hv
  have hx := B.exec
  have hb := B.bytes
  have hr := B.returns
  have hts := atoms_spec (ws := wsX2_add) B.pre
  have hown : s.vm.findClass RX2 = some m.cls := findClass_of_methodNamed B.named
  have hlocks := B.notSynchronized
  subst hsz
  have hD := hD0.self (sz := s.heap.size)
  generalize hAe : va_A (cW cI cJ cO h xa ea0 pa0 C0) s.heap.size = A at hD ⊢
  have hA : ∀ q : Nat, s.heap.size ≤ q → A q := fun q h => by rw [← hAe]; exact Or.inr h
  have hS : va_S A s.heap s.heap [] := va_S.rf
  have hl := lv_entry ([.ref (xa 11), .int x1, .int x2]) (n := 3) (Nat.le_of_ble_eq_true rfl)
  rw [lg_entry_eq]
  generalize (lg_sl ([.ref (xa 11), .int x1, .int x2]) ++ List.replicate (3 - (lg_sl ([.ref (xa 11), .int x1, .int x2])).length) Slot.unset).toArray = ls at hl ⊢
  have hl : lv_has ls 3 [(0, .ref (xa 11)), (1, .int x1), (2, .int x2)] := hl
  refine k_Q (fun Q hQ => ?_)
  have hg0 : gN C0 = gN C0 ∧ gE C0 = gE C0 := ⟨rfl, rfl⟩
  have hq := hf
  rw [f_X2_add] at hq
  refine lv_aload_n hx hb dX2_add_0 rfl (lv_at hl 0 rfl) ?_
  refine va_get (D := D) (ci := 2) (v := .ref (xa 30)) (C := RX2) (T := TX2) (N := 3) hx hb hts kin_X2_add_X2 hown hK hP 13 rfl rfl 0 (by decide) (hts _ kw_X2_add__fieldLink_RX2_9_ActHouse_Waits_direct_J_) (fun _ h9 => h9) rfl dX2_add_1 ?_
  refine lv_iload_n hx hb dX2_add_4 rfl (lv_at hl 1 rfl) ?_
  refine lv_dup2_11 hx hb dX2_add_5 rfl rfl ?_
  obtain ⟨b1, hq⟩ := k_if hq
  refine va_lald hx hb hK hP 14 2 (f := (C0.2.2.1 30)) rfl rfl (k_in b1.1 b1.2) dX2_add_6 ?_
  refine lv_lconst (v := 1) hx hb dX2_add_7 (by decide) ?_
  refine lv_iload_n hx hb dX2_add_8 rfl (lv_at hl 2 rfl) ?_
  refine lv_lshl (v := (1 : Int64) <<< (x2.toInt64 &&& 63)) hx hb dX2_add_9 rfl ?_
  refine lv_lor hx hb dX2_add_10 ?_
  refine va_last hx hb hK hP hD hS 14 2 (f := (C0.2.2.1 30)) rfl rfl (x := (((C0.2.2.1 30) x1.toNatClampNeg) ||| ((1 : Int64) <<< (x2.toInt64 &&& 63)))) (k_in b1.1 b1.2) dX2_add_11 (fun H locs hP hD hS => ?_)
  obtain ⟨C2, eC2, hg2, hh2, hq⟩ := k_lc (C := C0) hq rfl rfl
  rw [cW_L30, ← eC2] at hP hD
  have hP : va_P D vwCl (cW cI cJ cO h xa ea0 pa0 C2) _ := hP
  have hD : va_D A (cW cI cJ cO h xa ea0 pa0 C2) := hD
  obtain ⟨e2, e3⟩ := k_so hq
  subst hQ
  have hP : va_P D vwCl (cW cI cJ cO h xa ea0 pa0 C2) _ := hP
  have hD : va_D A (cW cI cJ cO h xa ea0 pa0 C2) := hD
  have hgE := congrArg (fun X : CS => gN X) e3
  have hgE : gN C2 = gN C' := hgE
  have hhE := congrArg (fun X : CS => gE X) e3
  have hhE : gE C2 = gE C' := hhE
  refine W.widen (k := 0) (n := 0) (by decide) (by decide) ?_
  exact W.vret hx hb hr (fun t ht hW => ⟨⟨(cW cI cJ cO h xa ea0 pa0 C2, [(cI, .int), (cO, .object RX0), (cJ, .long)]), rfl, ⟨(congrArg (fun X : CS => ((cW cI cJ cO h xa ea0 pa0 X, [(cI, .int), (cO, .object RX0), (cJ, .long)]) : va_W × List (ClassId × FieldType))) e3), by omega, by omega⟩, ⟨by rw [ht]; exact hP, va_K.moved hW.alike hK, hD⟩⟩, hS.F ht⟩) hS.2.2 dX2_add_12
set_option maxRecDepth 100000 in
theorem kw_X2_remove__fieldLink_RX2_9_ActHouse_Waits_direct_J_ : (.fieldLink RX2 9 "ActHouse$Waits" "direct" "[J" : Cond) ∈ wsX2_remove := by decide +kernel
set_option maxRecDepth 100000 in
theorem kin_X2_remove_X2 : ∀ w ∈ u_ws RX2 TX2 3, w ∈ wsX2_remove := by decide +kernel
def f_X2_remove (x1 : Int32) (C0 : CS) : Option (Int32 × CS) := (if 0 ≤ x1.toInt ∧ x1.toInt < 36 then (k_let (cLF C0 30 (vp_updL (C0.2.2.1 30) x1.toNatClampNeg 0)) fun C2 => some ((0 : Int32), C2)) else none)
set_option maxHeartbeats 4000000 in
set_option maxRecDepth 100000 in
theorem c_X2_remove {l : Launch} {D : va_G} {sz : Nat} {cI cJ cO : ClassId} {h : Nat} {xa : Nat → Nat} {ea0 : Nat} {pa0 : Nat → Nat → Nat} {C0 C' : CS} {x1 r' : Int32} (hf : f_X2_remove x1 C0 = some (r', C')) : Met l yX2_remove wsX2_remove ({ frames := 0, cells := 0, slots := 0, locals := 0 }) (va_Pc [.ref (xa 11), .int x1] (k_Pre D [(cI, .int), (cO, .object RX0), (cJ, .long)] (cW cI cJ cO h xa ea0 pa0 C0) sz)) (va_Qv (fun (u : va_W × List (ClassId × FieldType)) => u = (cW cI cJ cO h xa ea0 pa0 C', [(cI, .int), (cO, .object RX0), (cJ, .long)]) ∧ gN C' = gN C0 ∧ gE C' = gE C0) (k_B D (va_A (cW cI cJ cO h xa ea0 pa0 C0) sz)) (va_A (cW cI cJ cO h xa ea0 pa0 C0) sz)) (0) (0) (va_A (cW cI cJ cO h xa ea0 pa0 C0) sz) := by
  refine Met.ofW (cc := cX2_remove) (maxL := 2) (ret := none) (by decide) rfl ?_
  intro p e s m args below meth c s₁ B hml hv
  obtain ⟨rfl, hsz, hP, hK, hD0⟩ := hv
  have hx := B.exec
  have hb := B.bytes
  have hr := B.returns
  have hts := atoms_spec (ws := wsX2_remove) B.pre
  have hown : s.vm.findClass RX2 = some m.cls := findClass_of_methodNamed B.named
  have hlocks := B.notSynchronized
  subst hsz
  have hD := hD0.self (sz := s.heap.size)
  generalize hAe : va_A (cW cI cJ cO h xa ea0 pa0 C0) s.heap.size = A at hD ⊢
  have hA : ∀ q : Nat, s.heap.size ≤ q → A q := fun q h => by rw [← hAe]; exact Or.inr h
  have hS : va_S A s.heap s.heap [] := va_S.rf
  have hl := lv_entry ([.ref (xa 11), .int x1]) (n := 2) (Nat.le_of_ble_eq_true rfl)
  rw [lg_entry_eq]
  generalize (lg_sl ([.ref (xa 11), .int x1]) ++ List.replicate (2 - (lg_sl ([.ref (xa 11), .int x1])).length) Slot.unset).toArray = ls at hl ⊢
  have hl : lv_has ls 2 [(0, .ref (xa 11)), (1, .int x1)] := hl
  refine k_Q (fun Q hQ => ?_)
  have hg0 : gN C0 = gN C0 ∧ gE C0 = gE C0 := ⟨rfl, rfl⟩
  have hq := hf
  rw [f_X2_remove] at hq
  refine lv_aload_n hx hb dX2_remove_0 rfl (lv_at hl 0 rfl) ?_
  refine va_get (D := D) (ci := 2) (v := .ref (xa 30)) (C := RX2) (T := TX2) (N := 3) hx hb hts kin_X2_remove_X2 hown hK hP 13 rfl rfl 0 (by decide) (hts _ kw_X2_remove__fieldLink_RX2_9_ActHouse_Waits_direct_J_) (fun _ h9 => h9) rfl dX2_remove_1 ?_
  refine lv_iload_n hx hb dX2_remove_4 rfl (lv_at hl 1 rfl) ?_
  refine lv_lconst (v := 0) hx hb dX2_remove_5 (by decide) ?_
  obtain ⟨b1, hq⟩ := k_if hq
  refine va_last hx hb hK hP hD hS 14 2 (f := (C0.2.2.1 30)) rfl rfl (x := 0) (k_in b1.1 b1.2) dX2_remove_6 (fun H locs hP hD hS => ?_)
  obtain ⟨C2, eC2, hg2, hh2, hq⟩ := k_lc (C := C0) hq rfl rfl
  rw [cW_L30, ← eC2] at hP hD
  have hP : va_P D vwCl (cW cI cJ cO h xa ea0 pa0 C2) _ := hP
  have hD : va_D A (cW cI cJ cO h xa ea0 pa0 C2) := hD
  obtain ⟨e2, e3⟩ := k_so hq
  subst hQ
  have hP : va_P D vwCl (cW cI cJ cO h xa ea0 pa0 C2) _ := hP
  have hD : va_D A (cW cI cJ cO h xa ea0 pa0 C2) := hD
  have hgE := congrArg (fun X : CS => gN X) e3
  have hgE : gN C2 = gN C' := hgE
  have hhE := congrArg (fun X : CS => gE X) e3
  have hhE : gE C2 = gE C' := hhE
  refine W.widen (k := 0) (n := 0) (by decide) (by decide) ?_
  exact W.vret hx hb hr (fun t ht hW => ⟨⟨(cW cI cJ cO h xa ea0 pa0 C2, [(cI, .int), (cO, .object RX0), (cJ, .long)]), rfl, ⟨(congrArg (fun X : CS => ((cW cI cJ cO h xa ea0 pa0 X, [(cI, .int), (cO, .object RX0), (cJ, .long)]) : va_W × List (ClassId × FieldType))) e3), by omega, by omega⟩, ⟨by rw [ht]; exact hP, va_K.moved hW.alike hK, hD⟩⟩, hS.F ht⟩) hS.2.2 dX2_remove_7
set_option maxRecDepth 100000 in
theorem kw_X2_close__fieldLink_RX2_9_ActHouse_Waits_direct_J_ : (.fieldLink RX2 9 "ActHouse$Waits" "direct" "[J" : Cond) ∈ wsX2_close := by decide +kernel
set_option maxRecDepth 100000 in
theorem kin_X2_close_X2 : ∀ w ∈ u_ws RX2 TX2 3, w ∈ wsX2_close := by decide +kernel
set_option maxRecDepth 100000 in
theorem kw_X2_close__fieldLink_RX2_15_ActHouse_Waits_reach_J_ : (.fieldLink RX2 15 "ActHouse$Waits" "reach" "[J" : Cond) ∈ wsX2_close := by decide +kernel
set_option maxRecDepth 100000 in
theorem kw_X2_close__fieldLink_RX2_24_ActHouse_Waits_many_I_ : (.fieldLink RX2 24 "ActHouse$Waits" "many" "I" : Cond) ∈ wsX2_close := by decide +kernel
set_option maxRecDepth 100000 in
theorem kw_X2_close__methodLink_RX2_34_arraycopyName : (.methodLink RX2 34 arraycopyName : Cond) ∈ wsX2_close := by decide +kernel
set_option maxRecDepth 100000 in
theorem kw_X2_close__native_arraycopyName : (.native arraycopyName : Cond) ∈ wsX2_close := by decide +kernel
set_option maxRecDepth 100000 in
theorem kw_X2_close__static_arraycopyName : (.static arraycopyName : Cond) ∈ wsX2_close := by decide +kernel
set_option maxRecDepth 100000 in
theorem kw_X2_close__initialized_java_lang_System_ : (.initialized "java/lang/System" : Cond) ∈ wsX2_close := by decide +kernel
def f_X2_close_67 (K19 : Int32 → CS → Option (Int32 × CS)) (K29 : Int32 → Int32 → CS → Option (Int32 × CS)) (v1 : Int32) (v2 : Int32)  (C : CS) : Option (Int32 × CS) := K29 v1 (v2 + 1) C
def f_X2_close_29 (K19 : Int32 → CS → Option (Int32 × CS)) : Nat → Int32 → Int32 → CS → Option (Int32 × CS)
  | 0, _, _, _ => none
  | k + 1, v1, v2, C => (if (C.1 32) ≤ v2 then K19 (v1 + 1) C else (if 0 ≤ v2.toInt ∧ v2.toInt < 36 then (if (lg_cmp ((((C.2.2.1 31) v2.toNatClampNeg) >>> (v1.toInt64 &&& 63)) &&& 1) 0) = 0 then f_X2_close_67 K19 (fun (v1 : Int32) (v2 : Int32) (C : CS) => f_X2_close_29 K19 k v1 v2 C) v1 v2 C else (if 0 ≤ v1.toInt ∧ v1.toInt < 36 then (k_let (cLF C 31 (vp_updL (C.2.2.1 31) v2.toNatClampNeg (((C.2.2.1 31) v2.toNatClampNeg) ||| ((C.2.2.1 31) v1.toNatClampNeg)))) fun C8 => f_X2_close_67 K19 (fun (v1 : Int32) (v2 : Int32) (C : CS) => f_X2_close_29 K19 k v1 v2 C) v1 v2 C8) else none)) else none))
def f_X2_close_19  : Nat → Int32 → CS → Option (Int32 × CS)
  | 0, _, _ => none
  | k + 1, v1, C => (if (C.1 32) ≤ v1 then some ((0 : Int32), C) else f_X2_close_29 (fun (v1 : Int32) (C : CS) => f_X2_close_19  k v1 C) 200 v1 (0 : Int32) C)
def f_X2_close  (C0 : CS) : Option (Int32 × CS) := (if (0 ≤ (0 : Int32).toInt ∧ 0 ≤ (0 : Int32).toInt ∧ 0 ≤ (C0.1 32).toInt) ∧ (0 : Int32).toInt + (C0.1 32).toInt ≤ 36 ∧ (0 : Int32).toInt + (C0.1 32).toInt ≤ 36 then (k_let (cLF C0 31 (va_cpy (C0.2.2.1 30) (C0.2.2.1 31) (0 : Int32).toNatClampNeg (0 : Int32).toNatClampNeg (C0.1 32).toNatClampNeg)) fun C2 => f_X2_close_19  200 (0 : Int32) C2) else none)
set_option maxHeartbeats 4000000 in
set_option maxRecDepth 100000 in
theorem c_X2_close {l : Launch} {D : va_G} {sz : Nat} {cI cJ cO : ClassId} {h : Nat} {xa : Nat → Nat} {ea0 : Nat} {pa0 : Nat → Nat → Nat} {C0 C' : CS} { r' : Int32} (hf : f_X2_close  C0 = some (r', C')) : Met l yX2_close wsX2_close ({ frames := 1, cells := 0, slots := 0, locals := 40 }) (va_Pc [.ref (xa 11)] (k_Pre D [(cI, .int), (cO, .object RX0), (cJ, .long)] (cW cI cJ cO h xa ea0 pa0 C0) sz)) (va_Qv (fun (u : va_W × List (ClassId × FieldType)) => u = (cW cI cJ cO h xa ea0 pa0 C', [(cI, .int), (cO, .object RX0), (cJ, .long)]) ∧ gN C' = gN C0 ∧ gE C' = gE C0) (k_B D (va_A (cW cI cJ cO h xa ea0 pa0 C0) sz)) (va_A (cW cI cJ cO h xa ea0 pa0 C0) sz)) (0) (0) (va_A (cW cI cJ cO h xa ea0 pa0 C0) sz) := by
  refine Met.ofW (cc := cX2_close) (maxL := 3) (ret := none) (by decide) rfl ?_
  intro p e s m args below meth c s₁ B hml hv
  obtain ⟨rfl, hsz, hP, hK, hD0⟩ := hv
  have hx := B.exec
  have hb := B.bytes
  have hr := B.returns
  have hts := atoms_spec (ws := wsX2_close) B.pre
  have hown : s.vm.findClass RX2 = some m.cls := findClass_of_methodNamed B.named
  have hlocks := B.notSynchronized
  subst hsz
  have hD := hD0.self (sz := s.heap.size)
  generalize hAe : va_A (cW cI cJ cO h xa ea0 pa0 C0) s.heap.size = A at hD ⊢
  have hA : ∀ q : Nat, s.heap.size ≤ q → A q := fun q h => by rw [← hAe]; exact Or.inr h
  have hS : va_S A s.heap s.heap [] := va_S.rf
  have hl := lv_entry ([.ref (xa 11)]) (n := 3) (Nat.le_of_ble_eq_true rfl)
  rw [lg_entry_eq]
  generalize (lg_sl ([.ref (xa 11)]) ++ List.replicate (3 - (lg_sl ([.ref (xa 11)])).length) Slot.unset).toArray = ls at hl ⊢
  have hl : lv_has ls 3 [(0, .ref (xa 11))] := hl
  refine k_Q (fun Q hQ => ?_)
  have hg0 : gN C0 = gN C0 ∧ gE C0 = gE C0 := ⟨rfl, rfl⟩
  have B67 : ∀ (K19 : Int32 → CS → Option (Int32 × CS)) (hK19 : ∀ (v1 : Int32)  (C : CS)  (H : Heap) (locs : List Loc) (ls : Array Slot), K19 v1 C = some (r', C') → (gN C = gN C0 ∧ gE C = gE C0) → va_P D vwCl (cW cI cJ cO h xa ea0 pa0 C) H → va_D A (cW cI cJ cO h xa ea0 pa0 C) → va_S A s.heap H locs → lv_has ls 3 [(0, .ref (xa 11)), (1, .int v1)] → W p l e (headSpec wsX2_close ({ frames := 1, cells := 0, slots := 0, locals := 40 })).room s m ([.ref (xa 11)] : List Value).toArray below meth c H locs (0) (0) Q (F0 m 19 ls [])) (K29 : Int32 → Int32 → CS → Option (Int32 × CS)) (hK29 : ∀ (v1 : Int32) (v2 : Int32)  (C : CS)  (H : Heap) (locs : List Loc) (ls : Array Slot), K29 v1 v2 C = some (r', C') → (gN C = gN C0 ∧ gE C = gE C0) → va_P D vwCl (cW cI cJ cO h xa ea0 pa0 C) H → va_D A (cW cI cJ cO h xa ea0 pa0 C) → va_S A s.heap H locs → lv_has ls 3 [(0, .ref (xa 11)), (1, .int v1), (2, .int v2)] → W p l e (headSpec wsX2_close ({ frames := 1, cells := 0, slots := 0, locals := 40 })).room s m ([.ref (xa 11)] : List Value).toArray below meth c H locs (0) (0) Q (F0 m 29 ls [])), ∀ (v1 : Int32) (v2 : Int32)  (C : CS)  (H : Heap) (locs : List Loc) (ls : Array Slot), f_X2_close_67 K19 K29 v1 v2 C = some (r', C') → (gN C = gN C0 ∧ gE C = gE C0) → va_P D vwCl (cW cI cJ cO h xa ea0 pa0 C) H → va_D A (cW cI cJ cO h xa ea0 pa0 C) → va_S A s.heap H locs → lv_has ls 3 [(0, .ref (xa 11)), (1, .int v1), (2, .int v2)] → W p l e (headSpec wsX2_close ({ frames := 1, cells := 0, slots := 0, locals := 40 })).room s m ([.ref (xa 11)] : List Value).toArray below meth c H locs (0) (0) Q (F0 m 67 ls []) := by
    intro K19 hK19 K29 hK29
    intro v1 v2  C  H locs ls hq hg  hP hD hS hl
    rw [f_X2_close_67] at hq
    refine lv_iinc (v := v2 + 1) (lv' := [(2, .int (v2 + 1)), (0, .ref (xa 11)), (1, .int v1)]) hx hb dX2_close_67 hl (k := 2) rfl (by rfl) (by decide) rfl (fun ls hl => ?_)
    refine lv_goto (tgt := 29) hx hb dX2_close_70 (by decide) ?_
    exact hK29 v1 (v2 + 1) C  _ _ _ hq (by show (gN C = gN C0 ∧ gE C = gE C0); omega) hP hD hS (lv_sub hl [1, 2, 0] rfl)
  have B29 : ∀ (K19 : Int32 → CS → Option (Int32 × CS)) (hK19 : ∀ (v1 : Int32)  (C : CS)  (H : Heap) (locs : List Loc) (ls : Array Slot), K19 v1 C = some (r', C') → (gN C = gN C0 ∧ gE C = gE C0) → va_P D vwCl (cW cI cJ cO h xa ea0 pa0 C) H → va_D A (cW cI cJ cO h xa ea0 pa0 C) → va_S A s.heap H locs → lv_has ls 3 [(0, .ref (xa 11)), (1, .int v1)] → W p l e (headSpec wsX2_close ({ frames := 1, cells := 0, slots := 0, locals := 40 })).room s m ([.ref (xa 11)] : List Value).toArray below meth c H locs (0) (0) Q (F0 m 19 ls [])) (k : Nat), ∀ (v1 : Int32) (v2 : Int32)  (C : CS)  (H : Heap) (locs : List Loc) (ls : Array Slot), f_X2_close_29 K19 k v1 v2 C = some (r', C') → (gN C = gN C0 ∧ gE C = gE C0) → va_P D vwCl (cW cI cJ cO h xa ea0 pa0 C) H → va_D A (cW cI cJ cO h xa ea0 pa0 C) → va_S A s.heap H locs → lv_has ls 3 [(0, .ref (xa 11)), (1, .int v1), (2, .int v2)] → W p l e (headSpec wsX2_close ({ frames := 1, cells := 0, slots := 0, locals := 40 })).room s m ([.ref (xa 11)] : List Value).toArray below meth c H locs (0) (0) Q (F0 m 29 ls []) := by
    intro K19 hK19 k
    induction k with
    | zero =>
      intro v1 v2  C  H locs ls hq hg  hP hD hS hl
      exact absurd hq (by rw [f_X2_close_29]; exact k_non)
    | succ k ih =>
      intro v1 v2  C  H locs ls hq hg  hP hD hS hl
      rw [f_X2_close_29] at hq
      refine lv_iload_n hx hb dX2_close_29 rfl (lv_at hl 2 rfl) ?_
      refine lv_aload_n hx hb dX2_close_30 rfl (lv_at hl 0 rfl) ?_
      refine va_get (D := D) (ci := 2) (v := .int (C.1 32)) (C := RX2) (T := TX2) (N := 3) hx hb hts kin_X2_close_X2 hown hK hP 13 rfl rfl 2 (by decide) (hts _ kw_X2_close__fieldLink_RX2_24_ActHouse_Waits_many_I_) (fun _ h9 => h9) rfl dX2_close_31 ?_
      refine lv_icmp_ge (tgt := 73) hx hb dX2_close_34 (by decide) (fun c4 => ?_) (fun c4 => ?_)
      · skip
        rw [if_pos c4] at hq
        refine lv_iinc (v := v1 + 1) (lv' := [(1, .int (v1 + 1)), (0, .ref (xa 11)), (2, .int v2)]) hx hb dX2_close_73 hl (k := 1) rfl (by rfl) (by decide) rfl (fun ls hl => ?_)
        refine lv_goto (tgt := 19) hx hb dX2_close_76 (by decide) ?_
        exact hK19 (v1 + 1) C  _ _ _ hq (by show (gN C = gN C0 ∧ gE C = gE C0); omega) hP hD hS (lv_sub hl [1, 0] rfl)
      · skip
        rw [if_neg c4] at hq
        refine lv_aload_n hx hb dX2_close_37 rfl (lv_at hl 0 rfl) ?_
        refine va_get (D := D) (ci := 2) (v := .ref (xa 31)) (C := RX2) (T := TX2) (N := 3) hx hb hts kin_X2_close_X2 hown hK hP 13 rfl rfl 1 (by decide) (hts _ kw_X2_close__fieldLink_RX2_15_ActHouse_Waits_reach_J_) (fun _ h9 => h9) rfl dX2_close_38 ?_
        refine lv_iload_n hx hb dX2_close_41 rfl (lv_at hl 2 rfl) ?_
        obtain ⟨b5, hq⟩ := k_if hq
        refine va_lald hx hb hK hP 15 2 (f := (C.2.2.1 31)) rfl rfl (k_in b5.1 b5.2) dX2_close_42 ?_
        refine lv_iload_n hx hb dX2_close_43 rfl (lv_at hl 1 rfl) ?_
        refine lv_lshr (v := ((C.2.2.1 31) v2.toNatClampNeg) >>> (v1.toInt64 &&& 63)) hx hb dX2_close_44 rfl ?_
        refine lv_lconst (v := 1) hx hb dX2_close_45 (by decide) ?_
        refine lv_land hx hb dX2_close_46 ?_
        refine lv_lconst (v := 0) hx hb dX2_close_47 (by decide) ?_
        refine W.lcmp hx hb dX2_close_48 ?_
        refine lv_if_eq (tgt := 67) hx hb dX2_close_49 (by decide) (fun c6 => ?_) (fun c6 => ?_)
        · skip
          rw [if_pos c6] at hq
          exact B67 K19 hK19 (fun (v1 : Int32) (v2 : Int32) (C : CS) => f_X2_close_29 K19 k v1 v2 C) ih v1 v2 C  _ _ _ hq (by show (gN C = gN C0 ∧ gE C = gE C0); omega) hP hD hS (lv_sub hl [0, 1, 2] rfl)
        · skip
          rw [if_neg c6] at hq
          refine lv_aload_n hx hb dX2_close_52 rfl (lv_at hl 0 rfl) ?_
          refine va_get (D := D) (ci := 2) (v := .ref (xa 31)) (C := RX2) (T := TX2) (N := 3) hx hb hts kin_X2_close_X2 hown hK hP 13 rfl rfl 1 (by decide) (hts _ kw_X2_close__fieldLink_RX2_15_ActHouse_Waits_reach_J_) (fun _ h9 => h9) rfl dX2_close_53 ?_
          refine lv_iload_n hx hb dX2_close_56 rfl (lv_at hl 2 rfl) ?_
          refine lv_dup2_11 hx hb dX2_close_57 rfl rfl ?_
          refine va_lald hx hb hK hP 15 2 (f := (C.2.2.1 31)) rfl rfl (k_in b5.1 b5.2) dX2_close_58 ?_
          refine lv_aload_n hx hb dX2_close_59 rfl (lv_at hl 0 rfl) ?_
          refine va_get (D := D) (ci := 2) (v := .ref (xa 31)) (C := RX2) (T := TX2) (N := 3) hx hb hts kin_X2_close_X2 hown hK hP 13 rfl rfl 1 (by decide) (hts _ kw_X2_close__fieldLink_RX2_15_ActHouse_Waits_reach_J_) (fun _ h9 => h9) rfl dX2_close_60 ?_
          refine lv_iload_n hx hb dX2_close_63 rfl (lv_at hl 1 rfl) ?_
          obtain ⟨b7, hq⟩ := k_if hq
          refine va_lald hx hb hK hP 15 2 (f := (C.2.2.1 31)) rfl rfl (k_in b7.1 b7.2) dX2_close_64 ?_
          refine lv_lor hx hb dX2_close_65 ?_
          refine va_last hx hb hK hP hD hS 15 2 (f := (C.2.2.1 31)) rfl rfl (x := (((C.2.2.1 31) v2.toNatClampNeg) ||| ((C.2.2.1 31) v1.toNatClampNeg))) (k_in b5.1 b5.2) dX2_close_66 (fun H locs hP hD hS => ?_)
          obtain ⟨C8, eC8, hg8, hh8, hq⟩ := k_lc (C := C) hq rfl rfl
          rw [cW_L31, ← eC8] at hP hD
          have hP : va_P D vwCl (cW cI cJ cO h xa ea0 pa0 C8) _ := hP
          have hD : va_D A (cW cI cJ cO h xa ea0 pa0 C8) := hD
          exact B67 K19 hK19 (fun (v1 : Int32) (v2 : Int32) (C : CS) => f_X2_close_29 K19 k v1 v2 C) ih v1 v2 C8  _ _ _ hq (by show (gN C8 = gN C0 ∧ gE C8 = gE C0); omega) hP hD hS (lv_sub hl [0, 1, 2] rfl)
  have B19 : ∀  (k : Nat), ∀ (v1 : Int32)  (C : CS)  (H : Heap) (locs : List Loc) (ls : Array Slot), f_X2_close_19  k v1 C = some (r', C') → (gN C = gN C0 ∧ gE C = gE C0) → va_P D vwCl (cW cI cJ cO h xa ea0 pa0 C) H → va_D A (cW cI cJ cO h xa ea0 pa0 C) → va_S A s.heap H locs → lv_has ls 3 [(0, .ref (xa 11)), (1, .int v1)] → W p l e (headSpec wsX2_close ({ frames := 1, cells := 0, slots := 0, locals := 40 })).room s m ([.ref (xa 11)] : List Value).toArray below meth c H locs (0) (0) Q (F0 m 19 ls []) := by
    intro  k
    induction k with
    | zero =>
      intro v1  C  H locs ls hq hg  hP hD hS hl
      exact absurd hq (by rw [f_X2_close_19]; exact k_non)
    | succ k ih =>
      intro v1  C  H locs ls hq hg  hP hD hS hl
      rw [f_X2_close_19] at hq
      refine lv_iload_n hx hb dX2_close_19 rfl (lv_at hl 1 rfl) ?_
      refine lv_aload_n hx hb dX2_close_20 rfl (lv_at hl 0 rfl) ?_
      refine va_get (D := D) (ci := 2) (v := .int (C.1 32)) (C := RX2) (T := TX2) (N := 3) hx hb hts kin_X2_close_X2 hown hK hP 13 rfl rfl 2 (by decide) (hts _ kw_X2_close__fieldLink_RX2_24_ActHouse_Waits_many_I_) (fun _ h9 => h9) rfl dX2_close_21 ?_
      refine lv_icmp_ge (tgt := 79) hx hb dX2_close_24 (by decide) (fun c3 => ?_) (fun c3 => ?_)
      · skip
        rw [if_pos c3] at hq
        obtain ⟨e2, e3⟩ := k_so hq
        subst hQ
        have hP : va_P D vwCl (cW cI cJ cO h xa ea0 pa0 C) _ := hP
        have hD : va_D A (cW cI cJ cO h xa ea0 pa0 C) := hD
        have hgE := congrArg (fun X : CS => gN X) e3
        have hgE : gN C = gN C' := hgE
        have hhE := congrArg (fun X : CS => gE X) e3
        have hhE : gE C = gE C' := hhE
        refine W.widen (k := 0) (n := 0) (by decide) (by decide) ?_
        exact W.vret hx hb hr (fun t ht hW => ⟨⟨(cW cI cJ cO h xa ea0 pa0 C, [(cI, .int), (cO, .object RX0), (cJ, .long)]), rfl, ⟨(congrArg (fun X : CS => ((cW cI cJ cO h xa ea0 pa0 X, [(cI, .int), (cO, .object RX0), (cJ, .long)]) : va_W × List (ClassId × FieldType))) e3), by omega, by omega⟩, ⟨by rw [ht]; exact hP, va_K.moved hW.alike hK, hD⟩⟩, hS.F ht⟩) hS.2.2 dX2_close_79
      · skip
        rw [if_neg c3] at hq
        refine lv_iconst (v := 0) hx hb dX2_close_27 (by decide) ?_
        refine lv_istore_n (lv' := [(2, .int 0), (0, .ref (xa 11)), (1, .int v1)]) hx hb dX2_close_28 rfl hl (by decide) rfl (fun ls hl => ?_)
        exact B29 (fun (v1 : Int32) (C : CS) => f_X2_close_19  k v1 C) ih 200 v1 (0 : Int32) C  _ _ _ hq (by show (gN C = gN C0 ∧ gE C = gE C0); omega) hP hD hS (lv_sub hl [1, 2, 0] rfl)
  have hq := hf
  rw [f_X2_close] at hq
  refine lv_aload_n hx hb dX2_close_0 rfl (lv_at hl 0 rfl) ?_
  refine va_get (D := D) (ci := 2) (v := .ref (xa 30)) (C := RX2) (T := TX2) (N := 3) hx hb hts kin_X2_close_X2 hown hK hP 13 rfl rfl 0 (by decide) (hts _ kw_X2_close__fieldLink_RX2_9_ActHouse_Waits_direct_J_) (fun _ h9 => h9) rfl dX2_close_1 ?_
  refine lv_iconst (v := 0) hx hb dX2_close_4 (by decide) ?_
  refine lv_aload_n hx hb dX2_close_5 rfl (lv_at hl 0 rfl) ?_
  refine va_get (D := D) (ci := 2) (v := .ref (xa 31)) (C := RX2) (T := TX2) (N := 3) hx hb hts kin_X2_close_X2 hown hK hP 13 rfl rfl 1 (by decide) (hts _ kw_X2_close__fieldLink_RX2_15_ActHouse_Waits_reach_J_) (fun _ h9 => h9) rfl dX2_close_6 ?_
  refine lv_iconst (v := 0) hx hb dX2_close_9 (by decide) ?_
  refine lv_aload_n hx hb dX2_close_10 rfl (lv_at hl 0 rfl) ?_
  refine va_get (D := D) (ci := 2) (v := .int (C0.1 32)) (C := RX2) (T := TX2) (N := 3) hx hb hts kin_X2_close_X2 hown hK hP 13 rfl rfl 2 (by decide) (hts _ kw_X2_close__fieldLink_RX2_24_ActHouse_Waits_many_I_) (fun _ h9 => h9) rfl dX2_close_11 ?_
  obtain ⟨b1, hq⟩ := k_if hq
  refine va_copyl hx hb (by rw [hml]; exact hl.1.symm) hown (hts _ kw_X2_close__methodLink_RX2_34_arraycopyName) (hts _ kw_X2_close__native_arraycopyName) (hts _ kw_X2_close__static_arraycopyName) (hts _ kw_X2_close__initialized_java_lang_System_) hK hP hD hS 14 15 2 2 (f := (C0.2.2.1 30)) (g := (C0.2.2.1 31)) rfl rfl rfl rfl rfl (sp := (0 : Int32)) (dp := (0 : Int32)) (n := (C0.1 32)) (k_nn b1.1.1) (k_nn b1.1.2.1) (k_nn b1.1.2.2) (by simp only [k_cl]; omega) (by simp only [k_cl]; omega) (fun _ _ => rfl) (Nat.le_of_ble_eq_true rfl) (Nat.le_of_ble_eq_true rfl) dX2_close_14 (fun H locs hP hD hS => ?_)
  obtain ⟨C2, eC2, hg2, hh2, hq⟩ := k_lc (C := C0) hq rfl rfl
  rw [cW_L31, ← eC2] at hP hD
  have hP : va_P D vwCl (cW cI cJ cO h xa ea0 pa0 C2) _ := hP
  have hD : va_D A (cW cI cJ cO h xa ea0 pa0 C2) := hD
  refine lv_iconst (v := 0) hx hb dX2_close_17 (by decide) ?_
  refine lv_istore_n (lv' := [(1, .int 0), (0, .ref (xa 11))]) hx hb dX2_close_18 rfl hl (by decide) rfl (fun ls hl => ?_)
  exact B19  200 (0 : Int32) C2  _ _ _ hq (by show (gN C2 = gN C0 ∧ gE C2 = gE C0); omega) hP hD hS (lv_sub hl [1, 0] rfl)
set_option maxRecDepth 100000 in
theorem kw_X2_isInRing__fieldLink_RX2_15_ActHouse_Waits_reach_J_ : (.fieldLink RX2 15 "ActHouse$Waits" "reach" "[J" : Cond) ∈ wsX2_isInRing := by decide +kernel
set_option maxRecDepth 100000 in
theorem kin_X2_isInRing_X2 : ∀ w ∈ u_ws RX2 TX2 3, w ∈ wsX2_isInRing := by decide +kernel
def f_X2_isInRing (x1 : Int32) (C0 : CS) : Option (Int32 × CS) := (if 0 ≤ x1.toInt ∧ x1.toInt < 36 then (if (lg_cmp ((((C0.2.2.1 31) x1.toNatClampNeg) >>> (x1.toInt64 &&& 63)) &&& 1) 0) = 0 then some ((0 : Int32), C0) else some ((1 : Int32), C0)) else none)
set_option maxHeartbeats 4000000 in
set_option maxRecDepth 100000 in
theorem c_X2_isInRing {l : Launch} {D : va_G} {sz : Nat} {cI cJ cO : ClassId} {h : Nat} {xa : Nat → Nat} {ea0 : Nat} {pa0 : Nat → Nat → Nat} {C0 C' : CS} {x1 r' : Int32} (hf : f_X2_isInRing x1 C0 = some (r', C')) : Met l yX2_isInRing wsX2_isInRing ({ frames := 0, cells := 0, slots := 0, locals := 0 }) (va_Pc [.ref (xa 11), .int x1] (k_Pre D [(cI, .int), (cO, .object RX0), (cJ, .long)] (cW cI cJ cO h xa ea0 pa0 C0) sz)) (va_Qi (fun (r0 : Int32) (u : va_W × List (ClassId × FieldType)) => r0 = r' ∧ u = (cW cI cJ cO h xa ea0 pa0 C', [(cI, .int), (cO, .object RX0), (cJ, .long)]) ∧ gN C' = gN C0 ∧ gE C' = gE C0) (k_B D (va_A (cW cI cJ cO h xa ea0 pa0 C0) sz)) (va_A (cW cI cJ cO h xa ea0 pa0 C0) sz)) (0) (0) (va_A (cW cI cJ cO h xa ea0 pa0 C0) sz) := by
  refine Met.ofW (cc := cX2_isInRing) (maxL := 2) (ret := (some .boolean)) (by decide) rfl ?_
  intro p e s m args below meth c s₁ B hml hv
  obtain ⟨rfl, hsz, hP, hK, hD0⟩ := hv
  have hx := B.exec
  have hb := B.bytes
  have hr := B.returns
  have hts := atoms_spec (ws := wsX2_isInRing) B.pre
  have hown : s.vm.findClass RX2 = some m.cls := findClass_of_methodNamed B.named
  have hlocks := B.notSynchronized
  subst hsz
  have hD := hD0.self (sz := s.heap.size)
  generalize hAe : va_A (cW cI cJ cO h xa ea0 pa0 C0) s.heap.size = A at hD ⊢
  have hA : ∀ q : Nat, s.heap.size ≤ q → A q := fun q h => by rw [← hAe]; exact Or.inr h
  have hS : va_S A s.heap s.heap [] := va_S.rf
  have hl := lv_entry ([.ref (xa 11), .int x1]) (n := 2) (Nat.le_of_ble_eq_true rfl)
  rw [lg_entry_eq]
  generalize (lg_sl ([.ref (xa 11), .int x1]) ++ List.replicate (2 - (lg_sl ([.ref (xa 11), .int x1])).length) Slot.unset).toArray = ls at hl ⊢
  have hl : lv_has ls 2 [(0, .ref (xa 11)), (1, .int x1)] := hl
  refine k_Q (fun Q hQ => ?_)
  have hg0 : gN C0 = gN C0 ∧ gE C0 = gE C0 := ⟨rfl, rfl⟩
  have hq := hf
  rw [f_X2_isInRing] at hq
  refine lv_aload_n hx hb dX2_isInRing_0 rfl (lv_at hl 0 rfl) ?_
  refine va_get (D := D) (ci := 2) (v := .ref (xa 31)) (C := RX2) (T := TX2) (N := 3) hx hb hts kin_X2_isInRing_X2 hown hK hP 13 rfl rfl 1 (by decide) (hts _ kw_X2_isInRing__fieldLink_RX2_15_ActHouse_Waits_reach_J_) (fun _ h9 => h9) rfl dX2_isInRing_1 ?_
  refine lv_iload_n hx hb dX2_isInRing_4 rfl (lv_at hl 1 rfl) ?_
  obtain ⟨b1, hq⟩ := k_if hq
  refine va_lald hx hb hK hP 15 2 (f := (C0.2.2.1 31)) rfl rfl (k_in b1.1 b1.2) dX2_isInRing_5 ?_
  refine lv_iload_n hx hb dX2_isInRing_6 rfl (lv_at hl 1 rfl) ?_
  refine lv_lshr (v := ((C0.2.2.1 31) x1.toNatClampNeg) >>> (x1.toInt64 &&& 63)) hx hb dX2_isInRing_7 rfl ?_
  refine lv_lconst (v := 1) hx hb dX2_isInRing_8 (by decide) ?_
  refine lv_land hx hb dX2_isInRing_9 ?_
  refine lv_lconst (v := 0) hx hb dX2_isInRing_10 (by decide) ?_
  refine W.lcmp hx hb dX2_isInRing_11 ?_
  refine lv_if_eq (tgt := 19) hx hb dX2_isInRing_12 (by decide) (fun c2 => ?_) (fun c2 => ?_)
  · skip
    rw [if_pos c2] at hq
    refine lv_iconst (v := 0) hx hb dX2_isInRing_19 (by decide) ?_
    obtain ⟨e2, e3⟩ := k_so hq
    subst hQ
    have hP : va_P D vwCl (cW cI cJ cO h xa ea0 pa0 C0) _ := hP
    have hD : va_D A (cW cI cJ cO h xa ea0 pa0 C0) := hD
    have hgE := congrArg (fun X : CS => gN X) e3
    have hgE : gN C0 = gN C' := hgE
    have hhE := congrArg (fun X : CS => gE X) e3
    have hhE : gE C0 = gE C' := hhE
    refine W.widen (k := 0) (n := 0) (by decide) (by decide) ?_
    exact W.zret (v := 0) hx hb hr (by decide) (fun t ht hW => ⟨⟨0, (cW cI cJ cO h xa ea0 pa0 C0, [(cI, .int), (cO, .object RX0), (cJ, .long)]), rfl, ⟨e2, (congrArg (fun X : CS => ((cW cI cJ cO h xa ea0 pa0 X, [(cI, .int), (cO, .object RX0), (cJ, .long)]) : va_W × List (ClassId × FieldType))) e3), by omega, by omega⟩, ⟨by rw [ht]; exact hP, va_K.moved hW.alike hK, hD⟩⟩, hS.F ht⟩) hS.2.2 dX2_isInRing_20
  · skip
    rw [if_neg c2] at hq
    refine lv_iconst (v := 1) hx hb dX2_isInRing_15 (by decide) ?_
    refine lv_goto (tgt := 20) hx hb dX2_isInRing_16 (by decide) ?_
    obtain ⟨e2, e3⟩ := k_so hq
    subst hQ
    have hP : va_P D vwCl (cW cI cJ cO h xa ea0 pa0 C0) _ := hP
    have hD : va_D A (cW cI cJ cO h xa ea0 pa0 C0) := hD
    have hgE := congrArg (fun X : CS => gN X) e3
    have hgE : gN C0 = gN C' := hgE
    have hhE := congrArg (fun X : CS => gE X) e3
    have hhE : gE C0 = gE C' := hhE
    refine W.widen (k := 0) (n := 0) (by decide) (by decide) ?_
    exact W.zret (v := 1) hx hb hr (by decide) (fun t ht hW => ⟨⟨1, (cW cI cJ cO h xa ea0 pa0 C0, [(cI, .int), (cO, .object RX0), (cJ, .long)]), rfl, ⟨e2, (congrArg (fun X : CS => ((cW cI cJ cO h xa ea0 pa0 X, [(cI, .int), (cO, .object RX0), (cJ, .long)]) : va_W × List (ClassId × FieldType))) e3), by omega, by omega⟩, ⟨by rw [ht]; exact hP, va_K.moved hW.alike hK, hD⟩⟩, hS.F ht⟩) hS.2.2 dX2_isInRing_20
theorem cW_len {cI cJ cO : ClassId} {h : Nat} {xa : Nat → Nat} {ea : Nat} {pa : Nat → Nat → Nat} {C : CS} : (cW cI cJ cO h xa ea pa C).length = 16 + 7 * gN C := by
  show (cX cI cJ cO h xa ea pa C ++ cPool cI pa (gP C) (gQ C) (gN C)).length = _
  rw [List.length_append, cPool_len]; rfl
theorem k_last {ws : va_W} {c : Nat × va_E} : (ws ++ [c])[ws.length]? = some c := by
  rw [List.getElem?_append_right (Nat.le_refl _), Nat.sub_self]; rfl
theorem k_app0 {ws w : va_W} {c : Nat × va_E} : (ws ++ c :: w)[ws.length]? = some c := by
  rw [List.getElem?_append_right (Nat.le_refl _), Nat.sub_self]; rfl
/-- a callee that had one cell of the world and gave it back with new ones behind -/
theorem k_oneN {D : va_G} {cl : List vw_C} {A : Nat → Prop} {ws : va_W} {H H1 : Heap} {q a b : Nat} {e e' : va_E} (he : ws[q]? = some (a, e)) (hP : va_P D cl ws H) (hD : va_D A ws) (hF : ∀ x, va_A [(a, e)] H.size x → A x) (hk1 : ∀ x : Nat, x < H.size → ¬ va_A [(a, e)] H.size x → H1[x]? = H[x]?) (hP1 : va_P D cl [(a, e), (b, e')] H1) (hD1 : va_D (va_A [(a, e)] H.size) [(a, e), (b, e')]) : va_P D cl (ws ++ [(b, e')]) H1 ∧ va_D A (ws ++ [(b, e')]) := by
  have hb : H.size ≤ b := by
    rcases hD1.2 1 (b, e') rfl with ⟨k, e2, hk⟩ | h
    · cases k with
      | zero => cases hk; exact absurd (hD1.1 0 1 _ _ rfl rfl rfl) (by omega)
      | succ k => cases hk
    · exact h
  have hw : ∀ (k : Nat) (x : Nat × va_E), ws[k]? = some x → va_at D cl x H1 := fun k x hk => by
    by_cases hkq : k = q
    · subst hkq; rw [he] at hk; cases hk; exact hP1 0 _ rfl
    · have h1 := hP k x hk
      refine h1.kept (hk1 x.1 h1.lt (fun ha => ?_))
      rcases ha with ⟨k', e'', hk'⟩ | ha
      · cases k' with
        | zero => cases hk'; exact hkq (hD.1 k q x (x.1, _) hk he rfl)
        | succ k' => cases hk'
      · have := h1.lt; omega
  have key : ∀ (k : Nat) (x : Nat × va_E), (ws ++ [(b, e')])[k]? = some x → (k < ws.length ∧ ws[k]? = some x) ∨ (k = ws.length ∧ x = (b, e')) := fun k x hk => by
    by_cases hl : k < ws.length
    · rw [List.getElem?_append_left hl] at hk; exact Or.inl ⟨hl, hk⟩
    · rw [List.getElem?_append_right (by omega)] at hk
      obtain ⟨hl2, -⟩ := List.getElem?_eq_some_iff.mp hk
      have : k - ws.length = 0 := by simpa using hl2
      rw [this] at hk; cases hk; exact Or.inr ⟨by omega, rfl⟩
  refine ⟨fun k x hk => ?_, fun i j p r hi hj hpr => ?_, fun k x hk => ?_⟩
  · rcases key k x hk with ⟨-, h⟩ | ⟨-, rfl⟩
    · exact hw k x h
    · exact hP1 1 _ rfl
  · rcases key i p hi with ⟨hi1, h1⟩ | ⟨hi1, rfl⟩ <;> rcases key j r hj with ⟨hj1, h2⟩ | ⟨hj1, rfl⟩
    · exact hD.1 i j p r h1 h2 hpr
    · have := (hP i p h1).lt; rw [hpr] at this; exact absurd this (by show ¬ b < H.size; omega)
    · have := (hP j r h2).lt; rw [← hpr] at this; exact absurd this (by show ¬ b < H.size; omega)
    · omega
  · rcases key k x hk with ⟨-, h⟩ | ⟨-, rfl⟩
    · exact hD.2 k x h
    · exact hF _ (hD1.2 1 _ rfl)
/-- a callee that had the last cell of the world and gave back several -/
theorem k_lastN {D : va_G} {cl : List vw_C} {A : Nat → Prop} {ws w1 : va_W} {c : Nat × va_E} {H H1 : Heap} (hP : va_P D cl (ws ++ [c]) H) (hD : va_D A (ws ++ [c])) (hF : ∀ x, va_A [c] H.size x → A x) (hk1 : ∀ x : Nat, x < H.size → ¬ va_A [c] H.size x → H1[x]? = H[x]?) (hP1 : va_P D cl w1 H1) (hD1 : va_D (va_A [c] H.size) w1) : va_P D cl (ws ++ w1) H1 ∧ va_D A (ws ++ w1) := by
  have hl0 : ∀ (k : Nat) (x : Nat × va_E), ws[k]? = some x → (ws ++ [c])[k]? = some x ∧ k < ws.length := fun k x hk => by
    have hl := (List.getElem?_eq_some_iff.mp hk).1
    exact ⟨by rw [List.getElem?_append_left hl]; exact hk, hl⟩
  have hout : ∀ (k : Nat) (x : Nat × va_E), ws[k]? = some x → ¬ va_A [c] H.size x.1 := fun k x hk ha => by
    obtain ⟨h1, h2⟩ := hl0 k x hk
    rcases ha with ⟨k', e'', hk'⟩ | ha
    · cases k' with
      | zero =>
        cases hk'
        have := hD.1 k ws.length x _ h1 k_last rfl
        omega
      | succ k' => cases hk'
    · have := (hP k x h1).lt; omega
  have key : ∀ (k : Nat) (x : Nat × va_E), (ws ++ w1)[k]? = some x → (ws[k]? = some x ∧ k < ws.length) ∨ (ws.length ≤ k ∧ w1[k - ws.length]? = some x) := fun k x hk => by
    by_cases hl : k < ws.length
    · rw [List.getElem?_append_left hl] at hk; exact Or.inl ⟨hk, hl⟩
    · rw [List.getElem?_append_right (by omega)] at hk; exact Or.inr ⟨by omega, hk⟩
  refine ⟨fun k x hk => ?_, fun i j p r hi hj hpr => ?_, fun k x hk => ?_⟩
  · rcases key k x hk with ⟨h, -⟩ | ⟨-, h⟩
    · exact (hP k x (hl0 k x h).1).kept (hk1 x.1 (hP k x (hl0 k x h).1).lt (hout k x h))
    · exact hP1 _ _ h
  · rcases key i p hi with ⟨h1, l1⟩ | ⟨l1, h1⟩ <;> rcases key j r hj with ⟨h2, l2⟩ | ⟨l2, h2⟩
    · exact hD.1 i j p r (hl0 i p h1).1 (hl0 j r h2).1 hpr
    · exact absurd (hpr ▸ hD1.2 _ _ h2) (hout i p h1)
    · exact absurd (hpr.symm ▸ hD1.2 _ _ h1) (hout j r h2)
    · have := hD1.1 _ _ _ _ h1 h2 hpr; omega
  · rcases key k x hk with ⟨h, -⟩ | ⟨-, h⟩
    · exact hD.2 k x (hl0 k x h).1
    · exact hF _ (hD1.2 _ _ h)
/-- the last cell takes the place of another -/
theorem k_mv {D : va_G} {cl : List vw_C} {A : Nat → Prop} {ws : va_W} {c : Nat × va_E} {H : Heap} {p : Nat} (hp : p < ws.length) (hP : va_P D cl (ws ++ [c]) H) (hD : va_D A (ws ++ [c])) : va_P D cl (ws.set p c) H ∧ va_D A (ws.set p c) := by
  have key : ∀ (k : Nat) (x : Nat × va_E), (ws.set p c)[k]? = some x → ∃ k', (ws ++ [c])[k']? = some x ∧ ((k = p ∧ k' = ws.length) ∨ (k ≠ p ∧ k' = k ∧ k < ws.length)) := fun k x hk => by
    by_cases h : k = p
    · subst h; rw [List.getElem?_set_self hp] at hk; cases hk; exact ⟨ws.length, k_last, Or.inl ⟨rfl, rfl⟩⟩
    · rw [List.getElem?_set_ne (fun q => h q.symm)] at hk
      have hl := (List.getElem?_eq_some_iff.mp hk).1
      exact ⟨k, by rw [List.getElem?_append_left hl]; exact hk, Or.inr ⟨h, rfl, hl⟩⟩
  refine ⟨fun k x hk => ?_, fun i j q r hi hj hqr => ?_, fun k x hk => ?_⟩
  · obtain ⟨k', h, -⟩ := key k x hk; exact hP k' x h
  · obtain ⟨i', h1, g1⟩ := key i q hi; obtain ⟨j', h2, g2⟩ := key j r hj
    have := hD.1 i' j' q r h1 h2 hqr
    omega
  · obtain ⟨k', h, -⟩ := key k x hk; exact hD.2 k' x h
theorem cW_E {cI cJ cO : ClassId} {h : Nat} {xa : Nat → Nat} {ea : Nat} {pa : Nat → Nat → Nat} {C : CS} {q : Nat} {f : Nat → Int32} : ((cW cI cJ cO h xa ea pa C).set 11 (xa 10, .inr (1, (bF xa ea C).set 0 (.ref q)))).set 12 (q, .inl (cI, 2 * gE C, .inl f)) = cW cI cJ cO h xa q pa (cEF C f) := rfl
theorem k_lE {β : Type} {C : CS} {g : Nat → Int32} {f : CS → Option β} {b : β} (h : k_let (cEF C g) f = some b) : ∃ X : CS, X = cEF C g ∧ gN X = gN C ∧ gE X = 2 * gE C ∧ f X = some b := ⟨_, rfl, rfl, rfl, h⟩
theorem k_lAdd {β : Type} {C : CS} {I : Nat → Int32} {A : Nat → Nat → Int32} {f : CS → Option β} {b : β} (h : k_let (cAdd C I A) f = some b) : ∃ X : CS, X = cAdd C I A ∧ gN X = gN C + 1 ∧ gE X = gE C ∧ f X = some b := ⟨_, rfl, rfl, rfl, h⟩
def k7 (q b4 b5 b6 b7 b8 b9 : Nat) : Nat → Nat := fun k => match k with | 0 => q | 4 => b4 | 5 => b5 | 6 => b6 | 7 => b7 | 8 => b8 | 9 => b9 | _ => 0
def kAct (x y z w : Int32) : Nat → Int32 := fun k => match k with | 0 => x | 1 => y | 2 => z | 3 => w | 15 => -1 | 16 => -1 | 17 => -1 | 18 => -1 | _ => 0
theorem cPool_congr {cI : ClassId} {pa pa' : Nat → Nat → Nat} {I I' : Nat → Nat → Int32} {A A' : Nat → Nat → Nat → Int32} (N : Nat) (h : ∀ n, n < N → pa' n = pa n ∧ I' n = I n ∧ A' n = A n) : cPool cI pa' I' A' N = cPool cI pa I A N := by
  induction N with
  | zero => rfl
  | succ m ih =>
    show cPool cI pa' I' A' m ++ cCell cI (pa' m) (I' m) (A' m) = cPool cI pa I A m ++ cCell cI (pa m) (I m) (A m)
    obtain ⟨h1, h2, h3⟩ := h m (by omega)
    rw [ih (fun n hn => h n (by omega)), h1, h2, h3]
theorem cW_add {cI cJ cO : ClassId} {h : Nat} {xa : Nat → Nat} {ea : Nat} {pa : Nat → Nat → Nat} {C : CS} {a : Nat → Nat} {I : Nat → Int32} {A : Nat → Nat → Int32} : (cW cI cJ cO h xa ea pa C ++ cCell cI a I A).set 6 (xa 5, .inl (cO, 80, .inr (.inr (.inr (.inr (va_up (cActs pa (gN C)) (gN C) (some (a 0)))))))) = cW cI cJ cO h xa ea (va_up pa (gN C) a) (cAdd C I A) := by
  have e2 : cActs (va_up pa (gN C) a) (gN C + 1) = va_up (cActs pa (gN C)) (gN C) (some (a 0)) := by
    funext i
    by_cases hi : i = gN C
    · subst hi; rw [va_up_self, cActs_lt (by omega), va_up_self]
    · show (if i < gN C + 1 then some (va_up pa (gN C) a i 0) else none) = (if i = gN C then some (a 0) else if i < gN C then some (pa i 0) else none)
      rw [if_neg hi, show va_up pa (gN C) a i = pa i from if_neg hi]
      by_cases h2 : i < gN C
      · rw [if_pos (by omega), if_pos h2]
      · rw [if_neg (by omega), if_neg h2]
  have e1 : cPool cI (va_up pa (gN C) a) (va_up (gP C) (gN C) I) (va_up (gQ C) (gN C) A) (gN C) = cPool cI pa (gP C) (gQ C) (gN C) := cPool_congr _ (fun n hn => ⟨if_neg (by omega), if_neg (by omega), if_neg (by omega)⟩)
  have e3 : cPool cI (va_up pa (gN C) a) (va_up (gP C) (gN C) I) (va_up (gQ C) (gN C) A) (gN C + 1) = cPool cI pa (gP C) (gQ C) (gN C) ++ cCell cI a I A := by
    show cPool cI (va_up pa (gN C) a) (va_up (gP C) (gN C) I) (va_up (gQ C) (gN C) A) (gN C) ++ cCell cI (va_up pa (gN C) a (gN C)) (va_up (gP C) (gN C) I (gN C)) (va_up (gQ C) (gN C) A (gN C)) = _
    rw [e1, va_up_self, va_up_self, va_up_self]
  show _ = cX cI cJ cO h xa ea (va_up pa (gN C) a) (cAdd C I A) ++ cPool cI (va_up pa (gN C) a) (va_up (gP C) (gN C) I) (va_up (gQ C) (gN C) A) (gN C + 1)
  rw [e3, ← List.append_assoc, ← e2]
  show ((cX cI cJ cO h xa ea pa C ++ cPool cI pa (gP C) (gQ C) (gN C)) ++ cCell cI a I A).set 6 _ = _
  rw [List.set_append_left _ _ (by rw [List.length_append]; show 6 < 16 + _; omega), List.set_append_left _ _ (by show 6 < 16; omega)]
  rfl

set_option maxRecDepth 100000 in
theorem kw_copyOf_1 : (.arrayClass .int : Cond) ∈ wsJ7_copyOf_59c91 := by decide +kernel
set_option maxRecDepth 100000 in
theorem kw_copyOf_2 : (.methodLink RJ7 304 Lib.Math.min.name : Cond) ∈ wsJ7_copyOf_59c91 := by decide +kernel
set_option maxRecDepth 100000 in
theorem kw_copyOf_3 : (.static Lib.Math.min.name : Cond) ∈ wsJ7_copyOf_59c91 := by decide +kernel
set_option maxRecDepth 100000 in
theorem kw_copyOf_4 : (.initialized "java/lang/Math" : Cond) ∈ wsJ7_copyOf_59c91 := by decide +kernel
set_option maxRecDepth 100000 in
theorem kw_copyOf_5 : (.code Lib.Math.min.name Lib.Math.min.code 2 (some .int) : Cond) ∈ wsJ7_copyOf_59c91 := by decide +kernel
set_option maxRecDepth 100000 in
theorem kw_copyOf_6 : (.methodLink RJ7 150 arraycopyName : Cond) ∈ wsJ7_copyOf_59c91 := by decide +kernel
set_option maxRecDepth 100000 in
theorem kw_copyOf_7 : (.native arraycopyName : Cond) ∈ wsJ7_copyOf_59c91 := by decide +kernel
set_option maxRecDepth 100000 in
theorem kw_copyOf_8 : (.static arraycopyName : Cond) ∈ wsJ7_copyOf_59c91 := by decide +kernel
set_option maxRecDepth 100000 in
theorem kw_copyOf_9 : (.initialized "java/lang/System" : Cond) ∈ wsJ7_copyOf_59c91 := by decide +kernel
set_option maxHeartbeats 4000000 in
set_option maxRecDepth 100000 in
theorem c_J7_copyOf {l : Launch} {D : va_G} {sz : Nat} {a n : Nat} {y : Int32} {f : Nat → Int32} {cI : ClassId} (hy : y.toInt = 2 * (n : Int)) (h1 : 1 ≤ n) (h2 : n ≤ 524288) : Met l yJ7_copyOf_59c91 wsJ7_copyOf_59c91 ({ frames := 1, cells := 1, slots := 2 * n, locals := 40 }) (va_Pc [.ref a, .int y] (k_Pre D [(cI, .int)] [(a, .inl (cI, n, .inl f))] sz)) (va_Qr (fun (_ : Unit) => True) (fun _ ra => k_B D (va_A [(a, .inl (cI, n, .inl f))] sz) ([(a, .inl (cI, n, .inl f)), (ra, .inl (cI, 2 * n, .inl (va_cpy f (fun _ => 0) 0 0 n)))], [(cI, .int)])) (va_A [(a, .inl (cI, n, .inl f))] sz)) 1 (2 * n) (va_A [(a, .inl (cI, n, .inl f))] sz) := by
  refine Met.ofW (cc := cJ7_copyOf_59c91) (maxL := 3) (ret := (some (.array .int))) (by decide) rfl ?_
  intro p e s m args below meth c s₁ B hml hv
  obtain ⟨rfl, hsz, hP, hK, hD0⟩ := hv
  have hx := B.exec
  have hb := B.bytes
  have hr := B.returns
  have hts := atoms_spec (ws := wsJ7_copyOf_59c91) B.pre
  have hown : s.vm.findClass RJ7 = some m.cls := findClass_of_methodNamed B.named
  have hlocks := B.notSynchronized
  subst hsz
  have hD := hD0.self (sz := s.heap.size)
  generalize hAe : va_A [(a, .inl (cI, n, .inl f))] s.heap.size = A at hD ⊢
  have hA : ∀ q : Nat, s.heap.size ≤ q → A q := fun q h => by rw [← hAe]; exact Or.inr h
  have hS : va_S A s.heap s.heap [] := va_S.rf
  have hl := lv_entry ([.ref a, .int y]) (n := 3) (Nat.le_of_ble_eq_true rfl)
  rw [lg_entry_eq]
  generalize (lg_sl ([.ref a, .int y]) ++ List.replicate (3 - (lg_sl ([.ref a, .int y])).length) Slot.unset).toArray = ls at hl ⊢
  have hl : lv_has ls 3 [(0, .ref a), (1, .int y)] := hl
  have hn0 : (nI n).toInt = n := nI_toInt (by omega)
  have hl0 : (0 : Int32).toInt = 0 := by decide
  refine lv_iload_n hx hb dJ7_copyOf_59c91_0 rfl (lv_at hl 1 rfl) ?_
  refine lv_aload_n hx hb dJ7_copyOf_59c91_1 rfl (lv_at hl 0 rfl) ?_
  refine va_alen hx hb hK hP 0 0 rfl rfl (v := nI n) rfl dJ7_copyOf_59c91_2 ?_
  refine lv_icmp_ne (tgt := 14) hx hb dJ7_copyOf_59c91_3 (by decide) (fun _ => ?_) (fun c1 => by have c1 := k_eq c1; omega)
  refine lv_iload_n hx hb dJ7_copyOf_59c91_14 rfl (lv_at hl 1 rfl) ?_
  refine k_newa (ty := .int) (N' := 2 * n) (a0 := (2 * n, .inl (fun _ => 0))) (atype := .int) hx hb (hts _ kw_copyOf_1) rfl hK 0 rfl (fun _ _ => rfl) hP hD hS hA (fun _ => rfl) (fun q => by have q := k_lt q; omega) (by simp only [k_cl]; omega) (by show 2 * n * 4 ≤ 536870912; omega) (by show 0 + 1 ≤ 1; omega) (by show 0 + 2 * n ≤ 2 * n; omega) dJ7_copyOf_59c91_15 (fun q H hP hD hS => ?_)
  have hP : va_P D vwCl [(a, .inl (cI, n, .inl f)), (q, .inl (cI, 2 * n, .inl (fun _ => 0)))] H := hP
  have hD : va_D A [(a, .inl (cI, n, .inl f)), (q, .inl (cI, 2 * n, .inl (fun _ => 0)))] := hD
  refine lv_astore_n (lv' := [(2, .ref q), (0, .ref a), (1, .int y)]) hx hb dJ7_copyOf_59c91_17 rfl hl (by decide) rfl (fun ls hl => ?_)
  refine lv_aload_n hx hb dJ7_copyOf_59c91_18 rfl (lv_at hl 1 rfl) ?_
  refine lv_iconst (v := 0) hx hb dJ7_copyOf_59c91_19 (by decide) ?_
  refine lv_aload_n hx hb dJ7_copyOf_59c91_20 rfl (lv_at hl 0 rfl) ?_
  refine lv_iconst (v := 0) hx hb dJ7_copyOf_59c91_21 (by decide) ?_
  refine lv_aload_n hx hb dJ7_copyOf_59c91_22 rfl (lv_at hl 1 rfl) ?_
  refine va_alen hx hb hK hP 0 0 rfl rfl (v := nI n) rfl dJ7_copyOf_59c91_23 ?_
  refine lv_iload_n hx hb dJ7_copyOf_59c91_24 rfl (lv_at hl 2 rfl) ?_
  refine va_mmin hx hb (by rw [hml]; exact hl.1.symm) hown (hts _ kw_copyOf_2) (hts _ kw_copyOf_3) (hts _ kw_copyOf_4) (hts _ kw_copyOf_5) (Nat.le_of_ble_eq_true rfl) (Nat.le_of_ble_eq_true rfl) (by show 0 + 1 ≤ 1; omega) (by show 0 + 2 * n ≤ 2 * n; omega) dJ7_copyOf_59c91_25 ?_
  refine W.eq (g2 := F0 m 28 ls [.int (nI n), .int 0, .ref q, .int 0, .ref a]) (by rw [if_neg (fun c2 => by have c2 := k_lt c2; omega)]) ?_
  refine va_copyi hx hb (by rw [hml]; exact hl.1.symm) hown (hts _ kw_copyOf_6) (hts _ kw_copyOf_7) (hts _ kw_copyOf_8) (hts _ kw_copyOf_9) hK hP hD hS 0 1 0 0 (f := f) (g := fun _ => 0) rfl rfl rfl rfl rfl (sp := 0) (dp := 0) (n := nI n) (by decide) (by decide) (k_nn (by omega)) (by simp only [k_cl]; omega) (by simp only [k_cl]; omega) (fun _ _ => rfl) (Nat.le_of_ble_eq_true rfl) (Nat.le_of_ble_eq_true rfl) dJ7_copyOf_59c91_28 (fun H locs hP hD hS => ?_)
  rw [show (nI n).toNatClampNeg = n from nI_clamp (by omega), show (0 : Int32).toNatClampNeg = 0 from by decide] at hP hD
  have hP : va_P D vwCl [(a, .inl (cI, n, .inl f)), (q, .inl (cI, 2 * n, .inl (va_cpy f (fun _ => 0) 0 0 n)))] H := hP
  have hD : va_D A [(a, .inl (cI, n, .inl f)), (q, .inl (cI, 2 * n, .inl (va_cpy f (fun _ => 0) 0 0 n)))] := hD
  refine lv_aload_n hx hb dJ7_copyOf_59c91_31 rfl (lv_at hl 0 rfl) ?_
  refine W.widen (k := 1) (n := 2 * n) (by omega) (by omega) ?_
  exact W.aret (v := .ref q) hx hb hr (Or.inr ⟨_, rfl⟩) (Or.inr ⟨_, rfl⟩) (fun t ht hW => ⟨⟨(), q, rfl, trivial, ⟨by rw [ht]; exact hP, va_K.moved hW.alike hK, hD⟩⟩, hS.F ht⟩) hS.2.2 dJ7_copyOf_59c91_32

set_option maxRecDepth 100000 in
theorem kw_X0_init__methodLink_RX0_3_objectInit : (.methodLink RX0 3 objectInit : Cond) ∈ wsX0_init := by decide +kernel
set_option maxRecDepth 100000 in
theorem kw_X0_init__instanceMethod_objectInit : (.instanceMethod objectInit : Cond) ∈ wsX0_init := by decide +kernel
set_option maxRecDepth 100000 in
theorem kw_X0_init__code_objectInit_0xb1_1_none : (.code objectInit ⟨#[0xb1]⟩ 1 none : Cond) ∈ wsX0_init := by decide +kernel
set_option maxRecDepth 100000 in
theorem kw_X0_init__arrayClass_int : (.arrayClass .int : Cond) ∈ wsX0_init := by decide +kernel
set_option maxRecDepth 100000 in
theorem kw_X0_init__fieldLink_RX0_9_ActHouse_Act_steps_I_ : (.fieldLink RX0 9 "ActHouse$Act" "steps" "[I" : Cond) ∈ wsX0_init := by decide +kernel
set_option maxRecDepth 100000 in
theorem kin_X0_init_X0 : ∀ w ∈ u_ws RX0 TX0 20, w ∈ wsX0_init := by decide +kernel
set_option maxRecDepth 100000 in
theorem kw_X0_init__fieldLink_RX0_15_ActHouse_Act_locks_I_ : (.fieldLink RX0 15 "ActHouse$Act" "locks" "[I" : Cond) ∈ wsX0_init := by decide +kernel
set_option maxRecDepth 100000 in
theorem kw_X0_init__fieldLink_RX0_18_ActHouse_Act_written_I_ : (.fieldLink RX0 18 "ActHouse$Act" "written" "[I" : Cond) ∈ wsX0_init := by decide +kernel
set_option maxRecDepth 100000 in
theorem kw_X0_init__fieldLink_RX0_21_ActHouse_Act_gives_I_ : (.fieldLink RX0 21 "ActHouse$Act" "gives" "[I" : Cond) ∈ wsX0_init := by decide +kernel
set_option maxRecDepth 100000 in
theorem kw_X0_init__fieldLink_RX0_24_ActHouse_Act_takes_I_ : (.fieldLink RX0 24 "ActHouse$Act" "takes" "[I" : Cond) ∈ wsX0_init := by decide +kernel
set_option maxRecDepth 100000 in
theorem kw_X0_init__fieldLink_RX0_27_ActHouse_Act_queue_I_ : (.fieldLink RX0 27 "ActHouse$Act" "queue" "[I" : Cond) ∈ wsX0_init := by decide +kernel
set_option maxRecDepth 100000 in
theorem kw_X0_init__fieldLink_RX0_30_ActHouse_Act_state_I_ : (.fieldLink RX0 30 "ActHouse$Act" "state" "I" : Cond) ∈ wsX0_init := by decide +kernel
set_option maxRecDepth 100000 in
theorem kw_X0_init__fieldLink_RX0_34_ActHouse_Act_heldTick_I_ : (.fieldLink RX0 34 "ActHouse$Act" "heldTick" "I" : Cond) ∈ wsX0_init := by decide +kernel
set_option maxRecDepth 100000 in
theorem kw_X0_init__fieldLink_RX0_37_ActHouse_Act_begunTick_I_ : (.fieldLink RX0 37 "ActHouse$Act" "begunTick" "I" : Cond) ∈ wsX0_init := by decide +kernel
set_option maxRecDepth 100000 in
theorem kw_X0_init__fieldLink_RX0_40_ActHouse_Act_doneTick_I_ : (.fieldLink RX0 40 "ActHouse$Act" "doneTick" "I" : Cond) ∈ wsX0_init := by decide +kernel
set_option maxRecDepth 100000 in
theorem kw_X0_init__fieldLink_RX0_43_ActHouse_Act_entry_I_ : (.fieldLink RX0 43 "ActHouse$Act" "entry" "I" : Cond) ∈ wsX0_init := by decide +kernel
set_option maxRecDepth 100000 in
theorem kw_X0_init__fieldLink_RX0_46_ActHouse_Act_program_I_ : (.fieldLink RX0 46 "ActHouse$Act" "program" "I" : Cond) ∈ wsX0_init := by decide +kernel
set_option maxRecDepth 100000 in
theorem kw_X0_init__fieldLink_RX0_49_ActHouse_Act_kind_I_ : (.fieldLink RX0 49 "ActHouse$Act" "kind" "I" : Cond) ∈ wsX0_init := by decide +kernel
set_option maxRecDepth 100000 in
theorem kw_X0_init__fieldLink_RX0_52_ActHouse_Act_rank_I_ : (.fieldLink RX0 52 "ActHouse$Act" "rank" "I" : Cond) ∈ wsX0_init := by decide +kernel
set_option maxRecDepth 100000 in
theorem kw_X0_init__fieldLink_RX0_55_ActHouse_Act_parent_I_ : (.fieldLink RX0 55 "ActHouse$Act" "parent" "I" : Cond) ∈ wsX0_init := by decide +kernel
set_option maxHeartbeats 4000000 in
set_option maxRecDepth 100000 in
theorem c_X0_init {l : Launch} {D : va_G} {sz : Nat} {h : Nat} {x : Int32} {y : Int32} {z : Int32} {w : Int32} {cI : ClassId}  : Met l yX0_init wsX0_init ({ frames := 1, cells := 6, slots := 88, locals := 12 }) (va_Pc [.ref h, .int x, .int y, .int z, .int w] (k_Pre D [(cI, .int)] [(h, .inr (0, [.int 0, .int 0, .int 0, .int 0, .null, .null, .null, .null, .null, .null, .int 0, .int 0, .int 0, .int 0, .int 0, .int 0, .int 0, .int 0, .int 0, .int 0]))] sz)) (va_Qv (fun (u : va_W × List (ClassId × FieldType)) => (∃ (bsteps : Nat) (blocks : Nat) (bwritten : Nat) (bgives : Nat) (btakes : Nat) (bqueue : Nat), u = ([(h, .inr (0, [.int x, .int y, .int z, .int w, .ref bsteps, .ref blocks, .ref bwritten, .ref bgives, .ref btakes, .ref bqueue, .int 0, .int 0, .int 0, .int 0, .int 0, .int (-1), .int (-1), .int (-1), .int (-1), .int 0])), (bsteps, .inl (cI, 12, .inl (fun _ => 0))), (blocks, .inl (cI, 24, .inl (fun _ => 0))), (bwritten, .inl (cI, 24, .inl (fun _ => 0))), (bgives, .inl (cI, 8, .inl (fun _ => 0))), (btakes, .inl (cI, 8, .inl (fun _ => 0))), (bqueue, .inl (cI, 12, .inl (fun _ => 0)))], [(cI, .int)]))) (k_B D (va_A [(h, .inr (0, [.int 0, .int 0, .int 0, .int 0, .null, .null, .null, .null, .null, .null, .int 0, .int 0, .int 0, .int 0, .int 0, .int 0, .int 0, .int 0, .int 0, .int 0]))] sz)) (va_A [(h, .inr (0, [.int 0, .int 0, .int 0, .int 0, .null, .null, .null, .null, .null, .null, .int 0, .int 0, .int 0, .int 0, .int 0, .int 0, .int 0, .int 0, .int 0, .int 0]))] sz)) (6) (88) (va_A [(h, .inr (0, [.int 0, .int 0, .int 0, .int 0, .null, .null, .null, .null, .null, .null, .int 0, .int 0, .int 0, .int 0, .int 0, .int 0, .int 0, .int 0, .int 0, .int 0]))] sz) := by
  refine Met.ofW (cc := cX0_init) (maxL := 5) (ret := none) (by decide) rfl ?_
  intro p e s m args below meth c s₁ B hml hv
  obtain ⟨rfl, hsz, hP, hK, hD0⟩ := hv
  have hx := B.exec
  have hb := B.bytes
  have hr := B.returns
  have hts := atoms_spec (ws := wsX0_init) B.pre
  have hown : s.vm.findClass RX0 = some m.cls := findClass_of_methodNamed B.named
  have hlocks := B.notSynchronized
  have hin : meth.name = "<init>" := (name_of_methodNamed B.named B.method).1
  subst hsz
  have hD := hD0.self (sz := s.heap.size)
  generalize hAe : va_A [(h, .inr (0, [.int 0, .int 0, .int 0, .int 0, .null, .null, .null, .null, .null, .null, .int 0, .int 0, .int 0, .int 0, .int 0, .int 0, .int 0, .int 0, .int 0, .int 0]))] s.heap.size = A at hD ⊢
  have hA : ∀ q : Nat, s.heap.size ≤ q → A q := fun q h => by rw [← hAe]; exact Or.inr h
  have hS : va_S A s.heap s.heap [] := va_S.rf
  have hl := lv_entry ([.ref h, .int x, .int y, .int z, .int w]) (n := 5) (Nat.le_of_ble_eq_true rfl)
  rw [lg_entry_eq]
  generalize (lg_sl ([.ref h, .int x, .int y, .int z, .int w]) ++ List.replicate (5 - (lg_sl ([.ref h, .int x, .int y, .int z, .int w])).length) Slot.unset).toArray = ls at hl ⊢
  have hl : lv_has ls 5 [(0, .ref h), (1, .int x), (2, .int y), (3, .int z), (4, .int w)] := hl
  refine lv_aload_n hx hb dX0_init_0 rfl (lv_at hl 0 rfl) ?_
  refine W.objInit hx hb hown (hts _ kw_X0_init__methodLink_RX0_3_objectInit) (hts _ kw_X0_init__instanceMethod_objectInit) (hts _ kw_X0_init__code_objectInit_0xb1_1_none) rfl (by rw [hml]; exact hl.1) rfl dX0_init_1 (Nat.le_of_ble_eq_true rfl) (Nat.le_of_ble_eq_true rfl) ?_
  refine W.eq (g2 := F0 m 4 ls []) rfl ?_
  refine lv_aload_n hx hb dX0_init_4 rfl (lv_at hl 0 rfl) ?_
  refine lv_bipush (v := 12) hx hb dX0_init_5 (by decide) ?_
  refine k_newa (ty := .int) (N' := 12) (a0 := (12, .inl (fun _ => 0))) (atype := .int) hx hb (hts _ kw_X0_init__arrayClass_int) rfl hK 0 rfl (fun _ _ => rfl) hP hD hS hA (fun _ => rfl) (by decide) (by decide) (by decide) (by decide) (by decide) dX0_init_7 (fun q7 H hP hD hS => ?_)
  refine W.widen (k := 1) (n := 12) (by decide) (by decide) ?_
  have hP : va_P D vwCl [(h, .inr (0, [.int 0, .int 0, .int 0, .int 0, .null, .null, .null, .null, .null, .null, .int 0, .int 0, .int 0, .int 0, .int 0, .int 0, .int 0, .int 0, .int 0, .int 0])), (q7, .inl (cI, 12, .inl (fun _ => 0)))] H := hP
  have hD : va_D A [(h, .inr (0, [.int 0, .int 0, .int 0, .int 0, .null, .null, .null, .null, .null, .null, .int 0, .int 0, .int 0, .int 0, .int 0, .int 0, .int 0, .int 0, .int 0, .int 0])), (q7, .inl (cI, 12, .inl (fun _ => 0)))] := hD
  refine va_putF (D := D) (ci := 0) (v := .ref q7) (ty := .array .int) (C := RX0) (T := TX0) (N := 20) hx hb hts kin_X0_init_X0 tyX0 tyX0_ok nmX0 hown hK hP hD hS 0 rfl rfl 4 (by decide) (hts _ kw_X0_init__fieldLink_RX0_9_ActHouse_Act_steps_I_) (fun _ h9 => h9) rfl hin rfl (by decide +kernel) rfl rfl (Nat.le_of_ble_eq_true rfl) dX0_init_9 (fun H locs hP hD hS => ?_)
  have hP : va_P D vwCl [(h, .inr (0, [.int 0, .int 0, .int 0, .int 0, .ref q7, .null, .null, .null, .null, .null, .int 0, .int 0, .int 0, .int 0, .int 0, .int 0, .int 0, .int 0, .int 0, .int 0])), (q7, .inl (cI, 12, .inl (fun _ => 0)))] H := hP
  have hD : va_D A [(h, .inr (0, [.int 0, .int 0, .int 0, .int 0, .ref q7, .null, .null, .null, .null, .null, .int 0, .int 0, .int 0, .int 0, .int 0, .int 0, .int 0, .int 0, .int 0, .int 0])), (q7, .inl (cI, 12, .inl (fun _ => 0)))] := hD
  refine lv_aload_n hx hb dX0_init_12 rfl (lv_at hl 0 rfl) ?_
  refine lv_bipush (v := 24) hx hb dX0_init_13 (by decide) ?_
  refine k_newa (ty := .int) (N' := 24) (a0 := (24, .inl (fun _ => 0))) (atype := .int) hx hb (hts _ kw_X0_init__arrayClass_int) rfl hK 0 rfl (fun _ _ => rfl) hP hD hS hA (fun _ => rfl) (by decide) (by decide) (by decide) (by decide) (by decide) dX0_init_15 (fun q15 H hP hD hS => ?_)
  refine W.widen (k := 2) (n := 36) (by decide) (by decide) ?_
  have hP : va_P D vwCl [(h, .inr (0, [.int 0, .int 0, .int 0, .int 0, .ref q7, .null, .null, .null, .null, .null, .int 0, .int 0, .int 0, .int 0, .int 0, .int 0, .int 0, .int 0, .int 0, .int 0])), (q7, .inl (cI, 12, .inl (fun _ => 0))), (q15, .inl (cI, 24, .inl (fun _ => 0)))] H := hP
  have hD : va_D A [(h, .inr (0, [.int 0, .int 0, .int 0, .int 0, .ref q7, .null, .null, .null, .null, .null, .int 0, .int 0, .int 0, .int 0, .int 0, .int 0, .int 0, .int 0, .int 0, .int 0])), (q7, .inl (cI, 12, .inl (fun _ => 0))), (q15, .inl (cI, 24, .inl (fun _ => 0)))] := hD
  refine va_putF (D := D) (ci := 0) (v := .ref q15) (ty := .array .int) (C := RX0) (T := TX0) (N := 20) hx hb hts kin_X0_init_X0 tyX0 tyX0_ok nmX0 hown hK hP hD hS 0 rfl rfl 5 (by decide) (hts _ kw_X0_init__fieldLink_RX0_15_ActHouse_Act_locks_I_) (fun _ h9 => h9) rfl hin rfl (by decide +kernel) rfl rfl (Nat.le_of_ble_eq_true rfl) dX0_init_17 (fun H locs hP hD hS => ?_)
  have hP : va_P D vwCl [(h, .inr (0, [.int 0, .int 0, .int 0, .int 0, .ref q7, .ref q15, .null, .null, .null, .null, .int 0, .int 0, .int 0, .int 0, .int 0, .int 0, .int 0, .int 0, .int 0, .int 0])), (q7, .inl (cI, 12, .inl (fun _ => 0))), (q15, .inl (cI, 24, .inl (fun _ => 0)))] H := hP
  have hD : va_D A [(h, .inr (0, [.int 0, .int 0, .int 0, .int 0, .ref q7, .ref q15, .null, .null, .null, .null, .int 0, .int 0, .int 0, .int 0, .int 0, .int 0, .int 0, .int 0, .int 0, .int 0])), (q7, .inl (cI, 12, .inl (fun _ => 0))), (q15, .inl (cI, 24, .inl (fun _ => 0)))] := hD
  refine lv_aload_n hx hb dX0_init_20 rfl (lv_at hl 0 rfl) ?_
  refine lv_bipush (v := 24) hx hb dX0_init_21 (by decide) ?_
  refine k_newa (ty := .int) (N' := 24) (a0 := (24, .inl (fun _ => 0))) (atype := .int) hx hb (hts _ kw_X0_init__arrayClass_int) rfl hK 0 rfl (fun _ _ => rfl) hP hD hS hA (fun _ => rfl) (by decide) (by decide) (by decide) (by decide) (by decide) dX0_init_23 (fun q23 H hP hD hS => ?_)
  refine W.widen (k := 3) (n := 60) (by decide) (by decide) ?_
  have hP : va_P D vwCl [(h, .inr (0, [.int 0, .int 0, .int 0, .int 0, .ref q7, .ref q15, .null, .null, .null, .null, .int 0, .int 0, .int 0, .int 0, .int 0, .int 0, .int 0, .int 0, .int 0, .int 0])), (q7, .inl (cI, 12, .inl (fun _ => 0))), (q15, .inl (cI, 24, .inl (fun _ => 0))), (q23, .inl (cI, 24, .inl (fun _ => 0)))] H := hP
  have hD : va_D A [(h, .inr (0, [.int 0, .int 0, .int 0, .int 0, .ref q7, .ref q15, .null, .null, .null, .null, .int 0, .int 0, .int 0, .int 0, .int 0, .int 0, .int 0, .int 0, .int 0, .int 0])), (q7, .inl (cI, 12, .inl (fun _ => 0))), (q15, .inl (cI, 24, .inl (fun _ => 0))), (q23, .inl (cI, 24, .inl (fun _ => 0)))] := hD
  refine va_putF (D := D) (ci := 0) (v := .ref q23) (ty := .array .int) (C := RX0) (T := TX0) (N := 20) hx hb hts kin_X0_init_X0 tyX0 tyX0_ok nmX0 hown hK hP hD hS 0 rfl rfl 6 (by decide) (hts _ kw_X0_init__fieldLink_RX0_18_ActHouse_Act_written_I_) (fun _ h9 => h9) rfl hin rfl (by decide +kernel) rfl rfl (Nat.le_of_ble_eq_true rfl) dX0_init_25 (fun H locs hP hD hS => ?_)
  have hP : va_P D vwCl [(h, .inr (0, [.int 0, .int 0, .int 0, .int 0, .ref q7, .ref q15, .ref q23, .null, .null, .null, .int 0, .int 0, .int 0, .int 0, .int 0, .int 0, .int 0, .int 0, .int 0, .int 0])), (q7, .inl (cI, 12, .inl (fun _ => 0))), (q15, .inl (cI, 24, .inl (fun _ => 0))), (q23, .inl (cI, 24, .inl (fun _ => 0)))] H := hP
  have hD : va_D A [(h, .inr (0, [.int 0, .int 0, .int 0, .int 0, .ref q7, .ref q15, .ref q23, .null, .null, .null, .int 0, .int 0, .int 0, .int 0, .int 0, .int 0, .int 0, .int 0, .int 0, .int 0])), (q7, .inl (cI, 12, .inl (fun _ => 0))), (q15, .inl (cI, 24, .inl (fun _ => 0))), (q23, .inl (cI, 24, .inl (fun _ => 0)))] := hD
  refine lv_aload_n hx hb dX0_init_28 rfl (lv_at hl 0 rfl) ?_
  refine lv_bipush (v := 8) hx hb dX0_init_29 (by decide) ?_
  refine k_newa (ty := .int) (N' := 8) (a0 := (8, .inl (fun _ => 0))) (atype := .int) hx hb (hts _ kw_X0_init__arrayClass_int) rfl hK 0 rfl (fun _ _ => rfl) hP hD hS hA (fun _ => rfl) (by decide) (by decide) (by decide) (by decide) (by decide) dX0_init_31 (fun q31 H hP hD hS => ?_)
  refine W.widen (k := 4) (n := 68) (by decide) (by decide) ?_
  have hP : va_P D vwCl [(h, .inr (0, [.int 0, .int 0, .int 0, .int 0, .ref q7, .ref q15, .ref q23, .null, .null, .null, .int 0, .int 0, .int 0, .int 0, .int 0, .int 0, .int 0, .int 0, .int 0, .int 0])), (q7, .inl (cI, 12, .inl (fun _ => 0))), (q15, .inl (cI, 24, .inl (fun _ => 0))), (q23, .inl (cI, 24, .inl (fun _ => 0))), (q31, .inl (cI, 8, .inl (fun _ => 0)))] H := hP
  have hD : va_D A [(h, .inr (0, [.int 0, .int 0, .int 0, .int 0, .ref q7, .ref q15, .ref q23, .null, .null, .null, .int 0, .int 0, .int 0, .int 0, .int 0, .int 0, .int 0, .int 0, .int 0, .int 0])), (q7, .inl (cI, 12, .inl (fun _ => 0))), (q15, .inl (cI, 24, .inl (fun _ => 0))), (q23, .inl (cI, 24, .inl (fun _ => 0))), (q31, .inl (cI, 8, .inl (fun _ => 0)))] := hD
  refine va_putF (D := D) (ci := 0) (v := .ref q31) (ty := .array .int) (C := RX0) (T := TX0) (N := 20) hx hb hts kin_X0_init_X0 tyX0 tyX0_ok nmX0 hown hK hP hD hS 0 rfl rfl 7 (by decide) (hts _ kw_X0_init__fieldLink_RX0_21_ActHouse_Act_gives_I_) (fun _ h9 => h9) rfl hin rfl (by decide +kernel) rfl rfl (Nat.le_of_ble_eq_true rfl) dX0_init_33 (fun H locs hP hD hS => ?_)
  have hP : va_P D vwCl [(h, .inr (0, [.int 0, .int 0, .int 0, .int 0, .ref q7, .ref q15, .ref q23, .ref q31, .null, .null, .int 0, .int 0, .int 0, .int 0, .int 0, .int 0, .int 0, .int 0, .int 0, .int 0])), (q7, .inl (cI, 12, .inl (fun _ => 0))), (q15, .inl (cI, 24, .inl (fun _ => 0))), (q23, .inl (cI, 24, .inl (fun _ => 0))), (q31, .inl (cI, 8, .inl (fun _ => 0)))] H := hP
  have hD : va_D A [(h, .inr (0, [.int 0, .int 0, .int 0, .int 0, .ref q7, .ref q15, .ref q23, .ref q31, .null, .null, .int 0, .int 0, .int 0, .int 0, .int 0, .int 0, .int 0, .int 0, .int 0, .int 0])), (q7, .inl (cI, 12, .inl (fun _ => 0))), (q15, .inl (cI, 24, .inl (fun _ => 0))), (q23, .inl (cI, 24, .inl (fun _ => 0))), (q31, .inl (cI, 8, .inl (fun _ => 0)))] := hD
  refine lv_aload_n hx hb dX0_init_36 rfl (lv_at hl 0 rfl) ?_
  refine lv_bipush (v := 8) hx hb dX0_init_37 (by decide) ?_
  refine k_newa (ty := .int) (N' := 8) (a0 := (8, .inl (fun _ => 0))) (atype := .int) hx hb (hts _ kw_X0_init__arrayClass_int) rfl hK 0 rfl (fun _ _ => rfl) hP hD hS hA (fun _ => rfl) (by decide) (by decide) (by decide) (by decide) (by decide) dX0_init_39 (fun q39 H hP hD hS => ?_)
  refine W.widen (k := 5) (n := 76) (by decide) (by decide) ?_
  have hP : va_P D vwCl [(h, .inr (0, [.int 0, .int 0, .int 0, .int 0, .ref q7, .ref q15, .ref q23, .ref q31, .null, .null, .int 0, .int 0, .int 0, .int 0, .int 0, .int 0, .int 0, .int 0, .int 0, .int 0])), (q7, .inl (cI, 12, .inl (fun _ => 0))), (q15, .inl (cI, 24, .inl (fun _ => 0))), (q23, .inl (cI, 24, .inl (fun _ => 0))), (q31, .inl (cI, 8, .inl (fun _ => 0))), (q39, .inl (cI, 8, .inl (fun _ => 0)))] H := hP
  have hD : va_D A [(h, .inr (0, [.int 0, .int 0, .int 0, .int 0, .ref q7, .ref q15, .ref q23, .ref q31, .null, .null, .int 0, .int 0, .int 0, .int 0, .int 0, .int 0, .int 0, .int 0, .int 0, .int 0])), (q7, .inl (cI, 12, .inl (fun _ => 0))), (q15, .inl (cI, 24, .inl (fun _ => 0))), (q23, .inl (cI, 24, .inl (fun _ => 0))), (q31, .inl (cI, 8, .inl (fun _ => 0))), (q39, .inl (cI, 8, .inl (fun _ => 0)))] := hD
  refine va_putF (D := D) (ci := 0) (v := .ref q39) (ty := .array .int) (C := RX0) (T := TX0) (N := 20) hx hb hts kin_X0_init_X0 tyX0 tyX0_ok nmX0 hown hK hP hD hS 0 rfl rfl 8 (by decide) (hts _ kw_X0_init__fieldLink_RX0_24_ActHouse_Act_takes_I_) (fun _ h9 => h9) rfl hin rfl (by decide +kernel) rfl rfl (Nat.le_of_ble_eq_true rfl) dX0_init_41 (fun H locs hP hD hS => ?_)
  have hP : va_P D vwCl [(h, .inr (0, [.int 0, .int 0, .int 0, .int 0, .ref q7, .ref q15, .ref q23, .ref q31, .ref q39, .null, .int 0, .int 0, .int 0, .int 0, .int 0, .int 0, .int 0, .int 0, .int 0, .int 0])), (q7, .inl (cI, 12, .inl (fun _ => 0))), (q15, .inl (cI, 24, .inl (fun _ => 0))), (q23, .inl (cI, 24, .inl (fun _ => 0))), (q31, .inl (cI, 8, .inl (fun _ => 0))), (q39, .inl (cI, 8, .inl (fun _ => 0)))] H := hP
  have hD : va_D A [(h, .inr (0, [.int 0, .int 0, .int 0, .int 0, .ref q7, .ref q15, .ref q23, .ref q31, .ref q39, .null, .int 0, .int 0, .int 0, .int 0, .int 0, .int 0, .int 0, .int 0, .int 0, .int 0])), (q7, .inl (cI, 12, .inl (fun _ => 0))), (q15, .inl (cI, 24, .inl (fun _ => 0))), (q23, .inl (cI, 24, .inl (fun _ => 0))), (q31, .inl (cI, 8, .inl (fun _ => 0))), (q39, .inl (cI, 8, .inl (fun _ => 0)))] := hD
  refine lv_aload_n hx hb dX0_init_44 rfl (lv_at hl 0 rfl) ?_
  refine lv_bipush (v := 12) hx hb dX0_init_45 (by decide) ?_
  refine k_newa (ty := .int) (N' := 12) (a0 := (12, .inl (fun _ => 0))) (atype := .int) hx hb (hts _ kw_X0_init__arrayClass_int) rfl hK 0 rfl (fun _ _ => rfl) hP hD hS hA (fun _ => rfl) (by decide) (by decide) (by decide) (by decide) (by decide) dX0_init_47 (fun q47 H hP hD hS => ?_)
  refine W.widen (k := 6) (n := 88) (by decide) (by decide) ?_
  have hP : va_P D vwCl [(h, .inr (0, [.int 0, .int 0, .int 0, .int 0, .ref q7, .ref q15, .ref q23, .ref q31, .ref q39, .null, .int 0, .int 0, .int 0, .int 0, .int 0, .int 0, .int 0, .int 0, .int 0, .int 0])), (q7, .inl (cI, 12, .inl (fun _ => 0))), (q15, .inl (cI, 24, .inl (fun _ => 0))), (q23, .inl (cI, 24, .inl (fun _ => 0))), (q31, .inl (cI, 8, .inl (fun _ => 0))), (q39, .inl (cI, 8, .inl (fun _ => 0))), (q47, .inl (cI, 12, .inl (fun _ => 0)))] H := hP
  have hD : va_D A [(h, .inr (0, [.int 0, .int 0, .int 0, .int 0, .ref q7, .ref q15, .ref q23, .ref q31, .ref q39, .null, .int 0, .int 0, .int 0, .int 0, .int 0, .int 0, .int 0, .int 0, .int 0, .int 0])), (q7, .inl (cI, 12, .inl (fun _ => 0))), (q15, .inl (cI, 24, .inl (fun _ => 0))), (q23, .inl (cI, 24, .inl (fun _ => 0))), (q31, .inl (cI, 8, .inl (fun _ => 0))), (q39, .inl (cI, 8, .inl (fun _ => 0))), (q47, .inl (cI, 12, .inl (fun _ => 0)))] := hD
  refine va_putF (D := D) (ci := 0) (v := .ref q47) (ty := .array .int) (C := RX0) (T := TX0) (N := 20) hx hb hts kin_X0_init_X0 tyX0 tyX0_ok nmX0 hown hK hP hD hS 0 rfl rfl 9 (by decide) (hts _ kw_X0_init__fieldLink_RX0_27_ActHouse_Act_queue_I_) (fun _ h9 => h9) rfl hin rfl (by decide +kernel) rfl rfl (Nat.le_of_ble_eq_true rfl) dX0_init_49 (fun H locs hP hD hS => ?_)
  have hP : va_P D vwCl [(h, .inr (0, [.int 0, .int 0, .int 0, .int 0, .ref q7, .ref q15, .ref q23, .ref q31, .ref q39, .ref q47, .int 0, .int 0, .int 0, .int 0, .int 0, .int 0, .int 0, .int 0, .int 0, .int 0])), (q7, .inl (cI, 12, .inl (fun _ => 0))), (q15, .inl (cI, 24, .inl (fun _ => 0))), (q23, .inl (cI, 24, .inl (fun _ => 0))), (q31, .inl (cI, 8, .inl (fun _ => 0))), (q39, .inl (cI, 8, .inl (fun _ => 0))), (q47, .inl (cI, 12, .inl (fun _ => 0)))] H := hP
  have hD : va_D A [(h, .inr (0, [.int 0, .int 0, .int 0, .int 0, .ref q7, .ref q15, .ref q23, .ref q31, .ref q39, .ref q47, .int 0, .int 0, .int 0, .int 0, .int 0, .int 0, .int 0, .int 0, .int 0, .int 0])), (q7, .inl (cI, 12, .inl (fun _ => 0))), (q15, .inl (cI, 24, .inl (fun _ => 0))), (q23, .inl (cI, 24, .inl (fun _ => 0))), (q31, .inl (cI, 8, .inl (fun _ => 0))), (q39, .inl (cI, 8, .inl (fun _ => 0))), (q47, .inl (cI, 12, .inl (fun _ => 0)))] := hD
  refine lv_aload_n hx hb dX0_init_52 rfl (lv_at hl 0 rfl) ?_
  refine lv_iconst (v := 0) hx hb dX0_init_53 (by decide) ?_
  refine va_put (D := D) (ci := 0) (v := .int 0) (ty := .int) (C := RX0) (T := TX0) (N := 20) hx hb hts kin_X0_init_X0 tyX0 tyX0_ok nmX0 hown hK hP hD hS 0 rfl rfl 12 (by decide) (hts _ kw_X0_init__fieldLink_RX0_30_ActHouse_Act_state_I_) (fun _ h9 => h9) rfl (by decide +kernel) rfl rfl (Nat.le_of_ble_eq_true rfl) dX0_init_54 (fun H locs hP hD hS => ?_)
  have hP : va_P D vwCl [(h, .inr (0, [.int 0, .int 0, .int 0, .int 0, .ref q7, .ref q15, .ref q23, .ref q31, .ref q39, .ref q47, .int 0, .int 0, .int 0, .int 0, .int 0, .int 0, .int 0, .int 0, .int 0, .int 0])), (q7, .inl (cI, 12, .inl (fun _ => 0))), (q15, .inl (cI, 24, .inl (fun _ => 0))), (q23, .inl (cI, 24, .inl (fun _ => 0))), (q31, .inl (cI, 8, .inl (fun _ => 0))), (q39, .inl (cI, 8, .inl (fun _ => 0))), (q47, .inl (cI, 12, .inl (fun _ => 0)))] H := hP
  have hD : va_D A [(h, .inr (0, [.int 0, .int 0, .int 0, .int 0, .ref q7, .ref q15, .ref q23, .ref q31, .ref q39, .ref q47, .int 0, .int 0, .int 0, .int 0, .int 0, .int 0, .int 0, .int 0, .int 0, .int 0])), (q7, .inl (cI, 12, .inl (fun _ => 0))), (q15, .inl (cI, 24, .inl (fun _ => 0))), (q23, .inl (cI, 24, .inl (fun _ => 0))), (q31, .inl (cI, 8, .inl (fun _ => 0))), (q39, .inl (cI, 8, .inl (fun _ => 0))), (q47, .inl (cI, 12, .inl (fun _ => 0)))] := hD
  refine lv_aload_n hx hb dX0_init_57 rfl (lv_at hl 0 rfl) ?_
  refine lv_iconst (v := (-1)) hx hb dX0_init_58 (by decide) ?_
  refine va_put (D := D) (ci := 0) (v := .int (-1)) (ty := .int) (C := RX0) (T := TX0) (N := 20) hx hb hts kin_X0_init_X0 tyX0 tyX0_ok nmX0 hown hK hP hD hS 0 rfl rfl 15 (by decide) (hts _ kw_X0_init__fieldLink_RX0_34_ActHouse_Act_heldTick_I_) (fun _ h9 => h9) rfl (by decide +kernel) rfl rfl (Nat.le_of_ble_eq_true rfl) dX0_init_59 (fun H locs hP hD hS => ?_)
  have hP : va_P D vwCl [(h, .inr (0, [.int 0, .int 0, .int 0, .int 0, .ref q7, .ref q15, .ref q23, .ref q31, .ref q39, .ref q47, .int 0, .int 0, .int 0, .int 0, .int 0, .int (-1), .int 0, .int 0, .int 0, .int 0])), (q7, .inl (cI, 12, .inl (fun _ => 0))), (q15, .inl (cI, 24, .inl (fun _ => 0))), (q23, .inl (cI, 24, .inl (fun _ => 0))), (q31, .inl (cI, 8, .inl (fun _ => 0))), (q39, .inl (cI, 8, .inl (fun _ => 0))), (q47, .inl (cI, 12, .inl (fun _ => 0)))] H := hP
  have hD : va_D A [(h, .inr (0, [.int 0, .int 0, .int 0, .int 0, .ref q7, .ref q15, .ref q23, .ref q31, .ref q39, .ref q47, .int 0, .int 0, .int 0, .int 0, .int 0, .int (-1), .int 0, .int 0, .int 0, .int 0])), (q7, .inl (cI, 12, .inl (fun _ => 0))), (q15, .inl (cI, 24, .inl (fun _ => 0))), (q23, .inl (cI, 24, .inl (fun _ => 0))), (q31, .inl (cI, 8, .inl (fun _ => 0))), (q39, .inl (cI, 8, .inl (fun _ => 0))), (q47, .inl (cI, 12, .inl (fun _ => 0)))] := hD
  refine lv_aload_n hx hb dX0_init_62 rfl (lv_at hl 0 rfl) ?_
  refine lv_iconst (v := (-1)) hx hb dX0_init_63 (by decide) ?_
  refine va_put (D := D) (ci := 0) (v := .int (-1)) (ty := .int) (C := RX0) (T := TX0) (N := 20) hx hb hts kin_X0_init_X0 tyX0 tyX0_ok nmX0 hown hK hP hD hS 0 rfl rfl 16 (by decide) (hts _ kw_X0_init__fieldLink_RX0_37_ActHouse_Act_begunTick_I_) (fun _ h9 => h9) rfl (by decide +kernel) rfl rfl (Nat.le_of_ble_eq_true rfl) dX0_init_64 (fun H locs hP hD hS => ?_)
  have hP : va_P D vwCl [(h, .inr (0, [.int 0, .int 0, .int 0, .int 0, .ref q7, .ref q15, .ref q23, .ref q31, .ref q39, .ref q47, .int 0, .int 0, .int 0, .int 0, .int 0, .int (-1), .int (-1), .int 0, .int 0, .int 0])), (q7, .inl (cI, 12, .inl (fun _ => 0))), (q15, .inl (cI, 24, .inl (fun _ => 0))), (q23, .inl (cI, 24, .inl (fun _ => 0))), (q31, .inl (cI, 8, .inl (fun _ => 0))), (q39, .inl (cI, 8, .inl (fun _ => 0))), (q47, .inl (cI, 12, .inl (fun _ => 0)))] H := hP
  have hD : va_D A [(h, .inr (0, [.int 0, .int 0, .int 0, .int 0, .ref q7, .ref q15, .ref q23, .ref q31, .ref q39, .ref q47, .int 0, .int 0, .int 0, .int 0, .int 0, .int (-1), .int (-1), .int 0, .int 0, .int 0])), (q7, .inl (cI, 12, .inl (fun _ => 0))), (q15, .inl (cI, 24, .inl (fun _ => 0))), (q23, .inl (cI, 24, .inl (fun _ => 0))), (q31, .inl (cI, 8, .inl (fun _ => 0))), (q39, .inl (cI, 8, .inl (fun _ => 0))), (q47, .inl (cI, 12, .inl (fun _ => 0)))] := hD
  refine lv_aload_n hx hb dX0_init_67 rfl (lv_at hl 0 rfl) ?_
  refine lv_iconst (v := (-1)) hx hb dX0_init_68 (by decide) ?_
  refine va_put (D := D) (ci := 0) (v := .int (-1)) (ty := .int) (C := RX0) (T := TX0) (N := 20) hx hb hts kin_X0_init_X0 tyX0 tyX0_ok nmX0 hown hK hP hD hS 0 rfl rfl 17 (by decide) (hts _ kw_X0_init__fieldLink_RX0_40_ActHouse_Act_doneTick_I_) (fun _ h9 => h9) rfl (by decide +kernel) rfl rfl (Nat.le_of_ble_eq_true rfl) dX0_init_69 (fun H locs hP hD hS => ?_)
  have hP : va_P D vwCl [(h, .inr (0, [.int 0, .int 0, .int 0, .int 0, .ref q7, .ref q15, .ref q23, .ref q31, .ref q39, .ref q47, .int 0, .int 0, .int 0, .int 0, .int 0, .int (-1), .int (-1), .int (-1), .int 0, .int 0])), (q7, .inl (cI, 12, .inl (fun _ => 0))), (q15, .inl (cI, 24, .inl (fun _ => 0))), (q23, .inl (cI, 24, .inl (fun _ => 0))), (q31, .inl (cI, 8, .inl (fun _ => 0))), (q39, .inl (cI, 8, .inl (fun _ => 0))), (q47, .inl (cI, 12, .inl (fun _ => 0)))] H := hP
  have hD : va_D A [(h, .inr (0, [.int 0, .int 0, .int 0, .int 0, .ref q7, .ref q15, .ref q23, .ref q31, .ref q39, .ref q47, .int 0, .int 0, .int 0, .int 0, .int 0, .int (-1), .int (-1), .int (-1), .int 0, .int 0])), (q7, .inl (cI, 12, .inl (fun _ => 0))), (q15, .inl (cI, 24, .inl (fun _ => 0))), (q23, .inl (cI, 24, .inl (fun _ => 0))), (q31, .inl (cI, 8, .inl (fun _ => 0))), (q39, .inl (cI, 8, .inl (fun _ => 0))), (q47, .inl (cI, 12, .inl (fun _ => 0)))] := hD
  refine lv_aload_n hx hb dX0_init_72 rfl (lv_at hl 0 rfl) ?_
  refine lv_iconst (v := (-1)) hx hb dX0_init_73 (by decide) ?_
  refine va_put (D := D) (ci := 0) (v := .int (-1)) (ty := .int) (C := RX0) (T := TX0) (N := 20) hx hb hts kin_X0_init_X0 tyX0 tyX0_ok nmX0 hown hK hP hD hS 0 rfl rfl 18 (by decide) (hts _ kw_X0_init__fieldLink_RX0_43_ActHouse_Act_entry_I_) (fun _ h9 => h9) rfl (by decide +kernel) rfl rfl (Nat.le_of_ble_eq_true rfl) dX0_init_74 (fun H locs hP hD hS => ?_)
  have hP : va_P D vwCl [(h, .inr (0, [.int 0, .int 0, .int 0, .int 0, .ref q7, .ref q15, .ref q23, .ref q31, .ref q39, .ref q47, .int 0, .int 0, .int 0, .int 0, .int 0, .int (-1), .int (-1), .int (-1), .int (-1), .int 0])), (q7, .inl (cI, 12, .inl (fun _ => 0))), (q15, .inl (cI, 24, .inl (fun _ => 0))), (q23, .inl (cI, 24, .inl (fun _ => 0))), (q31, .inl (cI, 8, .inl (fun _ => 0))), (q39, .inl (cI, 8, .inl (fun _ => 0))), (q47, .inl (cI, 12, .inl (fun _ => 0)))] H := hP
  have hD : va_D A [(h, .inr (0, [.int 0, .int 0, .int 0, .int 0, .ref q7, .ref q15, .ref q23, .ref q31, .ref q39, .ref q47, .int 0, .int 0, .int 0, .int 0, .int 0, .int (-1), .int (-1), .int (-1), .int (-1), .int 0])), (q7, .inl (cI, 12, .inl (fun _ => 0))), (q15, .inl (cI, 24, .inl (fun _ => 0))), (q23, .inl (cI, 24, .inl (fun _ => 0))), (q31, .inl (cI, 8, .inl (fun _ => 0))), (q39, .inl (cI, 8, .inl (fun _ => 0))), (q47, .inl (cI, 12, .inl (fun _ => 0)))] := hD
  refine lv_aload_n hx hb dX0_init_77 rfl (lv_at hl 0 rfl) ?_
  refine lv_iload_n hx hb dX0_init_78 rfl (lv_at hl 1 rfl) ?_
  refine va_putF (D := D) (ci := 0) (v := .int x) (ty := .int) (C := RX0) (T := TX0) (N := 20) hx hb hts kin_X0_init_X0 tyX0 tyX0_ok nmX0 hown hK hP hD hS 0 rfl rfl 0 (by decide) (hts _ kw_X0_init__fieldLink_RX0_46_ActHouse_Act_program_I_) (fun _ h9 => h9) rfl hin rfl (by decide +kernel) rfl rfl (Nat.le_of_ble_eq_true rfl) dX0_init_79 (fun H locs hP hD hS => ?_)
  have hP : va_P D vwCl [(h, .inr (0, [.int x, .int 0, .int 0, .int 0, .ref q7, .ref q15, .ref q23, .ref q31, .ref q39, .ref q47, .int 0, .int 0, .int 0, .int 0, .int 0, .int (-1), .int (-1), .int (-1), .int (-1), .int 0])), (q7, .inl (cI, 12, .inl (fun _ => 0))), (q15, .inl (cI, 24, .inl (fun _ => 0))), (q23, .inl (cI, 24, .inl (fun _ => 0))), (q31, .inl (cI, 8, .inl (fun _ => 0))), (q39, .inl (cI, 8, .inl (fun _ => 0))), (q47, .inl (cI, 12, .inl (fun _ => 0)))] H := hP
  have hD : va_D A [(h, .inr (0, [.int x, .int 0, .int 0, .int 0, .ref q7, .ref q15, .ref q23, .ref q31, .ref q39, .ref q47, .int 0, .int 0, .int 0, .int 0, .int 0, .int (-1), .int (-1), .int (-1), .int (-1), .int 0])), (q7, .inl (cI, 12, .inl (fun _ => 0))), (q15, .inl (cI, 24, .inl (fun _ => 0))), (q23, .inl (cI, 24, .inl (fun _ => 0))), (q31, .inl (cI, 8, .inl (fun _ => 0))), (q39, .inl (cI, 8, .inl (fun _ => 0))), (q47, .inl (cI, 12, .inl (fun _ => 0)))] := hD
  refine lv_aload_n hx hb dX0_init_82 rfl (lv_at hl 0 rfl) ?_
  refine lv_iload_n hx hb dX0_init_83 rfl (lv_at hl 2 rfl) ?_
  refine va_putF (D := D) (ci := 0) (v := .int y) (ty := .int) (C := RX0) (T := TX0) (N := 20) hx hb hts kin_X0_init_X0 tyX0 tyX0_ok nmX0 hown hK hP hD hS 0 rfl rfl 1 (by decide) (hts _ kw_X0_init__fieldLink_RX0_49_ActHouse_Act_kind_I_) (fun _ h9 => h9) rfl hin rfl (by decide +kernel) rfl rfl (Nat.le_of_ble_eq_true rfl) dX0_init_84 (fun H locs hP hD hS => ?_)
  have hP : va_P D vwCl [(h, .inr (0, [.int x, .int y, .int 0, .int 0, .ref q7, .ref q15, .ref q23, .ref q31, .ref q39, .ref q47, .int 0, .int 0, .int 0, .int 0, .int 0, .int (-1), .int (-1), .int (-1), .int (-1), .int 0])), (q7, .inl (cI, 12, .inl (fun _ => 0))), (q15, .inl (cI, 24, .inl (fun _ => 0))), (q23, .inl (cI, 24, .inl (fun _ => 0))), (q31, .inl (cI, 8, .inl (fun _ => 0))), (q39, .inl (cI, 8, .inl (fun _ => 0))), (q47, .inl (cI, 12, .inl (fun _ => 0)))] H := hP
  have hD : va_D A [(h, .inr (0, [.int x, .int y, .int 0, .int 0, .ref q7, .ref q15, .ref q23, .ref q31, .ref q39, .ref q47, .int 0, .int 0, .int 0, .int 0, .int 0, .int (-1), .int (-1), .int (-1), .int (-1), .int 0])), (q7, .inl (cI, 12, .inl (fun _ => 0))), (q15, .inl (cI, 24, .inl (fun _ => 0))), (q23, .inl (cI, 24, .inl (fun _ => 0))), (q31, .inl (cI, 8, .inl (fun _ => 0))), (q39, .inl (cI, 8, .inl (fun _ => 0))), (q47, .inl (cI, 12, .inl (fun _ => 0)))] := hD
  refine lv_aload_n hx hb dX0_init_87 rfl (lv_at hl 0 rfl) ?_
  refine lv_iload_n hx hb dX0_init_88 rfl (lv_at hl 3 rfl) ?_
  refine va_putF (D := D) (ci := 0) (v := .int z) (ty := .int) (C := RX0) (T := TX0) (N := 20) hx hb hts kin_X0_init_X0 tyX0 tyX0_ok nmX0 hown hK hP hD hS 0 rfl rfl 2 (by decide) (hts _ kw_X0_init__fieldLink_RX0_52_ActHouse_Act_rank_I_) (fun _ h9 => h9) rfl hin rfl (by decide +kernel) rfl rfl (Nat.le_of_ble_eq_true rfl) dX0_init_89 (fun H locs hP hD hS => ?_)
  have hP : va_P D vwCl [(h, .inr (0, [.int x, .int y, .int z, .int 0, .ref q7, .ref q15, .ref q23, .ref q31, .ref q39, .ref q47, .int 0, .int 0, .int 0, .int 0, .int 0, .int (-1), .int (-1), .int (-1), .int (-1), .int 0])), (q7, .inl (cI, 12, .inl (fun _ => 0))), (q15, .inl (cI, 24, .inl (fun _ => 0))), (q23, .inl (cI, 24, .inl (fun _ => 0))), (q31, .inl (cI, 8, .inl (fun _ => 0))), (q39, .inl (cI, 8, .inl (fun _ => 0))), (q47, .inl (cI, 12, .inl (fun _ => 0)))] H := hP
  have hD : va_D A [(h, .inr (0, [.int x, .int y, .int z, .int 0, .ref q7, .ref q15, .ref q23, .ref q31, .ref q39, .ref q47, .int 0, .int 0, .int 0, .int 0, .int 0, .int (-1), .int (-1), .int (-1), .int (-1), .int 0])), (q7, .inl (cI, 12, .inl (fun _ => 0))), (q15, .inl (cI, 24, .inl (fun _ => 0))), (q23, .inl (cI, 24, .inl (fun _ => 0))), (q31, .inl (cI, 8, .inl (fun _ => 0))), (q39, .inl (cI, 8, .inl (fun _ => 0))), (q47, .inl (cI, 12, .inl (fun _ => 0)))] := hD
  refine lv_aload_n hx hb dX0_init_92 rfl (lv_at hl 0 rfl) ?_
  refine lv_iload hx hb dX0_init_93 (lv_at hl 4 rfl) ?_
  refine va_putF (D := D) (ci := 0) (v := .int w) (ty := .int) (C := RX0) (T := TX0) (N := 20) hx hb hts kin_X0_init_X0 tyX0 tyX0_ok nmX0 hown hK hP hD hS 0 rfl rfl 3 (by decide) (hts _ kw_X0_init__fieldLink_RX0_55_ActHouse_Act_parent_I_) (fun _ h9 => h9) rfl hin rfl (by decide +kernel) rfl rfl (Nat.le_of_ble_eq_true rfl) dX0_init_95 (fun H locs hP hD hS => ?_)
  have hP : va_P D vwCl [(h, .inr (0, [.int x, .int y, .int z, .int w, .ref q7, .ref q15, .ref q23, .ref q31, .ref q39, .ref q47, .int 0, .int 0, .int 0, .int 0, .int 0, .int (-1), .int (-1), .int (-1), .int (-1), .int 0])), (q7, .inl (cI, 12, .inl (fun _ => 0))), (q15, .inl (cI, 24, .inl (fun _ => 0))), (q23, .inl (cI, 24, .inl (fun _ => 0))), (q31, .inl (cI, 8, .inl (fun _ => 0))), (q39, .inl (cI, 8, .inl (fun _ => 0))), (q47, .inl (cI, 12, .inl (fun _ => 0)))] H := hP
  have hD : va_D A [(h, .inr (0, [.int x, .int y, .int z, .int w, .ref q7, .ref q15, .ref q23, .ref q31, .ref q39, .ref q47, .int 0, .int 0, .int 0, .int 0, .int 0, .int (-1), .int (-1), .int (-1), .int (-1), .int 0])), (q7, .inl (cI, 12, .inl (fun _ => 0))), (q15, .inl (cI, 24, .inl (fun _ => 0))), (q23, .inl (cI, 24, .inl (fun _ => 0))), (q31, .inl (cI, 8, .inl (fun _ => 0))), (q39, .inl (cI, 8, .inl (fun _ => 0))), (q47, .inl (cI, 12, .inl (fun _ => 0)))] := hD
  have hP := hP.sub (ws' := [(h, .inr (0, [.int x, .int y, .int z, .int w, .ref q7, .ref q15, .ref q23, .ref q31, .ref q39, .ref q47, .int 0, .int 0, .int 0, .int 0, .int 0, .int (-1), .int (-1), .int (-1), .int (-1), .int 0])), (q7, .inl (cI, 12, .inl (fun _ => 0))), (q15, .inl (cI, 24, .inl (fun _ => 0))), (q23, .inl (cI, 24, .inl (fun _ => 0))), (q31, .inl (cI, 8, .inl (fun _ => 0))), (q39, .inl (cI, 8, .inl (fun _ => 0))), (q47, .inl (cI, 12, .inl (fun _ => 0)))]) [0, 1, 2, 3, 4, 5, 6] rfl
  have hD := hD.sub (ws' := [(h, .inr (0, [.int x, .int y, .int z, .int w, .ref q7, .ref q15, .ref q23, .ref q31, .ref q39, .ref q47, .int 0, .int 0, .int 0, .int 0, .int 0, .int (-1), .int (-1), .int (-1), .int (-1), .int 0])), (q7, .inl (cI, 12, .inl (fun _ => 0))), (q15, .inl (cI, 24, .inl (fun _ => 0))), (q23, .inl (cI, 24, .inl (fun _ => 0))), (q31, .inl (cI, 8, .inl (fun _ => 0))), (q39, .inl (cI, 8, .inl (fun _ => 0))), (q47, .inl (cI, 12, .inl (fun _ => 0)))]) [0, 1, 2, 3, 4, 5, 6] (by decide) rfl
  have hK := hK.sub (tys' := [(cI, .int)]) [0] rfl
  refine W.widen (k := 6) (n := 88) (by decide) (by decide) ?_
  exact W.vret hx hb hr (fun t ht hW => ⟨⟨([(h, .inr (0, [.int x, .int y, .int z, .int w, .ref q7, .ref q15, .ref q23, .ref q31, .ref q39, .ref q47, .int 0, .int 0, .int 0, .int 0, .int 0, .int (-1), .int (-1), .int (-1), .int (-1), .int 0])), (q7, .inl (cI, 12, .inl (fun _ => 0))), (q15, .inl (cI, 24, .inl (fun _ => 0))), (q23, .inl (cI, 24, .inl (fun _ => 0))), (q31, .inl (cI, 8, .inl (fun _ => 0))), (q39, .inl (cI, 8, .inl (fun _ => 0))), (q47, .inl (cI, 12, .inl (fun _ => 0)))], [(cI, .int)]), rfl, ⟨q7, q15, q23, q31, q39, q47, rfl⟩, ⟨by rw [ht]; exact hP, va_K.moved hW.alike hK, hD⟩⟩, hS.F ht⟩) hS.2.2 dX0_init_98
set_option maxRecDepth 100000 in
theorem kw_X1_write__fieldLink_RX1_15_ActHouse_LogBook_size_I_ : (.fieldLink RX1 15 "ActHouse$LogBook" "size" "I" : Cond) ∈ wsX1_write := by decide +kernel
set_option maxRecDepth 100000 in
theorem kin_X1_write_X1 : ∀ w ∈ u_ws RX1 TX1 3, w ∈ wsX1_write := by decide +kernel
set_option maxRecDepth 100000 in
theorem kw_X1_write__constant_RX1_19_1048576_ : (.constant RX1 19 (1048576) : Cond) ∈ wsX1_write := by decide +kernel
set_option maxRecDepth 100000 in
theorem kw_X1_write__fieldLink_RX1_11_ActHouse_LogBook_entries_I_ : (.fieldLink RX1 11 "ActHouse$LogBook" "entries" "[I" : Cond) ∈ wsX1_write := by decide +kernel
def f_X1_write_41  (v1 : Int32) (v2 : Int32) (v3 : Int32) (v4 : Int32)  (C : CS) : Option (Int32 × CS) := (if 0 ≤ (C.1 21).toInt ∧ (C.1 21).toInt < gE C then (k_let (cAF C 20 (upd (C.2.1 20) ((C.1 21).toNatClampNeg) ((((v4 <<< (15 &&& 31)) ||| ((v3 + 1) <<< (10 &&& 31))) ||| (v2 <<< (3 &&& 31))) ||| v1))) fun C4 => (k_let (cN C4 21 ((C4.1 21) + 1)) fun C5 => some (((C5.1 21) - 1), C5))) else none)
def f_X1_write (x1 : Int32) (x2 : Int32) (x3 : Int32) (x4 : Int32) (C0 : CS) : Option (Int32 × CS) := (if (C0.1 21) < 1048576 then (if (C0.1 21) < (nI (gE C0)) then f_X1_write_41  x1 x2 x3 x4 C0 else (if 256 ≤ gE C0 ∧ gE C0 ≤ 524288 then (k_let (cEF C0 (va_cpy (C0.2.1 20) (fun _ => 0) 0 0 (gE C0))) fun C7 => f_X1_write_41  x1 x2 x3 x4 C7) else none)) else some (((-1) : Int32), C0))
set_option maxHeartbeats 4000000 in
set_option maxRecDepth 100000 in
theorem c_X1_write {l : Launch} {D : va_G} {hp : Heap} {cI cJ cO : ClassId} {h : Nat} {xa : Nat → Nat} {ea0 : Nat} {pa0 : Nat → Nat → Nat} {C0 C' : CS} {x1 x2 x3 x4 r' : Int32} (hg : gN C0 ≤ 80 ∧ gE C0 ≤ 1048576) (hf : f_X1_write x1 x2 x3 x4 C0 = some (r', C')) : Met l yX1_write wsX1_write ({ frames := 2, cells := 7 * (80 - gN C0) + (1048576 - gE C0) / 256, slots := 108 * (80 - gN C0) + 2 * (1048576 - gE C0), locals := 62 }) (va_Pc [.ref (xa 10), .int x1, .int x2, .int x3, .int x4] (k_PreH D [(cI, .int), (cO, .object RX0), (cJ, .long)] (cW cI cJ cO h xa ea0 pa0 C0) hp)) (va_Qi (fun (r0 : Int32) (u : va_W × List (ClassId × FieldType)) => ∃ (ea' : Nat) (pa' : Nat → Nat → Nat), r0 = r' ∧ u = (cW cI cJ cO h xa ea' pa' C', [(cI, .int), (cO, .object RX0), (cJ, .long)]) ∧ (gN C0 ≤ gN C' ∧ gN C' ≤ 80 ∧ gE C0 ≤ gE C' ∧ gE C' ≤ 1048576) ∧ ∀ n, n < gN C0 → pa' n = pa0 n) (k_BM D (va_A (cW cI cJ cO h xa ea0 pa0 C0) hp.size) hp (7 * (gN C' - gN C0) + (gE C' - gE C0) / 256) (108 * (gN C' - gN C0) + 2 * (gE C' - gE C0))) (va_A (cW cI cJ cO h xa ea0 pa0 C0) hp.size)) (7 * (80 - gN C0) + (1048576 - gE C0) / 256) (108 * (80 - gN C0) + 2 * (1048576 - gE C0)) (va_A (cW cI cJ cO h xa ea0 pa0 C0) hp.size) := by
  refine Met.ofW (cc := cX1_write) (maxL := 5) (ret := (some .int)) (by decide) rfl ?_
  intro p e s m args below meth c s₁ B hml hv
  obtain ⟨rfl, hsz, hP, hK, hD0⟩ := hv
  have hx := B.exec
  have hb := B.bytes
  have hr := B.returns
  have hts := atoms_spec (ws := wsX1_write) B.pre
  have hown : s.vm.findClass RX1 = some m.cls := findClass_of_methodNamed B.named
  have hlocks := B.notSynchronized
  have hsz : s.heap = hp := hsz
  subst hsz
  have hD := hD0.self (sz := s.heap.size)
  generalize hAe : va_A (cW cI cJ cO h xa ea0 pa0 C0) s.heap.size = A at hD ⊢
  have hA : ∀ q : Nat, s.heap.size ≤ q → A q := fun q h => by rw [← hAe]; exact Or.inr h
  have hS : va_S A s.heap s.heap [] := va_S.rf
  have hl := lv_entry ([.ref (xa 10), .int x1, .int x2, .int x3, .int x4]) (n := 5) (Nat.le_of_ble_eq_true rfl)
  rw [lg_entry_eq]
  generalize (lg_sl ([.ref (xa 10), .int x1, .int x2, .int x3, .int x4]) ++ List.replicate (5 - (lg_sl ([.ref (xa 10), .int x1, .int x2, .int x3, .int x4])).length) Slot.unset).toArray = ls at hl ⊢
  have hl : lv_has ls 5 [(0, .ref (xa 10)), (1, .int x1), (2, .int x2), (3, .int x3), (4, .int x4)] := hl
  refine k_Q (fun Q hQ => ?_)
  have B41 : ∀ (v1 : Int32) (v2 : Int32) (v3 : Int32) (v4 : Int32)  (C : CS) (ea : Nat) (pa : Nat → Nat → Nat) (H : Heap) (locs : List Loc) (ls : Array Slot), f_X1_write_41 v1 v2 v3 v4 C = some (r', C') → (gN C0 ≤ gN C ∧ gN C ≤ 80 ∧ gE C0 ≤ gE C ∧ gE C ≤ 1048576) → (∀ n, n < gN C0 → pa n = pa0 n) → va_P D vwCl (cW cI cJ cO h xa ea pa C) H → va_D A (cW cI cJ cO h xa ea pa C) → va_S A s.heap H locs → lv_has ls 5 [(0, .ref (xa 10)), (1, .int v1), (2, .int v2), (3, .int v3), (4, .int v4)] → W p l e (headSpec wsX1_write ({ frames := 2, cells := 7 * (80 - gN C0) + (1048576 - gE C0) / 256, slots := 108 * (80 - gN C0) + 2 * (1048576 - gE C0), locals := 62 })).room s m ([.ref (xa 10), .int x1, .int x2, .int x3, .int x4] : List Value).toArray below meth c H locs ((7 * (gN C - gN C0) + (gE C - gE C0) / 256)) ((108 * (gN C - gN C0) + 2 * (gE C - gE C0))) Q (F0 m 41 ls []) := by
    intro v1 v2 v3 v4  C ea pa H locs ls hq hg hpa  hP hD hS hl
    rw [f_X1_write_41] at hq
    refine lv_aload_n hx hb dX1_write_41 rfl (lv_at hl 0 rfl) ?_
    refine va_get (D := D) (ci := 1) (v := .ref ea) (C := RX1) (T := TX1) (N := 3) hx hb hts kin_X1_write_X1 hown hK hP 11 rfl rfl 0 (by decide) (hts _ kw_X1_write__fieldLink_RX1_11_ActHouse_LogBook_entries_I_) (fun _ h9 => h9) rfl dX1_write_42 ?_
    refine lv_aload_n hx hb dX1_write_45 rfl (lv_at hl 0 rfl) ?_
    refine va_get (D := D) (ci := 1) (v := .int (C.1 21)) (C := RX1) (T := TX1) (N := 3) hx hb hts kin_X1_write_X1 hown hK hP 11 rfl rfl 1 (by decide) (hts _ kw_X1_write__fieldLink_RX1_15_ActHouse_LogBook_size_I_) (fun _ h9 => h9) rfl dX1_write_46 ?_
    refine lv_iload hx hb dX1_write_49 (lv_at hl 4 rfl) ?_
    refine lv_bipush (v := 15) hx hb dX1_write_51 (by decide) ?_
    refine lv_ishl hx hb dX1_write_53 ?_
    refine lv_iload_n hx hb dX1_write_54 rfl (lv_at hl 3 rfl) ?_
    refine lv_iconst (v := 1) hx hb dX1_write_55 (by decide) ?_
    refine lv_iadd hx hb dX1_write_56 ?_
    refine lv_bipush (v := 10) hx hb dX1_write_57 (by decide) ?_
    refine lv_ishl hx hb dX1_write_59 ?_
    refine lv_ior hx hb dX1_write_60 ?_
    refine lv_iload_n hx hb dX1_write_61 rfl (lv_at hl 2 rfl) ?_
    refine lv_iconst (v := 3) hx hb dX1_write_62 (by decide) ?_
    refine lv_ishl hx hb dX1_write_63 ?_
    refine lv_ior hx hb dX1_write_64 ?_
    refine lv_iload_n hx hb dX1_write_65 rfl (lv_at hl 1 rfl) ?_
    refine lv_ior hx hb dX1_write_66 ?_
    obtain ⟨b3, hq⟩ := k_if hq
    refine va_iast hx hb hK hP hD hS 12 0 (f := (C.2.1 20)) rfl rfl (x := ((((v4 <<< (15 &&& 31)) ||| ((v3 + 1) <<< (10 &&& 31))) ||| (v2 <<< (3 &&& 31))) ||| v1)) (k_in b3.1 b3.2) dX1_write_67 (fun H locs hP hD hS => ?_)
    obtain ⟨C4, eC4, hg4, hh4, hq⟩ := k_lc (C := C) hq rfl rfl
    rw [cW_F20, ← eC4] at hP hD
    have hP : va_P D vwCl (cW cI cJ cO h xa ea pa C4) _ := hP
    have hD : va_D A (cW cI cJ cO h xa ea pa C4) := hD
    refine W.widen (k := (7 * (gN C4 - gN C0) + (gE C4 - gE C0) / 256)) (n := (108 * (gN C4 - gN C0) + 2 * (gE C4 - gE C0))) (by omega) (by omega) ?_
    refine lv_aload_n hx hb dX1_write_68 rfl (lv_at hl 0 rfl) ?_
    refine lv_dup hx hb dX1_write_69 rfl ?_
    refine va_get (D := D) (ci := 1) (v := .int (C4.1 21)) (C := RX1) (T := TX1) (N := 3) hx hb hts kin_X1_write_X1 hown hK hP 11 rfl rfl 1 (by decide) (hts _ kw_X1_write__fieldLink_RX1_15_ActHouse_LogBook_size_I_) (fun _ h9 => h9) rfl dX1_write_70 ?_
    refine lv_iconst (v := 1) hx hb dX1_write_73 (by decide) ?_
    refine lv_iadd hx hb dX1_write_74 ?_
    refine va_put (D := D) (ci := 1) (v := .int ((C4.1 21) + 1)) (ty := .int) (C := RX1) (T := TX1) (N := 3) hx hb hts kin_X1_write_X1 tyX1 tyX1_ok nmX1 hown hK hP hD hS 11 (fs := bF xa ea C4) rfl rfl 1 (by decide) (hts _ kw_X1_write__fieldLink_RX1_15_ActHouse_LogBook_size_I_) (fun _ h9 => h9) rfl (by decide +kernel) rfl rfl (Nat.le_of_ble_eq_true rfl) dX1_write_75 (fun H locs hP hD hS => ?_)
    obtain ⟨C5, eC5, hg5, hh5, hq⟩ := k_lc (C := C4) hq rfl rfl
    rw [cW_I21, ← eC5] at hP hD
    have hP : va_P D vwCl (cW cI cJ cO h xa ea pa C5) _ := hP
    have hD : va_D A (cW cI cJ cO h xa ea pa C5) := hD
    refine W.widen (k := (7 * (gN C5 - gN C0) + (gE C5 - gE C0) / 256)) (n := (108 * (gN C5 - gN C0) + 2 * (gE C5 - gE C0))) (by omega) (by omega) ?_
    refine lv_aload_n hx hb dX1_write_78 rfl (lv_at hl 0 rfl) ?_
    refine va_get (D := D) (ci := 1) (v := .int (C5.1 21)) (C := RX1) (T := TX1) (N := 3) hx hb hts kin_X1_write_X1 hown hK hP 11 rfl rfl 1 (by decide) (hts _ kw_X1_write__fieldLink_RX1_15_ActHouse_LogBook_size_I_) (fun _ h9 => h9) rfl dX1_write_79 ?_
    refine lv_iconst (v := 1) hx hb dX1_write_82 (by decide) ?_
    refine lv_isub hx hb dX1_write_83 ?_
    obtain ⟨e2, e3⟩ := k_so hq
    subst hQ
    have hP : va_P D vwCl (cW cI cJ cO h xa ea pa C5) _ := hP
    have hD : va_D A (cW cI cJ cO h xa ea pa C5) := hD
    have hgE := congrArg (fun X : CS => gN X) e3
    have hgE : gN C5 = gN C' := hgE
    have hhE := congrArg (fun X : CS => gE X) e3
    have hhE : gE C5 = gE C' := hhE
    refine k_facts (fun hm1 hm2 hm3 => ?_)
    refine W.widen (k := 7 * (80 - gN C0) + (1048576 - gE C0) / 256) (n := 108 * (80 - gN C0) + 2 * (1048576 - gE C0)) (by omega) (by omega) ?_
    exact W.iret (v := (C5.1 21) - 1) hx hb hr (fun t ht hW => ⟨⟨(C5.1 21) - 1, (cW cI cJ cO h xa ea pa C5, [(cI, .int), (cO, .object RX0), (cJ, .long)]), rfl, ⟨ea, pa, e2, (congrArg (fun X : CS => ((cW cI cJ cO h xa ea pa X, [(cI, .int), (cO, .object RX0), (cJ, .long)]) : va_W × List (ClassId × FieldType))) e3), (by show gN C0 ≤ gN C' ∧ gN C' ≤ 80 ∧ gE C0 ≤ gE C' ∧ gE C' ≤ 1048576; omega), hpa⟩, ⟨⟨by rw [ht]; exact hP, va_K.moved hW.alike hK, hD⟩, by rw [ht]; exact hm3, by rw [ht]; omega, by rw [ht]; omega⟩⟩, hS.F ht⟩) hS.2.2 dX1_write_84
  refine W.widen (k := (7 * (gN C0 - gN C0) + (gE C0 - gE C0) / 256)) (n := (108 * (gN C0 - gN C0) + 2 * (gE C0 - gE C0))) (by omega) (by omega) ?_
  have hpa : ∀ n, n < gN C0 → pa0 n = pa0 n := fun _ _ => rfl
  have hq := hf
  rw [f_X1_write] at hq
  refine lv_aload_n hx hb dX1_write_0 rfl (lv_at hl 0 rfl) ?_
  refine va_get (D := D) (ci := 1) (v := .int (C0.1 21)) (C := RX1) (T := TX1) (N := 3) hx hb hts kin_X1_write_X1 hown hK hP 11 rfl rfl 1 (by decide) (hts _ kw_X1_write__fieldLink_RX1_15_ActHouse_LogBook_size_I_) (fun _ h9 => h9) rfl dX1_write_1 ?_
  refine lv_ldc (v := 1048576) hx hb hown (hts _ kw_X1_write__constant_RX1_19_1048576_) dX1_write_4 ?_
  refine lv_icmp_lt (tgt := 11) hx hb dX1_write_6 (by decide) (fun c1 => ?_) (fun c1 => ?_)
  · skip
    rw [if_pos c1] at hq
    refine lv_aload_n hx hb dX1_write_11 rfl (lv_at hl 0 rfl) ?_
    refine va_get (D := D) (ci := 1) (v := .int (C0.1 21)) (C := RX1) (T := TX1) (N := 3) hx hb hts kin_X1_write_X1 hown hK hP 11 rfl rfl 1 (by decide) (hts _ kw_X1_write__fieldLink_RX1_15_ActHouse_LogBook_size_I_) (fun _ h9 => h9) rfl dX1_write_12 ?_
    refine lv_aload_n hx hb dX1_write_15 rfl (lv_at hl 0 rfl) ?_
    refine va_get (D := D) (ci := 1) (v := .ref ea0) (C := RX1) (T := TX1) (N := 3) hx hb hts kin_X1_write_X1 hown hK hP 11 rfl rfl 0 (by decide) (hts _ kw_X1_write__fieldLink_RX1_11_ActHouse_LogBook_entries_I_) (fun _ h9 => h9) rfl dX1_write_16 ?_
    refine va_alen hx hb hK hP 12 0 rfl rfl (v := nI (gE C0)) (by first | rfl | decide) dX1_write_19 ?_
    refine lv_icmp_lt (tgt := 41) hx hb dX1_write_20 (by decide) (fun c2 => ?_) (fun c2 => ?_)
    · skip
      rw [if_pos c2] at hq
      exact B41  x1 x2 x3 x4 C0 ea0 pa0 _ _ _ hq (by show (gN C0 ≤ gN C0 ∧ gN C0 ≤ 80 ∧ gE C0 ≤ gE C0 ∧ gE C0 ≤ 1048576); omega) hpa hP hD hS (lv_sub hl [0, 1, 2, 3, 4] rfl)
    · skip
      rw [if_neg c2] at hq
      refine lv_aload_n hx hb dX1_write_23 rfl (lv_at hl 0 rfl) ?_
      refine lv_aload_n hx hb dX1_write_24 rfl (lv_at hl 0 rfl) ?_
      refine va_get (D := D) (ci := 1) (v := .ref ea0) (C := RX1) (T := TX1) (N := 3) hx hb hts kin_X1_write_X1 hown hK hP 11 rfl rfl 0 (by decide) (hts _ kw_X1_write__fieldLink_RX1_11_ActHouse_LogBook_entries_I_) (fun _ h9 => h9) rfl dX1_write_25 ?_
      refine lv_aload_n hx hb dX1_write_28 rfl (lv_at hl 0 rfl) ?_
      refine va_get (D := D) (ci := 1) (v := .ref ea0) (C := RX1) (T := TX1) (N := 3) hx hb hts kin_X1_write_X1 hown hK hP 11 rfl rfl 0 (by decide) (hts _ kw_X1_write__fieldLink_RX1_11_ActHouse_LogBook_entries_I_) (fun _ h9 => h9) rfl dX1_write_29 ?_
      refine va_alen hx hb hK hP 12 0 rfl rfl (v := nI (gE C0)) (by first | rfl | decide) dX1_write_32 ?_
      refine lv_iconst (v := 2) hx hb dX1_write_33 (by decide) ?_
      refine lv_imul hx hb dX1_write_34 ?_
      obtain ⟨b6, hq⟩ := k_if hq
      have hn0 : (nI (gE C0)).toInt = gE C0 := nI_toInt (by omega)
      have hn2 := k_mul (x := nI (gE C0)) (y := 2) (N := 2) (by decide) (by omega) (by omega)
      have he9 : (cW cI cJ cO h xa ea0 pa0 C0)[12]? = some (ea0, .inl (cI, gE C0, .inl (C0.2.1 20))) := rfl
      have hP9 := k_oneP he9 hP
      have hD9 := k_oneD he9 hD
      have hK9 := hK.sub (tys' := [(cI, .int)]) [0] rfl
      have hF9 := k_free hD9 hS hA
      refine va_callr (va_runS (As := [.ref ea0, .int ((nI (gE C0)) * 2)]) (rest := [.ref (xa 10)]) ⟨hx, hb, hml, hown, hts⟩ (c_J7_copyOf (l := l) (D := D) (a := ea0) (y := ((nI (gE C0)) * 2)) (n := gE C0) (f := C0.2.1 20) (cI := cI) (by omega) (by omega) (by omega)) (va_cwS 2 hts gX1_write_J7_copyOf_59c91 rfl rfl rfl (by decide +kernel) ⟨Nat.le_of_ble_eq_true rfl, Nat.le_of_ble_eq_true rfl⟩) ⟨k_blind, fun U hU hW => ⟨rfl, k_pre hU hW hP9 hK9 hD9⟩⟩ rfl rfl hl.1 rfl (lv_room (Nat.le_of_ble_eq_true rfl)) dX1_write_35 ⟨by show (7 * (gN C0 - gN C0) + (gE C0 - gE C0) / 256) + 1 ≤ 7 * (80 - gN C0) + (1048576 - gE C0) / 256; omega, by show (108 * (gN C0 - gN C0) + 2 * (gE C0 - gE C0)) + 2 * gE C0 ≤ 108 * (80 - gN C0) + 2 * (1048576 - gE C0); omega⟩) hS (fun q _ h => hF9 q h) hF9 (fun u q9 t H1 locs ht hvm hw hB hz1 hk1 hS => ?_)
      obtain ⟨hP1, -, hD1⟩ := hB
      rw [ht] at hP1
      obtain ⟨hP, hD⟩ := k_oneN he9 hP hD hF9 hk1 hP1 hD1
      generalize H1 = H at hP hS ⊢
      refine va_put (D := D) (ci := 1) (v := .ref q9) (ty := .array .int) (C := RX1) (T := TX1) (N := 3) (fs := bF xa ea0 C0) hx hb hts kin_X1_write_X1 tyX1 tyX1_ok nmX1 hown hK hP hD hS 11 rfl rfl 0 (by decide) (hts _ kw_X1_write__fieldLink_RX1_11_ActHouse_LogBook_entries_I_) (fun _ h9 => h9) rfl (by decide +kernel) rfl rfl (Nat.le_of_ble_eq_true rfl) dX1_write_38 (fun H locs hP hD hS => ?_)
      rw [List.set_append_left _ _ (by rw [cW_len]; omega)] at hP hD
      obtain ⟨hP, hD⟩ := k_mv (p := 12) (by rw [List.length_set, cW_len]; omega) hP hD
      rw [cW_E] at hP hD
      obtain ⟨C7, eC7, hg7, hh7, hq⟩ := k_lE hq
      rw [← eC7] at hP hD
      refine W.widen (k := (7 * (gN C7 - gN C0) + (gE C7 - gE C0) / 256)) (n := (108 * (gN C7 - gN C0) + 2 * (gE C7 - gE C0))) (by omega) (by omega) ?_
      have hP : va_P D vwCl (cW cI cJ cO h xa q9 pa0 C7) _ := hP
      have hD : va_D A (cW cI cJ cO h xa q9 pa0 C7) := hD
      exact B41  x1 x2 x3 x4 C7 q9 pa0 _ _ _ hq (by show (gN C0 ≤ gN C7 ∧ gN C7 ≤ 80 ∧ gE C0 ≤ gE C7 ∧ gE C7 ≤ 1048576); omega) hpa hP hD hS (lv_sub hl [0, 1, 2, 3, 4] rfl)
  · skip
    rw [if_neg c1] at hq
    refine lv_iconst (v := (-1)) hx hb dX1_write_9 (by decide) ?_
    obtain ⟨e2, e3⟩ := k_so hq
    subst hQ
    have hP : va_P D vwCl (cW cI cJ cO h xa ea0 pa0 C0) _ := hP
    have hD : va_D A (cW cI cJ cO h xa ea0 pa0 C0) := hD
    have hgE := congrArg (fun X : CS => gN X) e3
    have hgE : gN C0 = gN C' := hgE
    have hhE := congrArg (fun X : CS => gE X) e3
    have hhE : gE C0 = gE C' := hhE
    refine k_facts (fun hm1 hm2 hm3 => ?_)
    refine W.widen (k := 7 * (80 - gN C0) + (1048576 - gE C0) / 256) (n := 108 * (80 - gN C0) + 2 * (1048576 - gE C0)) (by omega) (by omega) ?_
    exact W.iret (v := (-1)) hx hb hr (fun t ht hW => ⟨⟨(-1), (cW cI cJ cO h xa ea0 pa0 C0, [(cI, .int), (cO, .object RX0), (cJ, .long)]), rfl, ⟨ea0, pa0, e2, (congrArg (fun X : CS => ((cW cI cJ cO h xa ea0 pa0 X, [(cI, .int), (cO, .object RX0), (cJ, .long)]) : va_W × List (ClassId × FieldType))) e3), (by show gN C0 ≤ gN C' ∧ gN C' ≤ 80 ∧ gE C0 ≤ gE C' ∧ gE C' ≤ 1048576; omega), hpa⟩, ⟨⟨by rw [ht]; exact hP, va_K.moved hW.alike hK, hD⟩, by rw [ht]; exact hm3, by rw [ht]; omega, by rw [ht]; omega⟩⟩, hS.F ht⟩) hS.2.2 dX1_write_10
