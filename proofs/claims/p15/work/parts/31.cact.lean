def f_X3_isBelow (x0 : Int32) (x1 : Int32) : Int32 := (if x0 < 0 then (0 : Int32) else (if x1 ≤ x0 then (0 : Int32) else (1 : Int32)))
set_option maxHeartbeats 4000000 in
set_option maxRecDepth 100000 in
theorem c_X3_isBelow {l : Launch} {D : va_G} {sz : Nat} {cI cJ cO : ClassId} {h : Nat} {xa : Nat → Nat} {ea0 : Nat} {pa0 : Nat → Nat → Nat} {C0 : CS} {x0 x1 r' : Int32} (hf : f_X3_isBelow x0 x1 = r') : Met l yX3_isBelow wsX3_isBelow ({ frames := 0, cells := 0, slots := 0, locals := 0 }) (va_Pc [.int x0, .int x1] (k_Pre D [(cI, .int), (cO, .object RX0), (cJ, .long)] (cW cI cJ cO h xa ea0 pa0 C0) sz)) (va_Qi (fun (r0 : Int32) (u : va_W × List (ClassId × FieldType)) => r0 = r' ∧ u = (cW cI cJ cO h xa ea0 pa0 C0, [(cI, .int), (cO, .object RX0), (cJ, .long)])) (k_B D (va_A (cW cI cJ cO h xa ea0 pa0 C0) sz)) (va_A (cW cI cJ cO h xa ea0 pa0 C0) sz)) (0) (0) (va_A (cW cI cJ cO h xa ea0 pa0 C0) sz) := by
  refine Met.ofW (cc := cX3_isBelow) (maxL := 2) (ret := (some .boolean)) (by decide) rfl ?_
  intro p e s m args below meth c s₁ B hml hv
  obtain ⟨rfl, hsz, hP, hK, hD0⟩ := hv
  have hx := B.exec
  have hb := B.bytes
  have hr := B.returns
  have hts := atoms_spec (ws := wsX3_isBelow) B.pre
  have hown : s.vm.findClass RX3 = some m.cls := findClass_of_methodNamed B.named
  have hlocks := B.notSynchronized
  subst hsz
  have hD := hD0.self (sz := s.heap.size)
  generalize hAe : va_A (cW cI cJ cO h xa ea0 pa0 C0) s.heap.size = A at hD ⊢
  have hA : ∀ q : Nat, s.heap.size ≤ q → A q := fun q h => by rw [← hAe]; exact Or.inr h
  have hS : va_S A s.heap s.heap [] := va_S.rf
  have hl := lv_entry ([.int x0, .int x1]) (n := 2) (Nat.le_of_ble_eq_true rfl)
  rw [lg_entry_eq]
  generalize (lg_sl ([.int x0, .int x1]) ++ List.replicate (2 - (lg_sl ([.int x0, .int x1])).length) Slot.unset).toArray = ls at hl ⊢
  have hl : lv_has ls 2 [(0, .int x0), (1, .int x1)] := hl
  refine k_Q (fun Q hQ => ?_)
  have hg0 : gN C0 = gN C0 ∧ gE C0 = gE C0 := ⟨rfl, rfl⟩
  have hq := hf
  rw [f_X3_isBelow] at hq
  refine lv_iload_n hx hb dX3_isBelow_0 rfl (lv_at hl 0 rfl) ?_
  refine lv_if_lt (tgt := 13) hx hb dX3_isBelow_1 (by decide) (fun c1 => ?_) (fun c1 => ?_)
  · skip
    rw [if_pos c1] at hq
    refine lv_iconst (v := 0) hx hb dX3_isBelow_13 (by decide) ?_
    have e2 := hq
    subst hQ
    have hP : va_P D vwCl (cW cI cJ cO h xa ea0 pa0 C0) _ := hP
    have hD : va_D A (cW cI cJ cO h xa ea0 pa0 C0) := hD
    refine W.widen (k := 0) (n := 0) (by decide) (by decide) ?_
    exact W.zret (v := 0) hx hb hr (by decide) (fun t ht hW => ⟨⟨0, (cW cI cJ cO h xa ea0 pa0 C0, [(cI, .int), (cO, .object RX0), (cJ, .long)]), rfl, ⟨e2, rfl⟩, ⟨by rw [ht]; exact hP, va_K.moved hW.alike hK, hD⟩⟩, hS.F ht⟩) hS.2.2 dX3_isBelow_14
  · skip
    rw [if_neg c1] at hq
    refine lv_iload_n hx hb dX3_isBelow_4 rfl (lv_at hl 0 rfl) ?_
    refine lv_iload_n hx hb dX3_isBelow_5 rfl (lv_at hl 1 rfl) ?_
    refine lv_icmp_ge (tgt := 13) hx hb dX3_isBelow_6 (by decide) (fun c2 => ?_) (fun c2 => ?_)
    · skip
      rw [if_pos c2] at hq
      refine lv_iconst (v := 0) hx hb dX3_isBelow_13 (by decide) ?_
      have e2 := hq
      subst hQ
      have hP : va_P D vwCl (cW cI cJ cO h xa ea0 pa0 C0) _ := hP
      have hD : va_D A (cW cI cJ cO h xa ea0 pa0 C0) := hD
      refine W.widen (k := 0) (n := 0) (by decide) (by decide) ?_
      exact W.zret (v := 0) hx hb hr (by decide) (fun t ht hW => ⟨⟨0, (cW cI cJ cO h xa ea0 pa0 C0, [(cI, .int), (cO, .object RX0), (cJ, .long)]), rfl, ⟨e2, rfl⟩, ⟨by rw [ht]; exact hP, va_K.moved hW.alike hK, hD⟩⟩, hS.F ht⟩) hS.2.2 dX3_isBelow_14
    · skip
      rw [if_neg c2] at hq
      refine lv_iconst (v := 1) hx hb dX3_isBelow_9 (by decide) ?_
      refine lv_goto (tgt := 14) hx hb dX3_isBelow_10 (by decide) ?_
      have e2 := hq
      subst hQ
      have hP : va_P D vwCl (cW cI cJ cO h xa ea0 pa0 C0) _ := hP
      have hD : va_D A (cW cI cJ cO h xa ea0 pa0 C0) := hD
      refine W.widen (k := 0) (n := 0) (by decide) (by decide) ?_
      exact W.zret (v := 1) hx hb hr (by decide) (fun t ht hW => ⟨⟨1, (cW cI cJ cO h xa ea0 pa0 C0, [(cI, .int), (cO, .object RX0), (cJ, .long)]), rfl, ⟨e2, rfl⟩, ⟨by rw [ht]; exact hP, va_K.moved hW.alike hK, hD⟩⟩, hS.F ht⟩) hS.2.2 dX3_isBelow_14
def f_X3_opOf (x0 : Int32) : Int32 := (x0 / 10000)
set_option maxHeartbeats 4000000 in
set_option maxRecDepth 100000 in
theorem c_X3_opOf {l : Launch} {D : va_G} {sz : Nat} {cI cJ cO : ClassId} {h : Nat} {xa : Nat → Nat} {ea0 : Nat} {pa0 : Nat → Nat → Nat} {C0 : CS} {x0 r' : Int32} (hf : f_X3_opOf x0 = r') : Met l yX3_opOf wsX3_opOf ({ frames := 0, cells := 0, slots := 0, locals := 0 }) (va_Pc [.int x0] (k_Pre D [(cI, .int), (cO, .object RX0), (cJ, .long)] (cW cI cJ cO h xa ea0 pa0 C0) sz)) (va_Qi (fun (r0 : Int32) (u : va_W × List (ClassId × FieldType)) => r0 = r' ∧ u = (cW cI cJ cO h xa ea0 pa0 C0, [(cI, .int), (cO, .object RX0), (cJ, .long)])) (k_B D (va_A (cW cI cJ cO h xa ea0 pa0 C0) sz)) (va_A (cW cI cJ cO h xa ea0 pa0 C0) sz)) (0) (0) (va_A (cW cI cJ cO h xa ea0 pa0 C0) sz) := by
  refine Met.ofW (cc := cX3_opOf) (maxL := 1) (ret := (some .int)) (by decide) rfl ?_
  intro p e s m args below meth c s₁ B hml hv
  obtain ⟨rfl, hsz, hP, hK, hD0⟩ := hv
  have hx := B.exec
  have hb := B.bytes
  have hr := B.returns
  have hts := atoms_spec (ws := wsX3_opOf) B.pre
  have hown : s.vm.findClass RX3 = some m.cls := findClass_of_methodNamed B.named
  have hlocks := B.notSynchronized
  subst hsz
  have hD := hD0.self (sz := s.heap.size)
  generalize hAe : va_A (cW cI cJ cO h xa ea0 pa0 C0) s.heap.size = A at hD ⊢
  have hA : ∀ q : Nat, s.heap.size ≤ q → A q := fun q h => by rw [← hAe]; exact Or.inr h
  have hS : va_S A s.heap s.heap [] := va_S.rf
  have hl := lv_entry ([.int x0]) (n := 1) (Nat.le_of_ble_eq_true rfl)
  rw [lg_entry_eq]
  generalize (lg_sl ([.int x0]) ++ List.replicate (1 - (lg_sl ([.int x0])).length) Slot.unset).toArray = ls at hl ⊢
  have hl : lv_has ls 1 [(0, .int x0)] := hl
  refine k_Q (fun Q hQ => ?_)
  have hg0 : gN C0 = gN C0 ∧ gE C0 = gE C0 := ⟨rfl, rfl⟩
  have hq := hf
  rw [f_X3_opOf] at hq
  refine lv_iload_n hx hb dX3_opOf_0 rfl (lv_at hl 0 rfl) ?_
  refine lv_sipush (v := 10000) hx hb dX3_opOf_1 (by decide) ?_
  refine lv_idiv hx hb dX3_opOf_4 (by decide) ?_
  have e2 := hq
  subst hQ
  have hP : va_P D vwCl (cW cI cJ cO h xa ea0 pa0 C0) _ := hP
  have hD : va_D A (cW cI cJ cO h xa ea0 pa0 C0) := hD
  refine W.widen (k := 0) (n := 0) (by decide) (by decide) ?_
  exact W.iret (v := x0 / 10000) hx hb hr (fun t ht hW => ⟨⟨x0 / 10000, (cW cI cJ cO h xa ea0 pa0 C0, [(cI, .int), (cO, .object RX0), (cJ, .long)]), rfl, ⟨e2, rfl⟩, ⟨by rw [ht]; exact hP, va_K.moved hW.alike hK, hD⟩⟩, hS.F ht⟩) hS.2.2 dX3_opOf_5
def f_X3_aOf (x0 : Int32) : Int32 := ((x0 / 100) - (x0 / 100) / 100 * 100)
set_option maxHeartbeats 4000000 in
set_option maxRecDepth 100000 in
theorem c_X3_aOf {l : Launch} {D : va_G} {sz : Nat} {cI cJ cO : ClassId} {h : Nat} {xa : Nat → Nat} {ea0 : Nat} {pa0 : Nat → Nat → Nat} {C0 : CS} {x0 r' : Int32} (hf : f_X3_aOf x0 = r') : Met l yX3_aOf wsX3_aOf ({ frames := 0, cells := 0, slots := 0, locals := 0 }) (va_Pc [.int x0] (k_Pre D [(cI, .int), (cO, .object RX0), (cJ, .long)] (cW cI cJ cO h xa ea0 pa0 C0) sz)) (va_Qi (fun (r0 : Int32) (u : va_W × List (ClassId × FieldType)) => r0 = r' ∧ u = (cW cI cJ cO h xa ea0 pa0 C0, [(cI, .int), (cO, .object RX0), (cJ, .long)])) (k_B D (va_A (cW cI cJ cO h xa ea0 pa0 C0) sz)) (va_A (cW cI cJ cO h xa ea0 pa0 C0) sz)) (0) (0) (va_A (cW cI cJ cO h xa ea0 pa0 C0) sz) := by
  refine Met.ofW (cc := cX3_aOf) (maxL := 1) (ret := (some .int)) (by decide) rfl ?_
  intro p e s m args below meth c s₁ B hml hv
  obtain ⟨rfl, hsz, hP, hK, hD0⟩ := hv
  have hx := B.exec
  have hb := B.bytes
  have hr := B.returns
  have hts := atoms_spec (ws := wsX3_aOf) B.pre
  have hown : s.vm.findClass RX3 = some m.cls := findClass_of_methodNamed B.named
  have hlocks := B.notSynchronized
  subst hsz
  have hD := hD0.self (sz := s.heap.size)
  generalize hAe : va_A (cW cI cJ cO h xa ea0 pa0 C0) s.heap.size = A at hD ⊢
  have hA : ∀ q : Nat, s.heap.size ≤ q → A q := fun q h => by rw [← hAe]; exact Or.inr h
  have hS : va_S A s.heap s.heap [] := va_S.rf
  have hl := lv_entry ([.int x0]) (n := 1) (Nat.le_of_ble_eq_true rfl)
  rw [lg_entry_eq]
  generalize (lg_sl ([.int x0]) ++ List.replicate (1 - (lg_sl ([.int x0])).length) Slot.unset).toArray = ls at hl ⊢
  have hl : lv_has ls 1 [(0, .int x0)] := hl
  refine k_Q (fun Q hQ => ?_)
  have hg0 : gN C0 = gN C0 ∧ gE C0 = gE C0 := ⟨rfl, rfl⟩
  have hq := hf
  rw [f_X3_aOf] at hq
  refine lv_iload_n hx hb dX3_aOf_0 rfl (lv_at hl 0 rfl) ?_
  refine lv_bipush (v := 100) hx hb dX3_aOf_1 (by decide) ?_
  refine lv_idiv hx hb dX3_aOf_3 (by decide) ?_
  refine lv_bipush (v := 100) hx hb dX3_aOf_4 (by decide) ?_
  refine lv_irem hx hb dX3_aOf_6 (by decide) ?_
  have e2 := hq
  subst hQ
  have hP : va_P D vwCl (cW cI cJ cO h xa ea0 pa0 C0) _ := hP
  have hD : va_D A (cW cI cJ cO h xa ea0 pa0 C0) := hD
  refine W.widen (k := 0) (n := 0) (by decide) (by decide) ?_
  exact W.iret (v := (x0 / 100) - (x0 / 100) / 100 * 100) hx hb hr (fun t ht hW => ⟨⟨(x0 / 100) - (x0 / 100) / 100 * 100, (cW cI cJ cO h xa ea0 pa0 C0, [(cI, .int), (cO, .object RX0), (cJ, .long)]), rfl, ⟨e2, rfl⟩, ⟨by rw [ht]; exact hP, va_K.moved hW.alike hK, hD⟩⟩, hS.F ht⟩) hS.2.2 dX3_aOf_7
def f_X3_bOf (x0 : Int32) : Int32 := (x0 - x0 / 100 * 100)
set_option maxHeartbeats 4000000 in
set_option maxRecDepth 100000 in
theorem c_X3_bOf {l : Launch} {D : va_G} {sz : Nat} {cI cJ cO : ClassId} {h : Nat} {xa : Nat → Nat} {ea0 : Nat} {pa0 : Nat → Nat → Nat} {C0 : CS} {x0 r' : Int32} (hf : f_X3_bOf x0 = r') : Met l yX3_bOf wsX3_bOf ({ frames := 0, cells := 0, slots := 0, locals := 0 }) (va_Pc [.int x0] (k_Pre D [(cI, .int), (cO, .object RX0), (cJ, .long)] (cW cI cJ cO h xa ea0 pa0 C0) sz)) (va_Qi (fun (r0 : Int32) (u : va_W × List (ClassId × FieldType)) => r0 = r' ∧ u = (cW cI cJ cO h xa ea0 pa0 C0, [(cI, .int), (cO, .object RX0), (cJ, .long)])) (k_B D (va_A (cW cI cJ cO h xa ea0 pa0 C0) sz)) (va_A (cW cI cJ cO h xa ea0 pa0 C0) sz)) (0) (0) (va_A (cW cI cJ cO h xa ea0 pa0 C0) sz) := by
  refine Met.ofW (cc := cX3_bOf) (maxL := 1) (ret := (some .int)) (by decide) rfl ?_
  intro p e s m args below meth c s₁ B hml hv
  obtain ⟨rfl, hsz, hP, hK, hD0⟩ := hv
  have hx := B.exec
  have hb := B.bytes
  have hr := B.returns
  have hts := atoms_spec (ws := wsX3_bOf) B.pre
  have hown : s.vm.findClass RX3 = some m.cls := findClass_of_methodNamed B.named
  have hlocks := B.notSynchronized
  subst hsz
  have hD := hD0.self (sz := s.heap.size)
  generalize hAe : va_A (cW cI cJ cO h xa ea0 pa0 C0) s.heap.size = A at hD ⊢
  have hA : ∀ q : Nat, s.heap.size ≤ q → A q := fun q h => by rw [← hAe]; exact Or.inr h
  have hS : va_S A s.heap s.heap [] := va_S.rf
  have hl := lv_entry ([.int x0]) (n := 1) (Nat.le_of_ble_eq_true rfl)
  rw [lg_entry_eq]
  generalize (lg_sl ([.int x0]) ++ List.replicate (1 - (lg_sl ([.int x0])).length) Slot.unset).toArray = ls at hl ⊢
  have hl : lv_has ls 1 [(0, .int x0)] := hl
  refine k_Q (fun Q hQ => ?_)
  have hg0 : gN C0 = gN C0 ∧ gE C0 = gE C0 := ⟨rfl, rfl⟩
  have hq := hf
  rw [f_X3_bOf] at hq
  refine lv_iload_n hx hb dX3_bOf_0 rfl (lv_at hl 0 rfl) ?_
  refine lv_bipush (v := 100) hx hb dX3_bOf_1 (by decide) ?_
  refine lv_irem hx hb dX3_bOf_3 (by decide) ?_
  have e2 := hq
  subst hQ
  have hP : va_P D vwCl (cW cI cJ cO h xa ea0 pa0 C0) _ := hP
  have hD : va_D A (cW cI cJ cO h xa ea0 pa0 C0) := hD
  refine W.widen (k := 0) (n := 0) (by decide) (by decide) ?_
  exact W.iret (v := x0 - x0 / 100 * 100) hx hb hr (fun t ht hW => ⟨⟨x0 - x0 / 100 * 100, (cW cI cJ cO h xa ea0 pa0 C0, [(cI, .int), (cO, .object RX0), (cJ, .long)]), rfl, ⟨e2, rfl⟩, ⟨by rw [ht]; exact hP, va_K.moved hW.alike hK, hD⟩⟩, hS.F ht⟩) hS.2.2 dX3_bOf_4
def f_X3_isStep (x0 : Int32) : Int32 := (if x0 < 0 then (0 : Int32) else (if (f_X3_opOf x0) ≤ 8 then (if (f_X3_opOf x0).toInt = 0 then (if 24 ≤ (f_X3_aOf x0) then (0 : Int32) else (1 : Int32)) else (if (f_X3_opOf x0).toInt = 1 then (1 : Int32) else (if (f_X3_opOf x0).toInt = 2 then (1 : Int32) else (if (f_X3_opOf x0).toInt = 3 then (if 24 ≤ (f_X3_aOf x0) then (0 : Int32) else (1 : Int32)) else (if (f_X3_opOf x0).toInt = 4 then (if 24 ≤ (f_X3_aOf x0) then (0 : Int32) else (1 : Int32)) else (if (f_X3_opOf x0).toInt = 5 then (1 : Int32) else (if (f_X3_opOf x0).toInt = 6 then (if 8 ≤ (f_X3_aOf x0) then (0 : Int32) else (1 : Int32)) else (if (f_X3_opOf x0).toInt = 7 then (if 8 ≤ (f_X3_aOf x0) then (0 : Int32) else (1 : Int32)) else (1 : Int32))))))))) else (0 : Int32)))
set_option maxHeartbeats 4000000 in
set_option maxRecDepth 100000 in
theorem c_X3_isStep {l : Launch} {D : va_G} {sz : Nat} {cI cJ cO : ClassId} {h : Nat} {xa : Nat → Nat} {ea0 : Nat} {pa0 : Nat → Nat → Nat} {C0 : CS} {x0 r' : Int32} (hf : f_X3_isStep x0 = r') : Met l yX3_isStep wsX3_isStep ({ frames := 1, cells := 0, slots := 0, locals := 20 }) (va_Pc [.int x0] (k_Pre D [(cI, .int), (cO, .object RX0), (cJ, .long)] (cW cI cJ cO h xa ea0 pa0 C0) sz)) (va_Qi (fun (r0 : Int32) (u : va_W × List (ClassId × FieldType)) => r0 = r' ∧ u = (cW cI cJ cO h xa ea0 pa0 C0, [(cI, .int), (cO, .object RX0), (cJ, .long)])) (k_B D (va_A (cW cI cJ cO h xa ea0 pa0 C0) sz)) (va_A (cW cI cJ cO h xa ea0 pa0 C0) sz)) (0) (0) (va_A (cW cI cJ cO h xa ea0 pa0 C0) sz) := by
  refine Met.ofW (cc := cX3_isStep) (maxL := 1) (ret := (some .boolean)) (by decide) rfl ?_
  intro p e s m args below meth c s₁ B hml hv
  obtain ⟨rfl, hsz, hP, hK, hD0⟩ := hv
  have hx := B.exec
  have hb := B.bytes
  have hr := B.returns
  have hts := atoms_spec (ws := wsX3_isStep) B.pre
  have hown : s.vm.findClass RX3 = some m.cls := findClass_of_methodNamed B.named
  have hlocks := B.notSynchronized
  subst hsz
  have hD := hD0.self (sz := s.heap.size)
  generalize hAe : va_A (cW cI cJ cO h xa ea0 pa0 C0) s.heap.size = A at hD ⊢
  have hA : ∀ q : Nat, s.heap.size ≤ q → A q := fun q h => by rw [← hAe]; exact Or.inr h
  have hS : va_S A s.heap s.heap [] := va_S.rf
  have hl := lv_entry ([.int x0]) (n := 1) (Nat.le_of_ble_eq_true rfl)
  rw [lg_entry_eq]
  generalize (lg_sl ([.int x0]) ++ List.replicate (1 - (lg_sl ([.int x0])).length) Slot.unset).toArray = ls at hl ⊢
  have hl : lv_has ls 1 [(0, .int x0)] := hl
  refine k_Q (fun Q hQ => ?_)
  have hg0 : gN C0 = gN C0 ∧ gE C0 = gE C0 := ⟨rfl, rfl⟩
  have hq := hf
  rw [f_X3_isStep] at hq
  refine lv_iload_n hx hb dX3_isStep_0 rfl (lv_at hl 0 rfl) ?_
  refine lv_if_lt (tgt := 13) hx hb dX3_isStep_1 (by decide) (fun c1 => ?_) (fun c1 => ?_)
  · skip
    rw [if_pos c1] at hq
    refine lv_iconst (v := 0) hx hb dX3_isStep_13 (by decide) ?_
    have e2 := hq
    subst hQ
    have hP : va_P D vwCl (cW cI cJ cO h xa ea0 pa0 C0) _ := hP
    have hD : va_D A (cW cI cJ cO h xa ea0 pa0 C0) := hD
    refine W.widen (k := 0) (n := 0) (by decide) (by decide) ?_
    exact W.zret (v := 0) hx hb hr (by decide) (fun t ht hW => ⟨⟨0, (cW cI cJ cO h xa ea0 pa0 C0, [(cI, .int), (cO, .object RX0), (cJ, .long)]), rfl, ⟨e2, rfl⟩, ⟨by rw [ht]; exact hP, va_K.moved hW.alike hK, hD⟩⟩, hS.F ht⟩) hS.2.2 dX3_isStep_14
  · skip
    rw [if_neg c1] at hq
    refine lv_iload_n hx hb dX3_isStep_4 rfl (lv_at hl 0 rfl) ?_
    have hFc := k_free hD hS hA
    refine va_calli (va_runS (As := [.int x0]) (rest := []) ⟨hx, hb, hml, hown, hts⟩ (c_X3_opOf (l := l) (D := D) (cI := cI) (cJ := cJ) (cO := cO) (h := h) (xa := xa) (ea0 := ea0) (pa0 := pa0) (C0 := C0) (hf := rfl)) (va_cwS 1 hts gX3_isStep_X3_opOf rfl rfl rfl (by decide +kernel) ⟨Nat.le_of_ble_eq_true rfl, Nat.le_of_ble_eq_true rfl⟩) ⟨k_blind, fun U hU hW => ⟨rfl, k_pre hU hW hP hK hD⟩⟩ rfl rfl hl.1 rfl (lv_room (Nat.le_of_ble_eq_true rfl)) dX3_isStep_5 ⟨by decide, by decide⟩) hS (fun q _ h => hFc q h) hFc (fun r2 u t H1 locs ht hvm hw hB hz1 hk1 hS => ?_)
    obtain ⟨rfl, rfl⟩ := hw
    refine W.widen (k := 0) (n := 0) (Nat.le_refl _) (Nat.le_refl _) ?_
    obtain ⟨hP1, hK1, hD1⟩ := hB
    rw [ht] at hP1
    have hP := hP1
    have hD := k_weak hD1 hFc
    generalize H1 = H at hP hS ⊢
    have hP : va_P D vwCl (cW cI cJ cO h xa ea0 pa0 C0) _ := hP
    have hD : va_D A (cW cI cJ cO h xa ea0 pa0 C0) := hD
    refine lv_bipush (v := 8) hx hb dX3_isStep_8 (by decide) ?_
    refine lv_icmp_le (tgt := 15) hx hb dX3_isStep_10 (by decide) (fun c3 => ?_) (fun c3 => ?_)
    · skip
      rw [if_pos c3] at hq
      refine lv_iload_n hx hb dX3_isStep_15 rfl (lv_at hl 0 rfl) ?_
      have hFc := k_free hD hS hA
      refine va_calli (va_runS (As := [.int x0]) (rest := []) ⟨hx, hb, hml, hown, hts⟩ (c_X3_opOf (l := l) (D := D) (cI := cI) (cJ := cJ) (cO := cO) (h := h) (xa := xa) (ea0 := ea0) (pa0 := pa0) (C0 := C0) (hf := rfl)) (va_cwS 1 hts gX3_isStep_X3_opOf rfl rfl rfl (by decide +kernel) ⟨Nat.le_of_ble_eq_true rfl, Nat.le_of_ble_eq_true rfl⟩) ⟨k_blind, fun U hU hW => ⟨rfl, k_pre hU hW hP hK hD⟩⟩ rfl rfl hl.1 rfl (lv_room (Nat.le_of_ble_eq_true rfl)) dX3_isStep_16 ⟨by decide, by decide⟩) hS (fun q _ h => hFc q h) hFc (fun r4 u t H1 locs ht hvm hw hB hz1 hk1 hS => ?_)
      obtain ⟨rfl, rfl⟩ := hw
      refine W.widen (k := 0) (n := 0) (Nat.le_refl _) (Nat.le_refl _) ?_
      obtain ⟨hP1, hK1, hD1⟩ := hB
      rw [ht] at hP1
      have hP := hP1
      have hD := k_weak hD1 hFc
      generalize H1 = H at hP hS ⊢
      have hP : va_P D vwCl (cW cI cJ cO h xa ea0 pa0 C0) _ := hP
      have hD : va_D A (cW cI cJ cO h xa ea0 pa0 C0) := hD
      by_cases hs5_0 : (f_X3_opOf x0).toInt = 0
      · skip
        rw [if_pos hs5_0] at hq
        refine lv_tableIn (off := 45) (tgt := 64) hx hb dX3_isStep_19 (by rw [hs5_0]; decide) (by rw [hs5_0]; decide) (by rw [hs5_0]; rfl) (by decide) ?_
        refine lv_iload_n hx hb dX3_isStep_64 rfl (lv_at hl 0 rfl) ?_
        have hFc := k_free hD hS hA
        refine va_calli (va_runS (As := [.int x0]) (rest := []) ⟨hx, hb, hml, hown, hts⟩ (c_X3_aOf (l := l) (D := D) (cI := cI) (cJ := cJ) (cO := cO) (h := h) (xa := xa) (ea0 := ea0) (pa0 := pa0) (C0 := C0) (hf := rfl)) (va_cwS 1 hts gX3_isStep_X3_aOf rfl rfl rfl (by decide +kernel) ⟨Nat.le_of_ble_eq_true rfl, Nat.le_of_ble_eq_true rfl⟩) ⟨k_blind, fun U hU hW => ⟨rfl, k_pre hU hW hP hK hD⟩⟩ rfl rfl hl.1 rfl (lv_room (Nat.le_of_ble_eq_true rfl)) dX3_isStep_65 ⟨by decide, by decide⟩) hS (fun q _ h => hFc q h) hFc (fun r6 u t H1 locs ht hvm hw hB hz1 hk1 hS => ?_)
        obtain ⟨rfl, rfl⟩ := hw
        refine W.widen (k := 0) (n := 0) (Nat.le_refl _) (Nat.le_refl _) ?_
        obtain ⟨hP1, hK1, hD1⟩ := hB
        rw [ht] at hP1
        have hP := hP1
        have hD := k_weak hD1 hFc
        generalize H1 = H at hP hS ⊢
        have hP : va_P D vwCl (cW cI cJ cO h xa ea0 pa0 C0) _ := hP
        have hD : va_D A (cW cI cJ cO h xa ea0 pa0 C0) := hD
        refine lv_bipush (v := 24) hx hb dX3_isStep_68 (by decide) ?_
        refine lv_icmp_ge (tgt := 77) hx hb dX3_isStep_70 (by decide) (fun c7 => ?_) (fun c7 => ?_)
        · skip
          rw [if_pos c7] at hq
          refine lv_iconst (v := 0) hx hb dX3_isStep_77 (by decide) ?_
          have e2 := hq
          subst hQ
          have hP : va_P D vwCl (cW cI cJ cO h xa ea0 pa0 C0) _ := hP
          have hD : va_D A (cW cI cJ cO h xa ea0 pa0 C0) := hD
          refine W.widen (k := 0) (n := 0) (by decide) (by decide) ?_
          exact W.zret (v := 0) hx hb hr (by decide) (fun t ht hW => ⟨⟨0, (cW cI cJ cO h xa ea0 pa0 C0, [(cI, .int), (cO, .object RX0), (cJ, .long)]), rfl, ⟨e2, rfl⟩, ⟨by rw [ht]; exact hP, va_K.moved hW.alike hK, hD⟩⟩, hS.F ht⟩) hS.2.2 dX3_isStep_78
        · skip
          rw [if_neg c7] at hq
          refine lv_iconst (v := 1) hx hb dX3_isStep_73 (by decide) ?_
          refine lv_goto (tgt := 78) hx hb dX3_isStep_74 (by decide) ?_
          have e2 := hq
          subst hQ
          have hP : va_P D vwCl (cW cI cJ cO h xa ea0 pa0 C0) _ := hP
          have hD : va_D A (cW cI cJ cO h xa ea0 pa0 C0) := hD
          refine W.widen (k := 0) (n := 0) (by decide) (by decide) ?_
          exact W.zret (v := 1) hx hb hr (by decide) (fun t ht hW => ⟨⟨1, (cW cI cJ cO h xa ea0 pa0 C0, [(cI, .int), (cO, .object RX0), (cJ, .long)]), rfl, ⟨e2, rfl⟩, ⟨by rw [ht]; exact hP, va_K.moved hW.alike hK, hD⟩⟩, hS.F ht⟩) hS.2.2 dX3_isStep_78
      rw [if_neg hs5_0] at hq
      by_cases hs5_1 : (f_X3_opOf x0).toInt = 1
      · skip
        rw [if_pos hs5_1] at hq
        refine lv_tableIn (off := 90) (tgt := 109) hx hb dX3_isStep_19 (by rw [hs5_1]; decide) (by rw [hs5_1]; decide) (by rw [hs5_1]; rfl) (by decide) ?_
        refine lv_iconst (v := 1) hx hb dX3_isStep_109 (by decide) ?_
        have e2 := hq
        subst hQ
        have hP : va_P D vwCl (cW cI cJ cO h xa ea0 pa0 C0) _ := hP
        have hD : va_D A (cW cI cJ cO h xa ea0 pa0 C0) := hD
        refine W.widen (k := 0) (n := 0) (by decide) (by decide) ?_
        exact W.zret (v := 1) hx hb hr (by decide) (fun t ht hW => ⟨⟨1, (cW cI cJ cO h xa ea0 pa0 C0, [(cI, .int), (cO, .object RX0), (cJ, .long)]), rfl, ⟨e2, rfl⟩, ⟨by rw [ht]; exact hP, va_K.moved hW.alike hK, hD⟩⟩, hS.F ht⟩) hS.2.2 dX3_isStep_110
      rw [if_neg hs5_1] at hq
      by_cases hs5_2 : (f_X3_opOf x0).toInt = 2
      · skip
        rw [if_pos hs5_2] at hq
        refine lv_tableIn (off := 90) (tgt := 109) hx hb dX3_isStep_19 (by rw [hs5_2]; decide) (by rw [hs5_2]; decide) (by rw [hs5_2]; rfl) (by decide) ?_
        refine lv_iconst (v := 1) hx hb dX3_isStep_109 (by decide) ?_
        have e2 := hq
        subst hQ
        have hP : va_P D vwCl (cW cI cJ cO h xa ea0 pa0 C0) _ := hP
        have hD : va_D A (cW cI cJ cO h xa ea0 pa0 C0) := hD
        refine W.widen (k := 0) (n := 0) (by decide) (by decide) ?_
        exact W.zret (v := 1) hx hb hr (by decide) (fun t ht hW => ⟨⟨1, (cW cI cJ cO h xa ea0 pa0 C0, [(cI, .int), (cO, .object RX0), (cJ, .long)]), rfl, ⟨e2, rfl⟩, ⟨by rw [ht]; exact hP, va_K.moved hW.alike hK, hD⟩⟩, hS.F ht⟩) hS.2.2 dX3_isStep_110
      rw [if_neg hs5_2] at hq
      by_cases hs5_3 : (f_X3_opOf x0).toInt = 3
      · skip
        rw [if_pos hs5_3] at hq
        refine lv_tableIn (off := 45) (tgt := 64) hx hb dX3_isStep_19 (by rw [hs5_3]; decide) (by rw [hs5_3]; decide) (by rw [hs5_3]; rfl) (by decide) ?_
        refine lv_iload_n hx hb dX3_isStep_64 rfl (lv_at hl 0 rfl) ?_
        have hFc := k_free hD hS hA
        refine va_calli (va_runS (As := [.int x0]) (rest := []) ⟨hx, hb, hml, hown, hts⟩ (c_X3_aOf (l := l) (D := D) (cI := cI) (cJ := cJ) (cO := cO) (h := h) (xa := xa) (ea0 := ea0) (pa0 := pa0) (C0 := C0) (hf := rfl)) (va_cwS 1 hts gX3_isStep_X3_aOf rfl rfl rfl (by decide +kernel) ⟨Nat.le_of_ble_eq_true rfl, Nat.le_of_ble_eq_true rfl⟩) ⟨k_blind, fun U hU hW => ⟨rfl, k_pre hU hW hP hK hD⟩⟩ rfl rfl hl.1 rfl (lv_room (Nat.le_of_ble_eq_true rfl)) dX3_isStep_65 ⟨by decide, by decide⟩) hS (fun q _ h => hFc q h) hFc (fun r8 u t H1 locs ht hvm hw hB hz1 hk1 hS => ?_)
        obtain ⟨rfl, rfl⟩ := hw
        refine W.widen (k := 0) (n := 0) (Nat.le_refl _) (Nat.le_refl _) ?_
        obtain ⟨hP1, hK1, hD1⟩ := hB
        rw [ht] at hP1
        have hP := hP1
        have hD := k_weak hD1 hFc
        generalize H1 = H at hP hS ⊢
        have hP : va_P D vwCl (cW cI cJ cO h xa ea0 pa0 C0) _ := hP
        have hD : va_D A (cW cI cJ cO h xa ea0 pa0 C0) := hD
        refine lv_bipush (v := 24) hx hb dX3_isStep_68 (by decide) ?_
        refine lv_icmp_ge (tgt := 77) hx hb dX3_isStep_70 (by decide) (fun c9 => ?_) (fun c9 => ?_)
        · skip
          rw [if_pos c9] at hq
          refine lv_iconst (v := 0) hx hb dX3_isStep_77 (by decide) ?_
          have e2 := hq
          subst hQ
          have hP : va_P D vwCl (cW cI cJ cO h xa ea0 pa0 C0) _ := hP
          have hD : va_D A (cW cI cJ cO h xa ea0 pa0 C0) := hD
          refine W.widen (k := 0) (n := 0) (by decide) (by decide) ?_
          exact W.zret (v := 0) hx hb hr (by decide) (fun t ht hW => ⟨⟨0, (cW cI cJ cO h xa ea0 pa0 C0, [(cI, .int), (cO, .object RX0), (cJ, .long)]), rfl, ⟨e2, rfl⟩, ⟨by rw [ht]; exact hP, va_K.moved hW.alike hK, hD⟩⟩, hS.F ht⟩) hS.2.2 dX3_isStep_78
        · skip
          rw [if_neg c9] at hq
          refine lv_iconst (v := 1) hx hb dX3_isStep_73 (by decide) ?_
          refine lv_goto (tgt := 78) hx hb dX3_isStep_74 (by decide) ?_
          have e2 := hq
          subst hQ
          have hP : va_P D vwCl (cW cI cJ cO h xa ea0 pa0 C0) _ := hP
          have hD : va_D A (cW cI cJ cO h xa ea0 pa0 C0) := hD
          refine W.widen (k := 0) (n := 0) (by decide) (by decide) ?_
          exact W.zret (v := 1) hx hb hr (by decide) (fun t ht hW => ⟨⟨1, (cW cI cJ cO h xa ea0 pa0 C0, [(cI, .int), (cO, .object RX0), (cJ, .long)]), rfl, ⟨e2, rfl⟩, ⟨by rw [ht]; exact hP, va_K.moved hW.alike hK, hD⟩⟩, hS.F ht⟩) hS.2.2 dX3_isStep_78
      rw [if_neg hs5_3] at hq
      by_cases hs5_4 : (f_X3_opOf x0).toInt = 4
      · skip
        rw [if_pos hs5_4] at hq
        refine lv_tableIn (off := 45) (tgt := 64) hx hb dX3_isStep_19 (by rw [hs5_4]; decide) (by rw [hs5_4]; decide) (by rw [hs5_4]; rfl) (by decide) ?_
        refine lv_iload_n hx hb dX3_isStep_64 rfl (lv_at hl 0 rfl) ?_
        have hFc := k_free hD hS hA
        refine va_calli (va_runS (As := [.int x0]) (rest := []) ⟨hx, hb, hml, hown, hts⟩ (c_X3_aOf (l := l) (D := D) (cI := cI) (cJ := cJ) (cO := cO) (h := h) (xa := xa) (ea0 := ea0) (pa0 := pa0) (C0 := C0) (hf := rfl)) (va_cwS 1 hts gX3_isStep_X3_aOf rfl rfl rfl (by decide +kernel) ⟨Nat.le_of_ble_eq_true rfl, Nat.le_of_ble_eq_true rfl⟩) ⟨k_blind, fun U hU hW => ⟨rfl, k_pre hU hW hP hK hD⟩⟩ rfl rfl hl.1 rfl (lv_room (Nat.le_of_ble_eq_true rfl)) dX3_isStep_65 ⟨by decide, by decide⟩) hS (fun q _ h => hFc q h) hFc (fun r10 u t H1 locs ht hvm hw hB hz1 hk1 hS => ?_)
        obtain ⟨rfl, rfl⟩ := hw
        refine W.widen (k := 0) (n := 0) (Nat.le_refl _) (Nat.le_refl _) ?_
        obtain ⟨hP1, hK1, hD1⟩ := hB
        rw [ht] at hP1
        have hP := hP1
        have hD := k_weak hD1 hFc
        generalize H1 = H at hP hS ⊢
        have hP : va_P D vwCl (cW cI cJ cO h xa ea0 pa0 C0) _ := hP
        have hD : va_D A (cW cI cJ cO h xa ea0 pa0 C0) := hD
        refine lv_bipush (v := 24) hx hb dX3_isStep_68 (by decide) ?_
        refine lv_icmp_ge (tgt := 77) hx hb dX3_isStep_70 (by decide) (fun c11 => ?_) (fun c11 => ?_)
        · skip
          rw [if_pos c11] at hq
          refine lv_iconst (v := 0) hx hb dX3_isStep_77 (by decide) ?_
          have e2 := hq
          subst hQ
          have hP : va_P D vwCl (cW cI cJ cO h xa ea0 pa0 C0) _ := hP
          have hD : va_D A (cW cI cJ cO h xa ea0 pa0 C0) := hD
          refine W.widen (k := 0) (n := 0) (by decide) (by decide) ?_
          exact W.zret (v := 0) hx hb hr (by decide) (fun t ht hW => ⟨⟨0, (cW cI cJ cO h xa ea0 pa0 C0, [(cI, .int), (cO, .object RX0), (cJ, .long)]), rfl, ⟨e2, rfl⟩, ⟨by rw [ht]; exact hP, va_K.moved hW.alike hK, hD⟩⟩, hS.F ht⟩) hS.2.2 dX3_isStep_78
        · skip
          rw [if_neg c11] at hq
          refine lv_iconst (v := 1) hx hb dX3_isStep_73 (by decide) ?_
          refine lv_goto (tgt := 78) hx hb dX3_isStep_74 (by decide) ?_
          have e2 := hq
          subst hQ
          have hP : va_P D vwCl (cW cI cJ cO h xa ea0 pa0 C0) _ := hP
          have hD : va_D A (cW cI cJ cO h xa ea0 pa0 C0) := hD
          refine W.widen (k := 0) (n := 0) (by decide) (by decide) ?_
          exact W.zret (v := 1) hx hb hr (by decide) (fun t ht hW => ⟨⟨1, (cW cI cJ cO h xa ea0 pa0 C0, [(cI, .int), (cO, .object RX0), (cJ, .long)]), rfl, ⟨e2, rfl⟩, ⟨by rw [ht]; exact hP, va_K.moved hW.alike hK, hD⟩⟩, hS.F ht⟩) hS.2.2 dX3_isStep_78
      rw [if_neg hs5_4] at hq
      by_cases hs5_5 : (f_X3_opOf x0).toInt = 5
      · skip
        rw [if_pos hs5_5] at hq
        refine lv_tableIn (off := 90) (tgt := 109) hx hb dX3_isStep_19 (by rw [hs5_5]; decide) (by rw [hs5_5]; decide) (by rw [hs5_5]; rfl) (by decide) ?_
        refine lv_iconst (v := 1) hx hb dX3_isStep_109 (by decide) ?_
        have e2 := hq
        subst hQ
        have hP : va_P D vwCl (cW cI cJ cO h xa ea0 pa0 C0) _ := hP
        have hD : va_D A (cW cI cJ cO h xa ea0 pa0 C0) := hD
        refine W.widen (k := 0) (n := 0) (by decide) (by decide) ?_
        exact W.zret (v := 1) hx hb hr (by decide) (fun t ht hW => ⟨⟨1, (cW cI cJ cO h xa ea0 pa0 C0, [(cI, .int), (cO, .object RX0), (cJ, .long)]), rfl, ⟨e2, rfl⟩, ⟨by rw [ht]; exact hP, va_K.moved hW.alike hK, hD⟩⟩, hS.F ht⟩) hS.2.2 dX3_isStep_110
      rw [if_neg hs5_5] at hq
      by_cases hs5_6 : (f_X3_opOf x0).toInt = 6
      · skip
        rw [if_pos hs5_6] at hq
        refine lv_tableIn (off := 60) (tgt := 79) hx hb dX3_isStep_19 (by rw [hs5_6]; decide) (by rw [hs5_6]; decide) (by rw [hs5_6]; rfl) (by decide) ?_
        refine lv_iload_n hx hb dX3_isStep_79 rfl (lv_at hl 0 rfl) ?_
        have hFc := k_free hD hS hA
        refine va_calli (va_runS (As := [.int x0]) (rest := []) ⟨hx, hb, hml, hown, hts⟩ (c_X3_aOf (l := l) (D := D) (cI := cI) (cJ := cJ) (cO := cO) (h := h) (xa := xa) (ea0 := ea0) (pa0 := pa0) (C0 := C0) (hf := rfl)) (va_cwS 1 hts gX3_isStep_X3_aOf rfl rfl rfl (by decide +kernel) ⟨Nat.le_of_ble_eq_true rfl, Nat.le_of_ble_eq_true rfl⟩) ⟨k_blind, fun U hU hW => ⟨rfl, k_pre hU hW hP hK hD⟩⟩ rfl rfl hl.1 rfl (lv_room (Nat.le_of_ble_eq_true rfl)) dX3_isStep_80 ⟨by decide, by decide⟩) hS (fun q _ h => hFc q h) hFc (fun r12 u t H1 locs ht hvm hw hB hz1 hk1 hS => ?_)
        obtain ⟨rfl, rfl⟩ := hw
        refine W.widen (k := 0) (n := 0) (Nat.le_refl _) (Nat.le_refl _) ?_
        obtain ⟨hP1, hK1, hD1⟩ := hB
        rw [ht] at hP1
        have hP := hP1
        have hD := k_weak hD1 hFc
        generalize H1 = H at hP hS ⊢
        have hP : va_P D vwCl (cW cI cJ cO h xa ea0 pa0 C0) _ := hP
        have hD : va_D A (cW cI cJ cO h xa ea0 pa0 C0) := hD
        refine lv_bipush (v := 8) hx hb dX3_isStep_83 (by decide) ?_
        refine lv_icmp_ge (tgt := 92) hx hb dX3_isStep_85 (by decide) (fun c13 => ?_) (fun c13 => ?_)
        · skip
          rw [if_pos c13] at hq
          refine lv_iconst (v := 0) hx hb dX3_isStep_92 (by decide) ?_
          have e2 := hq
          subst hQ
          have hP : va_P D vwCl (cW cI cJ cO h xa ea0 pa0 C0) _ := hP
          have hD : va_D A (cW cI cJ cO h xa ea0 pa0 C0) := hD
          refine W.widen (k := 0) (n := 0) (by decide) (by decide) ?_
          exact W.zret (v := 0) hx hb hr (by decide) (fun t ht hW => ⟨⟨0, (cW cI cJ cO h xa ea0 pa0 C0, [(cI, .int), (cO, .object RX0), (cJ, .long)]), rfl, ⟨e2, rfl⟩, ⟨by rw [ht]; exact hP, va_K.moved hW.alike hK, hD⟩⟩, hS.F ht⟩) hS.2.2 dX3_isStep_93
        · skip
          rw [if_neg c13] at hq
          refine lv_iconst (v := 1) hx hb dX3_isStep_88 (by decide) ?_
          refine lv_goto (tgt := 93) hx hb dX3_isStep_89 (by decide) ?_
          have e2 := hq
          subst hQ
          have hP : va_P D vwCl (cW cI cJ cO h xa ea0 pa0 C0) _ := hP
          have hD : va_D A (cW cI cJ cO h xa ea0 pa0 C0) := hD
          refine W.widen (k := 0) (n := 0) (by decide) (by decide) ?_
          exact W.zret (v := 1) hx hb hr (by decide) (fun t ht hW => ⟨⟨1, (cW cI cJ cO h xa ea0 pa0 C0, [(cI, .int), (cO, .object RX0), (cJ, .long)]), rfl, ⟨e2, rfl⟩, ⟨by rw [ht]; exact hP, va_K.moved hW.alike hK, hD⟩⟩, hS.F ht⟩) hS.2.2 dX3_isStep_93
      rw [if_neg hs5_6] at hq
      by_cases hs5_7 : (f_X3_opOf x0).toInt = 7
      · skip
        rw [if_pos hs5_7] at hq
        refine lv_tableIn (off := 75) (tgt := 94) hx hb dX3_isStep_19 (by rw [hs5_7]; decide) (by rw [hs5_7]; decide) (by rw [hs5_7]; rfl) (by decide) ?_
        refine lv_iload_n hx hb dX3_isStep_94 rfl (lv_at hl 0 rfl) ?_
        have hFc := k_free hD hS hA
        refine va_calli (va_runS (As := [.int x0]) (rest := []) ⟨hx, hb, hml, hown, hts⟩ (c_X3_aOf (l := l) (D := D) (cI := cI) (cJ := cJ) (cO := cO) (h := h) (xa := xa) (ea0 := ea0) (pa0 := pa0) (C0 := C0) (hf := rfl)) (va_cwS 1 hts gX3_isStep_X3_aOf rfl rfl rfl (by decide +kernel) ⟨Nat.le_of_ble_eq_true rfl, Nat.le_of_ble_eq_true rfl⟩) ⟨k_blind, fun U hU hW => ⟨rfl, k_pre hU hW hP hK hD⟩⟩ rfl rfl hl.1 rfl (lv_room (Nat.le_of_ble_eq_true rfl)) dX3_isStep_95 ⟨by decide, by decide⟩) hS (fun q _ h => hFc q h) hFc (fun r14 u t H1 locs ht hvm hw hB hz1 hk1 hS => ?_)
        obtain ⟨rfl, rfl⟩ := hw
        refine W.widen (k := 0) (n := 0) (Nat.le_refl _) (Nat.le_refl _) ?_
        obtain ⟨hP1, hK1, hD1⟩ := hB
        rw [ht] at hP1
        have hP := hP1
        have hD := k_weak hD1 hFc
        generalize H1 = H at hP hS ⊢
        have hP : va_P D vwCl (cW cI cJ cO h xa ea0 pa0 C0) _ := hP
        have hD : va_D A (cW cI cJ cO h xa ea0 pa0 C0) := hD
        refine lv_bipush (v := 8) hx hb dX3_isStep_98 (by decide) ?_
        refine lv_icmp_ge (tgt := 107) hx hb dX3_isStep_100 (by decide) (fun c15 => ?_) (fun c15 => ?_)
        · skip
          rw [if_pos c15] at hq
          refine lv_iconst (v := 0) hx hb dX3_isStep_107 (by decide) ?_
          have e2 := hq
          subst hQ
          have hP : va_P D vwCl (cW cI cJ cO h xa ea0 pa0 C0) _ := hP
          have hD : va_D A (cW cI cJ cO h xa ea0 pa0 C0) := hD
          refine W.widen (k := 0) (n := 0) (by decide) (by decide) ?_
          exact W.zret (v := 0) hx hb hr (by decide) (fun t ht hW => ⟨⟨0, (cW cI cJ cO h xa ea0 pa0 C0, [(cI, .int), (cO, .object RX0), (cJ, .long)]), rfl, ⟨e2, rfl⟩, ⟨by rw [ht]; exact hP, va_K.moved hW.alike hK, hD⟩⟩, hS.F ht⟩) hS.2.2 dX3_isStep_108
        · skip
          rw [if_neg c15] at hq
          refine lv_iconst (v := 1) hx hb dX3_isStep_103 (by decide) ?_
          refine lv_goto (tgt := 108) hx hb dX3_isStep_104 (by decide) ?_
          have e2 := hq
          subst hQ
          have hP : va_P D vwCl (cW cI cJ cO h xa ea0 pa0 C0) _ := hP
          have hD : va_D A (cW cI cJ cO h xa ea0 pa0 C0) := hD
          refine W.widen (k := 0) (n := 0) (by decide) (by decide) ?_
          exact W.zret (v := 1) hx hb hr (by decide) (fun t ht hW => ⟨⟨1, (cW cI cJ cO h xa ea0 pa0 C0, [(cI, .int), (cO, .object RX0), (cJ, .long)]), rfl, ⟨e2, rfl⟩, ⟨by rw [ht]; exact hP, va_K.moved hW.alike hK, hD⟩⟩, hS.F ht⟩) hS.2.2 dX3_isStep_108
      rw [if_neg hs5_7] at hq
      refine lv_tableOut (tgt := 109) hx hb dX3_isStep_19 (by omega) (by decide) ?_
      refine lv_iconst (v := 1) hx hb dX3_isStep_109 (by decide) ?_
      have e2 := hq
      subst hQ
      have hP : va_P D vwCl (cW cI cJ cO h xa ea0 pa0 C0) _ := hP
      have hD : va_D A (cW cI cJ cO h xa ea0 pa0 C0) := hD
      refine W.widen (k := 0) (n := 0) (by decide) (by decide) ?_
      exact W.zret (v := 1) hx hb hr (by decide) (fun t ht hW => ⟨⟨1, (cW cI cJ cO h xa ea0 pa0 C0, [(cI, .int), (cO, .object RX0), (cJ, .long)]), rfl, ⟨e2, rfl⟩, ⟨by rw [ht]; exact hP, va_K.moved hW.alike hK, hD⟩⟩, hS.F ht⟩) hS.2.2 dX3_isStep_110
    · skip
      rw [if_neg c3] at hq
      refine lv_iconst (v := 0) hx hb dX3_isStep_13 (by decide) ?_
      have e2 := hq
      subst hQ
      have hP : va_P D vwCl (cW cI cJ cO h xa ea0 pa0 C0) _ := hP
      have hD : va_D A (cW cI cJ cO h xa ea0 pa0 C0) := hD
      refine W.widen (k := 0) (n := 0) (by decide) (by decide) ?_
      exact W.zret (v := 0) hx hb hr (by decide) (fun t ht hW => ⟨⟨0, (cW cI cJ cO h xa ea0 pa0 C0, [(cI, .int), (cO, .object RX0), (cJ, .long)]), rfl, ⟨e2, rfl⟩, ⟨by rw [ht]; exact hP, va_K.moved hW.alike hK, hD⟩⟩, hS.F ht⟩) hS.2.2 dX3_isStep_14
def f_X3_usesCell (x0 : Int32) : Int32 := (if (f_X3_opOf x0) = 0 then (1 : Int32) else (if (f_X3_opOf x0) = 3 then (1 : Int32) else (if (f_X3_opOf x0) = 4 then (1 : Int32) else (0 : Int32))))
set_option maxHeartbeats 4000000 in
set_option maxRecDepth 100000 in
theorem c_X3_usesCell {l : Launch} {D : va_G} {sz : Nat} {cI cJ cO : ClassId} {h : Nat} {xa : Nat → Nat} {ea0 : Nat} {pa0 : Nat → Nat → Nat} {C0 : CS} {x0 r' : Int32} (hf : f_X3_usesCell x0 = r') : Met l yX3_usesCell wsX3_usesCell ({ frames := 1, cells := 0, slots := 0, locals := 20 }) (va_Pc [.int x0] (k_Pre D [(cI, .int), (cO, .object RX0), (cJ, .long)] (cW cI cJ cO h xa ea0 pa0 C0) sz)) (va_Qi (fun (r0 : Int32) (u : va_W × List (ClassId × FieldType)) => r0 = r' ∧ u = (cW cI cJ cO h xa ea0 pa0 C0, [(cI, .int), (cO, .object RX0), (cJ, .long)])) (k_B D (va_A (cW cI cJ cO h xa ea0 pa0 C0) sz)) (va_A (cW cI cJ cO h xa ea0 pa0 C0) sz)) (0) (0) (va_A (cW cI cJ cO h xa ea0 pa0 C0) sz) := by
  refine Met.ofW (cc := cX3_usesCell) (maxL := 2) (ret := (some .boolean)) (by decide) rfl ?_
  intro p e s m args below meth c s₁ B hml hv
  obtain ⟨rfl, hsz, hP, hK, hD0⟩ := hv
  have hx := B.exec
  have hb := B.bytes
  have hr := B.returns
  have hts := atoms_spec (ws := wsX3_usesCell) B.pre
  have hown : s.vm.findClass RX3 = some m.cls := findClass_of_methodNamed B.named
  have hlocks := B.notSynchronized
  subst hsz
  have hD := hD0.self (sz := s.heap.size)
  generalize hAe : va_A (cW cI cJ cO h xa ea0 pa0 C0) s.heap.size = A at hD ⊢
  have hA : ∀ q : Nat, s.heap.size ≤ q → A q := fun q h => by rw [← hAe]; exact Or.inr h
  have hS : va_S A s.heap s.heap [] := va_S.rf
  have hl := lv_entry ([.int x0]) (n := 2) (Nat.le_of_ble_eq_true rfl)
  rw [lg_entry_eq]
  generalize (lg_sl ([.int x0]) ++ List.replicate (2 - (lg_sl ([.int x0])).length) Slot.unset).toArray = ls at hl ⊢
  have hl : lv_has ls 2 [(0, .int x0)] := hl
  refine k_Q (fun Q hQ => ?_)
  have hg0 : gN C0 = gN C0 ∧ gE C0 = gE C0 := ⟨rfl, rfl⟩
  have hq := hf
  rw [f_X3_usesCell] at hq
  refine lv_iload_n hx hb dX3_usesCell_0 rfl (lv_at hl 0 rfl) ?_
  have hFc := k_free hD hS hA
  refine va_calli (va_runS (As := [.int x0]) (rest := []) ⟨hx, hb, hml, hown, hts⟩ (c_X3_opOf (l := l) (D := D) (cI := cI) (cJ := cJ) (cO := cO) (h := h) (xa := xa) (ea0 := ea0) (pa0 := pa0) (C0 := C0) (hf := rfl)) (va_cwS 1 hts gX3_usesCell_X3_opOf rfl rfl rfl (by decide +kernel) ⟨Nat.le_of_ble_eq_true rfl, Nat.le_of_ble_eq_true rfl⟩) ⟨k_blind, fun U hU hW => ⟨rfl, k_pre hU hW hP hK hD⟩⟩ rfl rfl hl.1 rfl (lv_room (Nat.le_of_ble_eq_true rfl)) dX3_usesCell_1 ⟨by decide, by decide⟩) hS (fun q _ h => hFc q h) hFc (fun r1 u t H1 locs ht hvm hw hB hz1 hk1 hS => ?_)
  obtain ⟨rfl, rfl⟩ := hw
  refine W.widen (k := 0) (n := 0) (Nat.le_refl _) (Nat.le_refl _) ?_
  obtain ⟨hP1, hK1, hD1⟩ := hB
  rw [ht] at hP1
  have hP := hP1
  have hD := k_weak hD1 hFc
  generalize H1 = H at hP hS ⊢
  have hP : va_P D vwCl (cW cI cJ cO h xa ea0 pa0 C0) _ := hP
  have hD : va_D A (cW cI cJ cO h xa ea0 pa0 C0) := hD
  refine lv_istore_n (lv' := [(1, .int (f_X3_opOf x0)), (0, .int x0)]) hx hb dX3_usesCell_4 rfl hl (by decide) rfl (fun ls hl => ?_)
  refine lv_iload_n hx hb dX3_usesCell_5 rfl (lv_at hl 0 rfl) ?_
  refine lv_if_eq (tgt := 19) hx hb dX3_usesCell_6 (by decide) (fun c2 => ?_) (fun c2 => ?_)
  · skip
    rw [if_pos c2] at hq
    refine lv_iconst (v := 1) hx hb dX3_usesCell_19 (by decide) ?_
    refine lv_goto (tgt := 24) hx hb dX3_usesCell_20 (by decide) ?_
    have e2 := hq
    subst hQ
    have hP : va_P D vwCl (cW cI cJ cO h xa ea0 pa0 C0) _ := hP
    have hD : va_D A (cW cI cJ cO h xa ea0 pa0 C0) := hD
    refine W.widen (k := 0) (n := 0) (by decide) (by decide) ?_
    exact W.zret (v := 1) hx hb hr (by decide) (fun t ht hW => ⟨⟨1, (cW cI cJ cO h xa ea0 pa0 C0, [(cI, .int), (cO, .object RX0), (cJ, .long)]), rfl, ⟨e2, rfl⟩, ⟨by rw [ht]; exact hP, va_K.moved hW.alike hK, hD⟩⟩, hS.F ht⟩) hS.2.2 dX3_usesCell_24
  · skip
    rw [if_neg c2] at hq
    refine lv_iload_n hx hb dX3_usesCell_9 rfl (lv_at hl 0 rfl) ?_
    refine lv_iconst (v := 3) hx hb dX3_usesCell_10 (by decide) ?_
    refine lv_icmp_eq (tgt := 19) hx hb dX3_usesCell_11 (by decide) (fun c3 => ?_) (fun c3 => ?_)
    · skip
      rw [if_pos c3] at hq
      refine lv_iconst (v := 1) hx hb dX3_usesCell_19 (by decide) ?_
      refine lv_goto (tgt := 24) hx hb dX3_usesCell_20 (by decide) ?_
      have e2 := hq
      subst hQ
      have hP : va_P D vwCl (cW cI cJ cO h xa ea0 pa0 C0) _ := hP
      have hD : va_D A (cW cI cJ cO h xa ea0 pa0 C0) := hD
      refine W.widen (k := 0) (n := 0) (by decide) (by decide) ?_
      exact W.zret (v := 1) hx hb hr (by decide) (fun t ht hW => ⟨⟨1, (cW cI cJ cO h xa ea0 pa0 C0, [(cI, .int), (cO, .object RX0), (cJ, .long)]), rfl, ⟨e2, rfl⟩, ⟨by rw [ht]; exact hP, va_K.moved hW.alike hK, hD⟩⟩, hS.F ht⟩) hS.2.2 dX3_usesCell_24
    · skip
      rw [if_neg c3] at hq
      refine lv_iload_n hx hb dX3_usesCell_14 rfl (lv_at hl 0 rfl) ?_
      refine lv_iconst (v := 4) hx hb dX3_usesCell_15 (by decide) ?_
      refine lv_icmp_ne (tgt := 23) hx hb dX3_usesCell_16 (by decide) (fun c4 => ?_) (fun c4 => ?_)
      · skip
        rw [if_neg c4] at hq
        refine lv_iconst (v := 0) hx hb dX3_usesCell_23 (by decide) ?_
        have e2 := hq
        subst hQ
        have hP : va_P D vwCl (cW cI cJ cO h xa ea0 pa0 C0) _ := hP
        have hD : va_D A (cW cI cJ cO h xa ea0 pa0 C0) := hD
        refine W.widen (k := 0) (n := 0) (by decide) (by decide) ?_
        exact W.zret (v := 0) hx hb hr (by decide) (fun t ht hW => ⟨⟨0, (cW cI cJ cO h xa ea0 pa0 C0, [(cI, .int), (cO, .object RX0), (cJ, .long)]), rfl, ⟨e2, rfl⟩, ⟨by rw [ht]; exact hP, va_K.moved hW.alike hK, hD⟩⟩, hS.F ht⟩) hS.2.2 dX3_usesCell_24
      · skip
        rw [if_pos c4] at hq
        refine lv_iconst (v := 1) hx hb dX3_usesCell_19 (by decide) ?_
        refine lv_goto (tgt := 24) hx hb dX3_usesCell_20 (by decide) ?_
        have e2 := hq
        subst hQ
        have hP : va_P D vwCl (cW cI cJ cO h xa ea0 pa0 C0) _ := hP
        have hD : va_D A (cW cI cJ cO h xa ea0 pa0 C0) := hD
        refine W.widen (k := 0) (n := 0) (by decide) (by decide) ?_
        exact W.zret (v := 1) hx hb hr (by decide) (fun t ht hW => ⟨⟨1, (cW cI cJ cO h xa ea0 pa0 C0, [(cI, .int), (cO, .object RX0), (cJ, .long)]), rfl, ⟨e2, rfl⟩, ⟨by rw [ht]; exact hP, va_K.moved hW.alike hK, hD⟩⟩, hS.F ht⟩) hS.2.2 dX3_usesCell_24
set_option maxRecDepth 100000 in
theorem kw_X0_hasStep__fieldLink_RX0_70_ActHouse_Act_at_I_ : (.fieldLink RX0 70 "ActHouse$Act" "at" "I" : Cond) ∈ wsX0_hasStep := by decide +kernel
set_option maxRecDepth 100000 in
theorem kin_X0_hasStep_X0 : ∀ w ∈ u_ws RX0 TX0 20, w ∈ wsX0_hasStep := by decide +kernel
set_option maxRecDepth 100000 in
theorem kw_X0_hasStep__fieldLink_RX0_64_ActHouse_Act_length_I_ : (.fieldLink RX0 64 "ActHouse$Act" "length" "I" : Cond) ∈ wsX0_hasStep := by decide +kernel
def f_X0_hasStep (n0 : Nat) (C0 : CS) : Option (Int32 × CS) := (if (gP C0 n0 14) < 0 then some ((0 : Int32), C0) else (if (gP C0 n0 10) ≤ (gP C0 n0 14) then some ((0 : Int32), C0) else some ((1 : Int32), C0)))
set_option maxHeartbeats 4000000 in
set_option maxRecDepth 100000 in
theorem c_X0_hasStep {l : Launch} {D : va_G} {sz : Nat} {cI cJ cO : ClassId} {h : Nat} {xa : Nat → Nat} {ea0 : Nat} {pa0 : Nat → Nat → Nat} {C0 C' : CS} {n0 : Nat} { r' : Int32} (hn0 : n0 < gN C0) (hf : f_X0_hasStep n0 C0 = some (r', C')) : Met l yX0_hasStep wsX0_hasStep ({ frames := 0, cells := 0, slots := 0, locals := 0 }) (va_Pc [.ref (pa0 n0 0)] (k_Pre D [(cI, .int), (cO, .object RX0), (cJ, .long)] (cW cI cJ cO h xa ea0 pa0 C0) sz)) (va_Qi (fun (r0 : Int32) (u : va_W × List (ClassId × FieldType)) => r0 = r' ∧ u = (cW cI cJ cO h xa ea0 pa0 C', [(cI, .int), (cO, .object RX0), (cJ, .long)]) ∧ gN C' = gN C0 ∧ gE C' = gE C0) (k_B D (va_A (cW cI cJ cO h xa ea0 pa0 C0) sz)) (va_A (cW cI cJ cO h xa ea0 pa0 C0) sz)) (0) (0) (va_A (cW cI cJ cO h xa ea0 pa0 C0) sz) := by
  refine Met.ofW (cc := cX0_hasStep) (maxL := 1) (ret := (some .boolean)) (by decide) rfl ?_
  intro p e s m args below meth c s₁ B hml hv
  obtain ⟨rfl, hsz, hP, hK, hD0⟩ := hv
  have hx := B.exec
  have hb := B.bytes
  have hr := B.returns
  have hts := atoms_spec (ws := wsX0_hasStep) B.pre
  have hown : s.vm.findClass RX0 = some m.cls := findClass_of_methodNamed B.named
  have hlocks := B.notSynchronized
  subst hsz
  have hD := hD0.self (sz := s.heap.size)
  generalize hAe : va_A (cW cI cJ cO h xa ea0 pa0 C0) s.heap.size = A at hD ⊢
  have hA : ∀ q : Nat, s.heap.size ≤ q → A q := fun q h => by rw [← hAe]; exact Or.inr h
  have hS : va_S A s.heap s.heap [] := va_S.rf
  have hl := lv_entry ([.ref (pa0 n0 0)]) (n := 1) (Nat.le_of_ble_eq_true rfl)
  rw [lg_entry_eq]
  generalize (lg_sl ([.ref (pa0 n0 0)]) ++ List.replicate (1 - (lg_sl ([.ref (pa0 n0 0)])).length) Slot.unset).toArray = ls at hl ⊢
  have hl : lv_has ls 1 [(0, .ref (pa0 n0 0))] := hl
  refine k_Q (fun Q hQ => ?_)
  have hg0 : gN C0 = gN C0 ∧ gE C0 = gE C0 := ⟨rfl, rfl⟩
  have hq := hf
  rw [f_X0_hasStep] at hq
  refine lv_aload_n hx hb dX0_hasStep_0 rfl (lv_at hl 0 rfl) ?_
  refine va_get (D := D) (ci := 0) (v := .int (gP C0 n0 14)) (C := RX0) (T := TX0) (N := 20) hx hb hts kin_X0_hasStep_X0 hown hK hP (16 + (7 * n0 + 0)) (cW_get (show n0 < gN C0 from by omega) rfl) rfl 14 (by decide) (hts _ kw_X0_hasStep__fieldLink_RX0_70_ActHouse_Act_at_I_) (fun _ h9 => h9) rfl dX0_hasStep_1 ?_
  refine lv_if_lt (tgt := 22) hx hb dX0_hasStep_4 (by decide) (fun c1 => ?_) (fun c1 => ?_)
  · skip
    rw [if_pos c1] at hq
    refine lv_iconst (v := 0) hx hb dX0_hasStep_22 (by decide) ?_
    obtain ⟨e2, e3⟩ := k_so hq
    subst hQ
    have hP : va_P D vwCl (cW cI cJ cO h xa ea0 pa0 C0) _ := hP
    have hD : va_D A (cW cI cJ cO h xa ea0 pa0 C0) := hD
    have hgE := congrArg (fun X : CS => gN X) e3
    have hgE : gN C0 = gN C' := hgE
    have hhE := congrArg (fun X : CS => gE X) e3
    have hhE : gE C0 = gE C' := hhE
    refine W.widen (k := 0) (n := 0) (by decide) (by decide) ?_
    exact W.zret (v := 0) hx hb hr (by decide) (fun t ht hW => ⟨⟨0, (cW cI cJ cO h xa ea0 pa0 C0, [(cI, .int), (cO, .object RX0), (cJ, .long)]), rfl, ⟨e2, (congrArg (fun X : CS => ((cW cI cJ cO h xa ea0 pa0 X, [(cI, .int), (cO, .object RX0), (cJ, .long)]) : va_W × List (ClassId × FieldType))) e3), by omega, by omega⟩, ⟨by rw [ht]; exact hP, va_K.moved hW.alike hK, hD⟩⟩, hS.F ht⟩) hS.2.2 dX0_hasStep_23
  · skip
    rw [if_neg c1] at hq
    refine lv_aload_n hx hb dX0_hasStep_7 rfl (lv_at hl 0 rfl) ?_
    refine va_get (D := D) (ci := 0) (v := .int (gP C0 n0 14)) (C := RX0) (T := TX0) (N := 20) hx hb hts kin_X0_hasStep_X0 hown hK hP (16 + (7 * n0 + 0)) (cW_get (show n0 < gN C0 from by omega) rfl) rfl 14 (by decide) (hts _ kw_X0_hasStep__fieldLink_RX0_70_ActHouse_Act_at_I_) (fun _ h9 => h9) rfl dX0_hasStep_8 ?_
    refine lv_aload_n hx hb dX0_hasStep_11 rfl (lv_at hl 0 rfl) ?_
    refine va_get (D := D) (ci := 0) (v := .int (gP C0 n0 10)) (C := RX0) (T := TX0) (N := 20) hx hb hts kin_X0_hasStep_X0 hown hK hP (16 + (7 * n0 + 0)) (cW_get (show n0 < gN C0 from by omega) rfl) rfl 10 (by decide) (hts _ kw_X0_hasStep__fieldLink_RX0_64_ActHouse_Act_length_I_) (fun _ h9 => h9) rfl dX0_hasStep_12 ?_
    refine lv_icmp_ge (tgt := 22) hx hb dX0_hasStep_15 (by decide) (fun c2 => ?_) (fun c2 => ?_)
    · skip
      rw [if_pos c2] at hq
      refine lv_iconst (v := 0) hx hb dX0_hasStep_22 (by decide) ?_
      obtain ⟨e2, e3⟩ := k_so hq
      subst hQ
      have hP : va_P D vwCl (cW cI cJ cO h xa ea0 pa0 C0) _ := hP
      have hD : va_D A (cW cI cJ cO h xa ea0 pa0 C0) := hD
      have hgE := congrArg (fun X : CS => gN X) e3
      have hgE : gN C0 = gN C' := hgE
      have hhE := congrArg (fun X : CS => gE X) e3
      have hhE : gE C0 = gE C' := hhE
      refine W.widen (k := 0) (n := 0) (by decide) (by decide) ?_
      exact W.zret (v := 0) hx hb hr (by decide) (fun t ht hW => ⟨⟨0, (cW cI cJ cO h xa ea0 pa0 C0, [(cI, .int), (cO, .object RX0), (cJ, .long)]), rfl, ⟨e2, (congrArg (fun X : CS => ((cW cI cJ cO h xa ea0 pa0 X, [(cI, .int), (cO, .object RX0), (cJ, .long)]) : va_W × List (ClassId × FieldType))) e3), by omega, by omega⟩, ⟨by rw [ht]; exact hP, va_K.moved hW.alike hK, hD⟩⟩, hS.F ht⟩) hS.2.2 dX0_hasStep_23
    · skip
      rw [if_neg c2] at hq
      refine lv_iconst (v := 1) hx hb dX0_hasStep_18 (by decide) ?_
      refine lv_goto (tgt := 23) hx hb dX0_hasStep_19 (by decide) ?_
      obtain ⟨e2, e3⟩ := k_so hq
      subst hQ
      have hP : va_P D vwCl (cW cI cJ cO h xa ea0 pa0 C0) _ := hP
      have hD : va_D A (cW cI cJ cO h xa ea0 pa0 C0) := hD
      have hgE := congrArg (fun X : CS => gN X) e3
      have hgE : gN C0 = gN C' := hgE
      have hhE := congrArg (fun X : CS => gE X) e3
      have hhE : gE C0 = gE C' := hhE
      refine W.widen (k := 0) (n := 0) (by decide) (by decide) ?_
      exact W.zret (v := 1) hx hb hr (by decide) (fun t ht hW => ⟨⟨1, (cW cI cJ cO h xa ea0 pa0 C0, [(cI, .int), (cO, .object RX0), (cJ, .long)]), rfl, ⟨e2, (congrArg (fun X : CS => ((cW cI cJ cO h xa ea0 pa0 X, [(cI, .int), (cO, .object RX0), (cJ, .long)]) : va_W × List (ClassId × FieldType))) e3), by omega, by omega⟩, ⟨by rw [ht]; exact hP, va_K.moved hW.alike hK, hD⟩⟩, hS.F ht⟩) hS.2.2 dX0_hasStep_23
set_option maxRecDepth 100000 in
theorem kw_X0_load__constant_RX0_73_1000000_ : (.constant RX0 73 (1000000) : Cond) ∈ wsX0_load := by decide +kernel
set_option maxRecDepth 100000 in
theorem kw_X0_load__constant_RX0_74_1000000_ : (.constant RX0 74 (-1000000) : Cond) ∈ wsX0_load := by decide +kernel
set_option maxRecDepth 100000 in
theorem kw_X0_load__fieldLink_RX0_67_ActHouse_Act_register_I_ : (.fieldLink RX0 67 "ActHouse$Act" "register" "I" : Cond) ∈ wsX0_load := by decide +kernel
set_option maxRecDepth 100000 in
theorem kin_X0_load_X0 : ∀ w ∈ u_ws RX0 TX0 20, w ∈ wsX0_load := by decide +kernel
def f_X0_load (n0 : Nat) (x1 : Int32) (C0 : CS) : Option (Int32 × CS) := (if 1000000 < x1 then some ((0 : Int32), C0) else (if (-1000000) ≤ x1 then (k_let (cP C0 n0 13 x1) fun C3 => some ((1 : Int32), C3)) else some ((0 : Int32), C0)))
set_option maxHeartbeats 4000000 in
set_option maxRecDepth 100000 in
theorem c_X0_load {l : Launch} {D : va_G} {sz : Nat} {cI cJ cO : ClassId} {h : Nat} {xa : Nat → Nat} {ea0 : Nat} {pa0 : Nat → Nat → Nat} {C0 C' : CS} {n0 : Nat} {x1 r' : Int32} (hn0 : n0 < gN C0) (hf : f_X0_load n0 x1 C0 = some (r', C')) : Met l yX0_load wsX0_load ({ frames := 0, cells := 0, slots := 0, locals := 0 }) (va_Pc [.ref (pa0 n0 0), .int x1] (k_Pre D [(cI, .int), (cO, .object RX0), (cJ, .long)] (cW cI cJ cO h xa ea0 pa0 C0) sz)) (va_Qi (fun (r0 : Int32) (u : va_W × List (ClassId × FieldType)) => r0 = r' ∧ u = (cW cI cJ cO h xa ea0 pa0 C', [(cI, .int), (cO, .object RX0), (cJ, .long)]) ∧ gN C' = gN C0 ∧ gE C' = gE C0) (k_B D (va_A (cW cI cJ cO h xa ea0 pa0 C0) sz)) (va_A (cW cI cJ cO h xa ea0 pa0 C0) sz)) (0) (0) (va_A (cW cI cJ cO h xa ea0 pa0 C0) sz) := by
  refine Met.ofW (cc := cX0_load) (maxL := 2) (ret := (some .boolean)) (by decide) rfl ?_
  intro p e s m args below meth c s₁ B hml hv
  obtain ⟨rfl, hsz, hP, hK, hD0⟩ := hv
  have hx := B.exec
  have hb := B.bytes
  have hr := B.returns
  have hts := atoms_spec (ws := wsX0_load) B.pre
  have hown : s.vm.findClass RX0 = some m.cls := findClass_of_methodNamed B.named
  have hlocks := B.notSynchronized
  subst hsz
  have hD := hD0.self (sz := s.heap.size)
  generalize hAe : va_A (cW cI cJ cO h xa ea0 pa0 C0) s.heap.size = A at hD ⊢
  have hA : ∀ q : Nat, s.heap.size ≤ q → A q := fun q h => by rw [← hAe]; exact Or.inr h
  have hS : va_S A s.heap s.heap [] := va_S.rf
  have hl := lv_entry ([.ref (pa0 n0 0), .int x1]) (n := 2) (Nat.le_of_ble_eq_true rfl)
  rw [lg_entry_eq]
  generalize (lg_sl ([.ref (pa0 n0 0), .int x1]) ++ List.replicate (2 - (lg_sl ([.ref (pa0 n0 0), .int x1])).length) Slot.unset).toArray = ls at hl ⊢
  have hl : lv_has ls 2 [(0, .ref (pa0 n0 0)), (1, .int x1)] := hl
  refine k_Q (fun Q hQ => ?_)
  have hg0 : gN C0 = gN C0 ∧ gE C0 = gE C0 := ⟨rfl, rfl⟩
  have hq := hf
  rw [f_X0_load] at hq
  refine lv_iload_n hx hb dX0_load_0 rfl (lv_at hl 1 rfl) ?_
  refine lv_ldc (v := 1000000) hx hb hown (hts _ kw_X0_load__constant_RX0_73_1000000_) dX0_load_1 ?_
  refine lv_icmp_gt (tgt := 12) hx hb dX0_load_3 (by decide) (fun c1 => ?_) (fun c1 => ?_)
  · skip
    rw [if_pos c1] at hq
    refine lv_iconst (v := 0) hx hb dX0_load_12 (by decide) ?_
    obtain ⟨e2, e3⟩ := k_so hq
    subst hQ
    have hP : va_P D vwCl (cW cI cJ cO h xa ea0 pa0 C0) _ := hP
    have hD : va_D A (cW cI cJ cO h xa ea0 pa0 C0) := hD
    have hgE := congrArg (fun X : CS => gN X) e3
    have hgE : gN C0 = gN C' := hgE
    have hhE := congrArg (fun X : CS => gE X) e3
    have hhE : gE C0 = gE C' := hhE
    refine W.widen (k := 0) (n := 0) (by decide) (by decide) ?_
    exact W.zret (v := 0) hx hb hr (by decide) (fun t ht hW => ⟨⟨0, (cW cI cJ cO h xa ea0 pa0 C0, [(cI, .int), (cO, .object RX0), (cJ, .long)]), rfl, ⟨e2, (congrArg (fun X : CS => ((cW cI cJ cO h xa ea0 pa0 X, [(cI, .int), (cO, .object RX0), (cJ, .long)]) : va_W × List (ClassId × FieldType))) e3), by omega, by omega⟩, ⟨by rw [ht]; exact hP, va_K.moved hW.alike hK, hD⟩⟩, hS.F ht⟩) hS.2.2 dX0_load_13
  · skip
    rw [if_neg c1] at hq
    refine lv_iload_n hx hb dX0_load_6 rfl (lv_at hl 1 rfl) ?_
    refine lv_ldc (v := (-1000000)) hx hb hown (hts _ kw_X0_load__constant_RX0_74_1000000_) dX0_load_7 ?_
    refine lv_icmp_ge (tgt := 14) hx hb dX0_load_9 (by decide) (fun c2 => ?_) (fun c2 => ?_)
    · skip
      rw [if_pos c2] at hq
      refine lv_aload_n hx hb dX0_load_14 rfl (lv_at hl 0 rfl) ?_
      refine lv_iload_n hx hb dX0_load_15 rfl (lv_at hl 1 rfl) ?_
      refine va_put (D := D) (ci := 0) (v := .int x1) (ty := .int) (C := RX0) (T := TX0) (N := 20) hx hb hts kin_X0_load_X0 tyX0 tyX0_ok nmX0 hown hK hP hD hS (16 + (7 * n0 + 0)) (fs := aF (pa0 n0) (gP C0 n0)) (cW_get (show n0 < gN C0 from by omega) rfl) rfl 13 (by decide) (hts _ kw_X0_load__fieldLink_RX0_67_ActHouse_Act_register_I_) (fun _ h9 => h9) rfl (by decide +kernel) rfl rfl (Nat.le_of_ble_eq_true rfl) dX0_load_16 (fun H locs hP hD hS => ?_)
      obtain ⟨C3, eC3, hg3, hh3, hq⟩ := k_lc (C := C0) hq rfl rfl
      rw [cP_eq13 (show n0 < gN C0 from by omega), ← eC3] at hP hD
      have hP : va_P D vwCl (cW cI cJ cO h xa ea0 pa0 C3) _ := hP
      have hD : va_D A (cW cI cJ cO h xa ea0 pa0 C3) := hD
      refine lv_iconst (v := 1) hx hb dX0_load_19 (by decide) ?_
      obtain ⟨e2, e3⟩ := k_so hq
      subst hQ
      have hP : va_P D vwCl (cW cI cJ cO h xa ea0 pa0 C3) _ := hP
      have hD : va_D A (cW cI cJ cO h xa ea0 pa0 C3) := hD
      have hgE := congrArg (fun X : CS => gN X) e3
      have hgE : gN C3 = gN C' := hgE
      have hhE := congrArg (fun X : CS => gE X) e3
      have hhE : gE C3 = gE C' := hhE
      refine W.widen (k := 0) (n := 0) (by decide) (by decide) ?_
      exact W.zret (v := 1) hx hb hr (by decide) (fun t ht hW => ⟨⟨1, (cW cI cJ cO h xa ea0 pa0 C3, [(cI, .int), (cO, .object RX0), (cJ, .long)]), rfl, ⟨e2, (congrArg (fun X : CS => ((cW cI cJ cO h xa ea0 pa0 X, [(cI, .int), (cO, .object RX0), (cJ, .long)]) : va_W × List (ClassId × FieldType))) e3), by omega, by omega⟩, ⟨by rw [ht]; exact hP, va_K.moved hW.alike hK, hD⟩⟩, hS.F ht⟩) hS.2.2 dX0_load_20
    · skip
      rw [if_neg c2] at hq
      refine lv_iconst (v := 0) hx hb dX0_load_12 (by decide) ?_
      obtain ⟨e2, e3⟩ := k_so hq
      subst hQ
      have hP : va_P D vwCl (cW cI cJ cO h xa ea0 pa0 C0) _ := hP
      have hD : va_D A (cW cI cJ cO h xa ea0 pa0 C0) := hD
      have hgE := congrArg (fun X : CS => gN X) e3
      have hgE : gN C0 = gN C' := hgE
      have hhE := congrArg (fun X : CS => gE X) e3
      have hhE : gE C0 = gE C' := hhE
      refine W.widen (k := 0) (n := 0) (by decide) (by decide) ?_
      exact W.zret (v := 0) hx hb hr (by decide) (fun t ht hW => ⟨⟨0, (cW cI cJ cO h xa ea0 pa0 C0, [(cI, .int), (cO, .object RX0), (cJ, .long)]), rfl, ⟨e2, (congrArg (fun X : CS => ((cW cI cJ cO h xa ea0 pa0 X, [(cI, .int), (cO, .object RX0), (cJ, .long)]) : va_W × List (ClassId × FieldType))) e3), by omega, by omega⟩, ⟨by rw [ht]; exact hP, va_K.moved hW.alike hK, hD⟩⟩, hS.F ht⟩) hS.2.2 dX0_load_13
set_option maxRecDepth 100000 in
theorem kw_X0_lockToRead__fieldLink_RX0_15_ActHouse_Act_locks_I_ : (.fieldLink RX0 15 "ActHouse$Act" "locks" "[I" : Cond) ∈ wsX0_lockToRead := by decide +kernel
set_option maxRecDepth 100000 in
theorem kin_X0_lockToRead_X0 : ∀ w ∈ u_ws RX0 TX0 20, w ∈ wsX0_lockToRead := by decide +kernel
def f_X0_lockToRead (n0 : Nat) (x1 : Int32) (C0 : CS) : Option (Int32 × CS) := (if 0 ≤ x1.toInt ∧ x1.toInt < 24 then (if ((gQ C0 n0 5) x1.toNatClampNeg) = 0 then (k_let (cQF C0 n0 5 (upd (gQ C0 n0 5) x1.toNatClampNeg (1 : Int32))) fun C3 => some ((0 : Int32), C3)) else some ((0 : Int32), C0)) else none)
set_option maxHeartbeats 4000000 in
set_option maxRecDepth 100000 in
theorem c_X0_lockToRead {l : Launch} {D : va_G} {sz : Nat} {cI cJ cO : ClassId} {h : Nat} {xa : Nat → Nat} {ea0 : Nat} {pa0 : Nat → Nat → Nat} {C0 C' : CS} {n0 : Nat} {x1 r' : Int32} (hn0 : n0 < gN C0) (hf : f_X0_lockToRead n0 x1 C0 = some (r', C')) : Met l yX0_lockToRead wsX0_lockToRead ({ frames := 0, cells := 0, slots := 0, locals := 0 }) (va_Pc [.ref (pa0 n0 0), .int x1] (k_Pre D [(cI, .int), (cO, .object RX0), (cJ, .long)] (cW cI cJ cO h xa ea0 pa0 C0) sz)) (va_Qv (fun (u : va_W × List (ClassId × FieldType)) => u = (cW cI cJ cO h xa ea0 pa0 C', [(cI, .int), (cO, .object RX0), (cJ, .long)]) ∧ gN C' = gN C0 ∧ gE C' = gE C0) (k_B D (va_A (cW cI cJ cO h xa ea0 pa0 C0) sz)) (va_A (cW cI cJ cO h xa ea0 pa0 C0) sz)) (0) (0) (va_A (cW cI cJ cO h xa ea0 pa0 C0) sz) := by
  refine Met.ofW (cc := cX0_lockToRead) (maxL := 2) (ret := none) (by decide) rfl ?_
  intro p e s m args below meth c s₁ B hml hv
  obtain ⟨rfl, hsz, hP, hK, hD0⟩ := hv
  have hx := B.exec
  have hb := B.bytes
  have hr := B.returns
  have hts := atoms_spec (ws := wsX0_lockToRead) B.pre
  have hown : s.vm.findClass RX0 = some m.cls := findClass_of_methodNamed B.named
  have hlocks := B.notSynchronized
  subst hsz
  have hD := hD0.self (sz := s.heap.size)
  generalize hAe : va_A (cW cI cJ cO h xa ea0 pa0 C0) s.heap.size = A at hD ⊢
  have hA : ∀ q : Nat, s.heap.size ≤ q → A q := fun q h => by rw [← hAe]; exact Or.inr h
  have hS : va_S A s.heap s.heap [] := va_S.rf
  have hl := lv_entry ([.ref (pa0 n0 0), .int x1]) (n := 2) (Nat.le_of_ble_eq_true rfl)
  rw [lg_entry_eq]
  generalize (lg_sl ([.ref (pa0 n0 0), .int x1]) ++ List.replicate (2 - (lg_sl ([.ref (pa0 n0 0), .int x1])).length) Slot.unset).toArray = ls at hl ⊢
  have hl : lv_has ls 2 [(0, .ref (pa0 n0 0)), (1, .int x1)] := hl
  refine k_Q (fun Q hQ => ?_)
  have hg0 : gN C0 = gN C0 ∧ gE C0 = gE C0 := ⟨rfl, rfl⟩
  have hq := hf
  rw [f_X0_lockToRead] at hq
  refine lv_aload_n hx hb dX0_lockToRead_0 rfl (lv_at hl 0 rfl) ?_
  refine va_get (D := D) (ci := 0) (v := .ref (pa0 n0 5)) (C := RX0) (T := TX0) (N := 20) hx hb hts kin_X0_lockToRead_X0 hown hK hP (16 + (7 * n0 + 0)) (cW_get (show n0 < gN C0 from by omega) rfl) rfl 5 (by decide) (hts _ kw_X0_lockToRead__fieldLink_RX0_15_ActHouse_Act_locks_I_) (fun _ h9 => h9) rfl dX0_lockToRead_1 ?_
  refine lv_iload_n hx hb dX0_lockToRead_4 rfl (lv_at hl 1 rfl) ?_
  obtain ⟨b1, hq⟩ := k_if hq
  refine va_iald hx hb hK hP (16 + (7 * n0 + 2)) 0 (f := (gQ C0 n0 5)) (cW_get (show n0 < gN C0 from by omega) rfl) rfl (k_in b1.1 b1.2) dX0_lockToRead_5 ?_
  refine lv_if_ne (tgt := 16) hx hb dX0_lockToRead_6 (by decide) (fun c2 => ?_) (fun c2 => ?_)
  · skip
    rw [if_neg c2] at hq
    obtain ⟨e2, e3⟩ := k_so hq
    subst hQ
    have hP : va_P D vwCl (cW cI cJ cO h xa ea0 pa0 C0) _ := hP
    have hD : va_D A (cW cI cJ cO h xa ea0 pa0 C0) := hD
    have hgE := congrArg (fun X : CS => gN X) e3
    have hgE : gN C0 = gN C' := hgE
    have hhE := congrArg (fun X : CS => gE X) e3
    have hhE : gE C0 = gE C' := hhE
    refine W.widen (k := 0) (n := 0) (by decide) (by decide) ?_
    exact W.vret hx hb hr (fun t ht hW => ⟨⟨(cW cI cJ cO h xa ea0 pa0 C0, [(cI, .int), (cO, .object RX0), (cJ, .long)]), rfl, ⟨(congrArg (fun X : CS => ((cW cI cJ cO h xa ea0 pa0 X, [(cI, .int), (cO, .object RX0), (cJ, .long)]) : va_W × List (ClassId × FieldType))) e3), by omega, by omega⟩, ⟨by rw [ht]; exact hP, va_K.moved hW.alike hK, hD⟩⟩, hS.F ht⟩) hS.2.2 dX0_lockToRead_16
  · skip
    rw [if_pos c2] at hq
    refine lv_aload_n hx hb dX0_lockToRead_9 rfl (lv_at hl 0 rfl) ?_
    refine va_get (D := D) (ci := 0) (v := .ref (pa0 n0 5)) (C := RX0) (T := TX0) (N := 20) hx hb hts kin_X0_lockToRead_X0 hown hK hP (16 + (7 * n0 + 0)) (cW_get (show n0 < gN C0 from by omega) rfl) rfl 5 (by decide) (hts _ kw_X0_lockToRead__fieldLink_RX0_15_ActHouse_Act_locks_I_) (fun _ h9 => h9) rfl dX0_lockToRead_10 ?_
    refine lv_iload_n hx hb dX0_lockToRead_13 rfl (lv_at hl 1 rfl) ?_
    refine lv_iconst (v := 1) hx hb dX0_lockToRead_14 (by decide) ?_
    refine va_iast hx hb hK hP hD hS (16 + (7 * n0 + 2)) 0 (f := (gQ C0 n0 5)) (cW_get (show n0 < gN C0 from by omega) rfl) rfl (x := 1) (k_in b1.1 b1.2) dX0_lockToRead_15 (fun H locs hP hD hS => ?_)
    obtain ⟨C3, eC3, hg3, hh3, hq⟩ := k_lc (C := C0) hq rfl rfl
    rw [cQ_eq5 (show n0 < gN C0 from by omega), ← eC3] at hP hD
    have hP : va_P D vwCl (cW cI cJ cO h xa ea0 pa0 C3) _ := hP
    have hD : va_D A (cW cI cJ cO h xa ea0 pa0 C3) := hD
    obtain ⟨e2, e3⟩ := k_so hq
    subst hQ
    have hP : va_P D vwCl (cW cI cJ cO h xa ea0 pa0 C3) _ := hP
    have hD : va_D A (cW cI cJ cO h xa ea0 pa0 C3) := hD
    have hgE := congrArg (fun X : CS => gN X) e3
    have hgE : gN C3 = gN C' := hgE
    have hhE := congrArg (fun X : CS => gE X) e3
    have hhE : gE C3 = gE C' := hhE
    refine W.widen (k := 0) (n := 0) (by decide) (by decide) ?_
    exact W.vret hx hb hr (fun t ht hW => ⟨⟨(cW cI cJ cO h xa ea0 pa0 C3, [(cI, .int), (cO, .object RX0), (cJ, .long)]), rfl, ⟨(congrArg (fun X : CS => ((cW cI cJ cO h xa ea0 pa0 X, [(cI, .int), (cO, .object RX0), (cJ, .long)]) : va_W × List (ClassId × FieldType))) e3), by omega, by omega⟩, ⟨by rw [ht]; exact hP, va_K.moved hW.alike hK, hD⟩⟩, hS.F ht⟩) hS.2.2 dX0_lockToRead_16
set_option maxRecDepth 100000 in
theorem kw_X0_put__fieldLink_RX0_15_ActHouse_Act_locks_I_ : (.fieldLink RX0 15 "ActHouse$Act" "locks" "[I" : Cond) ∈ wsX0_put := by decide +kernel
set_option maxRecDepth 100000 in
theorem kin_X0_put_X0 : ∀ w ∈ u_ws RX0 TX0 20, w ∈ wsX0_put := by decide +kernel
set_option maxRecDepth 100000 in
theorem kw_X0_put__fieldLink_RX0_18_ActHouse_Act_written_I_ : (.fieldLink RX0 18 "ActHouse$Act" "written" "[I" : Cond) ∈ wsX0_put := by decide +kernel
set_option maxRecDepth 100000 in
theorem kw_X0_put__fieldLink_RX0_67_ActHouse_Act_register_I_ : (.fieldLink RX0 67 "ActHouse$Act" "register" "I" : Cond) ∈ wsX0_put := by decide +kernel
def f_X0_put (n0 : Nat) (x1 : Int32) (C0 : CS) : Option (Int32 × CS) := (if 0 ≤ x1.toInt ∧ x1.toInt < 24 then (k_let (cQF C0 n0 5 (upd (gQ C0 n0 5) x1.toNatClampNeg (2 : Int32))) fun C2 => (k_let (cQF C2 n0 6 (upd (gQ C2 n0 6) x1.toNatClampNeg (gP C2 n0 13))) fun C3 => some ((0 : Int32), C3))) else none)
set_option maxHeartbeats 4000000 in
set_option maxRecDepth 100000 in
theorem c_X0_put {l : Launch} {D : va_G} {sz : Nat} {cI cJ cO : ClassId} {h : Nat} {xa : Nat → Nat} {ea0 : Nat} {pa0 : Nat → Nat → Nat} {C0 C' : CS} {n0 : Nat} {x1 r' : Int32} (hn0 : n0 < gN C0) (hf : f_X0_put n0 x1 C0 = some (r', C')) : Met l yX0_put wsX0_put ({ frames := 0, cells := 0, slots := 0, locals := 0 }) (va_Pc [.ref (pa0 n0 0), .int x1] (k_Pre D [(cI, .int), (cO, .object RX0), (cJ, .long)] (cW cI cJ cO h xa ea0 pa0 C0) sz)) (va_Qv (fun (u : va_W × List (ClassId × FieldType)) => u = (cW cI cJ cO h xa ea0 pa0 C', [(cI, .int), (cO, .object RX0), (cJ, .long)]) ∧ gN C' = gN C0 ∧ gE C' = gE C0) (k_B D (va_A (cW cI cJ cO h xa ea0 pa0 C0) sz)) (va_A (cW cI cJ cO h xa ea0 pa0 C0) sz)) (0) (0) (va_A (cW cI cJ cO h xa ea0 pa0 C0) sz) := by
  refine Met.ofW (cc := cX0_put) (maxL := 2) (ret := none) (by decide) rfl ?_
  intro p e s m args below meth c s₁ B hml hv
  obtain ⟨rfl, hsz, hP, hK, hD0⟩ := hv
  have hx := B.exec
  have hb := B.bytes
  have hr := B.returns
  have hts := atoms_spec (ws := wsX0_put) B.pre
  have hown : s.vm.findClass RX0 = some m.cls := findClass_of_methodNamed B.named
  have hlocks := B.notSynchronized
  subst hsz
  have hD := hD0.self (sz := s.heap.size)
  generalize hAe : va_A (cW cI cJ cO h xa ea0 pa0 C0) s.heap.size = A at hD ⊢
  have hA : ∀ q : Nat, s.heap.size ≤ q → A q := fun q h => by rw [← hAe]; exact Or.inr h
  have hS : va_S A s.heap s.heap [] := va_S.rf
  have hl := lv_entry ([.ref (pa0 n0 0), .int x1]) (n := 2) (Nat.le_of_ble_eq_true rfl)
  rw [lg_entry_eq]
  generalize (lg_sl ([.ref (pa0 n0 0), .int x1]) ++ List.replicate (2 - (lg_sl ([.ref (pa0 n0 0), .int x1])).length) Slot.unset).toArray = ls at hl ⊢
  have hl : lv_has ls 2 [(0, .ref (pa0 n0 0)), (1, .int x1)] := hl
  refine k_Q (fun Q hQ => ?_)
  have hg0 : gN C0 = gN C0 ∧ gE C0 = gE C0 := ⟨rfl, rfl⟩
  have hq := hf
  rw [f_X0_put] at hq
  refine lv_aload_n hx hb dX0_put_0 rfl (lv_at hl 0 rfl) ?_
  refine va_get (D := D) (ci := 0) (v := .ref (pa0 n0 5)) (C := RX0) (T := TX0) (N := 20) hx hb hts kin_X0_put_X0 hown hK hP (16 + (7 * n0 + 0)) (cW_get (show n0 < gN C0 from by omega) rfl) rfl 5 (by decide) (hts _ kw_X0_put__fieldLink_RX0_15_ActHouse_Act_locks_I_) (fun _ h9 => h9) rfl dX0_put_1 ?_
  refine lv_iload_n hx hb dX0_put_4 rfl (lv_at hl 1 rfl) ?_
  refine lv_iconst (v := 2) hx hb dX0_put_5 (by decide) ?_
  obtain ⟨b1, hq⟩ := k_if hq
  refine va_iast hx hb hK hP hD hS (16 + (7 * n0 + 2)) 0 (f := (gQ C0 n0 5)) (cW_get (show n0 < gN C0 from by omega) rfl) rfl (x := 2) (k_in b1.1 b1.2) dX0_put_6 (fun H locs hP hD hS => ?_)
  obtain ⟨C2, eC2, hg2, hh2, hq⟩ := k_lc (C := C0) hq rfl rfl
  rw [cQ_eq5 (show n0 < gN C0 from by omega), ← eC2] at hP hD
  have hP : va_P D vwCl (cW cI cJ cO h xa ea0 pa0 C2) _ := hP
  have hD : va_D A (cW cI cJ cO h xa ea0 pa0 C2) := hD
  refine lv_aload_n hx hb dX0_put_7 rfl (lv_at hl 0 rfl) ?_
  refine va_get (D := D) (ci := 0) (v := .ref (pa0 n0 6)) (C := RX0) (T := TX0) (N := 20) hx hb hts kin_X0_put_X0 hown hK hP (16 + (7 * n0 + 0)) (cW_get (show n0 < gN C2 from by omega) rfl) rfl 6 (by decide) (hts _ kw_X0_put__fieldLink_RX0_18_ActHouse_Act_written_I_) (fun _ h9 => h9) rfl dX0_put_8 ?_
  refine lv_iload_n hx hb dX0_put_11 rfl (lv_at hl 1 rfl) ?_
  refine lv_aload_n hx hb dX0_put_12 rfl (lv_at hl 0 rfl) ?_
  refine va_get (D := D) (ci := 0) (v := .int (gP C2 n0 13)) (C := RX0) (T := TX0) (N := 20) hx hb hts kin_X0_put_X0 hown hK hP (16 + (7 * n0 + 0)) (cW_get (show n0 < gN C2 from by omega) rfl) rfl 13 (by decide) (hts _ kw_X0_put__fieldLink_RX0_67_ActHouse_Act_register_I_) (fun _ h9 => h9) rfl dX0_put_13 ?_
  refine va_iast hx hb hK hP hD hS (16 + (7 * n0 + 3)) 0 (f := (gQ C2 n0 6)) (cW_get (show n0 < gN C2 from by omega) rfl) rfl (x := (gP C2 n0 13)) (k_in b1.1 b1.2) dX0_put_16 (fun H locs hP hD hS => ?_)
  obtain ⟨C3, eC3, hg3, hh3, hq⟩ := k_lc (C := C2) hq rfl rfl
  rw [cQ_eq6 (show n0 < gN C2 from by omega), ← eC3] at hP hD
  have hP : va_P D vwCl (cW cI cJ cO h xa ea0 pa0 C3) _ := hP
  have hD : va_D A (cW cI cJ cO h xa ea0 pa0 C3) := hD
  obtain ⟨e2, e3⟩ := k_so hq
  subst hQ
  have hP : va_P D vwCl (cW cI cJ cO h xa ea0 pa0 C3) _ := hP
  have hD : va_D A (cW cI cJ cO h xa ea0 pa0 C3) := hD
  have hgE := congrArg (fun X : CS => gN X) e3
  have hgE : gN C3 = gN C' := hgE
  have hhE := congrArg (fun X : CS => gE X) e3
  have hhE : gE C3 = gE C' := hhE
  refine W.widen (k := 0) (n := 0) (by decide) (by decide) ?_
  exact W.vret hx hb hr (fun t ht hW => ⟨⟨(cW cI cJ cO h xa ea0 pa0 C3, [(cI, .int), (cO, .object RX0), (cJ, .long)]), rfl, ⟨(congrArg (fun X : CS => ((cW cI cJ cO h xa ea0 pa0 X, [(cI, .int), (cO, .object RX0), (cJ, .long)]) : va_W × List (ClassId × FieldType))) e3), by omega, by omega⟩, ⟨by rw [ht]; exact hP, va_K.moved hW.alike hK, hD⟩⟩, hS.F ht⟩) hS.2.2 dX0_put_17
set_option maxRecDepth 100000 in
theorem kw_X0_give__fieldLink_RX0_21_ActHouse_Act_gives_I_ : (.fieldLink RX0 21 "ActHouse$Act" "gives" "[I" : Cond) ∈ wsX0_give := by decide +kernel
set_option maxRecDepth 100000 in
theorem kin_X0_give_X0 : ∀ w ∈ u_ws RX0 TX0 20, w ∈ wsX0_give := by decide +kernel
set_option maxRecDepth 100000 in
theorem kw_X0_give__fieldLink_RX0_24_ActHouse_Act_takes_I_ : (.fieldLink RX0 24 "ActHouse$Act" "takes" "[I" : Cond) ∈ wsX0_give := by decide +kernel
set_option maxRecDepth 100000 in
theorem kw_X0_give__methodLink_RX0_75_Lib_Math_min_name : (.methodLink RX0 75 Lib.Math.min.name : Cond) ∈ wsX0_give := by decide +kernel
set_option maxRecDepth 100000 in
theorem kw_X0_give__static_Lib_Math_min_name : (.static Lib.Math.min.name : Cond) ∈ wsX0_give := by decide +kernel
set_option maxRecDepth 100000 in
theorem kw_X0_give__initialized_java_lang_Math_ : (.initialized "java/lang/Math" : Cond) ∈ wsX0_give := by decide +kernel
set_option maxRecDepth 100000 in
theorem kw_X0_give__code_Lib_Math_min_name_Lib_Math_min_code_2_some_int_ : (.code Lib.Math.min.name Lib.Math.min.code 2 (some .int) : Cond) ∈ wsX0_give := by decide +kernel
def f_X0_give (n0 : Nat) (x1 : Int32) (x2 : Int32) (C0 : CS) : Option (Int32 × CS) := (if 0 ≤ x1.toInt ∧ x1.toInt < 8 then (k_let (cQF C0 n0 7 (upd (gQ C0 n0 7) x1.toNatClampNeg (((gQ C0 n0 7) x1.toNatClampNeg) + x2))) fun C2 => (k_let (cQF C2 n0 8 (upd (gQ C2 n0 8) x1.toNatClampNeg (((gQ C2 n0 8) x1.toNatClampNeg) + (if (0 : Int32) < x2 then (0 : Int32) else x2)))) fun C3 => some ((0 : Int32), C3))) else none)
set_option maxHeartbeats 4000000 in
set_option maxRecDepth 100000 in
theorem c_X0_give {l : Launch} {D : va_G} {sz : Nat} {cI cJ cO : ClassId} {h : Nat} {xa : Nat → Nat} {ea0 : Nat} {pa0 : Nat → Nat → Nat} {C0 C' : CS} {n0 : Nat} {x1 x2 r' : Int32} (hn0 : n0 < gN C0) (hf : f_X0_give n0 x1 x2 C0 = some (r', C')) : Met l yX0_give wsX0_give ({ frames := 1, cells := 0, slots := 0, locals := 16 }) (va_Pc [.ref (pa0 n0 0), .int x1, .int x2] (k_Pre D [(cI, .int), (cO, .object RX0), (cJ, .long)] (cW cI cJ cO h xa ea0 pa0 C0) sz)) (va_Qv (fun (u : va_W × List (ClassId × FieldType)) => u = (cW cI cJ cO h xa ea0 pa0 C', [(cI, .int), (cO, .object RX0), (cJ, .long)]) ∧ gN C' = gN C0 ∧ gE C' = gE C0) (k_B D (va_A (cW cI cJ cO h xa ea0 pa0 C0) sz)) (va_A (cW cI cJ cO h xa ea0 pa0 C0) sz)) (0) (0) (va_A (cW cI cJ cO h xa ea0 pa0 C0) sz) := by
  refine Met.ofW (cc := cX0_give) (maxL := 3) (ret := none) (by decide) rfl ?_
  intro p e s m args below meth c s₁ B hml hv
  obtain ⟨rfl, hsz, hP, hK, hD0⟩ := hv
  have hx := B.exec
  have hb := B.bytes
  have hr := B.returns
  have hts := atoms_spec (ws := wsX0_give) B.pre
  have hown : s.vm.findClass RX0 = some m.cls := findClass_of_methodNamed B.named
  have hlocks := B.notSynchronized
  subst hsz
  have hD := hD0.self (sz := s.heap.size)
  generalize hAe : va_A (cW cI cJ cO h xa ea0 pa0 C0) s.heap.size = A at hD ⊢
  have hA : ∀ q : Nat, s.heap.size ≤ q → A q := fun q h => by rw [← hAe]; exact Or.inr h
  have hS : va_S A s.heap s.heap [] := va_S.rf
  have hl := lv_entry ([.ref (pa0 n0 0), .int x1, .int x2]) (n := 3) (Nat.le_of_ble_eq_true rfl)
  rw [lg_entry_eq]
  generalize (lg_sl ([.ref (pa0 n0 0), .int x1, .int x2]) ++ List.replicate (3 - (lg_sl ([.ref (pa0 n0 0), .int x1, .int x2])).length) Slot.unset).toArray = ls at hl ⊢
  have hl : lv_has ls 3 [(0, .ref (pa0 n0 0)), (1, .int x1), (2, .int x2)] := hl
  refine k_Q (fun Q hQ => ?_)
  have hg0 : gN C0 = gN C0 ∧ gE C0 = gE C0 := ⟨rfl, rfl⟩
  have hq := hf
  rw [f_X0_give] at hq
  refine lv_aload_n hx hb dX0_give_0 rfl (lv_at hl 0 rfl) ?_
  refine va_get (D := D) (ci := 0) (v := .ref (pa0 n0 7)) (C := RX0) (T := TX0) (N := 20) hx hb hts kin_X0_give_X0 hown hK hP (16 + (7 * n0 + 0)) (cW_get (show n0 < gN C0 from by omega) rfl) rfl 7 (by decide) (hts _ kw_X0_give__fieldLink_RX0_21_ActHouse_Act_gives_I_) (fun _ h9 => h9) rfl dX0_give_1 ?_
  refine lv_iload_n hx hb dX0_give_4 rfl (lv_at hl 1 rfl) ?_
  refine lv_dup2_11 hx hb dX0_give_5 rfl rfl ?_
  obtain ⟨b1, hq⟩ := k_if hq
  refine va_iald hx hb hK hP (16 + (7 * n0 + 4)) 0 (f := (gQ C0 n0 7)) (cW_get (show n0 < gN C0 from by omega) rfl) rfl (k_in b1.1 b1.2) dX0_give_6 ?_
  refine lv_iload_n hx hb dX0_give_7 rfl (lv_at hl 2 rfl) ?_
  refine lv_iadd hx hb dX0_give_8 ?_
  refine va_iast hx hb hK hP hD hS (16 + (7 * n0 + 4)) 0 (f := (gQ C0 n0 7)) (cW_get (show n0 < gN C0 from by omega) rfl) rfl (x := (((gQ C0 n0 7) x1.toNatClampNeg) + x2)) (k_in b1.1 b1.2) dX0_give_9 (fun H locs hP hD hS => ?_)
  obtain ⟨C2, eC2, hg2, hh2, hq⟩ := k_lc (C := C0) hq rfl rfl
  rw [cQ_eq7 (show n0 < gN C0 from by omega), ← eC2] at hP hD
  have hP : va_P D vwCl (cW cI cJ cO h xa ea0 pa0 C2) _ := hP
  have hD : va_D A (cW cI cJ cO h xa ea0 pa0 C2) := hD
  refine lv_aload_n hx hb dX0_give_10 rfl (lv_at hl 0 rfl) ?_
  refine va_get (D := D) (ci := 0) (v := .ref (pa0 n0 8)) (C := RX0) (T := TX0) (N := 20) hx hb hts kin_X0_give_X0 hown hK hP (16 + (7 * n0 + 0)) (cW_get (show n0 < gN C2 from by omega) rfl) rfl 8 (by decide) (hts _ kw_X0_give__fieldLink_RX0_24_ActHouse_Act_takes_I_) (fun _ h9 => h9) rfl dX0_give_11 ?_
  refine lv_iload_n hx hb dX0_give_14 rfl (lv_at hl 1 rfl) ?_
  refine lv_dup2_11 hx hb dX0_give_15 rfl rfl ?_
  refine va_iald hx hb hK hP (16 + (7 * n0 + 5)) 0 (f := (gQ C2 n0 8)) (cW_get (show n0 < gN C2 from by omega) rfl) rfl (k_in b1.1 b1.2) dX0_give_16 ?_
  refine lv_iload_n hx hb dX0_give_17 rfl (lv_at hl 2 rfl) ?_
  refine lv_iconst (v := 0) hx hb dX0_give_18 (by decide) ?_
  refine va_mmin hx hb (by rw [hml]; exact hl.1.symm) hown (hts _ kw_X0_give__methodLink_RX0_75_Lib_Math_min_name) (hts _ kw_X0_give__static_Lib_Math_min_name) (hts _ kw_X0_give__initialized_java_lang_Math_) (hts _ kw_X0_give__code_Lib_Math_min_name_Lib_Math_min_code_2_some_int_) (Nat.le_of_ble_eq_true rfl) (Nat.le_of_ble_eq_true rfl) (by decide) (by decide) dX0_give_19 ?_
  refine lv_iadd hx hb dX0_give_22 ?_
  refine va_iast hx hb hK hP hD hS (16 + (7 * n0 + 5)) 0 (f := (gQ C2 n0 8)) (cW_get (show n0 < gN C2 from by omega) rfl) rfl (x := (((gQ C2 n0 8) x1.toNatClampNeg) + (if (0 : Int32) < x2 then (0 : Int32) else x2))) (k_in b1.1 b1.2) dX0_give_23 (fun H locs hP hD hS => ?_)
  obtain ⟨C3, eC3, hg3, hh3, hq⟩ := k_lc (C := C2) hq rfl rfl
  rw [cQ_eq8 (show n0 < gN C2 from by omega), ← eC3] at hP hD
  have hP : va_P D vwCl (cW cI cJ cO h xa ea0 pa0 C3) _ := hP
  have hD : va_D A (cW cI cJ cO h xa ea0 pa0 C3) := hD
  obtain ⟨e2, e3⟩ := k_so hq
  subst hQ
  have hP : va_P D vwCl (cW cI cJ cO h xa ea0 pa0 C3) _ := hP
  have hD : va_D A (cW cI cJ cO h xa ea0 pa0 C3) := hD
  have hgE := congrArg (fun X : CS => gN X) e3
  have hgE : gN C3 = gN C' := hgE
  have hhE := congrArg (fun X : CS => gE X) e3
  have hhE : gE C3 = gE C' := hhE
  refine W.widen (k := 0) (n := 0) (by decide) (by decide) ?_
  exact W.vret hx hb hr (fun t ht hW => ⟨⟨(cW cI cJ cO h xa ea0 pa0 C3, [(cI, .int), (cO, .object RX0), (cJ, .long)]), rfl, ⟨(congrArg (fun X : CS => ((cW cI cJ cO h xa ea0 pa0 X, [(cI, .int), (cO, .object RX0), (cJ, .long)]) : va_W × List (ClassId × FieldType))) e3), by omega, by omega⟩, ⟨by rw [ht]; exact hP, va_K.moved hW.alike hK, hD⟩⟩, hS.F ht⟩) hS.2.2 dX0_give_24
set_option maxRecDepth 100000 in
theorem kw_X0_enqueue__fieldLink_RX0_81_ActHouse_Act_queueLength_I_ : (.fieldLink RX0 81 "ActHouse$Act" "queueLength" "I" : Cond) ∈ wsX0_enqueue := by decide +kernel
set_option maxRecDepth 100000 in
theorem kin_X0_enqueue_X0 : ∀ w ∈ u_ws RX0 TX0 20, w ∈ wsX0_enqueue := by decide +kernel
set_option maxRecDepth 100000 in
theorem kw_X0_enqueue__fieldLink_RX0_27_ActHouse_Act_queue_I_ : (.fieldLink RX0 27 "ActHouse$Act" "queue" "[I" : Cond) ∈ wsX0_enqueue := by decide +kernel
def f_X0_enqueue (n0 : Nat) (x1 : Int32) (C0 : CS) : Option (Int32 × CS) := (if 12 ≤ (gP C0 n0 11) then some ((0 : Int32), C0) else (if 0 ≤ (gP C0 n0 11).toInt ∧ (gP C0 n0 11).toInt < 12 then (k_let (cQF C0 n0 9 (upd (gQ C0 n0 9) ((gP C0 n0 11).toNatClampNeg) x1)) fun C3 => (k_let (cP C3 n0 11 ((gP C3 n0 11) + 1)) fun C4 => some ((0 : Int32), C4))) else none))
set_option maxHeartbeats 4000000 in
set_option maxRecDepth 100000 in
theorem c_X0_enqueue {l : Launch} {D : va_G} {sz : Nat} {cI cJ cO : ClassId} {h : Nat} {xa : Nat → Nat} {ea0 : Nat} {pa0 : Nat → Nat → Nat} {C0 C' : CS} {n0 : Nat} {x1 r' : Int32} (hn0 : n0 < gN C0) (hf : f_X0_enqueue n0 x1 C0 = some (r', C')) : Met l yX0_enqueue wsX0_enqueue ({ frames := 0, cells := 0, slots := 0, locals := 0 }) (va_Pc [.ref (pa0 n0 0), .int x1] (k_Pre D [(cI, .int), (cO, .object RX0), (cJ, .long)] (cW cI cJ cO h xa ea0 pa0 C0) sz)) (va_Qv (fun (u : va_W × List (ClassId × FieldType)) => u = (cW cI cJ cO h xa ea0 pa0 C', [(cI, .int), (cO, .object RX0), (cJ, .long)]) ∧ gN C' = gN C0 ∧ gE C' = gE C0) (k_B D (va_A (cW cI cJ cO h xa ea0 pa0 C0) sz)) (va_A (cW cI cJ cO h xa ea0 pa0 C0) sz)) (0) (0) (va_A (cW cI cJ cO h xa ea0 pa0 C0) sz) := by
  refine Met.ofW (cc := cX0_enqueue) (maxL := 2) (ret := none) (by decide) rfl ?_
  intro p e s m args below meth c s₁ B hml hv
  obtain ⟨rfl, hsz, hP, hK, hD0⟩ := hv
  have hx := B.exec
  have hb := B.bytes
  have hr := B.returns
  have hts := atoms_spec (ws := wsX0_enqueue) B.pre
  have hown : s.vm.findClass RX0 = some m.cls := findClass_of_methodNamed B.named
  have hlocks := B.notSynchronized
  subst hsz
  have hD := hD0.self (sz := s.heap.size)
  generalize hAe : va_A (cW cI cJ cO h xa ea0 pa0 C0) s.heap.size = A at hD ⊢
  have hA : ∀ q : Nat, s.heap.size ≤ q → A q := fun q h => by rw [← hAe]; exact Or.inr h
  have hS : va_S A s.heap s.heap [] := va_S.rf
  have hl := lv_entry ([.ref (pa0 n0 0), .int x1]) (n := 2) (Nat.le_of_ble_eq_true rfl)
  rw [lg_entry_eq]
  generalize (lg_sl ([.ref (pa0 n0 0), .int x1]) ++ List.replicate (2 - (lg_sl ([.ref (pa0 n0 0), .int x1])).length) Slot.unset).toArray = ls at hl ⊢
  have hl : lv_has ls 2 [(0, .ref (pa0 n0 0)), (1, .int x1)] := hl
  refine k_Q (fun Q hQ => ?_)
  have hg0 : gN C0 = gN C0 ∧ gE C0 = gE C0 := ⟨rfl, rfl⟩
  have hq := hf
  rw [f_X0_enqueue] at hq
  refine lv_aload_n hx hb dX0_enqueue_0 rfl (lv_at hl 0 rfl) ?_
  refine va_get (D := D) (ci := 0) (v := .int (gP C0 n0 11)) (C := RX0) (T := TX0) (N := 20) hx hb hts kin_X0_enqueue_X0 hown hK hP (16 + (7 * n0 + 0)) (cW_get (show n0 < gN C0 from by omega) rfl) rfl 11 (by decide) (hts _ kw_X0_enqueue__fieldLink_RX0_81_ActHouse_Act_queueLength_I_) (fun _ h9 => h9) rfl dX0_enqueue_1 ?_
  refine lv_bipush (v := 12) hx hb dX0_enqueue_4 (by decide) ?_
  refine lv_icmp_ge (tgt := 29) hx hb dX0_enqueue_6 (by decide) (fun c1 => ?_) (fun c1 => ?_)
  · skip
    rw [if_pos c1] at hq
    obtain ⟨e2, e3⟩ := k_so hq
    subst hQ
    have hP : va_P D vwCl (cW cI cJ cO h xa ea0 pa0 C0) _ := hP
    have hD : va_D A (cW cI cJ cO h xa ea0 pa0 C0) := hD
    have hgE := congrArg (fun X : CS => gN X) e3
    have hgE : gN C0 = gN C' := hgE
    have hhE := congrArg (fun X : CS => gE X) e3
    have hhE : gE C0 = gE C' := hhE
    refine W.widen (k := 0) (n := 0) (by decide) (by decide) ?_
    exact W.vret hx hb hr (fun t ht hW => ⟨⟨(cW cI cJ cO h xa ea0 pa0 C0, [(cI, .int), (cO, .object RX0), (cJ, .long)]), rfl, ⟨(congrArg (fun X : CS => ((cW cI cJ cO h xa ea0 pa0 X, [(cI, .int), (cO, .object RX0), (cJ, .long)]) : va_W × List (ClassId × FieldType))) e3), by omega, by omega⟩, ⟨by rw [ht]; exact hP, va_K.moved hW.alike hK, hD⟩⟩, hS.F ht⟩) hS.2.2 dX0_enqueue_29
  · skip
    rw [if_neg c1] at hq
    refine lv_aload_n hx hb dX0_enqueue_9 rfl (lv_at hl 0 rfl) ?_
    refine va_get (D := D) (ci := 0) (v := .ref (pa0 n0 9)) (C := RX0) (T := TX0) (N := 20) hx hb hts kin_X0_enqueue_X0 hown hK hP (16 + (7 * n0 + 0)) (cW_get (show n0 < gN C0 from by omega) rfl) rfl 9 (by decide) (hts _ kw_X0_enqueue__fieldLink_RX0_27_ActHouse_Act_queue_I_) (fun _ h9 => h9) rfl dX0_enqueue_10 ?_
    refine lv_aload_n hx hb dX0_enqueue_13 rfl (lv_at hl 0 rfl) ?_
    refine va_get (D := D) (ci := 0) (v := .int (gP C0 n0 11)) (C := RX0) (T := TX0) (N := 20) hx hb hts kin_X0_enqueue_X0 hown hK hP (16 + (7 * n0 + 0)) (cW_get (show n0 < gN C0 from by omega) rfl) rfl 11 (by decide) (hts _ kw_X0_enqueue__fieldLink_RX0_81_ActHouse_Act_queueLength_I_) (fun _ h9 => h9) rfl dX0_enqueue_14 ?_
    refine lv_iload_n hx hb dX0_enqueue_17 rfl (lv_at hl 1 rfl) ?_
    obtain ⟨b2, hq⟩ := k_if hq
    refine va_iast hx hb hK hP hD hS (16 + (7 * n0 + 6)) 0 (f := (gQ C0 n0 9)) (cW_get (show n0 < gN C0 from by omega) rfl) rfl (x := x1) (k_in b2.1 b2.2) dX0_enqueue_18 (fun H locs hP hD hS => ?_)
    obtain ⟨C3, eC3, hg3, hh3, hq⟩ := k_lc (C := C0) hq rfl rfl
    rw [cQ_eq9 (show n0 < gN C0 from by omega), ← eC3] at hP hD
    have hP : va_P D vwCl (cW cI cJ cO h xa ea0 pa0 C3) _ := hP
    have hD : va_D A (cW cI cJ cO h xa ea0 pa0 C3) := hD
    refine lv_aload_n hx hb dX0_enqueue_19 rfl (lv_at hl 0 rfl) ?_
    refine lv_dup hx hb dX0_enqueue_20 rfl ?_
    refine va_get (D := D) (ci := 0) (v := .int (gP C3 n0 11)) (C := RX0) (T := TX0) (N := 20) hx hb hts kin_X0_enqueue_X0 hown hK hP (16 + (7 * n0 + 0)) (cW_get (show n0 < gN C3 from by omega) rfl) rfl 11 (by decide) (hts _ kw_X0_enqueue__fieldLink_RX0_81_ActHouse_Act_queueLength_I_) (fun _ h9 => h9) rfl dX0_enqueue_21 ?_
    refine lv_iconst (v := 1) hx hb dX0_enqueue_24 (by decide) ?_
    refine lv_iadd hx hb dX0_enqueue_25 ?_
    refine va_put (D := D) (ci := 0) (v := .int ((gP C3 n0 11) + 1)) (ty := .int) (C := RX0) (T := TX0) (N := 20) hx hb hts kin_X0_enqueue_X0 tyX0 tyX0_ok nmX0 hown hK hP hD hS (16 + (7 * n0 + 0)) (fs := aF (pa0 n0) (gP C3 n0)) (cW_get (show n0 < gN C3 from by omega) rfl) rfl 11 (by decide) (hts _ kw_X0_enqueue__fieldLink_RX0_81_ActHouse_Act_queueLength_I_) (fun _ h9 => h9) rfl (by decide +kernel) rfl rfl (Nat.le_of_ble_eq_true rfl) dX0_enqueue_26 (fun H locs hP hD hS => ?_)
    obtain ⟨C4, eC4, hg4, hh4, hq⟩ := k_lc (C := C3) hq rfl rfl
    rw [cP_eq11 (show n0 < gN C3 from by omega), ← eC4] at hP hD
    have hP : va_P D vwCl (cW cI cJ cO h xa ea0 pa0 C4) _ := hP
    have hD : va_D A (cW cI cJ cO h xa ea0 pa0 C4) := hD
    obtain ⟨e2, e3⟩ := k_so hq
    subst hQ
    have hP : va_P D vwCl (cW cI cJ cO h xa ea0 pa0 C4) _ := hP
    have hD : va_D A (cW cI cJ cO h xa ea0 pa0 C4) := hD
    have hgE := congrArg (fun X : CS => gN X) e3
    have hgE : gN C4 = gN C' := hgE
    have hhE := congrArg (fun X : CS => gE X) e3
    have hhE : gE C4 = gE C' := hhE
    refine W.widen (k := 0) (n := 0) (by decide) (by decide) ?_
    exact W.vret hx hb hr (fun t ht hW => ⟨⟨(cW cI cJ cO h xa ea0 pa0 C4, [(cI, .int), (cO, .object RX0), (cJ, .long)]), rfl, ⟨(congrArg (fun X : CS => ((cW cI cJ cO h xa ea0 pa0 X, [(cI, .int), (cO, .object RX0), (cJ, .long)]) : va_W × List (ClassId × FieldType))) e3), by omega, by omega⟩, ⟨by rw [ht]; exact hP, va_K.moved hW.alike hK, hD⟩⟩, hS.F ht⟩) hS.2.2 dX0_enqueue_29
set_option maxRecDepth 100000 in
theorem kw_X0_valueAfter__fieldLink_RX0_21_ActHouse_Act_gives_I_ : (.fieldLink RX0 21 "ActHouse$Act" "gives" "[I" : Cond) ∈ wsX0_valueAfter := by decide +kernel
set_option maxRecDepth 100000 in
theorem kin_X0_valueAfter_X0 : ∀ w ∈ u_ws RX0 TX0 20, w ∈ wsX0_valueAfter := by decide +kernel
set_option maxRecDepth 100000 in
theorem kw_X0_valueAfter__fieldLink_RX0_15_ActHouse_Act_locks_I_ : (.fieldLink RX0 15 "ActHouse$Act" "locks" "[I" : Cond) ∈ wsX0_valueAfter := by decide +kernel
set_option maxRecDepth 100000 in
theorem kw_X0_valueAfter__fieldLink_RX0_18_ActHouse_Act_written_I_ : (.fieldLink RX0 18 "ActHouse$Act" "written" "[I" : Cond) ∈ wsX0_valueAfter := by decide +kernel
def f_X0_valueAfter (n0 : Nat) (x1 : Int32) (x2 : Int32) (C0 : CS) : Option (Int32 × CS) := (if 24 ≤ x1 then (if 0 ≤ (x1 - 24).toInt ∧ (x1 - 24).toInt < 8 then some ((x2 + ((gQ C0 n0 7) (x1 - 24).toNatClampNeg)), C0) else none) else (if 0 ≤ x1.toInt ∧ x1.toInt < 24 then (if ((gQ C0 n0 5) x1.toNatClampNeg) = 2 then some (((gQ C0 n0 6) x1.toNatClampNeg), C0) else some (x2, C0)) else none))
set_option maxHeartbeats 4000000 in
set_option maxRecDepth 100000 in
theorem c_X0_valueAfter {l : Launch} {D : va_G} {sz : Nat} {cI cJ cO : ClassId} {h : Nat} {xa : Nat → Nat} {ea0 : Nat} {pa0 : Nat → Nat → Nat} {C0 C' : CS} {n0 : Nat} {x1 x2 r' : Int32} (hn0 : n0 < gN C0) (hf : f_X0_valueAfter n0 x1 x2 C0 = some (r', C')) : Met l yX0_valueAfter wsX0_valueAfter ({ frames := 0, cells := 0, slots := 0, locals := 0 }) (va_Pc [.ref (pa0 n0 0), .int x1, .int x2] (k_Pre D [(cI, .int), (cO, .object RX0), (cJ, .long)] (cW cI cJ cO h xa ea0 pa0 C0) sz)) (va_Qi (fun (r0 : Int32) (u : va_W × List (ClassId × FieldType)) => r0 = r' ∧ u = (cW cI cJ cO h xa ea0 pa0 C', [(cI, .int), (cO, .object RX0), (cJ, .long)]) ∧ gN C' = gN C0 ∧ gE C' = gE C0) (k_B D (va_A (cW cI cJ cO h xa ea0 pa0 C0) sz)) (va_A (cW cI cJ cO h xa ea0 pa0 C0) sz)) (0) (0) (va_A (cW cI cJ cO h xa ea0 pa0 C0) sz) := by
  refine Met.ofW (cc := cX0_valueAfter) (maxL := 3) (ret := (some .int)) (by decide) rfl ?_
  intro p e s m args below meth c s₁ B hml hv
  obtain ⟨rfl, hsz, hP, hK, hD0⟩ := hv
  have hx := B.exec
  have hb := B.bytes
  have hr := B.returns
  have hts := atoms_spec (ws := wsX0_valueAfter) B.pre
  have hown : s.vm.findClass RX0 = some m.cls := findClass_of_methodNamed B.named
  have hlocks := B.notSynchronized
  subst hsz
  have hD := hD0.self (sz := s.heap.size)
  generalize hAe : va_A (cW cI cJ cO h xa ea0 pa0 C0) s.heap.size = A at hD ⊢
  have hA : ∀ q : Nat, s.heap.size ≤ q → A q := fun q h => by rw [← hAe]; exact Or.inr h
  have hS : va_S A s.heap s.heap [] := va_S.rf
  have hl := lv_entry ([.ref (pa0 n0 0), .int x1, .int x2]) (n := 3) (Nat.le_of_ble_eq_true rfl)
  rw [lg_entry_eq]
  generalize (lg_sl ([.ref (pa0 n0 0), .int x1, .int x2]) ++ List.replicate (3 - (lg_sl ([.ref (pa0 n0 0), .int x1, .int x2])).length) Slot.unset).toArray = ls at hl ⊢
  have hl : lv_has ls 3 [(0, .ref (pa0 n0 0)), (1, .int x1), (2, .int x2)] := hl
  refine k_Q (fun Q hQ => ?_)
  have hg0 : gN C0 = gN C0 ∧ gE C0 = gE C0 := ⟨rfl, rfl⟩
  have hq := hf
  rw [f_X0_valueAfter] at hq
  refine lv_iload_n hx hb dX0_valueAfter_0 rfl (lv_at hl 1 rfl) ?_
  refine lv_bipush (v := 24) hx hb dX0_valueAfter_1 (by decide) ?_
  refine lv_icmp_ge (tgt := 27) hx hb dX0_valueAfter_3 (by decide) (fun c1 => ?_) (fun c1 => ?_)
  · skip
    rw [if_pos c1] at hq
    refine lv_iload_n hx hb dX0_valueAfter_27 rfl (lv_at hl 2 rfl) ?_
    refine lv_aload_n hx hb dX0_valueAfter_28 rfl (lv_at hl 0 rfl) ?_
    refine va_get (D := D) (ci := 0) (v := .ref (pa0 n0 7)) (C := RX0) (T := TX0) (N := 20) hx hb hts kin_X0_valueAfter_X0 hown hK hP (16 + (7 * n0 + 0)) (cW_get (show n0 < gN C0 from by omega) rfl) rfl 7 (by decide) (hts _ kw_X0_valueAfter__fieldLink_RX0_21_ActHouse_Act_gives_I_) (fun _ h9 => h9) rfl dX0_valueAfter_29 ?_
    refine lv_iload_n hx hb dX0_valueAfter_32 rfl (lv_at hl 1 rfl) ?_
    refine lv_bipush (v := 24) hx hb dX0_valueAfter_33 (by decide) ?_
    refine lv_isub hx hb dX0_valueAfter_35 ?_
    obtain ⟨b2, hq⟩ := k_if hq
    refine va_iald hx hb hK hP (16 + (7 * n0 + 4)) 0 (f := (gQ C0 n0 7)) (cW_get (show n0 < gN C0 from by omega) rfl) rfl (k_in b2.1 b2.2) dX0_valueAfter_36 ?_
    refine lv_iadd hx hb dX0_valueAfter_37 ?_
    obtain ⟨e2, e3⟩ := k_so hq
    subst hQ
    have hP : va_P D vwCl (cW cI cJ cO h xa ea0 pa0 C0) _ := hP
    have hD : va_D A (cW cI cJ cO h xa ea0 pa0 C0) := hD
    have hgE := congrArg (fun X : CS => gN X) e3
    have hgE : gN C0 = gN C' := hgE
    have hhE := congrArg (fun X : CS => gE X) e3
    have hhE : gE C0 = gE C' := hhE
    refine W.widen (k := 0) (n := 0) (by decide) (by decide) ?_
    exact W.iret (v := x2 + ((gQ C0 n0 7) (x1 - 24).toNatClampNeg)) hx hb hr (fun t ht hW => ⟨⟨x2 + ((gQ C0 n0 7) (x1 - 24).toNatClampNeg), (cW cI cJ cO h xa ea0 pa0 C0, [(cI, .int), (cO, .object RX0), (cJ, .long)]), rfl, ⟨e2, (congrArg (fun X : CS => ((cW cI cJ cO h xa ea0 pa0 X, [(cI, .int), (cO, .object RX0), (cJ, .long)]) : va_W × List (ClassId × FieldType))) e3), by omega, by omega⟩, ⟨by rw [ht]; exact hP, va_K.moved hW.alike hK, hD⟩⟩, hS.F ht⟩) hS.2.2 dX0_valueAfter_38
  · skip
    rw [if_neg c1] at hq
    refine lv_aload_n hx hb dX0_valueAfter_6 rfl (lv_at hl 0 rfl) ?_
    refine va_get (D := D) (ci := 0) (v := .ref (pa0 n0 5)) (C := RX0) (T := TX0) (N := 20) hx hb hts kin_X0_valueAfter_X0 hown hK hP (16 + (7 * n0 + 0)) (cW_get (show n0 < gN C0 from by omega) rfl) rfl 5 (by decide) (hts _ kw_X0_valueAfter__fieldLink_RX0_15_ActHouse_Act_locks_I_) (fun _ h9 => h9) rfl dX0_valueAfter_7 ?_
    refine lv_iload_n hx hb dX0_valueAfter_10 rfl (lv_at hl 1 rfl) ?_
    obtain ⟨b3, hq⟩ := k_if hq
    refine va_iald hx hb hK hP (16 + (7 * n0 + 2)) 0 (f := (gQ C0 n0 5)) (cW_get (show n0 < gN C0 from by omega) rfl) rfl (k_in b3.1 b3.2) dX0_valueAfter_11 ?_
    refine lv_iconst (v := 2) hx hb dX0_valueAfter_12 (by decide) ?_
    refine lv_icmp_ne (tgt := 25) hx hb dX0_valueAfter_13 (by decide) (fun c4 => ?_) (fun c4 => ?_)
    · skip
      rw [if_neg c4] at hq
      refine lv_iload_n hx hb dX0_valueAfter_25 rfl (lv_at hl 2 rfl) ?_
      obtain ⟨e2, e3⟩ := k_so hq
      subst hQ
      have hP : va_P D vwCl (cW cI cJ cO h xa ea0 pa0 C0) _ := hP
      have hD : va_D A (cW cI cJ cO h xa ea0 pa0 C0) := hD
      have hgE := congrArg (fun X : CS => gN X) e3
      have hgE : gN C0 = gN C' := hgE
      have hhE := congrArg (fun X : CS => gE X) e3
      have hhE : gE C0 = gE C' := hhE
      refine W.widen (k := 0) (n := 0) (by decide) (by decide) ?_
      exact W.iret (v := x2) hx hb hr (fun t ht hW => ⟨⟨x2, (cW cI cJ cO h xa ea0 pa0 C0, [(cI, .int), (cO, .object RX0), (cJ, .long)]), rfl, ⟨e2, (congrArg (fun X : CS => ((cW cI cJ cO h xa ea0 pa0 X, [(cI, .int), (cO, .object RX0), (cJ, .long)]) : va_W × List (ClassId × FieldType))) e3), by omega, by omega⟩, ⟨by rw [ht]; exact hP, va_K.moved hW.alike hK, hD⟩⟩, hS.F ht⟩) hS.2.2 dX0_valueAfter_26
    · skip
      rw [if_pos c4] at hq
      refine lv_aload_n hx hb dX0_valueAfter_16 rfl (lv_at hl 0 rfl) ?_
      refine va_get (D := D) (ci := 0) (v := .ref (pa0 n0 6)) (C := RX0) (T := TX0) (N := 20) hx hb hts kin_X0_valueAfter_X0 hown hK hP (16 + (7 * n0 + 0)) (cW_get (show n0 < gN C0 from by omega) rfl) rfl 6 (by decide) (hts _ kw_X0_valueAfter__fieldLink_RX0_18_ActHouse_Act_written_I_) (fun _ h9 => h9) rfl dX0_valueAfter_17 ?_
      refine lv_iload_n hx hb dX0_valueAfter_20 rfl (lv_at hl 1 rfl) ?_
      refine va_iald hx hb hK hP (16 + (7 * n0 + 3)) 0 (f := (gQ C0 n0 6)) (cW_get (show n0 < gN C0 from by omega) rfl) rfl (k_in b3.1 b3.2) dX0_valueAfter_21 ?_
      refine lv_goto (tgt := 26) hx hb dX0_valueAfter_22 (by decide) ?_
      obtain ⟨e2, e3⟩ := k_so hq
      subst hQ
      have hP : va_P D vwCl (cW cI cJ cO h xa ea0 pa0 C0) _ := hP
      have hD : va_D A (cW cI cJ cO h xa ea0 pa0 C0) := hD
      have hgE := congrArg (fun X : CS => gN X) e3
      have hgE : gN C0 = gN C' := hgE
      have hhE := congrArg (fun X : CS => gE X) e3
      have hhE : gE C0 = gE C' := hhE
      refine W.widen (k := 0) (n := 0) (by decide) (by decide) ?_
      exact W.iret (v := (gQ C0 n0 6) x1.toNatClampNeg) hx hb hr (fun t ht hW => ⟨⟨(gQ C0 n0 6) x1.toNatClampNeg, (cW cI cJ cO h xa ea0 pa0 C0, [(cI, .int), (cO, .object RX0), (cJ, .long)]), rfl, ⟨e2, (congrArg (fun X : CS => ((cW cI cJ cO h xa ea0 pa0 X, [(cI, .int), (cO, .object RX0), (cJ, .long)]) : va_W × List (ClassId × FieldType))) e3), by omega, by omega⟩, ⟨by rw [ht]; exact hP, va_K.moved hW.alike hK, hD⟩⟩, hS.F ht⟩) hS.2.2 dX0_valueAfter_26
set_option maxRecDepth 100000 in
theorem kw_X0_leave__fieldLink_RX0_30_ActHouse_Act_state_I_ : (.fieldLink RX0 30 "ActHouse$Act" "state" "I" : Cond) ∈ wsX0_leave := by decide +kernel
set_option maxRecDepth 100000 in
theorem kin_X0_leave_X0 : ∀ w ∈ u_ws RX0 TX0 20, w ∈ wsX0_leave := by decide +kernel
set_option maxRecDepth 100000 in
theorem kw_X0_leave__fieldLink_RX0_40_ActHouse_Act_doneTick_I_ : (.fieldLink RX0 40 "ActHouse$Act" "doneTick" "I" : Cond) ∈ wsX0_leave := by decide +kernel
set_option maxRecDepth 100000 in
theorem kw_X0_leave__fieldLink_RX0_43_ActHouse_Act_entry_I_ : (.fieldLink RX0 43 "ActHouse$Act" "entry" "I" : Cond) ∈ wsX0_leave := by decide +kernel
set_option maxRecDepth 100000 in
theorem kw_X0_leave__fieldLink_RX0_81_ActHouse_Act_queueLength_I_ : (.fieldLink RX0 81 "ActHouse$Act" "queueLength" "I" : Cond) ∈ wsX0_leave := by decide +kernel
set_option maxRecDepth 100000 in
theorem kw_X0_leave__fieldLink_RX0_15_ActHouse_Act_locks_I_ : (.fieldLink RX0 15 "ActHouse$Act" "locks" "[I" : Cond) ∈ wsX0_leave := by decide +kernel
set_option maxRecDepth 100000 in
theorem kw_X0_leave__fieldLink_RX0_21_ActHouse_Act_gives_I_ : (.fieldLink RX0 21 "ActHouse$Act" "gives" "[I" : Cond) ∈ wsX0_leave := by decide +kernel
set_option maxRecDepth 100000 in
theorem kw_X0_leave__fieldLink_RX0_24_ActHouse_Act_takes_I_ : (.fieldLink RX0 24 "ActHouse$Act" "takes" "[I" : Cond) ∈ wsX0_leave := by decide +kernel
def f_X0_leave (n0 : Nat) (x1 : Int32) (C0 : CS) : Option (Int32 × CS) := (k_let (cP C0 n0 12 x1) fun C1 => (k_let (cP C1 n0 17 ((-1) : Int32)) fun C2 => (k_let (cP C2 n0 18 ((-1) : Int32)) fun C3 => (k_let (cP C3 n0 11 (0 : Int32)) fun C4 => (k_let (cQF C4 n0 5 (k_fil 24 (0 : Int32) (gQ C4 n0 5))) fun C5 => (k_let (cQF C5 n0 7 (k_fil 8 (0 : Int32) (gQ C5 n0 7))) fun C6 => (k_let (cQF C6 n0 8 (k_fil 8 (0 : Int32) (gQ C6 n0 8))) fun C7 => some ((0 : Int32), C7))))))))
set_option maxHeartbeats 4000000 in
set_option maxRecDepth 100000 in
theorem c_X0_leave {l : Launch} {D : va_G} {sz : Nat} {cI cJ cO : ClassId} {h : Nat} {xa : Nat → Nat} {ea0 : Nat} {pa0 : Nat → Nat → Nat} {C0 C' : CS} {n0 : Nat} {x1 r' : Int32} (hn0 : n0 < gN C0) (hf : f_X0_leave n0 x1 C0 = some (r', C')) : Met l yX0_leave wsX0_leave ({ frames := 1, cells := 0, slots := 0, locals := 23 }) (va_Pc [.ref (pa0 n0 0), .int x1] (k_Pre D [(cI, .int), (cO, .object RX0), (cJ, .long)] (cW cI cJ cO h xa ea0 pa0 C0) sz)) (va_Qv (fun (u : va_W × List (ClassId × FieldType)) => u = (cW cI cJ cO h xa ea0 pa0 C', [(cI, .int), (cO, .object RX0), (cJ, .long)]) ∧ gN C' = gN C0 ∧ gE C' = gE C0) (k_B D (va_A (cW cI cJ cO h xa ea0 pa0 C0) sz)) (va_A (cW cI cJ cO h xa ea0 pa0 C0) sz)) (0) (0) (va_A (cW cI cJ cO h xa ea0 pa0 C0) sz) := by
  refine Met.ofW (cc := cX0_leave) (maxL := 2) (ret := none) (by decide) rfl ?_
  intro p e s m args below meth c s₁ B hml hv
  obtain ⟨rfl, hsz, hP, hK, hD0⟩ := hv
  have hx := B.exec
  have hb := B.bytes
  have hr := B.returns
  have hts := atoms_spec (ws := wsX0_leave) B.pre
  have hown : s.vm.findClass RX0 = some m.cls := findClass_of_methodNamed B.named
  have hlocks := B.notSynchronized
  subst hsz
  have hD := hD0.self (sz := s.heap.size)
  generalize hAe : va_A (cW cI cJ cO h xa ea0 pa0 C0) s.heap.size = A at hD ⊢
  have hA : ∀ q : Nat, s.heap.size ≤ q → A q := fun q h => by rw [← hAe]; exact Or.inr h
  have hS : va_S A s.heap s.heap [] := va_S.rf
  have hl := lv_entry ([.ref (pa0 n0 0), .int x1]) (n := 2) (Nat.le_of_ble_eq_true rfl)
  rw [lg_entry_eq]
  generalize (lg_sl ([.ref (pa0 n0 0), .int x1]) ++ List.replicate (2 - (lg_sl ([.ref (pa0 n0 0), .int x1])).length) Slot.unset).toArray = ls at hl ⊢
  have hl : lv_has ls 2 [(0, .ref (pa0 n0 0)), (1, .int x1)] := hl
  refine k_Q (fun Q hQ => ?_)
  have hg0 : gN C0 = gN C0 ∧ gE C0 = gE C0 := ⟨rfl, rfl⟩
  have hq := hf
  rw [f_X0_leave] at hq
  refine lv_aload_n hx hb dX0_leave_0 rfl (lv_at hl 0 rfl) ?_
  refine lv_iload_n hx hb dX0_leave_1 rfl (lv_at hl 1 rfl) ?_
  refine va_put (D := D) (ci := 0) (v := .int x1) (ty := .int) (C := RX0) (T := TX0) (N := 20) hx hb hts kin_X0_leave_X0 tyX0 tyX0_ok nmX0 hown hK hP hD hS (16 + (7 * n0 + 0)) (fs := aF (pa0 n0) (gP C0 n0)) (cW_get (show n0 < gN C0 from by omega) rfl) rfl 12 (by decide) (hts _ kw_X0_leave__fieldLink_RX0_30_ActHouse_Act_state_I_) (fun _ h9 => h9) rfl (by decide +kernel) rfl rfl (Nat.le_of_ble_eq_true rfl) dX0_leave_2 (fun H locs hP hD hS => ?_)
  obtain ⟨C1, eC1, hg1, hh1, hq⟩ := k_lc (C := C0) hq rfl rfl
  rw [cP_eq12 (show n0 < gN C0 from by omega), ← eC1] at hP hD
  have hP : va_P D vwCl (cW cI cJ cO h xa ea0 pa0 C1) _ := hP
  have hD : va_D A (cW cI cJ cO h xa ea0 pa0 C1) := hD
  refine lv_aload_n hx hb dX0_leave_5 rfl (lv_at hl 0 rfl) ?_
  refine lv_iconst (v := (-1)) hx hb dX0_leave_6 (by decide) ?_
  refine va_put (D := D) (ci := 0) (v := .int (-1)) (ty := .int) (C := RX0) (T := TX0) (N := 20) hx hb hts kin_X0_leave_X0 tyX0 tyX0_ok nmX0 hown hK hP hD hS (16 + (7 * n0 + 0)) (fs := aF (pa0 n0) (gP C1 n0)) (cW_get (show n0 < gN C1 from by omega) rfl) rfl 17 (by decide) (hts _ kw_X0_leave__fieldLink_RX0_40_ActHouse_Act_doneTick_I_) (fun _ h9 => h9) rfl (by decide +kernel) rfl rfl (Nat.le_of_ble_eq_true rfl) dX0_leave_7 (fun H locs hP hD hS => ?_)
  obtain ⟨C2, eC2, hg2, hh2, hq⟩ := k_lc (C := C1) hq rfl rfl
  rw [cP_eq17 (show n0 < gN C1 from by omega), ← eC2] at hP hD
  have hP : va_P D vwCl (cW cI cJ cO h xa ea0 pa0 C2) _ := hP
  have hD : va_D A (cW cI cJ cO h xa ea0 pa0 C2) := hD
  refine lv_aload_n hx hb dX0_leave_10 rfl (lv_at hl 0 rfl) ?_
  refine lv_iconst (v := (-1)) hx hb dX0_leave_11 (by decide) ?_
  refine va_put (D := D) (ci := 0) (v := .int (-1)) (ty := .int) (C := RX0) (T := TX0) (N := 20) hx hb hts kin_X0_leave_X0 tyX0 tyX0_ok nmX0 hown hK hP hD hS (16 + (7 * n0 + 0)) (fs := aF (pa0 n0) (gP C2 n0)) (cW_get (show n0 < gN C2 from by omega) rfl) rfl 18 (by decide) (hts _ kw_X0_leave__fieldLink_RX0_43_ActHouse_Act_entry_I_) (fun _ h9 => h9) rfl (by decide +kernel) rfl rfl (Nat.le_of_ble_eq_true rfl) dX0_leave_12 (fun H locs hP hD hS => ?_)
  obtain ⟨C3, eC3, hg3, hh3, hq⟩ := k_lc (C := C2) hq rfl rfl
  rw [cP_eq18 (show n0 < gN C2 from by omega), ← eC3] at hP hD
  have hP : va_P D vwCl (cW cI cJ cO h xa ea0 pa0 C3) _ := hP
  have hD : va_D A (cW cI cJ cO h xa ea0 pa0 C3) := hD
  refine lv_aload_n hx hb dX0_leave_15 rfl (lv_at hl 0 rfl) ?_
  refine lv_iconst (v := 0) hx hb dX0_leave_16 (by decide) ?_
  refine va_put (D := D) (ci := 0) (v := .int 0) (ty := .int) (C := RX0) (T := TX0) (N := 20) hx hb hts kin_X0_leave_X0 tyX0 tyX0_ok nmX0 hown hK hP hD hS (16 + (7 * n0 + 0)) (fs := aF (pa0 n0) (gP C3 n0)) (cW_get (show n0 < gN C3 from by omega) rfl) rfl 11 (by decide) (hts _ kw_X0_leave__fieldLink_RX0_81_ActHouse_Act_queueLength_I_) (fun _ h9 => h9) rfl (by decide +kernel) rfl rfl (Nat.le_of_ble_eq_true rfl) dX0_leave_17 (fun H locs hP hD hS => ?_)
  obtain ⟨C4, eC4, hg4, hh4, hq⟩ := k_lc (C := C3) hq rfl rfl
  rw [cP_eq11 (show n0 < gN C3 from by omega), ← eC4] at hP hD
  have hP : va_P D vwCl (cW cI cJ cO h xa ea0 pa0 C4) _ := hP
  have hD : va_D A (cW cI cJ cO h xa ea0 pa0 C4) := hD
  refine lv_aload_n hx hb dX0_leave_20 rfl (lv_at hl 0 rfl) ?_
  refine va_get (D := D) (ci := 0) (v := .ref (pa0 n0 5)) (C := RX0) (T := TX0) (N := 20) hx hb hts kin_X0_leave_X0 hown hK hP (16 + (7 * n0 + 0)) (cW_get (show n0 < gN C4 from by omega) rfl) rfl 5 (by decide) (hts _ kw_X0_leave__fieldLink_RX0_15_ActHouse_Act_locks_I_) (fun _ h9 => h9) rfl dX0_leave_21 ?_
  refine lv_iconst (v := 0) hx hb dX0_leave_24 (by decide) ?_
  have he9 : (cW cI cJ cO h xa ea0 pa0 C4)[(16 + (7 * n0 + 2))]? = some (pa0 n0 5, .inl (cI, 24, .inl (gQ C4 n0 5))) := (cW_get (show n0 < gN C4 from by omega) rfl)
  have hP9 := k_oneP he9 hP
  have hD9 := k_oneD he9 hD
  have hK9 := hK.sub (tys' := [(cI, .int)]) [0] rfl
  have hF9 := k_free hD9 hS hA
  refine va_callv (va_runS (As := [.ref (pa0 n0 5), .int 0]) (rest := []) ⟨hx, hb, hml, hown, hts⟩ (c_J7_fill_53178 (l := l) (D := D) (a := pa0 n0 5) (v := (0 : Int32)) (n := 24) (f := (gQ C4 n0 5)) (cI := cI) (by decide)) (va_cwS 2 hts gX0_leave_J7_fill_53178 rfl rfl rfl (by decide +kernel) ⟨Nat.le_of_ble_eq_true rfl, Nat.le_of_ble_eq_true rfl⟩) ⟨k_blind, fun U hU hW => ⟨rfl, k_pre hU hW hP9 hK9 hD9⟩⟩ rfl rfl hl.1 rfl (lv_room (Nat.le_of_ble_eq_true rfl)) dX0_leave_25 ⟨by decide, by decide⟩) hS (fun q _ h => hF9 q h) hF9 (fun u t H1 locs ht hvm hw hB hz1 hk1 hS => ?_)
  obtain ⟨f9, rfl, rfl⟩ := hw
  obtain ⟨hP1, -, -⟩ := hB
  rw [ht] at hP1
  obtain ⟨hP, hD⟩ := k_oneS he9 hP hD hk1 hP1
  generalize H1 = H at hP hS ⊢
  refine W.widen (k := 0) (n := 0) (Nat.le_refl _) (Nat.le_refl _) ?_
  obtain ⟨C5, eC5, hg5, hh5, hq⟩ := k_lc (C := C4) hq rfl rfl
  rw [cQ_eq5 (show n0 < gN C4 from by omega), ← eC5] at hP hD
  have hP : va_P D vwCl (cW cI cJ cO h xa ea0 pa0 C5) _ := hP
  have hD : va_D A (cW cI cJ cO h xa ea0 pa0 C5) := hD
  refine lv_aload_n hx hb dX0_leave_28 rfl (lv_at hl 0 rfl) ?_
  refine va_get (D := D) (ci := 0) (v := .ref (pa0 n0 7)) (C := RX0) (T := TX0) (N := 20) hx hb hts kin_X0_leave_X0 hown hK hP (16 + (7 * n0 + 0)) (cW_get (show n0 < gN C5 from by omega) rfl) rfl 7 (by decide) (hts _ kw_X0_leave__fieldLink_RX0_21_ActHouse_Act_gives_I_) (fun _ h9 => h9) rfl dX0_leave_29 ?_
  refine lv_iconst (v := 0) hx hb dX0_leave_32 (by decide) ?_
  have he9 : (cW cI cJ cO h xa ea0 pa0 C5)[(16 + (7 * n0 + 4))]? = some (pa0 n0 7, .inl (cI, 8, .inl (gQ C5 n0 7))) := (cW_get (show n0 < gN C5 from by omega) rfl)
  have hP9 := k_oneP he9 hP
  have hD9 := k_oneD he9 hD
  have hK9 := hK.sub (tys' := [(cI, .int)]) [0] rfl
  have hF9 := k_free hD9 hS hA
  refine va_callv (va_runS (As := [.ref (pa0 n0 7), .int 0]) (rest := []) ⟨hx, hb, hml, hown, hts⟩ (c_J7_fill_53178 (l := l) (D := D) (a := pa0 n0 7) (v := (0 : Int32)) (n := 8) (f := (gQ C5 n0 7)) (cI := cI) (by decide)) (va_cwS 2 hts gX0_leave_J7_fill_53178 rfl rfl rfl (by decide +kernel) ⟨Nat.le_of_ble_eq_true rfl, Nat.le_of_ble_eq_true rfl⟩) ⟨k_blind, fun U hU hW => ⟨rfl, k_pre hU hW hP9 hK9 hD9⟩⟩ rfl rfl hl.1 rfl (lv_room (Nat.le_of_ble_eq_true rfl)) dX0_leave_33 ⟨by decide, by decide⟩) hS (fun q _ h => hF9 q h) hF9 (fun u t H1 locs ht hvm hw hB hz1 hk1 hS => ?_)
  obtain ⟨f9, rfl, rfl⟩ := hw
  obtain ⟨hP1, -, -⟩ := hB
  rw [ht] at hP1
  obtain ⟨hP, hD⟩ := k_oneS he9 hP hD hk1 hP1
  generalize H1 = H at hP hS ⊢
  refine W.widen (k := 0) (n := 0) (Nat.le_refl _) (Nat.le_refl _) ?_
  obtain ⟨C6, eC6, hg6, hh6, hq⟩ := k_lc (C := C5) hq rfl rfl
  rw [cQ_eq7 (show n0 < gN C5 from by omega), ← eC6] at hP hD
  have hP : va_P D vwCl (cW cI cJ cO h xa ea0 pa0 C6) _ := hP
  have hD : va_D A (cW cI cJ cO h xa ea0 pa0 C6) := hD
  refine lv_aload_n hx hb dX0_leave_36 rfl (lv_at hl 0 rfl) ?_
  refine va_get (D := D) (ci := 0) (v := .ref (pa0 n0 8)) (C := RX0) (T := TX0) (N := 20) hx hb hts kin_X0_leave_X0 hown hK hP (16 + (7 * n0 + 0)) (cW_get (show n0 < gN C6 from by omega) rfl) rfl 8 (by decide) (hts _ kw_X0_leave__fieldLink_RX0_24_ActHouse_Act_takes_I_) (fun _ h9 => h9) rfl dX0_leave_37 ?_
  refine lv_iconst (v := 0) hx hb dX0_leave_40 (by decide) ?_
  have he9 : (cW cI cJ cO h xa ea0 pa0 C6)[(16 + (7 * n0 + 5))]? = some (pa0 n0 8, .inl (cI, 8, .inl (gQ C6 n0 8))) := (cW_get (show n0 < gN C6 from by omega) rfl)
  have hP9 := k_oneP he9 hP
  have hD9 := k_oneD he9 hD
  have hK9 := hK.sub (tys' := [(cI, .int)]) [0] rfl
  have hF9 := k_free hD9 hS hA
  refine va_callv (va_runS (As := [.ref (pa0 n0 8), .int 0]) (rest := []) ⟨hx, hb, hml, hown, hts⟩ (c_J7_fill_53178 (l := l) (D := D) (a := pa0 n0 8) (v := (0 : Int32)) (n := 8) (f := (gQ C6 n0 8)) (cI := cI) (by decide)) (va_cwS 2 hts gX0_leave_J7_fill_53178 rfl rfl rfl (by decide +kernel) ⟨Nat.le_of_ble_eq_true rfl, Nat.le_of_ble_eq_true rfl⟩) ⟨k_blind, fun U hU hW => ⟨rfl, k_pre hU hW hP9 hK9 hD9⟩⟩ rfl rfl hl.1 rfl (lv_room (Nat.le_of_ble_eq_true rfl)) dX0_leave_41 ⟨by decide, by decide⟩) hS (fun q _ h => hF9 q h) hF9 (fun u t H1 locs ht hvm hw hB hz1 hk1 hS => ?_)
  obtain ⟨f9, rfl, rfl⟩ := hw
  obtain ⟨hP1, -, -⟩ := hB
  rw [ht] at hP1
  obtain ⟨hP, hD⟩ := k_oneS he9 hP hD hk1 hP1
  generalize H1 = H at hP hS ⊢
  refine W.widen (k := 0) (n := 0) (Nat.le_refl _) (Nat.le_refl _) ?_
  obtain ⟨C7, eC7, hg7, hh7, hq⟩ := k_lc (C := C6) hq rfl rfl
  rw [cQ_eq8 (show n0 < gN C6 from by omega), ← eC7] at hP hD
  have hP : va_P D vwCl (cW cI cJ cO h xa ea0 pa0 C7) _ := hP
  have hD : va_D A (cW cI cJ cO h xa ea0 pa0 C7) := hD
  obtain ⟨e2, e3⟩ := k_so hq
  subst hQ
  have hP : va_P D vwCl (cW cI cJ cO h xa ea0 pa0 C7) _ := hP
  have hD : va_D A (cW cI cJ cO h xa ea0 pa0 C7) := hD
  have hgE := congrArg (fun X : CS => gN X) e3
  have hgE : gN C7 = gN C' := hgE
  have hhE := congrArg (fun X : CS => gE X) e3
  have hhE : gE C7 = gE C' := hhE
  refine W.widen (k := 0) (n := 0) (by decide) (by decide) ?_
  exact W.vret hx hb hr (fun t ht hW => ⟨⟨(cW cI cJ cO h xa ea0 pa0 C7, [(cI, .int), (cO, .object RX0), (cJ, .long)]), rfl, ⟨(congrArg (fun X : CS => ((cW cI cJ cO h xa ea0 pa0 X, [(cI, .int), (cO, .object RX0), (cJ, .long)]) : va_W × List (ClassId × FieldType))) e3), by omega, by omega⟩, ⟨by rw [ht]; exact hP, va_K.moved hW.alike hK, hD⟩⟩, hS.F ht⟩) hS.2.2 dX0_leave_44
set_option maxRecDepth 100000 in
theorem kw_X0_undo__fieldLink_RX0_88_ActHouse_Act_timesUndone_I_ : (.fieldLink RX0 88 "ActHouse$Act" "timesUndone" "I" : Cond) ∈ wsX0_undo := by decide +kernel
set_option maxRecDepth 100000 in
theorem kin_X0_undo_X0 : ∀ w ∈ u_ws RX0 TX0 20, w ∈ wsX0_undo := by decide +kernel
def f_X0_undo (n0 : Nat) (C0 : CS) : Option (Int32 × CS) := (k_bind (f_X0_leave n0 (0 : Int32) C0) fun r1 C1 => (k_let (cP C1 n0 19 ((gP C1 n0 19) + 1)) fun C2 => some ((0 : Int32), C2)))
set_option maxHeartbeats 4000000 in
set_option maxRecDepth 100000 in
theorem c_X0_undo {l : Launch} {D : va_G} {sz : Nat} {cI cJ cO : ClassId} {h : Nat} {xa : Nat → Nat} {ea0 : Nat} {pa0 : Nat → Nat → Nat} {C0 C' : CS} {n0 : Nat} { r' : Int32} (hn0 : n0 < gN C0) (hf : f_X0_undo n0 C0 = some (r', C')) : Met l yX0_undo wsX0_undo ({ frames := 2, cells := 0, slots := 0, locals := 44 }) (va_Pc [.ref (pa0 n0 0)] (k_Pre D [(cI, .int), (cO, .object RX0), (cJ, .long)] (cW cI cJ cO h xa ea0 pa0 C0) sz)) (va_Qv (fun (u : va_W × List (ClassId × FieldType)) => u = (cW cI cJ cO h xa ea0 pa0 C', [(cI, .int), (cO, .object RX0), (cJ, .long)]) ∧ gN C' = gN C0 ∧ gE C' = gE C0) (k_B D (va_A (cW cI cJ cO h xa ea0 pa0 C0) sz)) (va_A (cW cI cJ cO h xa ea0 pa0 C0) sz)) (0) (0) (va_A (cW cI cJ cO h xa ea0 pa0 C0) sz) := by
  refine Met.ofW (cc := cX0_undo) (maxL := 1) (ret := none) (by decide) rfl ?_
  intro p e s m args below meth c s₁ B hml hv
  obtain ⟨rfl, hsz, hP, hK, hD0⟩ := hv
  have hx := B.exec
  have hb := B.bytes
  have hr := B.returns
  have hts := atoms_spec (ws := wsX0_undo) B.pre
  have hown : s.vm.findClass RX0 = some m.cls := findClass_of_methodNamed B.named
  have hlocks := B.notSynchronized
  subst hsz
  have hD := hD0.self (sz := s.heap.size)
  generalize hAe : va_A (cW cI cJ cO h xa ea0 pa0 C0) s.heap.size = A at hD ⊢
  have hA : ∀ q : Nat, s.heap.size ≤ q → A q := fun q h => by rw [← hAe]; exact Or.inr h
  have hS : va_S A s.heap s.heap [] := va_S.rf
  have hl := lv_entry ([.ref (pa0 n0 0)]) (n := 1) (Nat.le_of_ble_eq_true rfl)
  rw [lg_entry_eq]
  generalize (lg_sl ([.ref (pa0 n0 0)]) ++ List.replicate (1 - (lg_sl ([.ref (pa0 n0 0)])).length) Slot.unset).toArray = ls at hl ⊢
  have hl : lv_has ls 1 [(0, .ref (pa0 n0 0))] := hl
  refine k_Q (fun Q hQ => ?_)
  have hg0 : gN C0 = gN C0 ∧ gE C0 = gE C0 := ⟨rfl, rfl⟩
  have hq := hf
  rw [f_X0_undo] at hq
  refine lv_aload_n hx hb dX0_undo_0 rfl (lv_at hl 0 rfl) ?_
  refine lv_iconst (v := 0) hx hb dX0_undo_1 (by decide) ?_
  obtain ⟨r1, C1, h1, hq⟩ := k_bd hq
  have hFc := k_free hD hS hA
  refine va_callv (va_runV (As := [.int 0]) (rest := []) ⟨hx, hb, hml, hown, hts⟩ (c_X0_leave (l := l) (D := D) (cI := cI) (cJ := cJ) (cO := cO) (h := h) (xa := xa) (ea0 := ea0) (pa0 := pa0)  (hn0 := by show n0 < gN C0; omega) (hf := h1)) (cwV 1 hts gX0_undo_X0_leave rfl rfl rfl (by decide +kernel) ⟨Nat.le_of_ble_eq_true rfl, Nat.le_of_ble_eq_true rfl⟩) ⟨k_blind, va_recv hK hP (ci := 0) (q0 := (16 + (7 * n0 + 0))) rfl (cW_get (show n0 < gN C0 from by omega) rfl), fun U hU hW => ⟨rfl, k_pre hU hW hP hK hD⟩⟩ rfl rfl hl.1 rfl (lv_room (Nat.le_of_ble_eq_true rfl)) dX0_undo_2 ⟨by decide, by decide⟩) hS (fun q _ h => hFc q h) hFc (fun u t H1 locs ht hvm hw hB hz1 hk1 hS => ?_)
  obtain ⟨rfl, hg1, hh1⟩ := hw
  have hg1 : gN C1 = gN C0 := hg1
  have hh1 : gE C1 = gE C0 := hh1
  refine W.widen (k := 0) (n := 0) (Nat.le_refl _) (Nat.le_refl _) ?_
  obtain ⟨hP1, hK1, hD1⟩ := hB
  rw [ht] at hP1
  have hP := hP1
  have hD := k_weak hD1 hFc
  generalize H1 = H at hP hS ⊢
  have hP : va_P D vwCl (cW cI cJ cO h xa ea0 pa0 C1) _ := hP
  have hD : va_D A (cW cI cJ cO h xa ea0 pa0 C1) := hD
  refine lv_aload_n hx hb dX0_undo_5 rfl (lv_at hl 0 rfl) ?_
  refine lv_dup hx hb dX0_undo_6 rfl ?_
  refine va_get (D := D) (ci := 0) (v := .int (gP C1 n0 19)) (C := RX0) (T := TX0) (N := 20) hx hb hts kin_X0_undo_X0 hown hK hP (16 + (7 * n0 + 0)) (cW_get (show n0 < gN C1 from by omega) rfl) rfl 19 (by decide) (hts _ kw_X0_undo__fieldLink_RX0_88_ActHouse_Act_timesUndone_I_) (fun _ h9 => h9) rfl dX0_undo_7 ?_
  refine lv_iconst (v := 1) hx hb dX0_undo_10 (by decide) ?_
  refine lv_iadd hx hb dX0_undo_11 ?_
  refine va_put (D := D) (ci := 0) (v := .int ((gP C1 n0 19) + 1)) (ty := .int) (C := RX0) (T := TX0) (N := 20) hx hb hts kin_X0_undo_X0 tyX0 tyX0_ok nmX0 hown hK hP hD hS (16 + (7 * n0 + 0)) (fs := aF (pa0 n0) (gP C1 n0)) (cW_get (show n0 < gN C1 from by omega) rfl) rfl 19 (by decide) (hts _ kw_X0_undo__fieldLink_RX0_88_ActHouse_Act_timesUndone_I_) (fun _ h9 => h9) rfl (by decide +kernel) rfl rfl (Nat.le_of_ble_eq_true rfl) dX0_undo_12 (fun H locs hP hD hS => ?_)
  obtain ⟨C2, eC2, hg2, hh2, hq⟩ := k_lc (C := C1) hq rfl rfl
  rw [cP_eq19 (show n0 < gN C1 from by omega), ← eC2] at hP hD
  have hP : va_P D vwCl (cW cI cJ cO h xa ea0 pa0 C2) _ := hP
  have hD : va_D A (cW cI cJ cO h xa ea0 pa0 C2) := hD
  obtain ⟨e2, e3⟩ := k_so hq
  subst hQ
  have hP : va_P D vwCl (cW cI cJ cO h xa ea0 pa0 C2) _ := hP
  have hD : va_D A (cW cI cJ cO h xa ea0 pa0 C2) := hD
  have hgE := congrArg (fun X : CS => gN X) e3
  have hgE : gN C2 = gN C' := hgE
  have hhE := congrArg (fun X : CS => gE X) e3
  have hhE : gE C2 = gE C' := hhE
  refine W.widen (k := 0) (n := 0) (by decide) (by decide) ?_
  exact W.vret hx hb hr (fun t ht hW => ⟨⟨(cW cI cJ cO h xa ea0 pa0 C2, [(cI, .int), (cO, .object RX0), (cJ, .long)]), rfl, ⟨(congrArg (fun X : CS => ((cW cI cJ cO h xa ea0 pa0 X, [(cI, .int), (cO, .object RX0), (cJ, .long)]) : va_W × List (ClassId × FieldType))) e3), by omega, by omega⟩, ⟨by rw [ht]; exact hP, va_K.moved hW.alike hK, hD⟩⟩, hS.F ht⟩) hS.2.2 dX0_undo_15
set_option maxRecDepth 100000 in
theorem kw_X0_begin__fieldLink_RX0_46_ActHouse_Act_program_I_ : (.fieldLink RX0 46 "ActHouse$Act" "program" "I" : Cond) ∈ wsX0_begin := by decide +kernel
set_option maxRecDepth 100000 in
theorem kin_X0_begin_X0 : ∀ w ∈ u_ws RX0 TX0 20, w ∈ wsX0_begin := by decide +kernel
set_option maxRecDepth 100000 in
theorem kw_X0_begin__fieldLink_RX0_9_ActHouse_Act_steps_I_ : (.fieldLink RX0 9 "ActHouse$Act" "steps" "[I" : Cond) ∈ wsX0_begin := by decide +kernel
set_option maxRecDepth 100000 in
theorem kw_X0_begin__methodLink_RX0_58_arraycopyName : (.methodLink RX0 58 arraycopyName : Cond) ∈ wsX0_begin := by decide +kernel
set_option maxRecDepth 100000 in
theorem kw_X0_begin__native_arraycopyName : (.native arraycopyName : Cond) ∈ wsX0_begin := by decide +kernel
set_option maxRecDepth 100000 in
theorem kw_X0_begin__static_arraycopyName : (.static arraycopyName : Cond) ∈ wsX0_begin := by decide +kernel
set_option maxRecDepth 100000 in
theorem kw_X0_begin__initialized_java_lang_System_ : (.initialized "java/lang/System" : Cond) ∈ wsX0_begin := by decide +kernel
set_option maxRecDepth 100000 in
theorem kw_X0_begin__fieldLink_RX0_64_ActHouse_Act_length_I_ : (.fieldLink RX0 64 "ActHouse$Act" "length" "I" : Cond) ∈ wsX0_begin := by decide +kernel
set_option maxRecDepth 100000 in
theorem kw_X0_begin__fieldLink_RX0_30_ActHouse_Act_state_I_ : (.fieldLink RX0 30 "ActHouse$Act" "state" "I" : Cond) ∈ wsX0_begin := by decide +kernel
set_option maxRecDepth 100000 in
theorem kw_X0_begin__fieldLink_RX0_67_ActHouse_Act_register_I_ : (.fieldLink RX0 67 "ActHouse$Act" "register" "I" : Cond) ∈ wsX0_begin := by decide +kernel
set_option maxRecDepth 100000 in
theorem kw_X0_begin__fieldLink_RX0_70_ActHouse_Act_at_I_ : (.fieldLink RX0 70 "ActHouse$Act" "at" "I" : Cond) ∈ wsX0_begin := by decide +kernel
set_option maxRecDepth 100000 in
theorem kw_X0_begin__fieldLink_RX0_37_ActHouse_Act_begunTick_I_ : (.fieldLink RX0 37 "ActHouse$Act" "begunTick" "I" : Cond) ∈ wsX0_begin := by decide +kernel
def f_X0_begin (n0 : Nat) (x2 : Int32) (x3 : Int32) (C0 : CS) : Option (Int32 × CS) := (if (0 ≤ ((gP C0 n0 0) * 12).toInt ∧ 0 ≤ (0 : Int32).toInt ∧ 0 ≤ x2.toInt) ∧ ((gP C0 n0 0) * 12).toInt + x2.toInt ≤ 96 ∧ (0 : Int32).toInt + x2.toInt ≤ 12 then (k_let (cQF C0 n0 4 (va_cpy (C0.2.1 0) (gQ C0 n0 4) ((gP C0 n0 0) * 12).toNatClampNeg (0 : Int32).toNatClampNeg x2.toNatClampNeg)) fun C2 => (k_let (cP C2 n0 10 x2) fun C3 => (k_let (cP C3 n0 12 (1 : Int32)) fun C4 => (k_let (cP C4 n0 13 (0 : Int32)) fun C5 => (k_let (cP C5 n0 14 (0 : Int32)) fun C6 => (k_let (cP C6 n0 16 x3) fun C7 => some ((0 : Int32), C7))))))) else none)
set_option maxHeartbeats 4000000 in
set_option maxRecDepth 100000 in
theorem c_X0_begin {l : Launch} {D : va_G} {sz : Nat} {cI cJ cO : ClassId} {h : Nat} {xa : Nat → Nat} {ea0 : Nat} {pa0 : Nat → Nat → Nat} {C0 C' : CS} {n0 : Nat} {x2 x3 r' : Int32} (hn0 : n0 < gN C0) (hf : f_X0_begin n0 x2 x3 C0 = some (r', C')) : Met l yX0_begin wsX0_begin ({ frames := 1, cells := 0, slots := 0, locals := 40 }) (va_Pc [.ref (pa0 n0 0), .ref (xa 0), .int x2, .int x3] (k_Pre D [(cI, .int), (cO, .object RX0), (cJ, .long)] (cW cI cJ cO h xa ea0 pa0 C0) sz)) (va_Qv (fun (u : va_W × List (ClassId × FieldType)) => u = (cW cI cJ cO h xa ea0 pa0 C', [(cI, .int), (cO, .object RX0), (cJ, .long)]) ∧ gN C' = gN C0 ∧ gE C' = gE C0) (k_B D (va_A (cW cI cJ cO h xa ea0 pa0 C0) sz)) (va_A (cW cI cJ cO h xa ea0 pa0 C0) sz)) (0) (0) (va_A (cW cI cJ cO h xa ea0 pa0 C0) sz) := by
  refine Met.ofW (cc := cX0_begin) (maxL := 4) (ret := none) (by decide) rfl ?_
  intro p e s m args below meth c s₁ B hml hv
  obtain ⟨rfl, hsz, hP, hK, hD0⟩ := hv
  have hx := B.exec
  have hb := B.bytes
  have hr := B.returns
  have hts := atoms_spec (ws := wsX0_begin) B.pre
  have hown : s.vm.findClass RX0 = some m.cls := findClass_of_methodNamed B.named
  have hlocks := B.notSynchronized
  subst hsz
  have hD := hD0.self (sz := s.heap.size)
  generalize hAe : va_A (cW cI cJ cO h xa ea0 pa0 C0) s.heap.size = A at hD ⊢
  have hA : ∀ q : Nat, s.heap.size ≤ q → A q := fun q h => by rw [← hAe]; exact Or.inr h
  have hS : va_S A s.heap s.heap [] := va_S.rf
  have hl := lv_entry ([.ref (pa0 n0 0), .ref (xa 0), .int x2, .int x3]) (n := 4) (Nat.le_of_ble_eq_true rfl)
  rw [lg_entry_eq]
  generalize (lg_sl ([.ref (pa0 n0 0), .ref (xa 0), .int x2, .int x3]) ++ List.replicate (4 - (lg_sl ([.ref (pa0 n0 0), .ref (xa 0), .int x2, .int x3])).length) Slot.unset).toArray = ls at hl ⊢
  have hl : lv_has ls 4 [(0, .ref (pa0 n0 0)), (1, .ref (xa 0)), (2, .int x2), (3, .int x3)] := hl
  refine k_Q (fun Q hQ => ?_)
  have hg0 : gN C0 = gN C0 ∧ gE C0 = gE C0 := ⟨rfl, rfl⟩
  have hq := hf
  rw [f_X0_begin] at hq
  refine lv_aload_n hx hb dX0_begin_0 rfl (lv_at hl 1 rfl) ?_
  refine lv_aload_n hx hb dX0_begin_1 rfl (lv_at hl 0 rfl) ?_
  refine va_get (D := D) (ci := 0) (v := .int (gP C0 n0 0)) (C := RX0) (T := TX0) (N := 20) hx hb hts kin_X0_begin_X0 hown hK hP (16 + (7 * n0 + 0)) (cW_get (show n0 < gN C0 from by omega) rfl) rfl 0 (by decide) (hts _ kw_X0_begin__fieldLink_RX0_46_ActHouse_Act_program_I_) (fun _ h9 => h9) rfl dX0_begin_2 ?_
  refine lv_bipush (v := 12) hx hb dX0_begin_5 (by decide) ?_
  refine lv_imul hx hb dX0_begin_7 ?_
  refine lv_aload_n hx hb dX0_begin_8 rfl (lv_at hl 0 rfl) ?_
  refine va_get (D := D) (ci := 0) (v := .ref (pa0 n0 4)) (C := RX0) (T := TX0) (N := 20) hx hb hts kin_X0_begin_X0 hown hK hP (16 + (7 * n0 + 0)) (cW_get (show n0 < gN C0 from by omega) rfl) rfl 4 (by decide) (hts _ kw_X0_begin__fieldLink_RX0_9_ActHouse_Act_steps_I_) (fun _ h9 => h9) rfl dX0_begin_9 ?_
  refine lv_iconst (v := 0) hx hb dX0_begin_12 (by decide) ?_
  refine lv_iload_n hx hb dX0_begin_13 rfl (lv_at hl 2 rfl) ?_
  obtain ⟨b1, hq⟩ := k_if hq
  refine va_copyi hx hb (by rw [hml]; exact hl.1.symm) hown (hts _ kw_X0_begin__methodLink_RX0_58_arraycopyName) (hts _ kw_X0_begin__native_arraycopyName) (hts _ kw_X0_begin__static_arraycopyName) (hts _ kw_X0_begin__initialized_java_lang_System_) hK hP hD hS 1 (16 + (7 * n0 + 1)) 0 0 (f := (C0.2.1 0)) (g := (gQ C0 n0 4)) rfl (cW_get (show n0 < gN C0 from by omega) rfl) rfl rfl rfl (sp := ((gP C0 n0 0) * 12)) (dp := (0 : Int32)) (n := x2) (k_nn b1.1.1) (k_nn b1.1.2.1) (k_nn b1.1.2.2) (by simp only [k_cl]; omega) (by simp only [k_cl]; omega) (fun _ _ => rfl) (Nat.le_of_ble_eq_true rfl) (Nat.le_of_ble_eq_true rfl) dX0_begin_14 (fun H locs hP hD hS => ?_)
  obtain ⟨C2, eC2, hg2, hh2, hq⟩ := k_lc (C := C0) hq rfl rfl
  rw [cQ_eq4 (show n0 < gN C0 from by omega), ← eC2] at hP hD
  have hP : va_P D vwCl (cW cI cJ cO h xa ea0 pa0 C2) _ := hP
  have hD : va_D A (cW cI cJ cO h xa ea0 pa0 C2) := hD
  refine lv_aload_n hx hb dX0_begin_17 rfl (lv_at hl 0 rfl) ?_
  refine lv_iload_n hx hb dX0_begin_18 rfl (lv_at hl 2 rfl) ?_
  refine va_put (D := D) (ci := 0) (v := .int x2) (ty := .int) (C := RX0) (T := TX0) (N := 20) hx hb hts kin_X0_begin_X0 tyX0 tyX0_ok nmX0 hown hK hP hD hS (16 + (7 * n0 + 0)) (fs := aF (pa0 n0) (gP C2 n0)) (cW_get (show n0 < gN C2 from by omega) rfl) rfl 10 (by decide) (hts _ kw_X0_begin__fieldLink_RX0_64_ActHouse_Act_length_I_) (fun _ h9 => h9) rfl (by decide +kernel) rfl rfl (Nat.le_of_ble_eq_true rfl) dX0_begin_19 (fun H locs hP hD hS => ?_)
  obtain ⟨C3, eC3, hg3, hh3, hq⟩ := k_lc (C := C2) hq rfl rfl
  rw [cP_eq10 (show n0 < gN C2 from by omega), ← eC3] at hP hD
  have hP : va_P D vwCl (cW cI cJ cO h xa ea0 pa0 C3) _ := hP
  have hD : va_D A (cW cI cJ cO h xa ea0 pa0 C3) := hD
  refine lv_aload_n hx hb dX0_begin_22 rfl (lv_at hl 0 rfl) ?_
  refine lv_iconst (v := 1) hx hb dX0_begin_23 (by decide) ?_
  refine va_put (D := D) (ci := 0) (v := .int 1) (ty := .int) (C := RX0) (T := TX0) (N := 20) hx hb hts kin_X0_begin_X0 tyX0 tyX0_ok nmX0 hown hK hP hD hS (16 + (7 * n0 + 0)) (fs := aF (pa0 n0) (gP C3 n0)) (cW_get (show n0 < gN C3 from by omega) rfl) rfl 12 (by decide) (hts _ kw_X0_begin__fieldLink_RX0_30_ActHouse_Act_state_I_) (fun _ h9 => h9) rfl (by decide +kernel) rfl rfl (Nat.le_of_ble_eq_true rfl) dX0_begin_24 (fun H locs hP hD hS => ?_)
  obtain ⟨C4, eC4, hg4, hh4, hq⟩ := k_lc (C := C3) hq rfl rfl
  rw [cP_eq12 (show n0 < gN C3 from by omega), ← eC4] at hP hD
  have hP : va_P D vwCl (cW cI cJ cO h xa ea0 pa0 C4) _ := hP
  have hD : va_D A (cW cI cJ cO h xa ea0 pa0 C4) := hD
  refine lv_aload_n hx hb dX0_begin_27 rfl (lv_at hl 0 rfl) ?_
  refine lv_iconst (v := 0) hx hb dX0_begin_28 (by decide) ?_
  refine va_put (D := D) (ci := 0) (v := .int 0) (ty := .int) (C := RX0) (T := TX0) (N := 20) hx hb hts kin_X0_begin_X0 tyX0 tyX0_ok nmX0 hown hK hP hD hS (16 + (7 * n0 + 0)) (fs := aF (pa0 n0) (gP C4 n0)) (cW_get (show n0 < gN C4 from by omega) rfl) rfl 13 (by decide) (hts _ kw_X0_begin__fieldLink_RX0_67_ActHouse_Act_register_I_) (fun _ h9 => h9) rfl (by decide +kernel) rfl rfl (Nat.le_of_ble_eq_true rfl) dX0_begin_29 (fun H locs hP hD hS => ?_)
  obtain ⟨C5, eC5, hg5, hh5, hq⟩ := k_lc (C := C4) hq rfl rfl
  rw [cP_eq13 (show n0 < gN C4 from by omega), ← eC5] at hP hD
  have hP : va_P D vwCl (cW cI cJ cO h xa ea0 pa0 C5) _ := hP
  have hD : va_D A (cW cI cJ cO h xa ea0 pa0 C5) := hD
  refine lv_aload_n hx hb dX0_begin_32 rfl (lv_at hl 0 rfl) ?_
  refine lv_iconst (v := 0) hx hb dX0_begin_33 (by decide) ?_
  refine va_put (D := D) (ci := 0) (v := .int 0) (ty := .int) (C := RX0) (T := TX0) (N := 20) hx hb hts kin_X0_begin_X0 tyX0 tyX0_ok nmX0 hown hK hP hD hS (16 + (7 * n0 + 0)) (fs := aF (pa0 n0) (gP C5 n0)) (cW_get (show n0 < gN C5 from by omega) rfl) rfl 14 (by decide) (hts _ kw_X0_begin__fieldLink_RX0_70_ActHouse_Act_at_I_) (fun _ h9 => h9) rfl (by decide +kernel) rfl rfl (Nat.le_of_ble_eq_true rfl) dX0_begin_34 (fun H locs hP hD hS => ?_)
  obtain ⟨C6, eC6, hg6, hh6, hq⟩ := k_lc (C := C5) hq rfl rfl
  rw [cP_eq14 (show n0 < gN C5 from by omega), ← eC6] at hP hD
  have hP : va_P D vwCl (cW cI cJ cO h xa ea0 pa0 C6) _ := hP
  have hD : va_D A (cW cI cJ cO h xa ea0 pa0 C6) := hD
  refine lv_aload_n hx hb dX0_begin_37 rfl (lv_at hl 0 rfl) ?_
  refine lv_iload_n hx hb dX0_begin_38 rfl (lv_at hl 3 rfl) ?_
  refine va_put (D := D) (ci := 0) (v := .int x3) (ty := .int) (C := RX0) (T := TX0) (N := 20) hx hb hts kin_X0_begin_X0 tyX0 tyX0_ok nmX0 hown hK hP hD hS (16 + (7 * n0 + 0)) (fs := aF (pa0 n0) (gP C6 n0)) (cW_get (show n0 < gN C6 from by omega) rfl) rfl 16 (by decide) (hts _ kw_X0_begin__fieldLink_RX0_37_ActHouse_Act_begunTick_I_) (fun _ h9 => h9) rfl (by decide +kernel) rfl rfl (Nat.le_of_ble_eq_true rfl) dX0_begin_39 (fun H locs hP hD hS => ?_)
  obtain ⟨C7, eC7, hg7, hh7, hq⟩ := k_lc (C := C6) hq rfl rfl
  rw [cP_eq16 (show n0 < gN C6 from by omega), ← eC7] at hP hD
  have hP : va_P D vwCl (cW cI cJ cO h xa ea0 pa0 C7) _ := hP
  have hD : va_D A (cW cI cJ cO h xa ea0 pa0 C7) := hD
  obtain ⟨e2, e3⟩ := k_so hq
  subst hQ
  have hP : va_P D vwCl (cW cI cJ cO h xa ea0 pa0 C7) _ := hP
  have hD : va_D A (cW cI cJ cO h xa ea0 pa0 C7) := hD
  have hgE := congrArg (fun X : CS => gN X) e3
  have hgE : gN C7 = gN C' := hgE
  have hhE := congrArg (fun X : CS => gE X) e3
  have hhE : gE C7 = gE C' := hhE
  refine W.widen (k := 0) (n := 0) (by decide) (by decide) ?_
  exact W.vret hx hb hr (fun t ht hW => ⟨⟨(cW cI cJ cO h xa ea0 pa0 C7, [(cI, .int), (cO, .object RX0), (cJ, .long)]), rfl, ⟨(congrArg (fun X : CS => ((cW cI cJ cO h xa ea0 pa0 X, [(cI, .int), (cO, .object RX0), (cJ, .long)]) : va_W × List (ClassId × FieldType))) e3), by omega, by omega⟩, ⟨by rw [ht]; exact hP, va_K.moved hW.alike hK, hD⟩⟩, hS.F ht⟩) hS.2.2 dX0_begin_42
