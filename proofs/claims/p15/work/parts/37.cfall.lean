set_option maxRecDepth 100000 in
theorem kw_X3_isLost__fieldLink_RX3_27_ActHouse_acts_LActHouse_Act_ : (.fieldLink RX3 27 "ActHouse" "acts" "[LActHouse$Act;" : Cond) ∈ wsX3_isLost := by decide +kernel
set_option maxRecDepth 100000 in
theorem kin_X3_isLost_X3 : ∀ w ∈ u_ws RX3 TX3 18, w ∈ wsX3_isLost := by decide +kernel
set_option maxRecDepth 100000 in
theorem kw_X3_isLost__fieldLink_RX3_117_ActHouse_Act_state_I_ : (.fieldLink RX3 117 "ActHouse$Act" "state" "I" : Cond) ∈ wsX3_isLost := by decide +kernel
set_option maxRecDepth 100000 in
theorem kin_X3_isLost_X0 : ∀ w ∈ u_ws RX0 TX0 20, w ∈ wsX3_isLost := by decide +kernel
set_option maxRecDepth 100000 in
theorem kw_X3_isLost__fieldLink_RX3_258_ActHouse_Act_entry_I_ : (.fieldLink RX3 258 "ActHouse$Act" "entry" "I" : Cond) ∈ wsX3_isLost := by decide +kernel
set_option maxRecDepth 100000 in
theorem kw_X3_isLost__fieldLink_RX3_46_ActHouse_book_LActHouse_LogBook_ : (.fieldLink RX3 46 "ActHouse" "book" "LActHouse$LogBook;" : Cond) ∈ wsX3_isLost := by decide +kernel
set_option maxRecDepth 100000 in
theorem kw_X3_isLost__fieldLink_RX3_86_ActHouse_LogBook_size_I_ : (.fieldLink RX3 86 "ActHouse$LogBook" "size" "I" : Cond) ∈ wsX3_isLost := by decide +kernel
set_option maxRecDepth 100000 in
theorem kin_X3_isLost_X1 : ∀ w ∈ u_ws RX1 TX1 3, w ∈ wsX3_isLost := by decide +kernel
def f_X3_isLost (x1 : Int32) (C0 : CS) : Option (Int32 × CS) := (if (0 ≤ x1.toInt ∧ x1.toInt < 80) ∧ x1.toNatClampNeg < gN C0 then (if (gP C0 x1.toNatClampNeg 12) = 2 then (if (gP C0 x1.toNatClampNeg 18) < (C0.1 21) then some ((0 : Int32), C0) else some ((1 : Int32), C0)) else some ((0 : Int32), C0)) else none)
set_option maxHeartbeats 4000000 in
set_option maxRecDepth 100000 in
theorem c_X3_isLost {l : Launch} {D : va_G} {sz : Nat} {cI cJ cO : ClassId} {h : Nat} {xa : Nat → Nat} {ea0 : Nat} {pa0 : Nat → Nat → Nat} {C0 C' : CS} {x1 r' : Int32} (hf : f_X3_isLost x1 C0 = some (r', C')) : Met l yX3_isLost wsX3_isLost ({ frames := 0, cells := 0, slots := 0, locals := 0 }) (va_Pc [.ref h, .int x1] (k_Pre D [(cI, .int), (cO, .object RX0), (cJ, .long)] (cW cI cJ cO h xa ea0 pa0 C0) sz)) (va_Qi (fun (r0 : Int32) (u : va_W × List (ClassId × FieldType)) => r0 = r' ∧ u = (cW cI cJ cO h xa ea0 pa0 C', [(cI, .int), (cO, .object RX0), (cJ, .long)]) ∧ gN C' = gN C0 ∧ gE C' = gE C0) (k_B D (va_A (cW cI cJ cO h xa ea0 pa0 C0) sz)) (va_A (cW cI cJ cO h xa ea0 pa0 C0) sz)) (0) (0) (va_A (cW cI cJ cO h xa ea0 pa0 C0) sz) := by
  refine Met.ofW (cc := cX3_isLost) (maxL := 2) (ret := (some .boolean)) (by decide) rfl ?_
  intro p e s m args below meth c s₁ B hml hv
  obtain ⟨rfl, hsz, hP, hK, hD0⟩ := hv
  have hx := B.exec
  have hb := B.bytes
  have hr := B.returns
  have hts := atoms_spec (ws := wsX3_isLost) B.pre
  have hown : s.vm.findClass RX3 = some m.cls := findClass_of_methodNamed B.named
  have hlocks := B.notSynchronized
  subst hsz
  have hD := hD0.self (sz := s.heap.size)
  generalize hAe : va_A (cW cI cJ cO h xa ea0 pa0 C0) s.heap.size = A at hD ⊢
  have hA : ∀ q : Nat, s.heap.size ≤ q → A q := fun q h => by rw [← hAe]; exact Or.inr h
  have hS : va_S A s.heap s.heap [] := va_S.rf
  have hl := lv_entry ([.ref h, .int x1]) (n := 2) (Nat.le_of_ble_eq_true rfl)
  rw [lg_entry_eq]
  generalize (lg_sl ([.ref h, .int x1]) ++ List.replicate (2 - (lg_sl ([.ref h, .int x1])).length) Slot.unset).toArray = ls at hl ⊢
  have hl : lv_has ls 2 [(0, .ref h), (1, .int x1)] := hl
  refine k_Q (fun Q hQ => ?_)
  have hg0 : gN C0 = gN C0 ∧ gE C0 = gE C0 := ⟨rfl, rfl⟩
  have hq := hf
  rw [f_X3_isLost] at hq
  refine lv_aload_n hx hb dX3_isLost_0 rfl (lv_at hl 0 rfl) ?_
  refine va_get (D := D) (ci := 3) (v := .ref (xa 5)) (C := RX3) (T := TX3) (N := 18) hx hb hts kin_X3_isLost_X3 hown hK hP 0 rfl rfl 5 (by decide) (hts _ kw_X3_isLost__fieldLink_RX3_27_ActHouse_acts_LActHouse_Act_) (fun _ h9 => h9) rfl dX3_isLost_1 ?_
  refine lv_iload_n hx hb dX3_isLost_4 rfl (lv_at hl 1 rfl) ?_
  obtain ⟨b1, hq⟩ := k_if hq
  refine va_aldq hx hb hK hP 6 1 (f := cActs pa0 (gN C0)) rfl rfl (k_in b1.1.1 b1.1.2) dX3_isLost_5 ?_
  refine W.eq (g2 := F0 m 6 ls [.ref (pa0 x1.toNatClampNeg 0)]) (by rw [cActs_lt b1.2]; rfl) ?_
  refine va_get (D := D) (ci := 0) (v := .int (gP C0 x1.toNatClampNeg 12)) (C := RX0) (T := TX0) (N := 20) hx hb hts kin_X3_isLost_X0 hown hK hP (16 + (7 * x1.toNatClampNeg + 0)) (cW_get (show x1.toNatClampNeg < gN C0 from by omega) rfl) rfl 12 (by decide) (hts _ kw_X3_isLost__fieldLink_RX3_117_ActHouse_Act_state_I_) (fun _ h9 => h9) rfl dX3_isLost_6 ?_
  refine lv_iconst (v := 2) hx hb dX3_isLost_9 (by decide) ?_
  refine lv_icmp_ne (tgt := 36) hx hb dX3_isLost_10 (by decide) (fun c2 => ?_) (fun c2 => ?_)
  · skip
    rw [if_neg c2] at hq
    refine lv_iconst (v := 0) hx hb dX3_isLost_36 (by decide) ?_
    obtain ⟨e2, e3⟩ := k_so hq
    subst hQ
    have hP : va_P D vwCl (cW cI cJ cO h xa ea0 pa0 C0) _ := hP
    have hD : va_D A (cW cI cJ cO h xa ea0 pa0 C0) := hD
    have hgE := congrArg (fun X : CS => gN X) e3
    have hgE : gN C0 = gN C' := hgE
    have hhE := congrArg (fun X : CS => gE X) e3
    have hhE : gE C0 = gE C' := hhE
    refine W.widen (k := 0) (n := 0) (by decide) (by decide) ?_
    exact W.zret (v := 0) hx hb hr (by decide) (fun t ht hW => ⟨⟨0, (cW cI cJ cO h xa ea0 pa0 C0, [(cI, .int), (cO, .object RX0), (cJ, .long)]), rfl, ⟨e2, (congrArg (fun X : CS => ((cW cI cJ cO h xa ea0 pa0 X, [(cI, .int), (cO, .object RX0), (cJ, .long)]) : va_W × List (ClassId × FieldType))) e3), by omega, by omega⟩, ⟨by rw [ht]; exact hP, va_K.moved hW.alike hK, hD⟩⟩, hS.F ht⟩) hS.2.2 dX3_isLost_37
  · skip
    rw [if_pos c2] at hq
    refine lv_aload_n hx hb dX3_isLost_13 rfl (lv_at hl 0 rfl) ?_
    refine va_get (D := D) (ci := 3) (v := .ref (xa 5)) (C := RX3) (T := TX3) (N := 18) hx hb hts kin_X3_isLost_X3 hown hK hP 0 rfl rfl 5 (by decide) (hts _ kw_X3_isLost__fieldLink_RX3_27_ActHouse_acts_LActHouse_Act_) (fun _ h9 => h9) rfl dX3_isLost_14 ?_
    refine lv_iload_n hx hb dX3_isLost_17 rfl (lv_at hl 1 rfl) ?_
    refine va_aldq hx hb hK hP 6 1 (f := cActs pa0 (gN C0)) rfl rfl (k_in b1.1.1 b1.1.2) dX3_isLost_18 ?_
    refine W.eq (g2 := F0 m 19 ls [.ref (pa0 x1.toNatClampNeg 0)]) (by rw [cActs_lt b1.2]; rfl) ?_
    refine va_get (D := D) (ci := 0) (v := .int (gP C0 x1.toNatClampNeg 18)) (C := RX0) (T := TX0) (N := 20) hx hb hts kin_X3_isLost_X0 hown hK hP (16 + (7 * x1.toNatClampNeg + 0)) (cW_get (show x1.toNatClampNeg < gN C0 from by omega) rfl) rfl 18 (by decide) (hts _ kw_X3_isLost__fieldLink_RX3_258_ActHouse_Act_entry_I_) (fun _ h9 => h9) rfl dX3_isLost_19 ?_
    refine lv_aload_n hx hb dX3_isLost_22 rfl (lv_at hl 0 rfl) ?_
    refine va_get (D := D) (ci := 3) (v := .ref (xa 10)) (C := RX3) (T := TX3) (N := 18) hx hb hts kin_X3_isLost_X3 hown hK hP 0 rfl rfl 10 (by decide) (hts _ kw_X3_isLost__fieldLink_RX3_46_ActHouse_book_LActHouse_LogBook_) (fun _ h9 => h9) rfl dX3_isLost_23 ?_
    refine va_get (D := D) (ci := 1) (v := .int (C0.1 21)) (C := RX1) (T := TX1) (N := 3) hx hb hts kin_X3_isLost_X1 hown hK hP 11 rfl rfl 1 (by decide) (hts _ kw_X3_isLost__fieldLink_RX3_86_ActHouse_LogBook_size_I_) (fun _ h9 => h9) rfl dX3_isLost_26 ?_
    refine lv_icmp_lt (tgt := 36) hx hb dX3_isLost_29 (by decide) (fun c3 => ?_) (fun c3 => ?_)
    · skip
      rw [if_pos c3] at hq
      refine lv_iconst (v := 0) hx hb dX3_isLost_36 (by decide) ?_
      obtain ⟨e2, e3⟩ := k_so hq
      subst hQ
      have hP : va_P D vwCl (cW cI cJ cO h xa ea0 pa0 C0) _ := hP
      have hD : va_D A (cW cI cJ cO h xa ea0 pa0 C0) := hD
      have hgE := congrArg (fun X : CS => gN X) e3
      have hgE : gN C0 = gN C' := hgE
      have hhE := congrArg (fun X : CS => gE X) e3
      have hhE : gE C0 = gE C' := hhE
      refine W.widen (k := 0) (n := 0) (by decide) (by decide) ?_
      exact W.zret (v := 0) hx hb hr (by decide) (fun t ht hW => ⟨⟨0, (cW cI cJ cO h xa ea0 pa0 C0, [(cI, .int), (cO, .object RX0), (cJ, .long)]), rfl, ⟨e2, (congrArg (fun X : CS => ((cW cI cJ cO h xa ea0 pa0 X, [(cI, .int), (cO, .object RX0), (cJ, .long)]) : va_W × List (ClassId × FieldType))) e3), by omega, by omega⟩, ⟨by rw [ht]; exact hP, va_K.moved hW.alike hK, hD⟩⟩, hS.F ht⟩) hS.2.2 dX3_isLost_37
    · skip
      rw [if_neg c3] at hq
      refine lv_iconst (v := 1) hx hb dX3_isLost_32 (by decide) ?_
      refine lv_goto (tgt := 37) hx hb dX3_isLost_33 (by decide) ?_
      obtain ⟨e2, e3⟩ := k_so hq
      subst hQ
      have hP : va_P D vwCl (cW cI cJ cO h xa ea0 pa0 C0) _ := hP
      have hD : va_D A (cW cI cJ cO h xa ea0 pa0 C0) := hD
      have hgE := congrArg (fun X : CS => gN X) e3
      have hgE : gN C0 = gN C' := hgE
      have hhE := congrArg (fun X : CS => gE X) e3
      have hhE : gE C0 = gE C' := hhE
      refine W.widen (k := 0) (n := 0) (by decide) (by decide) ?_
      exact W.zret (v := 1) hx hb hr (by decide) (fun t ht hW => ⟨⟨1, (cW cI cJ cO h xa ea0 pa0 C0, [(cI, .int), (cO, .object RX0), (cJ, .long)]), rfl, ⟨e2, (congrArg (fun X : CS => ((cW cI cJ cO h xa ea0 pa0 X, [(cI, .int), (cO, .object RX0), (cJ, .long)]) : va_W × List (ClassId × FieldType))) e3), by omega, by omega⟩, ⟨by rw [ht]; exact hP, va_K.moved hW.alike hK, hD⟩⟩, hS.F ht⟩) hS.2.2 dX3_isLost_37
set_option maxRecDepth 100000 in
theorem kw_X3_fallAct__fieldLink_RX3_27_ActHouse_acts_LActHouse_Act_ : (.fieldLink RX3 27 "ActHouse" "acts" "[LActHouse$Act;" : Cond) ∈ wsX3_fallAct := by decide +kernel
set_option maxRecDepth 100000 in
theorem kin_X3_fallAct_X3 : ∀ w ∈ u_ws RX3 TX3 18, w ∈ wsX3_fallAct := by decide +kernel
set_option maxRecDepth 100000 in
theorem kw_X3_fallAct__fieldLink_RX3_141_ActHouse_Act_parent_I_ : (.fieldLink RX3 141 "ActHouse$Act" "parent" "I" : Cond) ∈ wsX3_fallAct := by decide +kernel
set_option maxRecDepth 100000 in
theorem kin_X3_fallAct_X0 : ∀ w ∈ u_ws RX0 TX0 20, w ∈ wsX3_fallAct := by decide +kernel
set_option maxRecDepth 100000 in
theorem kw_X3_fallAct__fieldLink_RX3_117_ActHouse_Act_state_I_ : (.fieldLink RX3 117 "ActHouse$Act" "state" "I" : Cond) ∈ wsX3_fallAct := by decide +kernel
set_option maxRecDepth 100000 in
theorem kw_X3_fallAct__fieldLink_RX3_258_ActHouse_Act_entry_I_ : (.fieldLink RX3 258 "ActHouse$Act" "entry" "I" : Cond) ∈ wsX3_fallAct := by decide +kernel
set_option maxRecDepth 100000 in
theorem kw_X3_fallAct__fieldLink_RX3_46_ActHouse_book_LActHouse_LogBook_ : (.fieldLink RX3 46 "ActHouse" "book" "LActHouse$LogBook;" : Cond) ∈ wsX3_fallAct := by decide +kernel
set_option maxRecDepth 100000 in
theorem kw_X3_fallAct__fieldLink_RX3_86_ActHouse_LogBook_size_I_ : (.fieldLink RX3 86 "ActHouse$LogBook" "size" "I" : Cond) ∈ wsX3_fallAct := by decide +kernel
set_option maxRecDepth 100000 in
theorem kin_X3_fallAct_X1 : ∀ w ∈ u_ws RX1 TX1 3, w ∈ wsX3_fallAct := by decide +kernel
def f_X3_fallAct_50  (y2 : Nat)  (C : CS) : Option (Int32 × CS) := (k_bind (f_X0_undo y2 C) fun r4 C4 => some ((0 : Int32), C4))
def f_X3_fallAct_87  (y2 : Nat)  (C : CS) : Option (Int32 × CS) := (if (gP C y2 12) = 2 then (k_let (cP C y2 12 (3 : Int32)) fun C9 => some ((0 : Int32), C9)) else some ((0 : Int32), C))
def f_X3_fallAct_34  (v1 : Int32) (y2 : Nat)  (C : CS) : Option (Int32 × CS) := (if (gP C y2 12) = 1 then f_X3_fallAct_50  y2 C else (k_bind (f_X3_isLost v1 C) fun r5 C5 => (if r5 = 0 then (if (gP C5 y2 12) = 4 then (if (gP C5 y2 18) < (C5.1 21) then f_X3_fallAct_87  y2 C5 else (k_bind (f_X0_leave y2 (0 : Int32) C5) fun r11 C11 => some ((0 : Int32), C11))) else f_X3_fallAct_87  y2 C5) else f_X3_fallAct_50  y2 C5)))
def f_X3_fallAct (x1 : Int32) (C0 : CS) : Option (Int32 × CS) := (if (0 ≤ x1.toInt ∧ x1.toInt < 80) ∧ x1.toNatClampNeg < gN C0 then (if (gP C0 x1.toNatClampNeg 3) = (-1) then f_X3_fallAct_34  x1 x1.toNatClampNeg C0 else (k_bind (f_X3_isLost (gP C0 x1.toNatClampNeg 3) C0) fun r12 C12 => (if r12 = 0 then f_X3_fallAct_34  x1 x1.toNatClampNeg C12 else (k_bind (f_X0_leave x1.toNatClampNeg (4 : Int32) C12) fun r14 C14 => some ((0 : Int32), C14))))) else none)
set_option maxHeartbeats 4000000 in
set_option maxRecDepth 100000 in
theorem c_X3_fallAct {l : Launch} {D : va_G} {sz : Nat} {cI cJ cO : ClassId} {h : Nat} {xa : Nat → Nat} {ea0 : Nat} {pa0 : Nat → Nat → Nat} {C0 C' : CS} {x1 r' : Int32} (hf : f_X3_fallAct x1 C0 = some (r', C')) : Met l yX3_fallAct wsX3_fallAct ({ frames := 3, cells := 0, slots := 0, locals := 64 }) (va_Pc [.ref h, .int x1] (k_Pre D [(cI, .int), (cO, .object RX0), (cJ, .long)] (cW cI cJ cO h xa ea0 pa0 C0) sz)) (va_Qv (fun (u : va_W × List (ClassId × FieldType)) => u = (cW cI cJ cO h xa ea0 pa0 C', [(cI, .int), (cO, .object RX0), (cJ, .long)]) ∧ gN C' = gN C0 ∧ gE C' = gE C0) (k_B D (va_A (cW cI cJ cO h xa ea0 pa0 C0) sz)) (va_A (cW cI cJ cO h xa ea0 pa0 C0) sz)) (0) (0) (va_A (cW cI cJ cO h xa ea0 pa0 C0) sz) := by
  refine Met.ofW (cc := cX3_fallAct) (maxL := 3) (ret := none) (by decide) rfl ?_
  intro p e s m args below meth c s₁ B hml hv
  obtain ⟨rfl, hsz, hP, hK, hD0⟩ := hv
  have hx := B.exec
  have hb := B.bytes
  have hr := B.returns
  have hts := atoms_spec (ws := wsX3_fallAct) B.pre
  have hown : s.vm.findClass RX3 = some m.cls := findClass_of_methodNamed B.named
  have hlocks := B.notSynchronized
  subst hsz
  have hD := hD0.self (sz := s.heap.size)
  generalize hAe : va_A (cW cI cJ cO h xa ea0 pa0 C0) s.heap.size = A at hD ⊢
  have hA : ∀ q : Nat, s.heap.size ≤ q → A q := fun q h => by rw [← hAe]; exact Or.inr h
  have hS : va_S A s.heap s.heap [] := va_S.rf
  have hl := lv_entry ([.ref h, .int x1]) (n := 3) (Nat.le_of_ble_eq_true rfl)
  rw [lg_entry_eq]
  generalize (lg_sl ([.ref h, .int x1]) ++ List.replicate (3 - (lg_sl ([.ref h, .int x1])).length) Slot.unset).toArray = ls at hl ⊢
  have hl : lv_has ls 3 [(0, .ref h), (1, .int x1)] := hl
  refine k_Q (fun Q hQ => ?_)
  have hg0 : gN C0 = gN C0 ∧ gE C0 = gE C0 := ⟨rfl, rfl⟩
  have B50 : ∀ (y2 : Nat)  (C : CS)  (H : Heap) (locs : List Loc) (ls : Array Slot), f_X3_fallAct_50 y2 C = some (r', C') → (gN C = gN C0 ∧ gE C = gE C0) → y2 < gN C → va_P D vwCl (cW cI cJ cO h xa ea0 pa0 C) H → va_D A (cW cI cJ cO h xa ea0 pa0 C) → va_S A s.heap H locs → lv_has ls 3 [(2, .ref (pa0 y2 0))] → W p l e (headSpec wsX3_fallAct ({ frames := 3, cells := 0, slots := 0, locals := 64 })).room s m ([.ref h, .int x1] : List Value).toArray below meth c H locs (0) (0) Q (F0 m 50 ls []) := by
    intro y2  C  H locs ls hq hg hn_y2 hP hD hS hl
    rw [f_X3_fallAct_50] at hq
    refine lv_aload_n hx hb dX3_fallAct_50 rfl (lv_at hl 0 rfl) ?_
    obtain ⟨r4, C4, h4, hq⟩ := k_bd hq
    have hFc := k_free hD hS hA
    refine va_callv (va_runV (As := []) (rest := []) ⟨hx, hb, hml, hown, hts⟩ (c_X0_undo (l := l) (D := D) (cI := cI) (cJ := cJ) (cO := cO) (h := h) (xa := xa) (ea0 := ea0) (pa0 := pa0)  (hn0 := by show y2 < gN C; omega) (hf := h4)) (cwV 0 hts gX3_fallAct_X0_undo rfl rfl rfl (by decide +kernel) ⟨Nat.le_of_ble_eq_true rfl, Nat.le_of_ble_eq_true rfl⟩) ⟨k_blind, va_recv hK hP (ci := 0) (q0 := (16 + (7 * y2 + 0))) rfl (cW_get (show y2 < gN C from by omega) rfl), fun U hU hW => ⟨rfl, k_pre hU hW hP hK hD⟩⟩ rfl rfl hl.1 rfl (lv_room (Nat.le_of_ble_eq_true rfl)) dX3_fallAct_51 ⟨by decide, by decide⟩) hS (fun q _ h => hFc q h) hFc (fun u t H1 locs ht hvm hw hB hz1 hk1 hS => ?_)
    obtain ⟨rfl, hg4, hh4⟩ := hw
    have hg4 : gN C4 = gN C := hg4
    have hh4 : gE C4 = gE C := hh4
    refine W.widen (k := 0) (n := 0) (Nat.le_refl _) (Nat.le_refl _) ?_
    obtain ⟨hP1, hK1, hD1⟩ := hB
    rw [ht] at hP1
    have hP := hP1
    have hD := k_weak hD1 hFc
    generalize H1 = H at hP hS ⊢
    have hP : va_P D vwCl (cW cI cJ cO h xa ea0 pa0 C4) _ := hP
    have hD : va_D A (cW cI cJ cO h xa ea0 pa0 C4) := hD
    refine lv_goto (tgt := 100) hx hb dX3_fallAct_54 (by decide) ?_
    obtain ⟨e2, e3⟩ := k_so hq
    subst hQ
    have hP : va_P D vwCl (cW cI cJ cO h xa ea0 pa0 C4) _ := hP
    have hD : va_D A (cW cI cJ cO h xa ea0 pa0 C4) := hD
    have hgE := congrArg (fun X : CS => gN X) e3
    have hgE : gN C4 = gN C' := hgE
    have hhE := congrArg (fun X : CS => gE X) e3
    have hhE : gE C4 = gE C' := hhE
    refine W.widen (k := 0) (n := 0) (by decide) (by decide) ?_
    exact W.vret hx hb hr (fun t ht hW => ⟨⟨(cW cI cJ cO h xa ea0 pa0 C4, [(cI, .int), (cO, .object RX0), (cJ, .long)]), rfl, ⟨(congrArg (fun X : CS => ((cW cI cJ cO h xa ea0 pa0 X, [(cI, .int), (cO, .object RX0), (cJ, .long)]) : va_W × List (ClassId × FieldType))) e3), by omega, by omega⟩, ⟨by rw [ht]; exact hP, va_K.moved hW.alike hK, hD⟩⟩, hS.F ht⟩) hS.2.2 dX3_fallAct_100
  have B87 : ∀ (y2 : Nat)  (C : CS)  (H : Heap) (locs : List Loc) (ls : Array Slot), f_X3_fallAct_87 y2 C = some (r', C') → (gN C = gN C0 ∧ gE C = gE C0) → y2 < gN C → va_P D vwCl (cW cI cJ cO h xa ea0 pa0 C) H → va_D A (cW cI cJ cO h xa ea0 pa0 C) → va_S A s.heap H locs → lv_has ls 3 [(2, .ref (pa0 y2 0))] → W p l e (headSpec wsX3_fallAct ({ frames := 3, cells := 0, slots := 0, locals := 64 })).room s m ([.ref h, .int x1] : List Value).toArray below meth c H locs (0) (0) Q (F0 m 87 ls []) := by
    intro y2  C  H locs ls hq hg hn_y2 hP hD hS hl
    rw [f_X3_fallAct_87] at hq
    refine lv_aload_n hx hb dX3_fallAct_87 rfl (lv_at hl 0 rfl) ?_
    refine va_get (D := D) (ci := 0) (v := .int (gP C y2 12)) (C := RX0) (T := TX0) (N := 20) hx hb hts kin_X3_fallAct_X0 hown hK hP (16 + (7 * y2 + 0)) (cW_get (show y2 < gN C from by omega) rfl) rfl 12 (by decide) (hts _ kw_X3_fallAct__fieldLink_RX3_117_ActHouse_Act_state_I_) (fun _ h9 => h9) rfl dX3_fallAct_88 ?_
    refine lv_iconst (v := 2) hx hb dX3_fallAct_91 (by decide) ?_
    refine lv_icmp_ne (tgt := 100) hx hb dX3_fallAct_92 (by decide) (fun c8 => ?_) (fun c8 => ?_)
    · skip
      rw [if_neg c8] at hq
      obtain ⟨e2, e3⟩ := k_so hq
      subst hQ
      have hP : va_P D vwCl (cW cI cJ cO h xa ea0 pa0 C) _ := hP
      have hD : va_D A (cW cI cJ cO h xa ea0 pa0 C) := hD
      have hgE := congrArg (fun X : CS => gN X) e3
      have hgE : gN C = gN C' := hgE
      have hhE := congrArg (fun X : CS => gE X) e3
      have hhE : gE C = gE C' := hhE
      refine W.widen (k := 0) (n := 0) (by decide) (by decide) ?_
      exact W.vret hx hb hr (fun t ht hW => ⟨⟨(cW cI cJ cO h xa ea0 pa0 C, [(cI, .int), (cO, .object RX0), (cJ, .long)]), rfl, ⟨(congrArg (fun X : CS => ((cW cI cJ cO h xa ea0 pa0 X, [(cI, .int), (cO, .object RX0), (cJ, .long)]) : va_W × List (ClassId × FieldType))) e3), by omega, by omega⟩, ⟨by rw [ht]; exact hP, va_K.moved hW.alike hK, hD⟩⟩, hS.F ht⟩) hS.2.2 dX3_fallAct_100
    · skip
      rw [if_pos c8] at hq
      refine lv_aload_n hx hb dX3_fallAct_95 rfl (lv_at hl 0 rfl) ?_
      refine lv_iconst (v := 3) hx hb dX3_fallAct_96 (by decide) ?_
      refine va_put (D := D) (ci := 0) (v := .int 3) (ty := .int) (C := RX0) (T := TX0) (N := 20) hx hb hts kin_X3_fallAct_X0 tyX0 tyX0_ok nmX0 hown hK hP hD hS (16 + (7 * y2 + 0)) (fs := aF (pa0 y2) (gP C y2)) (cW_get (show y2 < gN C from by omega) rfl) rfl 12 (by decide) (hts _ kw_X3_fallAct__fieldLink_RX3_117_ActHouse_Act_state_I_) (fun _ h9 => h9) rfl (by decide +kernel) rfl rfl (Nat.le_of_ble_eq_true rfl) dX3_fallAct_97 (fun H locs hP hD hS => ?_)
      obtain ⟨C9, eC9, hg9, hh9, hq⟩ := k_lc (C := C) hq rfl rfl
      rw [cP_eq12 (show y2 < gN C from by omega), ← eC9] at hP hD
      have hP : va_P D vwCl (cW cI cJ cO h xa ea0 pa0 C9) _ := hP
      have hD : va_D A (cW cI cJ cO h xa ea0 pa0 C9) := hD
      obtain ⟨e2, e3⟩ := k_so hq
      subst hQ
      have hP : va_P D vwCl (cW cI cJ cO h xa ea0 pa0 C9) _ := hP
      have hD : va_D A (cW cI cJ cO h xa ea0 pa0 C9) := hD
      have hgE := congrArg (fun X : CS => gN X) e3
      have hgE : gN C9 = gN C' := hgE
      have hhE := congrArg (fun X : CS => gE X) e3
      have hhE : gE C9 = gE C' := hhE
      refine W.widen (k := 0) (n := 0) (by decide) (by decide) ?_
      exact W.vret hx hb hr (fun t ht hW => ⟨⟨(cW cI cJ cO h xa ea0 pa0 C9, [(cI, .int), (cO, .object RX0), (cJ, .long)]), rfl, ⟨(congrArg (fun X : CS => ((cW cI cJ cO h xa ea0 pa0 X, [(cI, .int), (cO, .object RX0), (cJ, .long)]) : va_W × List (ClassId × FieldType))) e3), by omega, by omega⟩, ⟨by rw [ht]; exact hP, va_K.moved hW.alike hK, hD⟩⟩, hS.F ht⟩) hS.2.2 dX3_fallAct_100
  have B34 : ∀ (v1 : Int32) (y2 : Nat)  (C : CS)  (H : Heap) (locs : List Loc) (ls : Array Slot), f_X3_fallAct_34 v1 y2 C = some (r', C') → (gN C = gN C0 ∧ gE C = gE C0) → y2 < gN C → va_P D vwCl (cW cI cJ cO h xa ea0 pa0 C) H → va_D A (cW cI cJ cO h xa ea0 pa0 C) → va_S A s.heap H locs → lv_has ls 3 [(0, .ref h), (1, .int v1), (2, .ref (pa0 y2 0))] → W p l e (headSpec wsX3_fallAct ({ frames := 3, cells := 0, slots := 0, locals := 64 })).room s m ([.ref h, .int x1] : List Value).toArray below meth c H locs (0) (0) Q (F0 m 34 ls []) := by
    intro v1 y2  C  H locs ls hq hg hn_y2 hP hD hS hl
    rw [f_X3_fallAct_34] at hq
    refine lv_aload_n hx hb dX3_fallAct_34 rfl (lv_at hl 2 rfl) ?_
    refine va_get (D := D) (ci := 0) (v := .int (gP C y2 12)) (C := RX0) (T := TX0) (N := 20) hx hb hts kin_X3_fallAct_X0 hown hK hP (16 + (7 * y2 + 0)) (cW_get (show y2 < gN C from by omega) rfl) rfl 12 (by decide) (hts _ kw_X3_fallAct__fieldLink_RX3_117_ActHouse_Act_state_I_) (fun _ h9 => h9) rfl dX3_fallAct_35 ?_
    refine lv_iconst (v := 1) hx hb dX3_fallAct_38 (by decide) ?_
    refine lv_icmp_eq (tgt := 50) hx hb dX3_fallAct_39 (by decide) (fun c3 => ?_) (fun c3 => ?_)
    · skip
      rw [if_pos c3] at hq
      exact B50  y2 C  _ _ _ hq (by show (gN C = gN C0 ∧ gE C = gE C0); omega) (by show y2 < gN C; omega) hP hD hS (lv_sub hl [2] rfl)
    · skip
      rw [if_neg c3] at hq
      refine lv_aload_n hx hb dX3_fallAct_42 rfl (lv_at hl 0 rfl) ?_
      refine lv_iload_n hx hb dX3_fallAct_43 rfl (lv_at hl 1 rfl) ?_
      obtain ⟨q5, C5, h5, hq⟩ := k_bd hq
      have hFc := k_free hD hS hA
      refine va_calli (va_runV (As := [.int v1]) (rest := []) ⟨hx, hb, hml, hown, hts⟩ (c_X3_isLost (l := l) (D := D) (cI := cI) (cJ := cJ) (cO := cO) (h := h) (xa := xa) (ea0 := ea0) (pa0 := pa0)  (hf := h5)) (cwV 1 hts gX3_fallAct_X3_isLost rfl rfl rfl (by decide +kernel) ⟨Nat.le_of_ble_eq_true rfl, Nat.le_of_ble_eq_true rfl⟩) ⟨k_blind, va_recv hK hP (ci := 3) (q0 := 0) rfl rfl, fun U hU hW => ⟨rfl, k_pre hU hW hP hK hD⟩⟩ rfl rfl hl.1 rfl (lv_room (Nat.le_of_ble_eq_true rfl)) dX3_fallAct_44 ⟨by decide, by decide⟩) hS (fun q _ h => hFc q h) hFc (fun r5 u t H1 locs ht hvm hw hB hz1 hk1 hS => ?_)
      obtain ⟨rfl, rfl, hg5, hh5⟩ := hw
      have hg5 : gN C5 = gN C := hg5
      have hh5 : gE C5 = gE C := hh5
      refine W.widen (k := 0) (n := 0) (Nat.le_refl _) (Nat.le_refl _) ?_
      obtain ⟨hP1, hK1, hD1⟩ := hB
      rw [ht] at hP1
      have hP := hP1
      have hD := k_weak hD1 hFc
      generalize H1 = H at hP hS ⊢
      have hP : va_P D vwCl (cW cI cJ cO h xa ea0 pa0 C5) _ := hP
      have hD : va_D A (cW cI cJ cO h xa ea0 pa0 C5) := hD
      refine lv_if_eq (tgt := 57) hx hb dX3_fallAct_47 (by decide) (fun c6 => ?_) (fun c6 => ?_)
      · skip
        rw [if_pos c6] at hq
        refine lv_aload_n hx hb dX3_fallAct_57 rfl (lv_at hl 2 rfl) ?_
        refine va_get (D := D) (ci := 0) (v := .int (gP C5 y2 12)) (C := RX0) (T := TX0) (N := 20) hx hb hts kin_X3_fallAct_X0 hown hK hP (16 + (7 * y2 + 0)) (cW_get (show y2 < gN C5 from by omega) rfl) rfl 12 (by decide) (hts _ kw_X3_fallAct__fieldLink_RX3_117_ActHouse_Act_state_I_) (fun _ h9 => h9) rfl dX3_fallAct_58 ?_
        refine lv_iconst (v := 4) hx hb dX3_fallAct_61 (by decide) ?_
        refine lv_icmp_ne (tgt := 87) hx hb dX3_fallAct_62 (by decide) (fun c7 => ?_) (fun c7 => ?_)
        · skip
          rw [if_neg c7] at hq
          exact B87  y2 C5  _ _ _ hq (by show (gN C5 = gN C0 ∧ gE C5 = gE C0); omega) (by show y2 < gN C5; omega) hP hD hS (lv_sub hl [2] rfl)
        · skip
          rw [if_pos c7] at hq
          refine lv_aload_n hx hb dX3_fallAct_65 rfl (lv_at hl 2 rfl) ?_
          refine va_get (D := D) (ci := 0) (v := .int (gP C5 y2 18)) (C := RX0) (T := TX0) (N := 20) hx hb hts kin_X3_fallAct_X0 hown hK hP (16 + (7 * y2 + 0)) (cW_get (show y2 < gN C5 from by omega) rfl) rfl 18 (by decide) (hts _ kw_X3_fallAct__fieldLink_RX3_258_ActHouse_Act_entry_I_) (fun _ h9 => h9) rfl dX3_fallAct_66 ?_
          refine lv_aload_n hx hb dX3_fallAct_69 rfl (lv_at hl 0 rfl) ?_
          refine va_get (D := D) (ci := 3) (v := .ref (xa 10)) (C := RX3) (T := TX3) (N := 18) hx hb hts kin_X3_fallAct_X3 hown hK hP 0 rfl rfl 10 (by decide) (hts _ kw_X3_fallAct__fieldLink_RX3_46_ActHouse_book_LActHouse_LogBook_) (fun _ h9 => h9) rfl dX3_fallAct_70 ?_
          refine va_get (D := D) (ci := 1) (v := .int (C5.1 21)) (C := RX1) (T := TX1) (N := 3) hx hb hts kin_X3_fallAct_X1 hown hK hP 11 rfl rfl 1 (by decide) (hts _ kw_X3_fallAct__fieldLink_RX3_86_ActHouse_LogBook_size_I_) (fun _ h9 => h9) rfl dX3_fallAct_73 ?_
          refine lv_icmp_lt (tgt := 87) hx hb dX3_fallAct_76 (by decide) (fun c10 => ?_) (fun c10 => ?_)
          · skip
            rw [if_pos c10] at hq
            exact B87  y2 C5  _ _ _ hq (by show (gN C5 = gN C0 ∧ gE C5 = gE C0); omega) (by show y2 < gN C5; omega) hP hD hS (lv_sub hl [2] rfl)
          · skip
            rw [if_neg c10] at hq
            refine lv_aload_n hx hb dX3_fallAct_79 rfl (lv_at hl 2 rfl) ?_
            refine lv_iconst (v := 0) hx hb dX3_fallAct_80 (by decide) ?_
            obtain ⟨r11, C11, h11, hq⟩ := k_bd hq
            have hFc := k_free hD hS hA
            refine va_callv (va_runV (As := [.int 0]) (rest := []) ⟨hx, hb, hml, hown, hts⟩ (c_X0_leave (l := l) (D := D) (cI := cI) (cJ := cJ) (cO := cO) (h := h) (xa := xa) (ea0 := ea0) (pa0 := pa0)  (hn0 := by show y2 < gN C5; omega) (hf := h11)) (cwV 1 hts gX3_fallAct_X0_leave rfl rfl rfl (by decide +kernel) ⟨Nat.le_of_ble_eq_true rfl, Nat.le_of_ble_eq_true rfl⟩) ⟨k_blind, va_recv hK hP (ci := 0) (q0 := (16 + (7 * y2 + 0))) rfl (cW_get (show y2 < gN C5 from by omega) rfl), fun U hU hW => ⟨rfl, k_pre hU hW hP hK hD⟩⟩ rfl rfl hl.1 rfl (lv_room (Nat.le_of_ble_eq_true rfl)) dX3_fallAct_81 ⟨by decide, by decide⟩) hS (fun q _ h => hFc q h) hFc (fun u t H1 locs ht hvm hw hB hz1 hk1 hS => ?_)
            obtain ⟨rfl, hg11, hh11⟩ := hw
            have hg11 : gN C11 = gN C5 := hg11
            have hh11 : gE C11 = gE C5 := hh11
            refine W.widen (k := 0) (n := 0) (Nat.le_refl _) (Nat.le_refl _) ?_
            obtain ⟨hP1, hK1, hD1⟩ := hB
            rw [ht] at hP1
            have hP := hP1
            have hD := k_weak hD1 hFc
            generalize H1 = H at hP hS ⊢
            have hP : va_P D vwCl (cW cI cJ cO h xa ea0 pa0 C11) _ := hP
            have hD : va_D A (cW cI cJ cO h xa ea0 pa0 C11) := hD
            refine lv_goto (tgt := 100) hx hb dX3_fallAct_84 (by decide) ?_
            obtain ⟨e2, e3⟩ := k_so hq
            subst hQ
            have hP : va_P D vwCl (cW cI cJ cO h xa ea0 pa0 C11) _ := hP
            have hD : va_D A (cW cI cJ cO h xa ea0 pa0 C11) := hD
            have hgE := congrArg (fun X : CS => gN X) e3
            have hgE : gN C11 = gN C' := hgE
            have hhE := congrArg (fun X : CS => gE X) e3
            have hhE : gE C11 = gE C' := hhE
            refine W.widen (k := 0) (n := 0) (by decide) (by decide) ?_
            exact W.vret hx hb hr (fun t ht hW => ⟨⟨(cW cI cJ cO h xa ea0 pa0 C11, [(cI, .int), (cO, .object RX0), (cJ, .long)]), rfl, ⟨(congrArg (fun X : CS => ((cW cI cJ cO h xa ea0 pa0 X, [(cI, .int), (cO, .object RX0), (cJ, .long)]) : va_W × List (ClassId × FieldType))) e3), by omega, by omega⟩, ⟨by rw [ht]; exact hP, va_K.moved hW.alike hK, hD⟩⟩, hS.F ht⟩) hS.2.2 dX3_fallAct_100
      · skip
        rw [if_neg c6] at hq
        exact B50  y2 C5  _ _ _ hq (by show (gN C5 = gN C0 ∧ gE C5 = gE C0); omega) (by show y2 < gN C5; omega) hP hD hS (lv_sub hl [2] rfl)
  have hq := hf
  rw [f_X3_fallAct] at hq
  refine lv_aload_n hx hb dX3_fallAct_0 rfl (lv_at hl 0 rfl) ?_
  refine va_get (D := D) (ci := 3) (v := .ref (xa 5)) (C := RX3) (T := TX3) (N := 18) hx hb hts kin_X3_fallAct_X3 hown hK hP 0 rfl rfl 5 (by decide) (hts _ kw_X3_fallAct__fieldLink_RX3_27_ActHouse_acts_LActHouse_Act_) (fun _ h9 => h9) rfl dX3_fallAct_1 ?_
  refine lv_iload_n hx hb dX3_fallAct_4 rfl (lv_at hl 1 rfl) ?_
  obtain ⟨b1, hq⟩ := k_if hq
  refine va_aldq hx hb hK hP 6 1 (f := cActs pa0 (gN C0)) rfl rfl (k_in b1.1.1 b1.1.2) dX3_fallAct_5 ?_
  refine W.eq (g2 := F0 m 6 ls [.ref (pa0 x1.toNatClampNeg 0)]) (by rw [cActs_lt b1.2]; rfl) ?_
  refine lv_astore_n (lv' := [(2, .ref (pa0 x1.toNatClampNeg 0)), (0, .ref h), (1, .int x1)]) hx hb dX3_fallAct_6 rfl hl (by decide) rfl (fun ls hl => ?_)
  refine lv_aload_n hx hb dX3_fallAct_7 rfl (lv_at hl 0 rfl) ?_
  refine va_get (D := D) (ci := 0) (v := .int (gP C0 x1.toNatClampNeg 3)) (C := RX0) (T := TX0) (N := 20) hx hb hts kin_X3_fallAct_X0 hown hK hP (16 + (7 * x1.toNatClampNeg + 0)) (cW_get (show x1.toNatClampNeg < gN C0 from by omega) rfl) rfl 3 (by decide) (hts _ kw_X3_fallAct__fieldLink_RX3_141_ActHouse_Act_parent_I_) (fun _ h9 => h9) rfl dX3_fallAct_8 ?_
  refine lv_iconst (v := (-1)) hx hb dX3_fallAct_11 (by decide) ?_
  refine lv_icmp_eq (tgt := 34) hx hb dX3_fallAct_12 (by decide) (fun c2 => ?_) (fun c2 => ?_)
  · skip
    rw [if_pos c2] at hq
    exact B34  x1 x1.toNatClampNeg C0  _ _ _ hq (by show (gN C0 = gN C0 ∧ gE C0 = gE C0); omega) (by show x1.toNatClampNeg < gN C0; omega) hP hD hS (lv_sub hl [1, 2, 0] rfl)
  · skip
    rw [if_neg c2] at hq
    refine lv_aload_n hx hb dX3_fallAct_15 rfl (lv_at hl 1 rfl) ?_
    refine lv_aload_n hx hb dX3_fallAct_16 rfl (lv_at hl 0 rfl) ?_
    refine va_get (D := D) (ci := 0) (v := .int (gP C0 x1.toNatClampNeg 3)) (C := RX0) (T := TX0) (N := 20) hx hb hts kin_X3_fallAct_X0 hown hK hP (16 + (7 * x1.toNatClampNeg + 0)) (cW_get (show x1.toNatClampNeg < gN C0 from by omega) rfl) rfl 3 (by decide) (hts _ kw_X3_fallAct__fieldLink_RX3_141_ActHouse_Act_parent_I_) (fun _ h9 => h9) rfl dX3_fallAct_17 ?_
    obtain ⟨q12, C12, h12, hq⟩ := k_bd hq
    have hFc := k_free hD hS hA
    refine va_calli (va_runV (As := [.int (gP C0 x1.toNatClampNeg 3)]) (rest := []) ⟨hx, hb, hml, hown, hts⟩ (c_X3_isLost (l := l) (D := D) (cI := cI) (cJ := cJ) (cO := cO) (h := h) (xa := xa) (ea0 := ea0) (pa0 := pa0)  (hf := h12)) (cwV 1 hts gX3_fallAct_X3_isLost rfl rfl rfl (by decide +kernel) ⟨Nat.le_of_ble_eq_true rfl, Nat.le_of_ble_eq_true rfl⟩) ⟨k_blind, va_recv hK hP (ci := 3) (q0 := 0) rfl rfl, fun U hU hW => ⟨rfl, k_pre hU hW hP hK hD⟩⟩ rfl rfl hl.1 rfl (lv_room (Nat.le_of_ble_eq_true rfl)) dX3_fallAct_20 ⟨by decide, by decide⟩) hS (fun q _ h => hFc q h) hFc (fun r12 u t H1 locs ht hvm hw hB hz1 hk1 hS => ?_)
    obtain ⟨rfl, rfl, hg12, hh12⟩ := hw
    have hg12 : gN C12 = gN C0 := hg12
    have hh12 : gE C12 = gE C0 := hh12
    refine W.widen (k := 0) (n := 0) (Nat.le_refl _) (Nat.le_refl _) ?_
    obtain ⟨hP1, hK1, hD1⟩ := hB
    rw [ht] at hP1
    have hP := hP1
    have hD := k_weak hD1 hFc
    generalize H1 = H at hP hS ⊢
    have hP : va_P D vwCl (cW cI cJ cO h xa ea0 pa0 C12) _ := hP
    have hD : va_D A (cW cI cJ cO h xa ea0 pa0 C12) := hD
    refine lv_if_eq (tgt := 34) hx hb dX3_fallAct_23 (by decide) (fun c13 => ?_) (fun c13 => ?_)
    · skip
      rw [if_pos c13] at hq
      exact B34  x1 x1.toNatClampNeg C12  _ _ _ hq (by show (gN C12 = gN C0 ∧ gE C12 = gE C0); omega) (by show x1.toNatClampNeg < gN C12; omega) hP hD hS (lv_sub hl [1, 2, 0] rfl)
    · skip
      rw [if_neg c13] at hq
      refine lv_aload_n hx hb dX3_fallAct_26 rfl (lv_at hl 0 rfl) ?_
      refine lv_iconst (v := 4) hx hb dX3_fallAct_27 (by decide) ?_
      obtain ⟨r14, C14, h14, hq⟩ := k_bd hq
      have hFc := k_free hD hS hA
      refine va_callv (va_runV (As := [.int 4]) (rest := []) ⟨hx, hb, hml, hown, hts⟩ (c_X0_leave (l := l) (D := D) (cI := cI) (cJ := cJ) (cO := cO) (h := h) (xa := xa) (ea0 := ea0) (pa0 := pa0)  (hn0 := by show x1.toNatClampNeg < gN C12; omega) (hf := h14)) (cwV 1 hts gX3_fallAct_X0_leave rfl rfl rfl (by decide +kernel) ⟨Nat.le_of_ble_eq_true rfl, Nat.le_of_ble_eq_true rfl⟩) ⟨k_blind, va_recv hK hP (ci := 0) (q0 := (16 + (7 * x1.toNatClampNeg + 0))) rfl (cW_get (show x1.toNatClampNeg < gN C12 from by omega) rfl), fun U hU hW => ⟨rfl, k_pre hU hW hP hK hD⟩⟩ rfl rfl hl.1 rfl (lv_room (Nat.le_of_ble_eq_true rfl)) dX3_fallAct_28 ⟨by decide, by decide⟩) hS (fun q _ h => hFc q h) hFc (fun u t H1 locs ht hvm hw hB hz1 hk1 hS => ?_)
      obtain ⟨rfl, hg14, hh14⟩ := hw
      have hg14 : gN C14 = gN C12 := hg14
      have hh14 : gE C14 = gE C12 := hh14
      refine W.widen (k := 0) (n := 0) (Nat.le_refl _) (Nat.le_refl _) ?_
      obtain ⟨hP1, hK1, hD1⟩ := hB
      rw [ht] at hP1
      have hP := hP1
      have hD := k_weak hD1 hFc
      generalize H1 = H at hP hS ⊢
      have hP : va_P D vwCl (cW cI cJ cO h xa ea0 pa0 C14) _ := hP
      have hD : va_D A (cW cI cJ cO h xa ea0 pa0 C14) := hD
      refine lv_goto (tgt := 100) hx hb dX3_fallAct_31 (by decide) ?_
      obtain ⟨e2, e3⟩ := k_so hq
      subst hQ
      have hP : va_P D vwCl (cW cI cJ cO h xa ea0 pa0 C14) _ := hP
      have hD : va_D A (cW cI cJ cO h xa ea0 pa0 C14) := hD
      have hgE := congrArg (fun X : CS => gN X) e3
      have hgE : gN C14 = gN C' := hgE
      have hhE := congrArg (fun X : CS => gE X) e3
      have hhE : gE C14 = gE C' := hhE
      refine W.widen (k := 0) (n := 0) (by decide) (by decide) ?_
      exact W.vret hx hb hr (fun t ht hW => ⟨⟨(cW cI cJ cO h xa ea0 pa0 C14, [(cI, .int), (cO, .object RX0), (cJ, .long)]), rfl, ⟨(congrArg (fun X : CS => ((cW cI cJ cO h xa ea0 pa0 X, [(cI, .int), (cO, .object RX0), (cJ, .long)]) : va_W × List (ClassId × FieldType))) e3), by omega, by omega⟩, ⟨by rw [ht]; exact hP, va_K.moved hW.alike hK, hD⟩⟩, hS.F ht⟩) hS.2.2 dX3_fallAct_100
set_option maxRecDepth 100000 in
theorem kw_X3_dropUndoneFromRow__fieldLink_RX3_154_ActHouse_doneCount_I_ : (.fieldLink RX3 154 "ActHouse" "doneCount" "I" : Cond) ∈ wsX3_dropUndoneFromRow := by decide +kernel
set_option maxRecDepth 100000 in
theorem kin_X3_dropUndoneFromRow_X3 : ∀ w ∈ u_ws RX3 TX3 18, w ∈ wsX3_dropUndoneFromRow := by decide +kernel
set_option maxRecDepth 100000 in
theorem kw_X3_dropUndoneFromRow__fieldLink_RX3_27_ActHouse_acts_LActHouse_Act_ : (.fieldLink RX3 27 "ActHouse" "acts" "[LActHouse$Act;" : Cond) ∈ wsX3_dropUndoneFromRow := by decide +kernel
set_option maxRecDepth 100000 in
theorem kw_X3_dropUndoneFromRow__fieldLink_RX3_34_ActHouse_doneRow_I_ : (.fieldLink RX3 34 "ActHouse" "doneRow" "[I" : Cond) ∈ wsX3_dropUndoneFromRow := by decide +kernel
set_option maxRecDepth 100000 in
theorem kw_X3_dropUndoneFromRow__fieldLink_RX3_117_ActHouse_Act_state_I_ : (.fieldLink RX3 117 "ActHouse$Act" "state" "I" : Cond) ∈ wsX3_dropUndoneFromRow := by decide +kernel
set_option maxRecDepth 100000 in
theorem kin_X3_dropUndoneFromRow_X0 : ∀ w ∈ u_ws RX0 TX0 20, w ∈ wsX3_dropUndoneFromRow := by decide +kernel
def f_X3_dropUndoneFromRow_45 (K4 : Int32 → Int32 → CS → Option (Int32 × CS)) (v1 : Int32) (v2 : Int32)  (C : CS) : Option (Int32 × CS) := K4 v1 (v2 + 1) C
def f_X3_dropUndoneFromRow_4  : Nat → Int32 → Int32 → CS → Option (Int32 × CS)
  | 0, _, _, _ => none
  | k + 1, v1, v2, C => (if (C.1 13) ≤ v2 then (k_let (cN C 13 v1) fun C2 => some ((0 : Int32), C2)) else (if 0 ≤ v2.toInt ∧ v2.toInt < 80 then (if (0 ≤ ((C.2.1 7) v2.toNatClampNeg).toInt ∧ ((C.2.1 7) v2.toNatClampNeg).toInt < 80) ∧ ((C.2.1 7) v2.toNatClampNeg).toNatClampNeg < gN C then (if (gP C (((C.2.1 7) v2.toNatClampNeg).toNatClampNeg) 12) = 3 then (if 0 ≤ v1.toInt ∧ v1.toInt < 80 then (k_let (cAF C 7 (upd (C.2.1 7) v1.toNatClampNeg ((C.2.1 7) v2.toNatClampNeg))) fun C7 => f_X3_dropUndoneFromRow_45 (fun (v1 : Int32) (v2 : Int32) (C : CS) => f_X3_dropUndoneFromRow_4  k v1 v2 C) (v1 + 1) v2 C7) else none) else f_X3_dropUndoneFromRow_45 (fun (v1 : Int32) (v2 : Int32) (C : CS) => f_X3_dropUndoneFromRow_4  k v1 v2 C) v1 v2 C) else none) else none))
def f_X3_dropUndoneFromRow  (C0 : CS) : Option (Int32 × CS) := f_X3_dropUndoneFromRow_4  200 (0 : Int32) (0 : Int32) C0
set_option maxHeartbeats 4000000 in
set_option maxRecDepth 100000 in
theorem c_X3_dropUndoneFromRow {l : Launch} {D : va_G} {sz : Nat} {cI cJ cO : ClassId} {h : Nat} {xa : Nat → Nat} {ea0 : Nat} {pa0 : Nat → Nat → Nat} {C0 C' : CS} { r' : Int32} (hf : f_X3_dropUndoneFromRow  C0 = some (r', C')) : Met l yX3_dropUndoneFromRow wsX3_dropUndoneFromRow ({ frames := 0, cells := 0, slots := 0, locals := 0 }) (va_Pc [.ref h] (k_Pre D [(cI, .int), (cO, .object RX0), (cJ, .long)] (cW cI cJ cO h xa ea0 pa0 C0) sz)) (va_Qv (fun (u : va_W × List (ClassId × FieldType)) => u = (cW cI cJ cO h xa ea0 pa0 C', [(cI, .int), (cO, .object RX0), (cJ, .long)]) ∧ gN C' = gN C0 ∧ gE C' = gE C0) (k_B D (va_A (cW cI cJ cO h xa ea0 pa0 C0) sz)) (va_A (cW cI cJ cO h xa ea0 pa0 C0) sz)) (0) (0) (va_A (cW cI cJ cO h xa ea0 pa0 C0) sz) := by
  refine Met.ofW (cc := cX3_dropUndoneFromRow) (maxL := 3) (ret := none) (by decide) rfl ?_
  intro p e s m args below meth c s₁ B hml hv
  obtain ⟨rfl, hsz, hP, hK, hD0⟩ := hv
  have hx := B.exec
  have hb := B.bytes
  have hr := B.returns
  have hts := atoms_spec (ws := wsX3_dropUndoneFromRow) B.pre
  have hown : s.vm.findClass RX3 = some m.cls := findClass_of_methodNamed B.named
  have hlocks := B.notSynchronized
  subst hsz
  have hD := hD0.self (sz := s.heap.size)
  generalize hAe : va_A (cW cI cJ cO h xa ea0 pa0 C0) s.heap.size = A at hD ⊢
  have hA : ∀ q : Nat, s.heap.size ≤ q → A q := fun q h => by rw [← hAe]; exact Or.inr h
  have hS : va_S A s.heap s.heap [] := va_S.rf
  have hl := lv_entry ([.ref h]) (n := 3) (Nat.le_of_ble_eq_true rfl)
  rw [lg_entry_eq]
  generalize (lg_sl ([.ref h]) ++ List.replicate (3 - (lg_sl ([.ref h])).length) Slot.unset).toArray = ls at hl ⊢
  have hl : lv_has ls 3 [(0, .ref h)] := hl
  refine k_Q (fun Q hQ => ?_)
  have hg0 : gN C0 = gN C0 ∧ gE C0 = gE C0 := ⟨rfl, rfl⟩
  have B45 : ∀ (K4 : Int32 → Int32 → CS → Option (Int32 × CS)) (hK4 : ∀ (v1 : Int32) (v2 : Int32)  (C : CS)  (H : Heap) (locs : List Loc) (ls : Array Slot), K4 v1 v2 C = some (r', C') → (gN C = gN C0 ∧ gE C = gE C0) → va_P D vwCl (cW cI cJ cO h xa ea0 pa0 C) H → va_D A (cW cI cJ cO h xa ea0 pa0 C) → va_S A s.heap H locs → lv_has ls 3 [(0, .ref h), (1, .int v1), (2, .int v2)] → W p l e (headSpec wsX3_dropUndoneFromRow ({ frames := 0, cells := 0, slots := 0, locals := 0 })).room s m ([.ref h] : List Value).toArray below meth c H locs (0) (0) Q (F0 m 4 ls [])), ∀ (v1 : Int32) (v2 : Int32)  (C : CS)  (H : Heap) (locs : List Loc) (ls : Array Slot), f_X3_dropUndoneFromRow_45 K4 v1 v2 C = some (r', C') → (gN C = gN C0 ∧ gE C = gE C0) → va_P D vwCl (cW cI cJ cO h xa ea0 pa0 C) H → va_D A (cW cI cJ cO h xa ea0 pa0 C) → va_S A s.heap H locs → lv_has ls 3 [(0, .ref h), (1, .int v1), (2, .int v2)] → W p l e (headSpec wsX3_dropUndoneFromRow ({ frames := 0, cells := 0, slots := 0, locals := 0 })).room s m ([.ref h] : List Value).toArray below meth c H locs (0) (0) Q (F0 m 45 ls []) := by
    intro K4 hK4
    intro v1 v2  C  H locs ls hq hg  hP hD hS hl
    rw [f_X3_dropUndoneFromRow_45] at hq
    refine lv_iinc (v := v2 + 1) (lv' := [(2, .int (v2 + 1)), (0, .ref h), (1, .int v1)]) hx hb dX3_dropUndoneFromRow_45 hl (k := 2) rfl (by rfl) (by decide) rfl (fun ls hl => ?_)
    refine lv_goto (tgt := 4) hx hb dX3_dropUndoneFromRow_48 (by decide) ?_
    exact hK4 v1 (v2 + 1) C  _ _ _ hq (by show (gN C = gN C0 ∧ gE C = gE C0); omega) hP hD hS (lv_sub hl [1, 2, 0] rfl)
  have B4 : ∀  (k : Nat), ∀ (v1 : Int32) (v2 : Int32)  (C : CS)  (H : Heap) (locs : List Loc) (ls : Array Slot), f_X3_dropUndoneFromRow_4  k v1 v2 C = some (r', C') → (gN C = gN C0 ∧ gE C = gE C0) → va_P D vwCl (cW cI cJ cO h xa ea0 pa0 C) H → va_D A (cW cI cJ cO h xa ea0 pa0 C) → va_S A s.heap H locs → lv_has ls 3 [(0, .ref h), (1, .int v1), (2, .int v2)] → W p l e (headSpec wsX3_dropUndoneFromRow ({ frames := 0, cells := 0, slots := 0, locals := 0 })).room s m ([.ref h] : List Value).toArray below meth c H locs (0) (0) Q (F0 m 4 ls []) := by
    intro  k
    induction k with
    | zero =>
      intro v1 v2  C  H locs ls hq hg  hP hD hS hl
      exact absurd hq (by rw [f_X3_dropUndoneFromRow_4]; exact k_non)
    | succ k ih =>
      intro v1 v2  C  H locs ls hq hg  hP hD hS hl
      rw [f_X3_dropUndoneFromRow_4] at hq
      refine lv_iload_n hx hb dX3_dropUndoneFromRow_4 rfl (lv_at hl 2 rfl) ?_
      refine lv_aload_n hx hb dX3_dropUndoneFromRow_5 rfl (lv_at hl 0 rfl) ?_
      refine va_get (D := D) (ci := 3) (v := .int (C.1 13)) (C := RX3) (T := TX3) (N := 18) hx hb hts kin_X3_dropUndoneFromRow_X3 hown hK hP 0 rfl rfl 13 (by decide) (hts _ kw_X3_dropUndoneFromRow__fieldLink_RX3_154_ActHouse_doneCount_I_) (fun _ h9 => h9) rfl dX3_dropUndoneFromRow_6 ?_
      refine lv_icmp_ge (tgt := 51) hx hb dX3_dropUndoneFromRow_9 (by decide) (fun c1 => ?_) (fun c1 => ?_)
      · skip
        rw [if_pos c1] at hq
        refine lv_aload_n hx hb dX3_dropUndoneFromRow_51 rfl (lv_at hl 0 rfl) ?_
        refine lv_iload_n hx hb dX3_dropUndoneFromRow_52 rfl (lv_at hl 1 rfl) ?_
        refine va_put (D := D) (ci := 3) (v := .int v1) (ty := .int) (C := RX3) (T := TX3) (N := 18) hx hb hts kin_X3_dropUndoneFromRow_X3 tyX3 tyX3_ok nmX3 hown hK hP hD hS 0 (fs := hF xa C) rfl rfl 13 (by decide) (hts _ kw_X3_dropUndoneFromRow__fieldLink_RX3_154_ActHouse_doneCount_I_) (fun _ h9 => h9) rfl (by decide +kernel) rfl rfl (Nat.le_of_ble_eq_true rfl) dX3_dropUndoneFromRow_53 (fun H locs hP hD hS => ?_)
        obtain ⟨C2, eC2, hg2, hh2, hq⟩ := k_lc (C := C) hq rfl rfl
        rw [cW_I13, ← eC2] at hP hD
        have hP : va_P D vwCl (cW cI cJ cO h xa ea0 pa0 C2) _ := hP
        have hD : va_D A (cW cI cJ cO h xa ea0 pa0 C2) := hD
        obtain ⟨e2, e3⟩ := k_so hq
        subst hQ
        have hP : va_P D vwCl (cW cI cJ cO h xa ea0 pa0 C2) _ := hP
        have hD : va_D A (cW cI cJ cO h xa ea0 pa0 C2) := hD
        have hgE := congrArg (fun X : CS => gN X) e3
        have hgE : gN C2 = gN C' := hgE
        have hhE := congrArg (fun X : CS => gE X) e3
        have hhE : gE C2 = gE C' := hhE
        refine W.widen (k := 0) (n := 0) (by decide) (by decide) ?_
        exact W.vret hx hb hr (fun t ht hW => ⟨⟨(cW cI cJ cO h xa ea0 pa0 C2, [(cI, .int), (cO, .object RX0), (cJ, .long)]), rfl, ⟨(congrArg (fun X : CS => ((cW cI cJ cO h xa ea0 pa0 X, [(cI, .int), (cO, .object RX0), (cJ, .long)]) : va_W × List (ClassId × FieldType))) e3), by omega, by omega⟩, ⟨by rw [ht]; exact hP, va_K.moved hW.alike hK, hD⟩⟩, hS.F ht⟩) hS.2.2 dX3_dropUndoneFromRow_56
      · skip
        rw [if_neg c1] at hq
        refine lv_aload_n hx hb dX3_dropUndoneFromRow_12 rfl (lv_at hl 0 rfl) ?_
        refine va_get (D := D) (ci := 3) (v := .ref (xa 5)) (C := RX3) (T := TX3) (N := 18) hx hb hts kin_X3_dropUndoneFromRow_X3 hown hK hP 0 rfl rfl 5 (by decide) (hts _ kw_X3_dropUndoneFromRow__fieldLink_RX3_27_ActHouse_acts_LActHouse_Act_) (fun _ h9 => h9) rfl dX3_dropUndoneFromRow_13 ?_
        refine lv_aload_n hx hb dX3_dropUndoneFromRow_16 rfl (lv_at hl 0 rfl) ?_
        refine va_get (D := D) (ci := 3) (v := .ref (xa 7)) (C := RX3) (T := TX3) (N := 18) hx hb hts kin_X3_dropUndoneFromRow_X3 hown hK hP 0 rfl rfl 7 (by decide) (hts _ kw_X3_dropUndoneFromRow__fieldLink_RX3_34_ActHouse_doneRow_I_) (fun _ h9 => h9) rfl dX3_dropUndoneFromRow_17 ?_
        refine lv_iload_n hx hb dX3_dropUndoneFromRow_20 rfl (lv_at hl 2 rfl) ?_
        obtain ⟨b3, hq⟩ := k_if hq
        refine va_iald hx hb hK hP 8 0 (f := (C.2.1 7)) rfl rfl (k_in b3.1 b3.2) dX3_dropUndoneFromRow_21 ?_
        obtain ⟨b4, hq⟩ := k_if hq
        refine va_aldq hx hb hK hP 6 1 (f := cActs pa0 (gN C)) rfl rfl (k_in b4.1.1 b4.1.2) dX3_dropUndoneFromRow_22 ?_
        refine W.eq (g2 := F0 m 23 ls [.ref (pa0 (((C.2.1 7) v2.toNatClampNeg).toNatClampNeg) 0)]) (by rw [cActs_lt b4.2]; rfl) ?_
        refine va_get (D := D) (ci := 0) (v := .int (gP C (((C.2.1 7) v2.toNatClampNeg).toNatClampNeg) 12)) (C := RX0) (T := TX0) (N := 20) hx hb hts kin_X3_dropUndoneFromRow_X0 hown hK hP (16 + (7 * (((C.2.1 7) v2.toNatClampNeg).toNatClampNeg) + 0)) (cW_get (show ((C.2.1 7) v2.toNatClampNeg).toNatClampNeg < gN C from by omega) rfl) rfl 12 (by decide) (hts _ kw_X3_dropUndoneFromRow__fieldLink_RX3_117_ActHouse_Act_state_I_) (fun _ h9 => h9) rfl dX3_dropUndoneFromRow_23 ?_
        refine lv_iconst (v := 3) hx hb dX3_dropUndoneFromRow_26 (by decide) ?_
        refine lv_icmp_ne (tgt := 45) hx hb dX3_dropUndoneFromRow_27 (by decide) (fun c5 => ?_) (fun c5 => ?_)
        · skip
          rw [if_neg c5] at hq
          exact B45 (fun (v1 : Int32) (v2 : Int32) (C : CS) => f_X3_dropUndoneFromRow_4  k v1 v2 C) ih v1 v2 C  _ _ _ hq (by show (gN C = gN C0 ∧ gE C = gE C0); omega) hP hD hS (lv_sub hl [0, 1, 2] rfl)
        · skip
          rw [if_pos c5] at hq
          refine lv_aload_n hx hb dX3_dropUndoneFromRow_30 rfl (lv_at hl 0 rfl) ?_
          refine va_get (D := D) (ci := 3) (v := .ref (xa 7)) (C := RX3) (T := TX3) (N := 18) hx hb hts kin_X3_dropUndoneFromRow_X3 hown hK hP 0 rfl rfl 7 (by decide) (hts _ kw_X3_dropUndoneFromRow__fieldLink_RX3_34_ActHouse_doneRow_I_) (fun _ h9 => h9) rfl dX3_dropUndoneFromRow_31 ?_
          refine lv_iload_n hx hb dX3_dropUndoneFromRow_34 rfl (lv_at hl 1 rfl) ?_
          refine lv_aload_n hx hb dX3_dropUndoneFromRow_35 rfl (lv_at hl 0 rfl) ?_
          refine va_get (D := D) (ci := 3) (v := .ref (xa 7)) (C := RX3) (T := TX3) (N := 18) hx hb hts kin_X3_dropUndoneFromRow_X3 hown hK hP 0 rfl rfl 7 (by decide) (hts _ kw_X3_dropUndoneFromRow__fieldLink_RX3_34_ActHouse_doneRow_I_) (fun _ h9 => h9) rfl dX3_dropUndoneFromRow_36 ?_
          refine lv_iload_n hx hb dX3_dropUndoneFromRow_39 rfl (lv_at hl 2 rfl) ?_
          refine va_iald hx hb hK hP 8 0 (f := (C.2.1 7)) rfl rfl (k_in b3.1 b3.2) dX3_dropUndoneFromRow_40 ?_
          obtain ⟨b6, hq⟩ := k_if hq
          refine va_iast hx hb hK hP hD hS 8 0 (f := (C.2.1 7)) rfl rfl (x := ((C.2.1 7) v2.toNatClampNeg)) (k_in b6.1 b6.2) dX3_dropUndoneFromRow_41 (fun H locs hP hD hS => ?_)
          obtain ⟨C7, eC7, hg7, hh7, hq⟩ := k_lc (C := C) hq rfl rfl
          rw [cW_F7, ← eC7] at hP hD
          have hP : va_P D vwCl (cW cI cJ cO h xa ea0 pa0 C7) _ := hP
          have hD : va_D A (cW cI cJ cO h xa ea0 pa0 C7) := hD
          refine lv_iinc (v := v1 + 1) (lv' := [(1, .int (v1 + 1)), (0, .ref h), (2, .int v2)]) hx hb dX3_dropUndoneFromRow_42 hl (k := 1) rfl (by rfl) (by decide) rfl (fun ls hl => ?_)
          exact B45 (fun (v1 : Int32) (v2 : Int32) (C : CS) => f_X3_dropUndoneFromRow_4  k v1 v2 C) ih (v1 + 1) v2 C7  _ _ _ hq (by show (gN C7 = gN C0 ∧ gE C7 = gE C0); omega) hP hD hS (lv_sub hl [1, 0, 2] rfl)
  have hq := hf
  rw [f_X3_dropUndoneFromRow] at hq
  refine lv_iconst (v := 0) hx hb dX3_dropUndoneFromRow_0 (by decide) ?_
  refine lv_istore_n (lv' := [(1, .int 0), (0, .ref h)]) hx hb dX3_dropUndoneFromRow_1 rfl hl (by decide) rfl (fun ls hl => ?_)
  refine lv_iconst (v := 0) hx hb dX3_dropUndoneFromRow_2 (by decide) ?_
  refine lv_istore_n (lv' := [(2, .int 0), (1, .int 0), (0, .ref h)]) hx hb dX3_dropUndoneFromRow_3 rfl hl (by decide) rfl (fun ls hl => ?_)
  exact B4  200 (0 : Int32) (0 : Int32) C0  _ _ _ hq (by show (gN C0 = gN C0 ∧ gE C0 = gE C0); omega) hP hD hS (lv_sub hl [2, 1, 0] rfl)
set_option maxRecDepth 100000 in
theorem kw_X3_retellValues__fieldLink_RX3_22_ActHouse_values_I_ : (.fieldLink RX3 22 "ActHouse" "values" "[I" : Cond) ∈ wsX3_retellValues := by decide +kernel
set_option maxRecDepth 100000 in
theorem kin_X3_retellValues_X3 : ∀ w ∈ u_ws RX3 TX3 18, w ∈ wsX3_retellValues := by decide +kernel
set_option maxRecDepth 100000 in
theorem kw_X3_retellValues__fieldLink_RX3_154_ActHouse_doneCount_I_ : (.fieldLink RX3 154 "ActHouse" "doneCount" "I" : Cond) ∈ wsX3_retellValues := by decide +kernel
set_option maxRecDepth 100000 in
theorem kw_X3_retellValues__fieldLink_RX3_27_ActHouse_acts_LActHouse_Act_ : (.fieldLink RX3 27 "ActHouse" "acts" "[LActHouse$Act;" : Cond) ∈ wsX3_retellValues := by decide +kernel
set_option maxRecDepth 100000 in
theorem kw_X3_retellValues__fieldLink_RX3_34_ActHouse_doneRow_I_ : (.fieldLink RX3 34 "ActHouse" "doneRow" "[I" : Cond) ∈ wsX3_retellValues := by decide +kernel
def f_X3_retellValues_10  : Nat → Int32 → CS → Option (Int32 × CS)
  | 0, _, _ => none
  | k + 1, v1, C => (if (C.1 13) ≤ v1 then some ((0 : Int32), C) else (if 0 ≤ v1.toInt ∧ v1.toInt < 80 then (if (0 ≤ ((C.2.1 7) v1.toNatClampNeg).toInt ∧ ((C.2.1 7) v1.toNatClampNeg).toInt < 80) ∧ ((C.2.1 7) v1.toNatClampNeg).toNatClampNeg < gN C then (k_bind (f_X3_tellValues (((C.2.1 7) v1.toNatClampNeg).toNatClampNeg) C) fun r5 C5 => f_X3_retellValues_10  k (v1 + 1) C5) else none) else none))
def f_X3_retellValues  (C0 : CS) : Option (Int32 × CS) := (k_let (cAF C0 4 (k_fil 32 (0 : Int32) (C0.2.1 4))) fun C1 => f_X3_retellValues_10  200 (0 : Int32) C1)
set_option maxHeartbeats 4000000 in
set_option maxRecDepth 100000 in
theorem c_X3_retellValues {l : Launch} {D : va_G} {sz : Nat} {cI cJ cO : ClassId} {h : Nat} {xa : Nat → Nat} {ea0 : Nat} {pa0 : Nat → Nat → Nat} {C0 C' : CS} { r' : Int32} (hf : f_X3_retellValues  C0 = some (r', C')) : Met l yX3_retellValues wsX3_retellValues ({ frames := 2, cells := 0, slots := 0, locals := 44 }) (va_Pc [.ref h] (k_Pre D [(cI, .int), (cO, .object RX0), (cJ, .long)] (cW cI cJ cO h xa ea0 pa0 C0) sz)) (va_Qv (fun (u : va_W × List (ClassId × FieldType)) => u = (cW cI cJ cO h xa ea0 pa0 C', [(cI, .int), (cO, .object RX0), (cJ, .long)]) ∧ gN C' = gN C0 ∧ gE C' = gE C0) (k_B D (va_A (cW cI cJ cO h xa ea0 pa0 C0) sz)) (va_A (cW cI cJ cO h xa ea0 pa0 C0) sz)) (0) (0) (va_A (cW cI cJ cO h xa ea0 pa0 C0) sz) := by
  refine Met.ofW (cc := cX3_retellValues) (maxL := 2) (ret := none) (by decide) rfl ?_
  intro p e s m args below meth c s₁ B hml hv
  obtain ⟨rfl, hsz, hP, hK, hD0⟩ := hv
  have hx := B.exec
  have hb := B.bytes
  have hr := B.returns
  have hts := atoms_spec (ws := wsX3_retellValues) B.pre
  have hown : s.vm.findClass RX3 = some m.cls := findClass_of_methodNamed B.named
  have hlocks := B.notSynchronized
  subst hsz
  have hD := hD0.self (sz := s.heap.size)
  generalize hAe : va_A (cW cI cJ cO h xa ea0 pa0 C0) s.heap.size = A at hD ⊢
  have hA : ∀ q : Nat, s.heap.size ≤ q → A q := fun q h => by rw [← hAe]; exact Or.inr h
  have hS : va_S A s.heap s.heap [] := va_S.rf
  have hl := lv_entry ([.ref h]) (n := 2) (Nat.le_of_ble_eq_true rfl)
  rw [lg_entry_eq]
  generalize (lg_sl ([.ref h]) ++ List.replicate (2 - (lg_sl ([.ref h])).length) Slot.unset).toArray = ls at hl ⊢
  have hl : lv_has ls 2 [(0, .ref h)] := hl
  refine k_Q (fun Q hQ => ?_)
  have hg0 : gN C0 = gN C0 ∧ gE C0 = gE C0 := ⟨rfl, rfl⟩
  have B10 : ∀  (k : Nat), ∀ (v1 : Int32)  (C : CS)  (H : Heap) (locs : List Loc) (ls : Array Slot), f_X3_retellValues_10  k v1 C = some (r', C') → (gN C = gN C0 ∧ gE C = gE C0) → va_P D vwCl (cW cI cJ cO h xa ea0 pa0 C) H → va_D A (cW cI cJ cO h xa ea0 pa0 C) → va_S A s.heap H locs → lv_has ls 2 [(0, .ref h), (1, .int v1)] → W p l e (headSpec wsX3_retellValues ({ frames := 2, cells := 0, slots := 0, locals := 44 })).room s m ([.ref h] : List Value).toArray below meth c H locs (0) (0) Q (F0 m 10 ls []) := by
    intro  k
    induction k with
    | zero =>
      intro v1  C  H locs ls hq hg  hP hD hS hl
      exact absurd hq (by rw [f_X3_retellValues_10]; exact k_non)
    | succ k ih =>
      intro v1  C  H locs ls hq hg  hP hD hS hl
      rw [f_X3_retellValues_10] at hq
      refine lv_iload_n hx hb dX3_retellValues_10 rfl (lv_at hl 1 rfl) ?_
      refine lv_aload_n hx hb dX3_retellValues_11 rfl (lv_at hl 0 rfl) ?_
      refine va_get (D := D) (ci := 3) (v := .int (C.1 13)) (C := RX3) (T := TX3) (N := 18) hx hb hts kin_X3_retellValues_X3 hown hK hP 0 rfl rfl 13 (by decide) (hts _ kw_X3_retellValues__fieldLink_RX3_154_ActHouse_doneCount_I_) (fun _ h9 => h9) rfl dX3_retellValues_12 ?_
      refine lv_icmp_ge (tgt := 39) hx hb dX3_retellValues_15 (by decide) (fun c2 => ?_) (fun c2 => ?_)
      · skip
        rw [if_pos c2] at hq
        obtain ⟨e2, e3⟩ := k_so hq
        subst hQ
        have hP : va_P D vwCl (cW cI cJ cO h xa ea0 pa0 C) _ := hP
        have hD : va_D A (cW cI cJ cO h xa ea0 pa0 C) := hD
        have hgE := congrArg (fun X : CS => gN X) e3
        have hgE : gN C = gN C' := hgE
        have hhE := congrArg (fun X : CS => gE X) e3
        have hhE : gE C = gE C' := hhE
        refine W.widen (k := 0) (n := 0) (by decide) (by decide) ?_
        exact W.vret hx hb hr (fun t ht hW => ⟨⟨(cW cI cJ cO h xa ea0 pa0 C, [(cI, .int), (cO, .object RX0), (cJ, .long)]), rfl, ⟨(congrArg (fun X : CS => ((cW cI cJ cO h xa ea0 pa0 X, [(cI, .int), (cO, .object RX0), (cJ, .long)]) : va_W × List (ClassId × FieldType))) e3), by omega, by omega⟩, ⟨by rw [ht]; exact hP, va_K.moved hW.alike hK, hD⟩⟩, hS.F ht⟩) hS.2.2 dX3_retellValues_39
      · skip
        rw [if_neg c2] at hq
        refine lv_aload_n hx hb dX3_retellValues_18 rfl (lv_at hl 0 rfl) ?_
        refine lv_aload_n hx hb dX3_retellValues_19 rfl (lv_at hl 0 rfl) ?_
        refine va_get (D := D) (ci := 3) (v := .ref (xa 5)) (C := RX3) (T := TX3) (N := 18) hx hb hts kin_X3_retellValues_X3 hown hK hP 0 rfl rfl 5 (by decide) (hts _ kw_X3_retellValues__fieldLink_RX3_27_ActHouse_acts_LActHouse_Act_) (fun _ h9 => h9) rfl dX3_retellValues_20 ?_
        refine lv_aload_n hx hb dX3_retellValues_23 rfl (lv_at hl 0 rfl) ?_
        refine va_get (D := D) (ci := 3) (v := .ref (xa 7)) (C := RX3) (T := TX3) (N := 18) hx hb hts kin_X3_retellValues_X3 hown hK hP 0 rfl rfl 7 (by decide) (hts _ kw_X3_retellValues__fieldLink_RX3_34_ActHouse_doneRow_I_) (fun _ h9 => h9) rfl dX3_retellValues_24 ?_
        refine lv_iload_n hx hb dX3_retellValues_27 rfl (lv_at hl 1 rfl) ?_
        obtain ⟨b3, hq⟩ := k_if hq
        refine va_iald hx hb hK hP 8 0 (f := (C.2.1 7)) rfl rfl (k_in b3.1 b3.2) dX3_retellValues_28 ?_
        obtain ⟨b4, hq⟩ := k_if hq
        refine va_aldq hx hb hK hP 6 1 (f := cActs pa0 (gN C)) rfl rfl (k_in b4.1.1 b4.1.2) dX3_retellValues_29 ?_
        refine W.eq (g2 := F0 m 30 ls [.ref (pa0 (((C.2.1 7) v1.toNatClampNeg).toNatClampNeg) 0), .ref h]) (by rw [cActs_lt b4.2]; rfl) ?_
        obtain ⟨r5, C5, h5, hq⟩ := k_bd hq
        have hFc := k_free hD hS hA
        refine va_callv (va_runV (As := [.ref (pa0 (((C.2.1 7) v1.toNatClampNeg).toNatClampNeg) 0)]) (rest := []) ⟨hx, hb, hml, hown, hts⟩ (c_X3_tellValues (l := l) (D := D) (cI := cI) (cJ := cJ) (cO := cO) (h := h) (xa := xa) (ea0 := ea0) (pa0 := pa0)  (hn1 := by show ((C.2.1 7) v1.toNatClampNeg).toNatClampNeg < gN C; omega) (hf := h5)) (cwV 1 hts gX3_retellValues_X3_tellValues rfl rfl rfl (by decide +kernel) ⟨Nat.le_of_ble_eq_true rfl, Nat.le_of_ble_eq_true rfl⟩) ⟨k_blind, va_recv hK hP (ci := 3) (q0 := 0) rfl rfl, fun U hU hW => ⟨rfl, k_pre hU hW hP hK hD⟩⟩ rfl rfl hl.1 rfl (lv_room (Nat.le_of_ble_eq_true rfl)) dX3_retellValues_30 ⟨by decide, by decide⟩) hS (fun q _ h => hFc q h) hFc (fun u t H1 locs ht hvm hw hB hz1 hk1 hS => ?_)
        obtain ⟨rfl, hg5, hh5⟩ := hw
        have hg5 : gN C5 = gN C := hg5
        have hh5 : gE C5 = gE C := hh5
        refine W.widen (k := 0) (n := 0) (Nat.le_refl _) (Nat.le_refl _) ?_
        obtain ⟨hP1, hK1, hD1⟩ := hB
        rw [ht] at hP1
        have hP := hP1
        have hD := k_weak hD1 hFc
        generalize H1 = H at hP hS ⊢
        have hP : va_P D vwCl (cW cI cJ cO h xa ea0 pa0 C5) _ := hP
        have hD : va_D A (cW cI cJ cO h xa ea0 pa0 C5) := hD
        refine lv_iinc (v := v1 + 1) (lv' := [(1, .int (v1 + 1)), (0, .ref h)]) hx hb dX3_retellValues_33 hl (k := 1) rfl (by rfl) (by decide) rfl (fun ls hl => ?_)
        refine lv_goto (tgt := 10) hx hb dX3_retellValues_36 (by decide) ?_
        exact ih (v1 + 1) C5  _ _ _ hq (by show (gN C5 = gN C0 ∧ gE C5 = gE C0); omega) hP hD hS (lv_sub hl [1, 0] rfl)
  have hq := hf
  rw [f_X3_retellValues] at hq
  refine lv_aload_n hx hb dX3_retellValues_0 rfl (lv_at hl 0 rfl) ?_
  refine va_get (D := D) (ci := 3) (v := .ref (xa 4)) (C := RX3) (T := TX3) (N := 18) hx hb hts kin_X3_retellValues_X3 hown hK hP 0 rfl rfl 4 (by decide) (hts _ kw_X3_retellValues__fieldLink_RX3_22_ActHouse_values_I_) (fun _ h9 => h9) rfl dX3_retellValues_1 ?_
  refine lv_iconst (v := 0) hx hb dX3_retellValues_4 (by decide) ?_
  have he9 : (cW cI cJ cO h xa ea0 pa0 C0)[5]? = some (xa 4, .inl (cI, 32, .inl (C0.2.1 4))) := rfl
  have hP9 := k_oneP he9 hP
  have hD9 := k_oneD he9 hD
  have hK9 := hK.sub (tys' := [(cI, .int)]) [0] rfl
  have hF9 := k_free hD9 hS hA
  refine va_callv (va_runS (As := [.ref (xa 4), .int 0]) (rest := []) ⟨hx, hb, hml, hown, hts⟩ (c_J7_fill_53178 (l := l) (D := D) (a := xa 4) (v := (0 : Int32)) (n := 32) (f := (C0.2.1 4)) (cI := cI) (by decide)) (va_cwS 2 hts gX3_retellValues_J7_fill_53178 rfl rfl rfl (by decide +kernel) ⟨Nat.le_of_ble_eq_true rfl, Nat.le_of_ble_eq_true rfl⟩) ⟨k_blind, fun U hU hW => ⟨rfl, k_pre hU hW hP9 hK9 hD9⟩⟩ rfl rfl hl.1 rfl (lv_room (Nat.le_of_ble_eq_true rfl)) dX3_retellValues_5 ⟨by decide, by decide⟩) hS (fun q _ h => hF9 q h) hF9 (fun u t H1 locs ht hvm hw hB hz1 hk1 hS => ?_)
  obtain ⟨f9, rfl, rfl⟩ := hw
  obtain ⟨hP1, -, -⟩ := hB
  rw [ht] at hP1
  obtain ⟨hP, hD⟩ := k_oneS he9 hP hD hk1 hP1
  generalize H1 = H at hP hS ⊢
  refine W.widen (k := 0) (n := 0) (Nat.le_refl _) (Nat.le_refl _) ?_
  obtain ⟨C1, eC1, hg1, hh1, hq⟩ := k_lc (C := C0) hq rfl rfl
  rw [cW_F4, ← eC1] at hP hD
  have hP : va_P D vwCl (cW cI cJ cO h xa ea0 pa0 C1) _ := hP
  have hD : va_D A (cW cI cJ cO h xa ea0 pa0 C1) := hD
  refine lv_iconst (v := 0) hx hb dX3_retellValues_8 (by decide) ?_
  refine lv_istore_n (lv' := [(1, .int 0), (0, .ref h)]) hx hb dX3_retellValues_9 rfl hl (by decide) rfl (fun ls hl => ?_)
  exact B10  200 (0 : Int32) C1  _ _ _ hq (by show (gN C1 = gN C0 ∧ gE C1 = gE C0); omega) hP hD hS (lv_sub hl [1, 0] rfl)
set_option maxRecDepth 100000 in
theorem kw_X3_fall__fieldLink_RX3_46_ActHouse_book_LActHouse_LogBook_ : (.fieldLink RX3 46 "ActHouse" "book" "LActHouse$LogBook;" : Cond) ∈ wsX3_fall := by decide +kernel
set_option maxRecDepth 100000 in
theorem kin_X3_fall_X3 : ∀ w ∈ u_ws RX3 TX3 18, w ∈ wsX3_fall := by decide +kernel
set_option maxRecDepth 100000 in
theorem kw_X3_fall__fieldLink_RX3_86_ActHouse_LogBook_size_I_ : (.fieldLink RX3 86 "ActHouse$LogBook" "size" "I" : Cond) ∈ wsX3_fall := by decide +kernel
set_option maxRecDepth 100000 in
theorem kin_X3_fall_X1 : ∀ w ∈ u_ws RX1 TX1 3, w ∈ wsX3_fall := by decide +kernel
set_option maxRecDepth 100000 in
theorem kw_X3_fall__fieldLink_RX3_89_ActHouse_LogBook_kept_I_ : (.fieldLink RX3 89 "ActHouse$LogBook" "kept" "I" : Cond) ∈ wsX3_fall := by decide +kernel
set_option maxRecDepth 100000 in
theorem kw_X3_fall__fieldLink_RX3_99_ActHouse_falls_I_ : (.fieldLink RX3 99 "ActHouse" "falls" "I" : Cond) ∈ wsX3_fall := by decide +kernel
set_option maxRecDepth 100000 in
theorem kw_X3_fall__fieldLink_RX3_102_ActHouse_actCount_I_ : (.fieldLink RX3 102 "ActHouse" "actCount" "I" : Cond) ∈ wsX3_fall := by decide +kernel
def f_X3_fall_82 (K67 : Int32 → Int32 → CS → Option (Int32 × CS)) (v2 : Int32) (v3 : Int32)  (C : CS) : Option (Int32 × CS) := (k_bind (f_X3_fallAct v3 C) fun r11 C11 => K67 v2 (v3 - 1) C11)
def f_X3_fall_67  : Nat → Int32 → Int32 → CS → Option (Int32 × CS)
  | 0, _, _, _ => none
  | k + 1, v2, v3, C => (if v3 < 0 then (k_bind (f_X3_dropUndoneFromRow C) fun r7 C7 => (k_bind (f_X3_retellValues C7) fun r8 C8 => some (v2, C8))) else (k_bind (f_X3_isLost v3 C) fun r9 C9 => (if r9 = 0 then f_X3_fall_82 (fun (v2 : Int32) (v3 : Int32) (C : CS) => f_X3_fall_67  k v2 v3 C) v2 v3 C9 else f_X3_fall_82 (fun (v2 : Int32) (v3 : Int32) (C : CS) => f_X3_fall_67  k v2 v3 C) (v2 + 1) v3 C9)))
def f_X3_fall (x1 : Int32) (C0 : CS) : Option (Int32 × CS) := (if x1 < 0 then some (((-1) : Int32), C0) else (if x1 ≤ ((C0.1 21) - (C0.1 22)) then (k_bind (f_X1_cut ((C0.1 22) + x1) C0) fun r3 C3 => (k_bind (f_X1_keepAll C3) fun r4 C4 => (k_let (cN C4 17 ((C4.1 17) + 1)) fun C5 => f_X3_fall_67  200 (0 : Int32) ((C5.1 12) - 1) C5))) else some (((-1) : Int32), C0)))
set_option maxHeartbeats 4000000 in
set_option maxRecDepth 100000 in
theorem c_X3_fall {l : Launch} {D : va_G} {sz : Nat} {cI cJ cO : ClassId} {h : Nat} {xa : Nat → Nat} {ea0 : Nat} {pa0 : Nat → Nat → Nat} {C0 C' : CS} {x1 r' : Int32} (hf : f_X3_fall x1 C0 = some (r', C')) : Met l yX3_fall wsX3_fall ({ frames := 4, cells := 0, slots := 0, locals := 86 }) (va_Pc [.ref h, .int x1] (k_Pre D [(cI, .int), (cO, .object RX0), (cJ, .long)] (cW cI cJ cO h xa ea0 pa0 C0) sz)) (va_Qi (fun (r0 : Int32) (u : va_W × List (ClassId × FieldType)) => r0 = r' ∧ u = (cW cI cJ cO h xa ea0 pa0 C', [(cI, .int), (cO, .object RX0), (cJ, .long)]) ∧ gN C' = gN C0 ∧ gE C' = gE C0) (k_B D (va_A (cW cI cJ cO h xa ea0 pa0 C0) sz)) (va_A (cW cI cJ cO h xa ea0 pa0 C0) sz)) (0) (0) (va_A (cW cI cJ cO h xa ea0 pa0 C0) sz) := by
  refine Met.ofW (cc := cX3_fall) (maxL := 4) (ret := (some .int)) (by decide) rfl ?_
  intro p e s m args below meth c s₁ B hml hv
  obtain ⟨rfl, hsz, hP, hK, hD0⟩ := hv
  have hx := B.exec
  have hb := B.bytes
  have hr := B.returns
  have hts := atoms_spec (ws := wsX3_fall) B.pre
  have hown : s.vm.findClass RX3 = some m.cls := findClass_of_methodNamed B.named
  have hlocks := B.notSynchronized
  subst hsz
  have hD := hD0.self (sz := s.heap.size)
  generalize hAe : va_A (cW cI cJ cO h xa ea0 pa0 C0) s.heap.size = A at hD ⊢
  have hA : ∀ q : Nat, s.heap.size ≤ q → A q := fun q h => by rw [← hAe]; exact Or.inr h
  have hS : va_S A s.heap s.heap [] := va_S.rf
  have hl := lv_entry ([.ref h, .int x1]) (n := 4) (Nat.le_of_ble_eq_true rfl)
  rw [lg_entry_eq]
  generalize (lg_sl ([.ref h, .int x1]) ++ List.replicate (4 - (lg_sl ([.ref h, .int x1])).length) Slot.unset).toArray = ls at hl ⊢
  have hl : lv_has ls 4 [(0, .ref h), (1, .int x1)] := hl
  refine k_Q (fun Q hQ => ?_)
  have hg0 : gN C0 = gN C0 ∧ gE C0 = gE C0 := ⟨rfl, rfl⟩
  have B82 : ∀ (K67 : Int32 → Int32 → CS → Option (Int32 × CS)) (hK67 : ∀ (v2 : Int32) (v3 : Int32)  (C : CS)  (H : Heap) (locs : List Loc) (ls : Array Slot), K67 v2 v3 C = some (r', C') → (gN C = gN C0 ∧ gE C = gE C0) → va_P D vwCl (cW cI cJ cO h xa ea0 pa0 C) H → va_D A (cW cI cJ cO h xa ea0 pa0 C) → va_S A s.heap H locs → lv_has ls 4 [(0, .ref h), (2, .int v2), (3, .int v3)] → W p l e (headSpec wsX3_fall ({ frames := 4, cells := 0, slots := 0, locals := 86 })).room s m ([.ref h, .int x1] : List Value).toArray below meth c H locs (0) (0) Q (F0 m 67 ls [])), ∀ (v2 : Int32) (v3 : Int32)  (C : CS)  (H : Heap) (locs : List Loc) (ls : Array Slot), f_X3_fall_82 K67 v2 v3 C = some (r', C') → (gN C = gN C0 ∧ gE C = gE C0) → va_P D vwCl (cW cI cJ cO h xa ea0 pa0 C) H → va_D A (cW cI cJ cO h xa ea0 pa0 C) → va_S A s.heap H locs → lv_has ls 4 [(0, .ref h), (2, .int v2), (3, .int v3)] → W p l e (headSpec wsX3_fall ({ frames := 4, cells := 0, slots := 0, locals := 86 })).room s m ([.ref h, .int x1] : List Value).toArray below meth c H locs (0) (0) Q (F0 m 82 ls []) := by
    intro K67 hK67
    intro v2 v3  C  H locs ls hq hg  hP hD hS hl
    rw [f_X3_fall_82] at hq
    refine lv_aload_n hx hb dX3_fall_82 rfl (lv_at hl 0 rfl) ?_
    refine lv_iload_n hx hb dX3_fall_83 rfl (lv_at hl 2 rfl) ?_
    obtain ⟨r11, C11, h11, hq⟩ := k_bd hq
    have hFc := k_free hD hS hA
    refine va_callv (va_runV (As := [.int v3]) (rest := []) ⟨hx, hb, hml, hown, hts⟩ (c_X3_fallAct (l := l) (D := D) (cI := cI) (cJ := cJ) (cO := cO) (h := h) (xa := xa) (ea0 := ea0) (pa0 := pa0)  (hf := h11)) (cwV 1 hts gX3_fall_X3_fallAct rfl rfl rfl (by decide +kernel) ⟨Nat.le_of_ble_eq_true rfl, Nat.le_of_ble_eq_true rfl⟩) ⟨k_blind, va_recv hK hP (ci := 3) (q0 := 0) rfl rfl, fun U hU hW => ⟨rfl, k_pre hU hW hP hK hD⟩⟩ rfl rfl hl.1 rfl (lv_room (Nat.le_of_ble_eq_true rfl)) dX3_fall_84 ⟨by decide, by decide⟩) hS (fun q _ h => hFc q h) hFc (fun u t H1 locs ht hvm hw hB hz1 hk1 hS => ?_)
    obtain ⟨rfl, hg11, hh11⟩ := hw
    have hg11 : gN C11 = gN C := hg11
    have hh11 : gE C11 = gE C := hh11
    refine W.widen (k := 0) (n := 0) (Nat.le_refl _) (Nat.le_refl _) ?_
    obtain ⟨hP1, hK1, hD1⟩ := hB
    rw [ht] at hP1
    have hP := hP1
    have hD := k_weak hD1 hFc
    generalize H1 = H at hP hS ⊢
    have hP : va_P D vwCl (cW cI cJ cO h xa ea0 pa0 C11) _ := hP
    have hD : va_D A (cW cI cJ cO h xa ea0 pa0 C11) := hD
    refine lv_iinc (v := v3 - 1) (lv' := [(3, .int (v3 - 1)), (0, .ref h), (2, .int v2)]) hx hb dX3_fall_87 hl (k := 2) rfl (by exact k_dec _) (by decide) rfl (fun ls hl => ?_)
    refine lv_goto (tgt := 67) hx hb dX3_fall_90 (by decide) ?_
    exact hK67 v2 (v3 - 1) C11  _ _ _ hq (by show (gN C11 = gN C0 ∧ gE C11 = gE C0); omega) hP hD hS (lv_sub hl [1, 2, 0] rfl)
  have B67 : ∀  (k : Nat), ∀ (v2 : Int32) (v3 : Int32)  (C : CS)  (H : Heap) (locs : List Loc) (ls : Array Slot), f_X3_fall_67  k v2 v3 C = some (r', C') → (gN C = gN C0 ∧ gE C = gE C0) → va_P D vwCl (cW cI cJ cO h xa ea0 pa0 C) H → va_D A (cW cI cJ cO h xa ea0 pa0 C) → va_S A s.heap H locs → lv_has ls 4 [(0, .ref h), (2, .int v2), (3, .int v3)] → W p l e (headSpec wsX3_fall ({ frames := 4, cells := 0, slots := 0, locals := 86 })).room s m ([.ref h, .int x1] : List Value).toArray below meth c H locs (0) (0) Q (F0 m 67 ls []) := by
    intro  k
    induction k with
    | zero =>
      intro v2 v3  C  H locs ls hq hg  hP hD hS hl
      exact absurd hq (by rw [f_X3_fall_67]; exact k_non)
    | succ k ih =>
      intro v2 v3  C  H locs ls hq hg  hP hD hS hl
      rw [f_X3_fall_67] at hq
      refine lv_iload_n hx hb dX3_fall_67 rfl (lv_at hl 2 rfl) ?_
      refine lv_if_lt (tgt := 93) hx hb dX3_fall_68 (by decide) (fun c6 => ?_) (fun c6 => ?_)
      · skip
        rw [if_pos c6] at hq
        refine lv_aload_n hx hb dX3_fall_93 rfl (lv_at hl 0 rfl) ?_
        obtain ⟨r7, C7, h7, hq⟩ := k_bd hq
        have hFc := k_free hD hS hA
        refine va_callv (va_runV (As := []) (rest := []) ⟨hx, hb, hml, hown, hts⟩ (c_X3_dropUndoneFromRow (l := l) (D := D) (cI := cI) (cJ := cJ) (cO := cO) (h := h) (xa := xa) (ea0 := ea0) (pa0 := pa0)  (hf := h7)) (cwV 0 hts gX3_fall_X3_dropUndoneFromRow rfl rfl rfl (by decide +kernel) ⟨Nat.le_of_ble_eq_true rfl, Nat.le_of_ble_eq_true rfl⟩) ⟨k_blind, va_recv hK hP (ci := 3) (q0 := 0) rfl rfl, fun U hU hW => ⟨rfl, k_pre hU hW hP hK hD⟩⟩ rfl rfl hl.1 rfl (lv_room (Nat.le_of_ble_eq_true rfl)) dX3_fall_94 ⟨by decide, by decide⟩) hS (fun q _ h => hFc q h) hFc (fun u t H1 locs ht hvm hw hB hz1 hk1 hS => ?_)
        obtain ⟨rfl, hg7, hh7⟩ := hw
        have hg7 : gN C7 = gN C := hg7
        have hh7 : gE C7 = gE C := hh7
        refine W.widen (k := 0) (n := 0) (Nat.le_refl _) (Nat.le_refl _) ?_
        obtain ⟨hP1, hK1, hD1⟩ := hB
        rw [ht] at hP1
        have hP := hP1
        have hD := k_weak hD1 hFc
        generalize H1 = H at hP hS ⊢
        have hP : va_P D vwCl (cW cI cJ cO h xa ea0 pa0 C7) _ := hP
        have hD : va_D A (cW cI cJ cO h xa ea0 pa0 C7) := hD
        refine lv_aload_n hx hb dX3_fall_97 rfl (lv_at hl 0 rfl) ?_
        obtain ⟨r8, C8, h8, hq⟩ := k_bd hq
        have hFc := k_free hD hS hA
        refine va_callv (va_runV (As := []) (rest := []) ⟨hx, hb, hml, hown, hts⟩ (c_X3_retellValues (l := l) (D := D) (cI := cI) (cJ := cJ) (cO := cO) (h := h) (xa := xa) (ea0 := ea0) (pa0 := pa0)  (hf := h8)) (cwV 0 hts gX3_fall_X3_retellValues rfl rfl rfl (by decide +kernel) ⟨Nat.le_of_ble_eq_true rfl, Nat.le_of_ble_eq_true rfl⟩) ⟨k_blind, va_recv hK hP (ci := 3) (q0 := 0) rfl rfl, fun U hU hW => ⟨rfl, k_pre hU hW hP hK hD⟩⟩ rfl rfl hl.1 rfl (lv_room (Nat.le_of_ble_eq_true rfl)) dX3_fall_98 ⟨by decide, by decide⟩) hS (fun q _ h => hFc q h) hFc (fun u t H1 locs ht hvm hw hB hz1 hk1 hS => ?_)
        obtain ⟨rfl, hg8, hh8⟩ := hw
        have hg8 : gN C8 = gN C7 := hg8
        have hh8 : gE C8 = gE C7 := hh8
        refine W.widen (k := 0) (n := 0) (Nat.le_refl _) (Nat.le_refl _) ?_
        obtain ⟨hP1, hK1, hD1⟩ := hB
        rw [ht] at hP1
        have hP := hP1
        have hD := k_weak hD1 hFc
        generalize H1 = H at hP hS ⊢
        have hP : va_P D vwCl (cW cI cJ cO h xa ea0 pa0 C8) _ := hP
        have hD : va_D A (cW cI cJ cO h xa ea0 pa0 C8) := hD
        refine lv_iload_n hx hb dX3_fall_101 rfl (lv_at hl 1 rfl) ?_
        obtain ⟨e2, e3⟩ := k_so hq
        subst hQ
        have hP : va_P D vwCl (cW cI cJ cO h xa ea0 pa0 C8) _ := hP
        have hD : va_D A (cW cI cJ cO h xa ea0 pa0 C8) := hD
        have hgE := congrArg (fun X : CS => gN X) e3
        have hgE : gN C8 = gN C' := hgE
        have hhE := congrArg (fun X : CS => gE X) e3
        have hhE : gE C8 = gE C' := hhE
        refine W.widen (k := 0) (n := 0) (by decide) (by decide) ?_
        exact W.iret (v := v2) hx hb hr (fun t ht hW => ⟨⟨v2, (cW cI cJ cO h xa ea0 pa0 C8, [(cI, .int), (cO, .object RX0), (cJ, .long)]), rfl, ⟨e2, (congrArg (fun X : CS => ((cW cI cJ cO h xa ea0 pa0 X, [(cI, .int), (cO, .object RX0), (cJ, .long)]) : va_W × List (ClassId × FieldType))) e3), by omega, by omega⟩, ⟨by rw [ht]; exact hP, va_K.moved hW.alike hK, hD⟩⟩, hS.F ht⟩) hS.2.2 dX3_fall_102
      · skip
        rw [if_neg c6] at hq
        refine lv_aload_n hx hb dX3_fall_71 rfl (lv_at hl 0 rfl) ?_
        refine lv_iload_n hx hb dX3_fall_72 rfl (lv_at hl 2 rfl) ?_
        obtain ⟨q9, C9, h9, hq⟩ := k_bd hq
        have hFc := k_free hD hS hA
        refine va_calli (va_runV (As := [.int v3]) (rest := []) ⟨hx, hb, hml, hown, hts⟩ (c_X3_isLost (l := l) (D := D) (cI := cI) (cJ := cJ) (cO := cO) (h := h) (xa := xa) (ea0 := ea0) (pa0 := pa0)  (hf := h9)) (cwV 1 hts gX3_fall_X3_isLost rfl rfl rfl (by decide +kernel) ⟨Nat.le_of_ble_eq_true rfl, Nat.le_of_ble_eq_true rfl⟩) ⟨k_blind, va_recv hK hP (ci := 3) (q0 := 0) rfl rfl, fun U hU hW => ⟨rfl, k_pre hU hW hP hK hD⟩⟩ rfl rfl hl.1 rfl (lv_room (Nat.le_of_ble_eq_true rfl)) dX3_fall_73 ⟨by decide, by decide⟩) hS (fun q _ h => hFc q h) hFc (fun r9 u t H1 locs ht hvm hw hB hz1 hk1 hS => ?_)
        obtain ⟨rfl, rfl, hg9, hh9⟩ := hw
        have hg9 : gN C9 = gN C := hg9
        have hh9 : gE C9 = gE C := hh9
        refine W.widen (k := 0) (n := 0) (Nat.le_refl _) (Nat.le_refl _) ?_
        obtain ⟨hP1, hK1, hD1⟩ := hB
        rw [ht] at hP1
        have hP := hP1
        have hD := k_weak hD1 hFc
        generalize H1 = H at hP hS ⊢
        have hP : va_P D vwCl (cW cI cJ cO h xa ea0 pa0 C9) _ := hP
        have hD : va_D A (cW cI cJ cO h xa ea0 pa0 C9) := hD
        refine lv_if_eq (tgt := 82) hx hb dX3_fall_76 (by decide) (fun c10 => ?_) (fun c10 => ?_)
        · skip
          rw [if_pos c10] at hq
          exact B82 (fun (v2 : Int32) (v3 : Int32) (C : CS) => f_X3_fall_67  k v2 v3 C) ih v2 v3 C9  _ _ _ hq (by show (gN C9 = gN C0 ∧ gE C9 = gE C0); omega) hP hD hS (lv_sub hl [0, 1, 2] rfl)
        · skip
          rw [if_neg c10] at hq
          refine lv_iinc (v := v2 + 1) (lv' := [(2, .int (v2 + 1)), (0, .ref h), (3, .int v3)]) hx hb dX3_fall_79 hl (k := 1) rfl (by rfl) (by decide) rfl (fun ls hl => ?_)
          exact B82 (fun (v2 : Int32) (v3 : Int32) (C : CS) => f_X3_fall_67  k v2 v3 C) ih (v2 + 1) v3 C9  _ _ _ hq (by show (gN C9 = gN C0 ∧ gE C9 = gE C0); omega) hP hD hS (lv_sub hl [1, 0, 2] rfl)
  have hq := hf
  rw [f_X3_fall] at hq
  refine lv_iload_n hx hb dX3_fall_0 rfl (lv_at hl 1 rfl) ?_
  refine lv_if_lt (tgt := 23) hx hb dX3_fall_1 (by decide) (fun c1 => ?_) (fun c1 => ?_)
  · skip
    rw [if_pos c1] at hq
    refine lv_iconst (v := (-1)) hx hb dX3_fall_23 (by decide) ?_
    obtain ⟨e2, e3⟩ := k_so hq
    subst hQ
    have hP : va_P D vwCl (cW cI cJ cO h xa ea0 pa0 C0) _ := hP
    have hD : va_D A (cW cI cJ cO h xa ea0 pa0 C0) := hD
    have hgE := congrArg (fun X : CS => gN X) e3
    have hgE : gN C0 = gN C' := hgE
    have hhE := congrArg (fun X : CS => gE X) e3
    have hhE : gE C0 = gE C' := hhE
    refine W.widen (k := 0) (n := 0) (by decide) (by decide) ?_
    exact W.iret (v := (-1)) hx hb hr (fun t ht hW => ⟨⟨(-1), (cW cI cJ cO h xa ea0 pa0 C0, [(cI, .int), (cO, .object RX0), (cJ, .long)]), rfl, ⟨e2, (congrArg (fun X : CS => ((cW cI cJ cO h xa ea0 pa0 X, [(cI, .int), (cO, .object RX0), (cJ, .long)]) : va_W × List (ClassId × FieldType))) e3), by omega, by omega⟩, ⟨by rw [ht]; exact hP, va_K.moved hW.alike hK, hD⟩⟩, hS.F ht⟩) hS.2.2 dX3_fall_24
  · skip
    rw [if_neg c1] at hq
    refine lv_iload_n hx hb dX3_fall_4 rfl (lv_at hl 1 rfl) ?_
    refine lv_aload_n hx hb dX3_fall_5 rfl (lv_at hl 0 rfl) ?_
    refine va_get (D := D) (ci := 3) (v := .ref (xa 10)) (C := RX3) (T := TX3) (N := 18) hx hb hts kin_X3_fall_X3 hown hK hP 0 rfl rfl 10 (by decide) (hts _ kw_X3_fall__fieldLink_RX3_46_ActHouse_book_LActHouse_LogBook_) (fun _ h9 => h9) rfl dX3_fall_6 ?_
    refine va_get (D := D) (ci := 1) (v := .int (C0.1 21)) (C := RX1) (T := TX1) (N := 3) hx hb hts kin_X3_fall_X1 hown hK hP 11 rfl rfl 1 (by decide) (hts _ kw_X3_fall__fieldLink_RX3_86_ActHouse_LogBook_size_I_) (fun _ h9 => h9) rfl dX3_fall_9 ?_
    refine lv_aload_n hx hb dX3_fall_12 rfl (lv_at hl 0 rfl) ?_
    refine va_get (D := D) (ci := 3) (v := .ref (xa 10)) (C := RX3) (T := TX3) (N := 18) hx hb hts kin_X3_fall_X3 hown hK hP 0 rfl rfl 10 (by decide) (hts _ kw_X3_fall__fieldLink_RX3_46_ActHouse_book_LActHouse_LogBook_) (fun _ h9 => h9) rfl dX3_fall_13 ?_
    refine va_get (D := D) (ci := 1) (v := .int (C0.1 22)) (C := RX1) (T := TX1) (N := 3) hx hb hts kin_X3_fall_X1 hown hK hP 11 rfl rfl 2 (by decide) (hts _ kw_X3_fall__fieldLink_RX3_89_ActHouse_LogBook_kept_I_) (fun _ h9 => h9) rfl dX3_fall_16 ?_
    refine lv_isub hx hb dX3_fall_19 ?_
    refine lv_icmp_le (tgt := 25) hx hb dX3_fall_20 (by decide) (fun c2 => ?_) (fun c2 => ?_)
    · skip
      rw [if_pos c2] at hq
      refine lv_aload_n hx hb dX3_fall_25 rfl (lv_at hl 0 rfl) ?_
      refine va_get (D := D) (ci := 3) (v := .ref (xa 10)) (C := RX3) (T := TX3) (N := 18) hx hb hts kin_X3_fall_X3 hown hK hP 0 rfl rfl 10 (by decide) (hts _ kw_X3_fall__fieldLink_RX3_46_ActHouse_book_LActHouse_LogBook_) (fun _ h9 => h9) rfl dX3_fall_26 ?_
      refine lv_aload_n hx hb dX3_fall_29 rfl (lv_at hl 0 rfl) ?_
      refine va_get (D := D) (ci := 3) (v := .ref (xa 10)) (C := RX3) (T := TX3) (N := 18) hx hb hts kin_X3_fall_X3 hown hK hP 0 rfl rfl 10 (by decide) (hts _ kw_X3_fall__fieldLink_RX3_46_ActHouse_book_LActHouse_LogBook_) (fun _ h9 => h9) rfl dX3_fall_30 ?_
      refine va_get (D := D) (ci := 1) (v := .int (C0.1 22)) (C := RX1) (T := TX1) (N := 3) hx hb hts kin_X3_fall_X1 hown hK hP 11 rfl rfl 2 (by decide) (hts _ kw_X3_fall__fieldLink_RX3_89_ActHouse_LogBook_kept_I_) (fun _ h9 => h9) rfl dX3_fall_33 ?_
      refine lv_iload_n hx hb dX3_fall_36 rfl (lv_at hl 1 rfl) ?_
      refine lv_iadd hx hb dX3_fall_37 ?_
      obtain ⟨r3, C3, h3, hq⟩ := k_bd hq
      have hFc := k_free hD hS hA
      refine va_callv (va_runV (As := [.int ((C0.1 22) + x1)]) (rest := []) ⟨hx, hb, hml, hown, hts⟩ (c_X1_cut (l := l) (D := D) (cI := cI) (cJ := cJ) (cO := cO) (h := h) (xa := xa) (ea0 := ea0) (pa0 := pa0)  (hf := h3)) (cwV 1 hts gX3_fall_X1_cut rfl rfl rfl (by decide +kernel) ⟨Nat.le_of_ble_eq_true rfl, Nat.le_of_ble_eq_true rfl⟩) ⟨k_blind, va_recv hK hP (ci := 1) (q0 := 11) rfl rfl, fun U hU hW => ⟨rfl, k_pre hU hW hP hK hD⟩⟩ rfl rfl hl.1 rfl (lv_room (Nat.le_of_ble_eq_true rfl)) dX3_fall_38 ⟨by decide, by decide⟩) hS (fun q _ h => hFc q h) hFc (fun u t H1 locs ht hvm hw hB hz1 hk1 hS => ?_)
      obtain ⟨rfl, hg3, hh3⟩ := hw
      have hg3 : gN C3 = gN C0 := hg3
      have hh3 : gE C3 = gE C0 := hh3
      refine W.widen (k := 0) (n := 0) (Nat.le_refl _) (Nat.le_refl _) ?_
      obtain ⟨hP1, hK1, hD1⟩ := hB
      rw [ht] at hP1
      have hP := hP1
      have hD := k_weak hD1 hFc
      generalize H1 = H at hP hS ⊢
      have hP : va_P D vwCl (cW cI cJ cO h xa ea0 pa0 C3) _ := hP
      have hD : va_D A (cW cI cJ cO h xa ea0 pa0 C3) := hD
      refine lv_aload_n hx hb dX3_fall_41 rfl (lv_at hl 0 rfl) ?_
      refine va_get (D := D) (ci := 3) (v := .ref (xa 10)) (C := RX3) (T := TX3) (N := 18) hx hb hts kin_X3_fall_X3 hown hK hP 0 rfl rfl 10 (by decide) (hts _ kw_X3_fall__fieldLink_RX3_46_ActHouse_book_LActHouse_LogBook_) (fun _ h9 => h9) rfl dX3_fall_42 ?_
      obtain ⟨r4, C4, h4, hq⟩ := k_bd hq
      have hFc := k_free hD hS hA
      refine va_callv (va_runV (As := []) (rest := []) ⟨hx, hb, hml, hown, hts⟩ (c_X1_keepAll (l := l) (D := D) (cI := cI) (cJ := cJ) (cO := cO) (h := h) (xa := xa) (ea0 := ea0) (pa0 := pa0)  (hf := h4)) (cwV 0 hts gX3_fall_X1_keepAll rfl rfl rfl (by decide +kernel) ⟨Nat.le_of_ble_eq_true rfl, Nat.le_of_ble_eq_true rfl⟩) ⟨k_blind, va_recv hK hP (ci := 1) (q0 := 11) rfl rfl, fun U hU hW => ⟨rfl, k_pre hU hW hP hK hD⟩⟩ rfl rfl hl.1 rfl (lv_room (Nat.le_of_ble_eq_true rfl)) dX3_fall_45 ⟨by decide, by decide⟩) hS (fun q _ h => hFc q h) hFc (fun u t H1 locs ht hvm hw hB hz1 hk1 hS => ?_)
      obtain ⟨rfl, hg4, hh4⟩ := hw
      have hg4 : gN C4 = gN C3 := hg4
      have hh4 : gE C4 = gE C3 := hh4
      refine W.widen (k := 0) (n := 0) (Nat.le_refl _) (Nat.le_refl _) ?_
      obtain ⟨hP1, hK1, hD1⟩ := hB
      rw [ht] at hP1
      have hP := hP1
      have hD := k_weak hD1 hFc
      generalize H1 = H at hP hS ⊢
      have hP : va_P D vwCl (cW cI cJ cO h xa ea0 pa0 C4) _ := hP
      have hD : va_D A (cW cI cJ cO h xa ea0 pa0 C4) := hD
      refine lv_aload_n hx hb dX3_fall_48 rfl (lv_at hl 0 rfl) ?_
      refine lv_dup hx hb dX3_fall_49 rfl ?_
      refine va_get (D := D) (ci := 3) (v := .int (C4.1 17)) (C := RX3) (T := TX3) (N := 18) hx hb hts kin_X3_fall_X3 hown hK hP 0 rfl rfl 17 (by decide) (hts _ kw_X3_fall__fieldLink_RX3_99_ActHouse_falls_I_) (fun _ h9 => h9) rfl dX3_fall_50 ?_
      refine lv_iconst (v := 1) hx hb dX3_fall_53 (by decide) ?_
      refine lv_iadd hx hb dX3_fall_54 ?_
      refine va_put (D := D) (ci := 3) (v := .int ((C4.1 17) + 1)) (ty := .int) (C := RX3) (T := TX3) (N := 18) hx hb hts kin_X3_fall_X3 tyX3 tyX3_ok nmX3 hown hK hP hD hS 0 (fs := hF xa C4) rfl rfl 17 (by decide) (hts _ kw_X3_fall__fieldLink_RX3_99_ActHouse_falls_I_) (fun _ h9 => h9) rfl (by decide +kernel) rfl rfl (Nat.le_of_ble_eq_true rfl) dX3_fall_55 (fun H locs hP hD hS => ?_)
      obtain ⟨C5, eC5, hg5, hh5, hq⟩ := k_lc (C := C4) hq rfl rfl
      rw [cW_I17, ← eC5] at hP hD
      have hP : va_P D vwCl (cW cI cJ cO h xa ea0 pa0 C5) _ := hP
      have hD : va_D A (cW cI cJ cO h xa ea0 pa0 C5) := hD
      refine lv_iconst (v := 0) hx hb dX3_fall_58 (by decide) ?_
      refine lv_istore_n (lv' := [(2, .int 0), (0, .ref h), (1, .int x1)]) hx hb dX3_fall_59 rfl hl (by decide) rfl (fun ls hl => ?_)
      refine lv_aload_n hx hb dX3_fall_60 rfl (lv_at hl 1 rfl) ?_
      refine va_get (D := D) (ci := 3) (v := .int (C5.1 12)) (C := RX3) (T := TX3) (N := 18) hx hb hts kin_X3_fall_X3 hown hK hP 0 rfl rfl 12 (by decide) (hts _ kw_X3_fall__fieldLink_RX3_102_ActHouse_actCount_I_) (fun _ h9 => h9) rfl dX3_fall_61 ?_
      refine lv_iconst (v := 1) hx hb dX3_fall_64 (by decide) ?_
      refine lv_isub hx hb dX3_fall_65 ?_
      refine lv_istore_n (lv' := [(3, .int ((C5.1 12) - 1)), (2, .int 0), (0, .ref h), (1, .int x1)]) hx hb dX3_fall_66 rfl hl (by decide) rfl (fun ls hl => ?_)
      exact B67  200 (0 : Int32) ((C5.1 12) - 1) C5  _ _ _ hq (by show (gN C5 = gN C0 ∧ gE C5 = gE C0); omega) hP hD hS (lv_sub hl [2, 1, 0] rfl)
    · skip
      rw [if_neg c2] at hq
      refine lv_iconst (v := (-1)) hx hb dX3_fall_23 (by decide) ?_
      obtain ⟨e2, e3⟩ := k_so hq
      subst hQ
      have hP : va_P D vwCl (cW cI cJ cO h xa ea0 pa0 C0) _ := hP
      have hD : va_D A (cW cI cJ cO h xa ea0 pa0 C0) := hD
      have hgE := congrArg (fun X : CS => gN X) e3
      have hgE : gN C0 = gN C' := hgE
      have hhE := congrArg (fun X : CS => gE X) e3
      have hhE : gE C0 = gE C' := hhE
      refine W.widen (k := 0) (n := 0) (by decide) (by decide) ?_
      exact W.iret (v := (-1)) hx hb hr (fun t ht hW => ⟨⟨(-1), (cW cI cJ cO h xa ea0 pa0 C0, [(cI, .int), (cO, .object RX0), (cJ, .long)]), rfl, ⟨e2, (congrArg (fun X : CS => ((cW cI cJ cO h xa ea0 pa0 X, [(cI, .int), (cO, .object RX0), (cJ, .long)]) : va_W × List (ClassId × FieldType))) e3), by omega, by omega⟩, ⟨by rw [ht]; exact hP, va_K.moved hW.alike hK, hD⟩⟩, hS.F ht⟩) hS.2.2 dX3_fall_24
