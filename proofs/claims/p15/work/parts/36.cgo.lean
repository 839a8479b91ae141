set_option maxRecDepth 100000 in
theorem kw_X3_countBegunOfClasses__fieldLink_RX3_40_ActHouse_begunOfClass_I_ : (.fieldLink RX3 40 "ActHouse" "begunOfClass" "[I" : Cond) ∈ wsX3_countBegunOfClasses := by decide +kernel
set_option maxRecDepth 100000 in
theorem kin_X3_countBegunOfClasses_X3 : ∀ w ∈ u_ws RX3 TX3 18, w ∈ wsX3_countBegunOfClasses := by decide +kernel
set_option maxRecDepth 100000 in
theorem kw_X3_countBegunOfClasses__fieldLink_RX3_102_ActHouse_actCount_I_ : (.fieldLink RX3 102 "ActHouse" "actCount" "I" : Cond) ∈ wsX3_countBegunOfClasses := by decide +kernel
set_option maxRecDepth 100000 in
theorem kw_X3_countBegunOfClasses__fieldLink_RX3_27_ActHouse_acts_LActHouse_Act_ : (.fieldLink RX3 27 "ActHouse" "acts" "[LActHouse$Act;" : Cond) ∈ wsX3_countBegunOfClasses := by decide +kernel
set_option maxRecDepth 100000 in
theorem kw_X3_countBegunOfClasses__fieldLink_RX3_117_ActHouse_Act_state_I_ : (.fieldLink RX3 117 "ActHouse$Act" "state" "I" : Cond) ∈ wsX3_countBegunOfClasses := by decide +kernel
set_option maxRecDepth 100000 in
theorem kin_X3_countBegunOfClasses_X0 : ∀ w ∈ u_ws RX0 TX0 20, w ∈ wsX3_countBegunOfClasses := by decide +kernel
set_option maxRecDepth 100000 in
theorem kw_X3_countBegunOfClasses__fieldLink_RX3_123_ActHouse_Act_kind_I_ : (.fieldLink RX3 123 "ActHouse$Act" "kind" "I" : Cond) ∈ wsX3_countBegunOfClasses := by decide +kernel
def f_X3_countBegunOfClasses_49 (K10 : Int32 → CS → Option (Int32 × CS)) (v1 : Int32)  (C : CS) : Option (Int32 × CS) := K10 (v1 + 1) C
def f_X3_countBegunOfClasses_10  : Nat → Int32 → CS → Option (Int32 × CS)
  | 0, _, _ => none
  | k + 1, v1, C => (if (C.1 12) ≤ v1 then some ((0 : Int32), C) else (if (0 ≤ v1.toInt ∧ v1.toInt < 80) ∧ v1.toNatClampNeg < gN C then (if (gP C v1.toNatClampNeg 12) = 1 then (if 0 ≤ (gP C v1.toNatClampNeg 1).toInt ∧ (gP C v1.toNatClampNeg 1).toInt < 4 then (k_let (cAF C 9 (upd (C.2.1 9) ((gP C v1.toNatClampNeg 1).toNatClampNeg) (((C.2.1 9) (gP C v1.toNatClampNeg 1).toNatClampNeg) + 1))) fun C6 => f_X3_countBegunOfClasses_49 (fun (v1 : Int32) (C : CS) => f_X3_countBegunOfClasses_10  k v1 C) v1 C6) else none) else f_X3_countBegunOfClasses_49 (fun (v1 : Int32) (C : CS) => f_X3_countBegunOfClasses_10  k v1 C) v1 C) else none))
def f_X3_countBegunOfClasses  (C0 : CS) : Option (Int32 × CS) := (k_let (cAF C0 9 (k_fil 4 (0 : Int32) (C0.2.1 9))) fun C1 => f_X3_countBegunOfClasses_10  200 (0 : Int32) C1)
set_option maxHeartbeats 4000000 in
set_option maxRecDepth 100000 in
theorem c_X3_countBegunOfClasses {l : Launch} {D : va_G} {sz : Nat} {cI cJ cO : ClassId} {h : Nat} {xa : Nat → Nat} {ea0 : Nat} {pa0 : Nat → Nat → Nat} {C0 C' : CS} { r' : Int32} (hf : f_X3_countBegunOfClasses  C0 = some (r', C')) : Met l yX3_countBegunOfClasses wsX3_countBegunOfClasses ({ frames := 1, cells := 0, slots := 0, locals := 23 }) (va_Pc [.ref h] (k_Pre D [(cI, .int), (cO, .object RX0), (cJ, .long)] (cW cI cJ cO h xa ea0 pa0 C0) sz)) (va_Qv (fun (u : va_W × List (ClassId × FieldType)) => u = (cW cI cJ cO h xa ea0 pa0 C', [(cI, .int), (cO, .object RX0), (cJ, .long)]) ∧ gN C' = gN C0 ∧ gE C' = gE C0) (k_B D (va_A (cW cI cJ cO h xa ea0 pa0 C0) sz)) (va_A (cW cI cJ cO h xa ea0 pa0 C0) sz)) (0) (0) (va_A (cW cI cJ cO h xa ea0 pa0 C0) sz) := by
  refine Met.ofW (cc := cX3_countBegunOfClasses) (maxL := 2) (ret := none) (by decide) rfl ?_
  intro p e s m args below meth c s₁ B hml hv
  obtain ⟨rfl, hsz, hP, hK, hD0⟩ := hv
  have hx := B.exec
  have hb := B.bytes
  have hr := B.returns
  have hts := atoms_spec (ws := wsX3_countBegunOfClasses) B.pre
  have hown : s.vm.findClass RX3 = some m.cls := findClass_of_methodNamed B.named
  have hlocks := B.notSynchronized
  subst hsz
  have hD := hD0.self (sz := s.heap.size)
  generalize hAe : va_A (cW cI cJ cO h xa ea0 pa0 C0) s.heap.size = A at hD ⊢
  have hA : ∀ q : Nat, s.heap.size ≤ q → A q := fun q h => by rw [← hAe]; exact Or.inr h
  have hS : va_S A s.heap s.heap [] := va_S.rf
  have hl := lv_entry ([.ref h]) (n := 2) (Nat.le_of_ble_eq_true rfl)
  rw [lg_entry_eq]
  generalize (lg_sl ([.ref h]) ++ List.replicate (2 - (lg_sl ([.ref h])).length) Slot.unset).toArray = ls at hl ⊢
  have hl : lv_has ls 2 [(0, .ref h)] := hl
  refine k_Q (fun Q hQ => ?_)
  have hg0 : gN C0 = gN C0 ∧ gE C0 = gE C0 := ⟨rfl, rfl⟩
  have B49 : ∀ (K10 : Int32 → CS → Option (Int32 × CS)) (hK10 : ∀ (v1 : Int32)  (C : CS)  (H : Heap) (locs : List Loc) (ls : Array Slot), K10 v1 C = some (r', C') → (gN C = gN C0 ∧ gE C = gE C0) → va_P D vwCl (cW cI cJ cO h xa ea0 pa0 C) H → va_D A (cW cI cJ cO h xa ea0 pa0 C) → va_S A s.heap H locs → lv_has ls 2 [(0, .ref h), (1, .int v1)] → W p l e (headSpec wsX3_countBegunOfClasses ({ frames := 1, cells := 0, slots := 0, locals := 23 })).room s m ([.ref h] : List Value).toArray below meth c H locs (0) (0) Q (F0 m 10 ls [])), ∀ (v1 : Int32)  (C : CS)  (H : Heap) (locs : List Loc) (ls : Array Slot), f_X3_countBegunOfClasses_49 K10 v1 C = some (r', C') → (gN C = gN C0 ∧ gE C = gE C0) → va_P D vwCl (cW cI cJ cO h xa ea0 pa0 C) H → va_D A (cW cI cJ cO h xa ea0 pa0 C) → va_S A s.heap H locs → lv_has ls 2 [(0, .ref h), (1, .int v1)] → W p l e (headSpec wsX3_countBegunOfClasses ({ frames := 1, cells := 0, slots := 0, locals := 23 })).room s m ([.ref h] : List Value).toArray below meth c H locs (0) (0) Q (F0 m 49 ls []) := by
    intro K10 hK10
    intro v1  C  H locs ls hq hg  hP hD hS hl
    rw [f_X3_countBegunOfClasses_49] at hq
    refine lv_iinc (v := v1 + 1) (lv' := [(1, .int (v1 + 1)), (0, .ref h)]) hx hb dX3_countBegunOfClasses_49 hl (k := 1) rfl (by rfl) (by decide) rfl (fun ls hl => ?_)
    refine lv_goto (tgt := 10) hx hb dX3_countBegunOfClasses_52 (by decide) ?_
    exact hK10 (v1 + 1) C  _ _ _ hq (by show (gN C = gN C0 ∧ gE C = gE C0); omega) hP hD hS (lv_sub hl [1, 0] rfl)
  have B10 : ∀  (k : Nat), ∀ (v1 : Int32)  (C : CS)  (H : Heap) (locs : List Loc) (ls : Array Slot), f_X3_countBegunOfClasses_10  k v1 C = some (r', C') → (gN C = gN C0 ∧ gE C = gE C0) → va_P D vwCl (cW cI cJ cO h xa ea0 pa0 C) H → va_D A (cW cI cJ cO h xa ea0 pa0 C) → va_S A s.heap H locs → lv_has ls 2 [(0, .ref h), (1, .int v1)] → W p l e (headSpec wsX3_countBegunOfClasses ({ frames := 1, cells := 0, slots := 0, locals := 23 })).room s m ([.ref h] : List Value).toArray below meth c H locs (0) (0) Q (F0 m 10 ls []) := by
    intro  k
    induction k with
    | zero =>
      intro v1  C  H locs ls hq hg  hP hD hS hl
      exact absurd hq (by rw [f_X3_countBegunOfClasses_10]; exact k_non)
    | succ k ih =>
      intro v1  C  H locs ls hq hg  hP hD hS hl
      rw [f_X3_countBegunOfClasses_10] at hq
      refine lv_iload_n hx hb dX3_countBegunOfClasses_10 rfl (lv_at hl 1 rfl) ?_
      refine lv_aload_n hx hb dX3_countBegunOfClasses_11 rfl (lv_at hl 0 rfl) ?_
      refine va_get (D := D) (ci := 3) (v := .int (C.1 12)) (C := RX3) (T := TX3) (N := 18) hx hb hts kin_X3_countBegunOfClasses_X3 hown hK hP 0 rfl rfl 12 (by decide) (hts _ kw_X3_countBegunOfClasses__fieldLink_RX3_102_ActHouse_actCount_I_) (fun _ h9 => h9) rfl dX3_countBegunOfClasses_12 ?_
      refine lv_icmp_ge (tgt := 55) hx hb dX3_countBegunOfClasses_15 (by decide) (fun c2 => ?_) (fun c2 => ?_)
      · skip
        rw [if_pos c2] at hq
        obtain ⟨e2, e3⟩ := k_so hq
        subst hQ
        have hP : va_P D vwCl (cW cI cJ cO h xa ea0 pa0 C) _ := hP
        have hD : va_D A (cW cI cJ cO h xa ea0 pa0 C) := hD
        have hgE := congrArg (fun X : CS => gN X) e3
        have hgE : gN C = gN C' := hgE
        have hhE := congrArg (fun X : CS => gE X) e3
        have hhE : gE C = gE C' := hhE
        refine W.widen (k := 0) (n := 0) (by decide) (by decide) ?_
        exact W.vret hx hb hr (fun t ht hW => ⟨⟨(cW cI cJ cO h xa ea0 pa0 C, [(cI, .int), (cO, .object RX0), (cJ, .long)]), rfl, ⟨(congrArg (fun X : CS => ((cW cI cJ cO h xa ea0 pa0 X, [(cI, .int), (cO, .object RX0), (cJ, .long)]) : va_W × List (ClassId × FieldType))) e3), by omega, by omega⟩, ⟨by rw [ht]; exact hP, va_K.moved hW.alike hK, hD⟩⟩, hS.F ht⟩) hS.2.2 dX3_countBegunOfClasses_55
      · skip
        rw [if_neg c2] at hq
        refine lv_aload_n hx hb dX3_countBegunOfClasses_18 rfl (lv_at hl 0 rfl) ?_
        refine va_get (D := D) (ci := 3) (v := .ref (xa 5)) (C := RX3) (T := TX3) (N := 18) hx hb hts kin_X3_countBegunOfClasses_X3 hown hK hP 0 rfl rfl 5 (by decide) (hts _ kw_X3_countBegunOfClasses__fieldLink_RX3_27_ActHouse_acts_LActHouse_Act_) (fun _ h9 => h9) rfl dX3_countBegunOfClasses_19 ?_
        refine lv_iload_n hx hb dX3_countBegunOfClasses_22 rfl (lv_at hl 1 rfl) ?_
        obtain ⟨b3, hq⟩ := k_if hq
        refine va_aldq hx hb hK hP 6 1 (f := cActs pa0 (gN C)) rfl rfl (k_in b3.1.1 b3.1.2) dX3_countBegunOfClasses_23 ?_
        refine W.eq (g2 := F0 m 24 ls [.ref (pa0 v1.toNatClampNeg 0)]) (by rw [cActs_lt b3.2]; rfl) ?_
        refine va_get (D := D) (ci := 0) (v := .int (gP C v1.toNatClampNeg 12)) (C := RX0) (T := TX0) (N := 20) hx hb hts kin_X3_countBegunOfClasses_X0 hown hK hP (16 + (7 * v1.toNatClampNeg + 0)) (cW_get (show v1.toNatClampNeg < gN C from by omega) rfl) rfl 12 (by decide) (hts _ kw_X3_countBegunOfClasses__fieldLink_RX3_117_ActHouse_Act_state_I_) (fun _ h9 => h9) rfl dX3_countBegunOfClasses_24 ?_
        refine lv_iconst (v := 1) hx hb dX3_countBegunOfClasses_27 (by decide) ?_
        refine lv_icmp_ne (tgt := 49) hx hb dX3_countBegunOfClasses_28 (by decide) (fun c4 => ?_) (fun c4 => ?_)
        · skip
          rw [if_neg c4] at hq
          exact B49 (fun (v1 : Int32) (C : CS) => f_X3_countBegunOfClasses_10  k v1 C) ih v1 C  _ _ _ hq (by show (gN C = gN C0 ∧ gE C = gE C0); omega) hP hD hS (lv_sub hl [0, 1] rfl)
        · skip
          rw [if_pos c4] at hq
          refine lv_aload_n hx hb dX3_countBegunOfClasses_31 rfl (lv_at hl 0 rfl) ?_
          refine va_get (D := D) (ci := 3) (v := .ref (xa 9)) (C := RX3) (T := TX3) (N := 18) hx hb hts kin_X3_countBegunOfClasses_X3 hown hK hP 0 rfl rfl 9 (by decide) (hts _ kw_X3_countBegunOfClasses__fieldLink_RX3_40_ActHouse_begunOfClass_I_) (fun _ h9 => h9) rfl dX3_countBegunOfClasses_32 ?_
          refine lv_aload_n hx hb dX3_countBegunOfClasses_35 rfl (lv_at hl 0 rfl) ?_
          refine va_get (D := D) (ci := 3) (v := .ref (xa 5)) (C := RX3) (T := TX3) (N := 18) hx hb hts kin_X3_countBegunOfClasses_X3 hown hK hP 0 rfl rfl 5 (by decide) (hts _ kw_X3_countBegunOfClasses__fieldLink_RX3_27_ActHouse_acts_LActHouse_Act_) (fun _ h9 => h9) rfl dX3_countBegunOfClasses_36 ?_
          refine lv_iload_n hx hb dX3_countBegunOfClasses_39 rfl (lv_at hl 1 rfl) ?_
          refine va_aldq hx hb hK hP 6 1 (f := cActs pa0 (gN C)) rfl rfl (k_in b3.1.1 b3.1.2) dX3_countBegunOfClasses_40 ?_
          refine W.eq (g2 := F0 m 41 ls [.ref (pa0 v1.toNatClampNeg 0), .ref (xa 9)]) (by rw [cActs_lt b3.2]; rfl) ?_
          refine va_get (D := D) (ci := 0) (v := .int (gP C v1.toNatClampNeg 1)) (C := RX0) (T := TX0) (N := 20) hx hb hts kin_X3_countBegunOfClasses_X0 hown hK hP (16 + (7 * v1.toNatClampNeg + 0)) (cW_get (show v1.toNatClampNeg < gN C from by omega) rfl) rfl 1 (by decide) (hts _ kw_X3_countBegunOfClasses__fieldLink_RX3_123_ActHouse_Act_kind_I_) (fun _ h9 => h9) rfl dX3_countBegunOfClasses_41 ?_
          refine lv_dup2_11 hx hb dX3_countBegunOfClasses_44 rfl rfl ?_
          obtain ⟨b5, hq⟩ := k_if hq
          refine va_iald hx hb hK hP 10 0 (f := (C.2.1 9)) rfl rfl (k_in b5.1 b5.2) dX3_countBegunOfClasses_45 ?_
          refine lv_iconst (v := 1) hx hb dX3_countBegunOfClasses_46 (by decide) ?_
          refine lv_iadd hx hb dX3_countBegunOfClasses_47 ?_
          refine va_iast hx hb hK hP hD hS 10 0 (f := (C.2.1 9)) rfl rfl (x := (((C.2.1 9) (gP C v1.toNatClampNeg 1).toNatClampNeg) + 1)) (k_in b5.1 b5.2) dX3_countBegunOfClasses_48 (fun H locs hP hD hS => ?_)
          obtain ⟨C6, eC6, hg6, hh6, hq⟩ := k_lc (C := C) hq rfl rfl
          rw [cW_F9, ← eC6] at hP hD
          have hP : va_P D vwCl (cW cI cJ cO h xa ea0 pa0 C6) _ := hP
          have hD : va_D A (cW cI cJ cO h xa ea0 pa0 C6) := hD
          exact B49 (fun (v1 : Int32) (C : CS) => f_X3_countBegunOfClasses_10  k v1 C) ih v1 C6  _ _ _ hq (by show (gN C6 = gN C0 ∧ gE C6 = gE C0); omega) hP hD hS (lv_sub hl [0, 1] rfl)
  have hq := hf
  rw [f_X3_countBegunOfClasses] at hq
  refine lv_aload_n hx hb dX3_countBegunOfClasses_0 rfl (lv_at hl 0 rfl) ?_
  refine va_get (D := D) (ci := 3) (v := .ref (xa 9)) (C := RX3) (T := TX3) (N := 18) hx hb hts kin_X3_countBegunOfClasses_X3 hown hK hP 0 rfl rfl 9 (by decide) (hts _ kw_X3_countBegunOfClasses__fieldLink_RX3_40_ActHouse_begunOfClass_I_) (fun _ h9 => h9) rfl dX3_countBegunOfClasses_1 ?_
  refine lv_iconst (v := 0) hx hb dX3_countBegunOfClasses_4 (by decide) ?_
  have he9 : (cW cI cJ cO h xa ea0 pa0 C0)[10]? = some (xa 9, .inl (cI, 4, .inl (C0.2.1 9))) := rfl
  have hP9 := k_oneP he9 hP
  have hD9 := k_oneD he9 hD
  have hK9 := hK.sub (tys' := [(cI, .int)]) [0] rfl
  have hF9 := k_free hD9 hS hA
  refine va_callv (va_runS (As := [.ref (xa 9), .int 0]) (rest := []) ⟨hx, hb, hml, hown, hts⟩ (c_J7_fill_53178 (l := l) (D := D) (a := xa 9) (v := (0 : Int32)) (n := 4) (f := (C0.2.1 9)) (cI := cI) (by decide)) (va_cwS 2 hts gX3_countBegunOfClasses_J7_fill_53178 rfl rfl rfl (by decide +kernel) ⟨Nat.le_of_ble_eq_true rfl, Nat.le_of_ble_eq_true rfl⟩) ⟨k_blind, fun U hU hW => ⟨rfl, k_pre hU hW hP9 hK9 hD9⟩⟩ rfl rfl hl.1 rfl (lv_room (Nat.le_of_ble_eq_true rfl)) dX3_countBegunOfClasses_5 ⟨by decide, by decide⟩) hS (fun q _ h => hF9 q h) hF9 (fun u t H1 locs ht hvm hw hB hz1 hk1 hS => ?_)
  obtain ⟨f9, rfl, rfl⟩ := hw
  obtain ⟨hP1, -, -⟩ := hB
  rw [ht] at hP1
  obtain ⟨hP, hD⟩ := k_oneS he9 hP hD hk1 hP1
  generalize H1 = H at hP hS ⊢
  refine W.widen (k := 0) (n := 0) (Nat.le_refl _) (Nat.le_refl _) ?_
  obtain ⟨C1, eC1, hg1, hh1, hq⟩ := k_lc (C := C0) hq rfl rfl
  rw [cW_F9, ← eC1] at hP hD
  have hP : va_P D vwCl (cW cI cJ cO h xa ea0 pa0 C1) _ := hP
  have hD : va_D A (cW cI cJ cO h xa ea0 pa0 C1) := hD
  refine lv_iconst (v := 0) hx hb dX3_countBegunOfClasses_8 (by decide) ?_
  refine lv_istore_n (lv' := [(1, .int 0), (0, .ref h)]) hx hb dX3_countBegunOfClasses_9 rfl hl (by decide) rfl (fun ls hl => ?_)
  exact B10  200 (0 : Int32) C1  _ _ _ hq (by show (gN C1 = gN C0 ∧ gE C1 = gE C0); omega) hP hD hS (lv_sub hl [1, 0] rfl)
set_option maxRecDepth 100000 in
theorem kw_X3_beginWaiting__fieldLink_RX3_102_ActHouse_actCount_I_ : (.fieldLink RX3 102 "ActHouse" "actCount" "I" : Cond) ∈ wsX3_beginWaiting := by decide +kernel
set_option maxRecDepth 100000 in
theorem kin_X3_beginWaiting_X3 : ∀ w ∈ u_ws RX3 TX3 18, w ∈ wsX3_beginWaiting := by decide +kernel
set_option maxRecDepth 100000 in
theorem kw_X3_beginWaiting__fieldLink_RX3_27_ActHouse_acts_LActHouse_Act_ : (.fieldLink RX3 27 "ActHouse" "acts" "[LActHouse$Act;" : Cond) ∈ wsX3_beginWaiting := by decide +kernel
set_option maxRecDepth 100000 in
theorem kw_X3_beginWaiting__fieldLink_RX3_31_ActHouse_order_I_ : (.fieldLink RX3 31 "ActHouse" "order" "[I" : Cond) ∈ wsX3_beginWaiting := by decide +kernel
set_option maxRecDepth 100000 in
theorem kw_X3_beginWaiting__fieldLink_RX3_13_ActHouse_programLengths_I_ : (.fieldLink RX3 13 "ActHouse" "programLengths" "[I" : Cond) ∈ wsX3_beginWaiting := by decide +kernel
set_option maxRecDepth 100000 in
theorem kw_X3_beginWaiting__fieldLink_RX3_120_ActHouse_Act_program_I_ : (.fieldLink RX3 120 "ActHouse$Act" "program" "I" : Cond) ∈ wsX3_beginWaiting := by decide +kernel
set_option maxRecDepth 100000 in
theorem kin_X3_beginWaiting_X0 : ∀ w ∈ u_ws RX0 TX0 20, w ∈ wsX3_beginWaiting := by decide +kernel
set_option maxRecDepth 100000 in
theorem kw_X3_beginWaiting__fieldLink_RX3_117_ActHouse_Act_state_I_ : (.fieldLink RX3 117 "ActHouse$Act" "state" "I" : Cond) ∈ wsX3_beginWaiting := by decide +kernel
set_option maxRecDepth 100000 in
theorem kw_X3_beginWaiting__fieldLink_RX3_40_ActHouse_begunOfClass_I_ : (.fieldLink RX3 40 "ActHouse" "begunOfClass" "[I" : Cond) ∈ wsX3_beginWaiting := by decide +kernel
set_option maxRecDepth 100000 in
theorem kw_X3_beginWaiting__fieldLink_RX3_123_ActHouse_Act_kind_I_ : (.fieldLink RX3 123 "ActHouse$Act" "kind" "I" : Cond) ∈ wsX3_beginWaiting := by decide +kernel
set_option maxRecDepth 100000 in
theorem kw_X3_beginWaiting__fieldLink_RX3_16_ActHouse_limits_I_ : (.fieldLink RX3 16 "ActHouse" "limits" "[I" : Cond) ∈ wsX3_beginWaiting := by decide +kernel
set_option maxRecDepth 100000 in
theorem kw_X3_beginWaiting__fieldLink_RX3_9_ActHouse_programSteps_I_ : (.fieldLink RX3 9 "ActHouse" "programSteps" "[I" : Cond) ∈ wsX3_beginWaiting := by decide +kernel
set_option maxRecDepth 100000 in
theorem kw_X3_beginWaiting__fieldLink_RX3_79_ActHouse_now_I_ : (.fieldLink RX3 79 "ActHouse" "now" "I" : Cond) ∈ wsX3_beginWaiting := by decide +kernel
set_option maxRecDepth 100000 in
theorem kw_X3_beginWaiting__fieldLink_RX3_46_ActHouse_book_LActHouse_LogBook_ : (.fieldLink RX3 46 "ActHouse" "book" "LActHouse$LogBook;" : Cond) ∈ wsX3_beginWaiting := by decide +kernel
def f_X3_beginWaiting_114 (K6 : Int32 → CS → Option (Int32 × CS)) (v1 : Int32)  (C : CS) : Option (Int32 × CS) := K6 (v1 + 1) C
def f_X3_beginWaiting_6  : Nat → Int32 → CS → Option (Int32 × CS)
  | 0, _, _ => none
  | k + 1, v1, C => (if (C.1 12) ≤ v1 then some ((0 : Int32), C) else (if 0 ≤ v1.toInt ∧ v1.toInt < 80 then (if (0 ≤ ((C.2.1 6) v1.toNatClampNeg).toInt ∧ ((C.2.1 6) v1.toNatClampNeg).toInt < 80) ∧ ((C.2.1 6) v1.toNatClampNeg).toNatClampNeg < gN C then (if 0 ≤ (gP C (((C.2.1 6) v1.toNatClampNeg).toNatClampNeg) 0).toInt ∧ (gP C (((C.2.1 6) v1.toNatClampNeg).toNatClampNeg) 0).toInt < 8 then (if (gP C (((C.2.1 6) v1.toNatClampNeg).toNatClampNeg) 12) = 0 then (if ((C.2.1 1) (gP C (((C.2.1 6) v1.toNatClampNeg).toNatClampNeg) 0).toNatClampNeg) ≤ 0 then f_X3_beginWaiting_114 (fun (v1 : Int32) (C : CS) => f_X3_beginWaiting_6  k v1 C) v1 C else (if 0 ≤ (gP C (((C.2.1 6) v1.toNatClampNeg).toNatClampNeg) 1).toInt ∧ (gP C (((C.2.1 6) v1.toNatClampNeg).toNatClampNeg) 1).toInt < 4 then (if ((C.2.1 2) (gP C (((C.2.1 6) v1.toNatClampNeg).toNatClampNeg) 1).toNatClampNeg) ≤ ((C.2.1 9) (gP C (((C.2.1 6) v1.toNatClampNeg).toNatClampNeg) 1).toNatClampNeg) then f_X3_beginWaiting_114 (fun (v1 : Int32) (C : CS) => f_X3_beginWaiting_6  k v1 C) v1 C else (k_bind (f_X0_begin (((C.2.1 6) v1.toNatClampNeg).toNatClampNeg) ((C.2.1 1) (gP C (((C.2.1 6) v1.toNatClampNeg).toNatClampNeg) 0).toNatClampNeg) (C.1 15) C) fun r10 C10 => (if 0 ≤ (gP C10 (((C.2.1 6) v1.toNatClampNeg).toNatClampNeg) 1).toInt ∧ (gP C10 (((C.2.1 6) v1.toNatClampNeg).toNatClampNeg) 1).toInt < 4 then (k_let (cAF C10 9 (upd (C10.2.1 9) ((gP C10 (((C.2.1 6) v1.toNatClampNeg).toNatClampNeg) 1).toNatClampNeg) (((C10.2.1 9) (gP C10 (((C.2.1 6) v1.toNatClampNeg).toNatClampNeg) 1).toNatClampNeg) + 1))) fun C12 => (k_bind (f_X1_write (0 : Int32) ((C12.2.1 6) v1.toNatClampNeg) ((-1) : Int32) (C12.1 15) C12) fun r13 C13 => f_X3_beginWaiting_114 (fun (v1 : Int32) (C : CS) => f_X3_beginWaiting_6  k v1 C) v1 C13)) else none))) else none)) else f_X3_beginWaiting_114 (fun (v1 : Int32) (C : CS) => f_X3_beginWaiting_6  k v1 C) v1 C) else none) else none) else none))
def f_X3_beginWaiting  (C0 : CS) : Option (Int32 × CS) := (k_bind (f_X3_countBegunOfClasses C0) fun r1 C1 => f_X3_beginWaiting_6  200 (0 : Int32) C1)
set_option maxHeartbeats 4000000 in
set_option maxRecDepth 100000 in
theorem c_X3_beginWaiting {l : Launch} {D : va_G} {hp : Heap} {cI cJ cO : ClassId} {h : Nat} {xa : Nat → Nat} {ea0 : Nat} {pa0 : Nat → Nat → Nat} {C0 C' : CS} { r' : Int32} (hg : gN C0 ≤ 80 ∧ gE C0 ≤ 1048576) (hf : f_X3_beginWaiting  C0 = some (r', C')) : Met l yX3_beginWaiting wsX3_beginWaiting ({ frames := 3, cells := 7 * (80 - gN C0) + (1048576 - gE C0) / 256, slots := 108 * (80 - gN C0) + 2 * (1048576 - gE C0), locals := 86 }) (va_Pc [.ref h] (k_PreH D [(cI, .int), (cO, .object RX0), (cJ, .long)] (cW cI cJ cO h xa ea0 pa0 C0) hp)) (va_Qv (fun (u : va_W × List (ClassId × FieldType)) => ∃ (ea' : Nat) (pa' : Nat → Nat → Nat), u = (cW cI cJ cO h xa ea' pa' C', [(cI, .int), (cO, .object RX0), (cJ, .long)]) ∧ (gN C0 ≤ gN C' ∧ gN C' ≤ 80 ∧ gE C0 ≤ gE C' ∧ gE C' ≤ 1048576) ∧ ∀ n, n < gN C0 → pa' n = pa0 n) (k_BM D (va_A (cW cI cJ cO h xa ea0 pa0 C0) hp.size) hp (7 * (gN C' - gN C0) + (gE C' - gE C0) / 256) (108 * (gN C' - gN C0) + 2 * (gE C' - gE C0))) (va_A (cW cI cJ cO h xa ea0 pa0 C0) hp.size)) (7 * (80 - gN C0) + (1048576 - gE C0) / 256) (108 * (80 - gN C0) + 2 * (1048576 - gE C0)) (va_A (cW cI cJ cO h xa ea0 pa0 C0) hp.size) := by
  refine Met.ofW (cc := cX3_beginWaiting) (maxL := 4) (ret := none) (by decide) rfl ?_
  intro p e s m args below meth c s₁ B hml hv
  obtain ⟨rfl, hsz, hP, hK, hD0⟩ := hv
  have hx := B.exec
  have hb := B.bytes
  have hr := B.returns
  have hts := atoms_spec (ws := wsX3_beginWaiting) B.pre
  have hown : s.vm.findClass RX3 = some m.cls := findClass_of_methodNamed B.named
  have hlocks := B.notSynchronized
  have hsz : s.heap = hp := hsz
  subst hsz
  have hD := hD0.self (sz := s.heap.size)
  generalize hAe : va_A (cW cI cJ cO h xa ea0 pa0 C0) s.heap.size = A at hD ⊢
  have hA : ∀ q : Nat, s.heap.size ≤ q → A q := fun q h => by rw [← hAe]; exact Or.inr h
  have hS : va_S A s.heap s.heap [] := va_S.rf
  have hl := lv_entry ([.ref h]) (n := 4) (Nat.le_of_ble_eq_true rfl)
  rw [lg_entry_eq]
  generalize (lg_sl ([.ref h]) ++ List.replicate (4 - (lg_sl ([.ref h])).length) Slot.unset).toArray = ls at hl ⊢
  have hl : lv_has ls 4 [(0, .ref h)] := hl
  refine k_Q (fun Q hQ => ?_)
  have B114 : ∀ (K6 : Int32 → CS → Option (Int32 × CS)) (hK6 : ∀ (v1 : Int32)  (C : CS) (ea : Nat) (pa : Nat → Nat → Nat) (H : Heap) (locs : List Loc) (ls : Array Slot), K6 v1 C = some (r', C') → (gN C0 ≤ gN C ∧ gN C ≤ 80 ∧ gE C0 ≤ gE C ∧ gE C ≤ 1048576) → (∀ n, n < gN C0 → pa n = pa0 n) → va_P D vwCl (cW cI cJ cO h xa ea pa C) H → va_D A (cW cI cJ cO h xa ea pa C) → va_S A s.heap H locs → lv_has ls 4 [(0, .ref h), (1, .int v1)] → W p l e (headSpec wsX3_beginWaiting ({ frames := 3, cells := 7 * (80 - gN C0) + (1048576 - gE C0) / 256, slots := 108 * (80 - gN C0) + 2 * (1048576 - gE C0), locals := 86 })).room s m ([.ref h] : List Value).toArray below meth c H locs ((7 * (gN C - gN C0) + (gE C - gE C0) / 256)) ((108 * (gN C - gN C0) + 2 * (gE C - gE C0))) Q (F0 m 6 ls [])), ∀ (v1 : Int32)  (C : CS) (ea : Nat) (pa : Nat → Nat → Nat) (H : Heap) (locs : List Loc) (ls : Array Slot), f_X3_beginWaiting_114 K6 v1 C = some (r', C') → (gN C0 ≤ gN C ∧ gN C ≤ 80 ∧ gE C0 ≤ gE C ∧ gE C ≤ 1048576) → (∀ n, n < gN C0 → pa n = pa0 n) → va_P D vwCl (cW cI cJ cO h xa ea pa C) H → va_D A (cW cI cJ cO h xa ea pa C) → va_S A s.heap H locs → lv_has ls 4 [(0, .ref h), (1, .int v1)] → W p l e (headSpec wsX3_beginWaiting ({ frames := 3, cells := 7 * (80 - gN C0) + (1048576 - gE C0) / 256, slots := 108 * (80 - gN C0) + 2 * (1048576 - gE C0), locals := 86 })).room s m ([.ref h] : List Value).toArray below meth c H locs ((7 * (gN C - gN C0) + (gE C - gE C0) / 256)) ((108 * (gN C - gN C0) + 2 * (gE C - gE C0))) Q (F0 m 114 ls []) := by
    intro K6 hK6
    intro v1  C ea pa H locs ls hq hg hpa  hP hD hS hl
    rw [f_X3_beginWaiting_114] at hq
    refine lv_iinc (v := v1 + 1) (lv' := [(1, .int (v1 + 1)), (0, .ref h)]) hx hb dX3_beginWaiting_114 hl (k := 1) rfl (by rfl) (by decide) rfl (fun ls hl => ?_)
    refine lv_goto (tgt := 6) hx hb dX3_beginWaiting_117 (by decide) ?_
    exact hK6 (v1 + 1) C ea pa _ _ _ hq (by show (gN C0 ≤ gN C ∧ gN C ≤ 80 ∧ gE C0 ≤ gE C ∧ gE C ≤ 1048576); omega) hpa hP hD hS (lv_sub hl [1, 0] rfl)
  have B6 : ∀  (k : Nat), ∀ (v1 : Int32)  (C : CS) (ea : Nat) (pa : Nat → Nat → Nat) (H : Heap) (locs : List Loc) (ls : Array Slot), f_X3_beginWaiting_6  k v1 C = some (r', C') → (gN C0 ≤ gN C ∧ gN C ≤ 80 ∧ gE C0 ≤ gE C ∧ gE C ≤ 1048576) → (∀ n, n < gN C0 → pa n = pa0 n) → va_P D vwCl (cW cI cJ cO h xa ea pa C) H → va_D A (cW cI cJ cO h xa ea pa C) → va_S A s.heap H locs → lv_has ls 4 [(0, .ref h), (1, .int v1)] → W p l e (headSpec wsX3_beginWaiting ({ frames := 3, cells := 7 * (80 - gN C0) + (1048576 - gE C0) / 256, slots := 108 * (80 - gN C0) + 2 * (1048576 - gE C0), locals := 86 })).room s m ([.ref h] : List Value).toArray below meth c H locs ((7 * (gN C - gN C0) + (gE C - gE C0) / 256)) ((108 * (gN C - gN C0) + 2 * (gE C - gE C0))) Q (F0 m 6 ls []) := by
    intro  k
    induction k with
    | zero =>
      intro v1  C ea pa H locs ls hq hg hpa  hP hD hS hl
      exact absurd hq (by rw [f_X3_beginWaiting_6]; exact k_non)
    | succ k ih =>
      intro v1  C ea pa H locs ls hq hg hpa  hP hD hS hl
      rw [f_X3_beginWaiting_6] at hq
      refine lv_iload_n hx hb dX3_beginWaiting_6 rfl (lv_at hl 1 rfl) ?_
      refine lv_aload_n hx hb dX3_beginWaiting_7 rfl (lv_at hl 0 rfl) ?_
      refine va_get (D := D) (ci := 3) (v := .int (C.1 12)) (C := RX3) (T := TX3) (N := 18) hx hb hts kin_X3_beginWaiting_X3 hown hK hP 0 rfl rfl 12 (by decide) (hts _ kw_X3_beginWaiting__fieldLink_RX3_102_ActHouse_actCount_I_) (fun _ h9 => h9) rfl dX3_beginWaiting_8 ?_
      refine lv_icmp_ge (tgt := 120) hx hb dX3_beginWaiting_11 (by decide) (fun c2 => ?_) (fun c2 => ?_)
      · skip
        rw [if_pos c2] at hq
        obtain ⟨e2, e3⟩ := k_so hq
        subst hQ
        have hP : va_P D vwCl (cW cI cJ cO h xa ea pa C) _ := hP
        have hD : va_D A (cW cI cJ cO h xa ea pa C) := hD
        have hgE := congrArg (fun X : CS => gN X) e3
        have hgE : gN C = gN C' := hgE
        have hhE := congrArg (fun X : CS => gE X) e3
        have hhE : gE C = gE C' := hhE
        refine k_facts (fun hm1 hm2 hm3 => ?_)
        refine W.widen (k := 7 * (80 - gN C0) + (1048576 - gE C0) / 256) (n := 108 * (80 - gN C0) + 2 * (1048576 - gE C0)) (by omega) (by omega) ?_
        exact W.vret hx hb hr (fun t ht hW => ⟨⟨(cW cI cJ cO h xa ea pa C, [(cI, .int), (cO, .object RX0), (cJ, .long)]), rfl, ⟨ea, pa, (congrArg (fun X : CS => ((cW cI cJ cO h xa ea pa X, [(cI, .int), (cO, .object RX0), (cJ, .long)]) : va_W × List (ClassId × FieldType))) e3), (by show gN C0 ≤ gN C' ∧ gN C' ≤ 80 ∧ gE C0 ≤ gE C' ∧ gE C' ≤ 1048576; omega), hpa⟩, ⟨⟨by rw [ht]; exact hP, va_K.moved hW.alike hK, hD⟩, by rw [ht]; exact hm3, by rw [ht]; omega, by rw [ht]; omega⟩⟩, hS.F ht⟩) hS.2.2 dX3_beginWaiting_120
      · skip
        rw [if_neg c2] at hq
        refine lv_aload_n hx hb dX3_beginWaiting_14 rfl (lv_at hl 0 rfl) ?_
        refine va_get (D := D) (ci := 3) (v := .ref (xa 5)) (C := RX3) (T := TX3) (N := 18) hx hb hts kin_X3_beginWaiting_X3 hown hK hP 0 rfl rfl 5 (by decide) (hts _ kw_X3_beginWaiting__fieldLink_RX3_27_ActHouse_acts_LActHouse_Act_) (fun _ h9 => h9) rfl dX3_beginWaiting_15 ?_
        refine lv_aload_n hx hb dX3_beginWaiting_18 rfl (lv_at hl 0 rfl) ?_
        refine va_get (D := D) (ci := 3) (v := .ref (xa 6)) (C := RX3) (T := TX3) (N := 18) hx hb hts kin_X3_beginWaiting_X3 hown hK hP 0 rfl rfl 6 (by decide) (hts _ kw_X3_beginWaiting__fieldLink_RX3_31_ActHouse_order_I_) (fun _ h9 => h9) rfl dX3_beginWaiting_19 ?_
        refine lv_iload_n hx hb dX3_beginWaiting_22 rfl (lv_at hl 1 rfl) ?_
        obtain ⟨b3, hq⟩ := k_if hq
        refine va_iald hx hb hK hP 7 0 (f := (C.2.1 6)) rfl rfl (k_in b3.1 b3.2) dX3_beginWaiting_23 ?_
        obtain ⟨b4, hq⟩ := k_if hq
        refine va_aldq hx hb hK hP 6 1 (f := cActs pa (gN C)) rfl rfl (k_in b4.1.1 b4.1.2) dX3_beginWaiting_24 ?_
        refine W.eq (g2 := F0 m 25 ls [.ref (pa (((C.2.1 6) v1.toNatClampNeg).toNatClampNeg) 0)]) (by rw [cActs_lt b4.2]; rfl) ?_
        refine lv_astore_n (lv' := [(2, .ref (pa (((C.2.1 6) v1.toNatClampNeg).toNatClampNeg) 0)), (0, .ref h), (1, .int v1)]) hx hb dX3_beginWaiting_25 rfl hl (by decide) rfl (fun ls hl => ?_)
        refine lv_aload_n hx hb dX3_beginWaiting_26 rfl (lv_at hl 1 rfl) ?_
        refine va_get (D := D) (ci := 3) (v := .ref (xa 1)) (C := RX3) (T := TX3) (N := 18) hx hb hts kin_X3_beginWaiting_X3 hown hK hP 0 rfl rfl 1 (by decide) (hts _ kw_X3_beginWaiting__fieldLink_RX3_13_ActHouse_programLengths_I_) (fun _ h9 => h9) rfl dX3_beginWaiting_27 ?_
        refine lv_aload_n hx hb dX3_beginWaiting_30 rfl (lv_at hl 0 rfl) ?_
        refine va_get (D := D) (ci := 0) (v := .int (gP C (((C.2.1 6) v1.toNatClampNeg).toNatClampNeg) 0)) (C := RX0) (T := TX0) (N := 20) hx hb hts kin_X3_beginWaiting_X0 hown hK hP (16 + (7 * (((C.2.1 6) v1.toNatClampNeg).toNatClampNeg) + 0)) (cW_get (show ((C.2.1 6) v1.toNatClampNeg).toNatClampNeg < gN C from by omega) rfl) rfl 0 (by decide) (hts _ kw_X3_beginWaiting__fieldLink_RX3_120_ActHouse_Act_program_I_) (fun _ h9 => h9) rfl dX3_beginWaiting_31 ?_
        obtain ⟨b5, hq⟩ := k_if hq
        refine va_iald hx hb hK hP 2 0 (f := (C.2.1 1)) rfl rfl (k_in b5.1 b5.2) dX3_beginWaiting_34 ?_
        refine lv_istore_n (lv' := [(3, .int ((C.2.1 1) (gP C (((C.2.1 6) v1.toNatClampNeg).toNatClampNeg) 0).toNatClampNeg)), (2, .ref (pa (((C.2.1 6) v1.toNatClampNeg).toNatClampNeg) 0)), (0, .ref h), (1, .int v1)]) hx hb dX3_beginWaiting_35 rfl hl (by decide) rfl (fun ls hl => ?_)
        refine lv_aload_n hx hb dX3_beginWaiting_36 rfl (lv_at hl 1 rfl) ?_
        refine va_get (D := D) (ci := 0) (v := .int (gP C (((C.2.1 6) v1.toNatClampNeg).toNatClampNeg) 12)) (C := RX0) (T := TX0) (N := 20) hx hb hts kin_X3_beginWaiting_X0 hown hK hP (16 + (7 * (((C.2.1 6) v1.toNatClampNeg).toNatClampNeg) + 0)) (cW_get (show ((C.2.1 6) v1.toNatClampNeg).toNatClampNeg < gN C from by omega) rfl) rfl 12 (by decide) (hts _ kw_X3_beginWaiting__fieldLink_RX3_117_ActHouse_Act_state_I_) (fun _ h9 => h9) rfl dX3_beginWaiting_37 ?_
        refine lv_if_ne (tgt := 114) hx hb dX3_beginWaiting_40 (by decide) (fun c6 => ?_) (fun c6 => ?_)
        · skip
          rw [if_neg c6] at hq
          exact B114 (fun (v1 : Int32) (C : CS) => f_X3_beginWaiting_6  k v1 C) ih v1 C ea pa _ _ _ hq (by show (gN C0 ≤ gN C ∧ gN C ≤ 80 ∧ gE C0 ≤ gE C ∧ gE C ≤ 1048576); omega) hpa hP hD hS (lv_sub hl [2, 3] rfl)
        · skip
          rw [if_pos c6] at hq
          refine lv_iload_n hx hb dX3_beginWaiting_43 rfl (lv_at hl 0 rfl) ?_
          refine lv_if_le (tgt := 114) hx hb dX3_beginWaiting_44 (by decide) (fun c7 => ?_) (fun c7 => ?_)
          · skip
            rw [if_pos c7] at hq
            exact B114 (fun (v1 : Int32) (C : CS) => f_X3_beginWaiting_6  k v1 C) ih v1 C ea pa _ _ _ hq (by show (gN C0 ≤ gN C ∧ gN C ≤ 80 ∧ gE C0 ≤ gE C ∧ gE C ≤ 1048576); omega) hpa hP hD hS (lv_sub hl [2, 3] rfl)
          · skip
            rw [if_neg c7] at hq
            refine lv_aload_n hx hb dX3_beginWaiting_47 rfl (lv_at hl 2 rfl) ?_
            refine va_get (D := D) (ci := 3) (v := .ref (xa 9)) (C := RX3) (T := TX3) (N := 18) hx hb hts kin_X3_beginWaiting_X3 hown hK hP 0 rfl rfl 9 (by decide) (hts _ kw_X3_beginWaiting__fieldLink_RX3_40_ActHouse_begunOfClass_I_) (fun _ h9 => h9) rfl dX3_beginWaiting_48 ?_
            refine lv_aload_n hx hb dX3_beginWaiting_51 rfl (lv_at hl 1 rfl) ?_
            refine va_get (D := D) (ci := 0) (v := .int (gP C (((C.2.1 6) v1.toNatClampNeg).toNatClampNeg) 1)) (C := RX0) (T := TX0) (N := 20) hx hb hts kin_X3_beginWaiting_X0 hown hK hP (16 + (7 * (((C.2.1 6) v1.toNatClampNeg).toNatClampNeg) + 0)) (cW_get (show ((C.2.1 6) v1.toNatClampNeg).toNatClampNeg < gN C from by omega) rfl) rfl 1 (by decide) (hts _ kw_X3_beginWaiting__fieldLink_RX3_123_ActHouse_Act_kind_I_) (fun _ h9 => h9) rfl dX3_beginWaiting_52 ?_
            obtain ⟨b8, hq⟩ := k_if hq
            refine va_iald hx hb hK hP 10 0 (f := (C.2.1 9)) rfl rfl (k_in b8.1 b8.2) dX3_beginWaiting_55 ?_
            refine lv_aload_n hx hb dX3_beginWaiting_56 rfl (lv_at hl 2 rfl) ?_
            refine va_get (D := D) (ci := 3) (v := .ref (xa 2)) (C := RX3) (T := TX3) (N := 18) hx hb hts kin_X3_beginWaiting_X3 hown hK hP 0 rfl rfl 2 (by decide) (hts _ kw_X3_beginWaiting__fieldLink_RX3_16_ActHouse_limits_I_) (fun _ h9 => h9) rfl dX3_beginWaiting_57 ?_
            refine lv_aload_n hx hb dX3_beginWaiting_60 rfl (lv_at hl 1 rfl) ?_
            refine va_get (D := D) (ci := 0) (v := .int (gP C (((C.2.1 6) v1.toNatClampNeg).toNatClampNeg) 1)) (C := RX0) (T := TX0) (N := 20) hx hb hts kin_X3_beginWaiting_X0 hown hK hP (16 + (7 * (((C.2.1 6) v1.toNatClampNeg).toNatClampNeg) + 0)) (cW_get (show ((C.2.1 6) v1.toNatClampNeg).toNatClampNeg < gN C from by omega) rfl) rfl 1 (by decide) (hts _ kw_X3_beginWaiting__fieldLink_RX3_123_ActHouse_Act_kind_I_) (fun _ h9 => h9) rfl dX3_beginWaiting_61 ?_
            refine va_iald hx hb hK hP 3 0 (f := (C.2.1 2)) rfl rfl (k_in b8.1 b8.2) dX3_beginWaiting_64 ?_
            refine lv_icmp_ge (tgt := 114) hx hb dX3_beginWaiting_65 (by decide) (fun c9 => ?_) (fun c9 => ?_)
            · skip
              rw [if_pos c9] at hq
              exact B114 (fun (v1 : Int32) (C : CS) => f_X3_beginWaiting_6  k v1 C) ih v1 C ea pa _ _ _ hq (by show (gN C0 ≤ gN C ∧ gN C ≤ 80 ∧ gE C0 ≤ gE C ∧ gE C ≤ 1048576); omega) hpa hP hD hS (lv_sub hl [2, 3] rfl)
            · skip
              rw [if_neg c9] at hq
              refine lv_aload_n hx hb dX3_beginWaiting_68 rfl (lv_at hl 1 rfl) ?_
              refine lv_aload_n hx hb dX3_beginWaiting_69 rfl (lv_at hl 2 rfl) ?_
              refine va_get (D := D) (ci := 3) (v := .ref (xa 0)) (C := RX3) (T := TX3) (N := 18) hx hb hts kin_X3_beginWaiting_X3 hown hK hP 0 rfl rfl 0 (by decide) (hts _ kw_X3_beginWaiting__fieldLink_RX3_9_ActHouse_programSteps_I_) (fun _ h9 => h9) rfl dX3_beginWaiting_70 ?_
              refine lv_iload_n hx hb dX3_beginWaiting_73 rfl (lv_at hl 0 rfl) ?_
              refine lv_aload_n hx hb dX3_beginWaiting_74 rfl (lv_at hl 2 rfl) ?_
              refine va_get (D := D) (ci := 3) (v := .int (C.1 15)) (C := RX3) (T := TX3) (N := 18) hx hb hts kin_X3_beginWaiting_X3 hown hK hP 0 rfl rfl 15 (by decide) (hts _ kw_X3_beginWaiting__fieldLink_RX3_79_ActHouse_now_I_) (fun _ h9 => h9) rfl dX3_beginWaiting_75 ?_
              obtain ⟨r10, C10, h10, hq⟩ := k_bd hq
              have hFc := k_free hD hS hA
              refine va_callv (va_runV (As := [.ref (xa 0), .int ((C.2.1 1) (gP C (((C.2.1 6) v1.toNatClampNeg).toNatClampNeg) 0).toNatClampNeg), .int (C.1 15)]) (rest := []) ⟨hx, hb, hml, hown, hts⟩ (c_X0_begin (l := l) (D := D) (cI := cI) (cJ := cJ) (cO := cO) (h := h) (xa := xa) (ea0 := ea) (pa0 := pa)  (hn0 := by show ((C.2.1 6) v1.toNatClampNeg).toNatClampNeg < gN C; omega) (hf := h10)) (cwV 3 hts gX3_beginWaiting_X0_begin rfl rfl rfl (by decide +kernel) ⟨Nat.le_of_ble_eq_true rfl, Nat.le_of_ble_eq_true rfl⟩) ⟨k_blind, va_recv hK hP (ci := 0) (q0 := (16 + (7 * (((C.2.1 6) v1.toNatClampNeg).toNatClampNeg) + 0))) rfl (cW_get (show ((C.2.1 6) v1.toNatClampNeg).toNatClampNeg < gN C from by omega) rfl), fun U hU hW => ⟨rfl, k_pre hU hW hP hK hD⟩⟩ rfl rfl hl.1 rfl (lv_room (Nat.le_of_ble_eq_true rfl)) dX3_beginWaiting_78 ⟨by show (7 * (gN C - gN C0) + (gE C - gE C0) / 256) + 0 ≤ 7 * (80 - gN C0) + (1048576 - gE C0) / 256; omega, by show (108 * (gN C - gN C0) + 2 * (gE C - gE C0)) + 0 ≤ 108 * (80 - gN C0) + 2 * (1048576 - gE C0); omega⟩) hS (fun q _ h => hFc q h) hFc (fun u t H1 locs ht hvm hw hB hz1 hk1 hS => ?_)
              obtain ⟨rfl, hg10, hh10⟩ := hw
              have hg10 : gN C10 = gN C := hg10
              have hh10 : gE C10 = gE C := hh10
              refine W.widen (k := (7 * (gN C10 - gN C0) + (gE C10 - gE C0) / 256)) (n := (108 * (gN C10 - gN C0) + 2 * (gE C10 - gE C0))) (by omega) (by omega) ?_
              obtain ⟨hP1, hK1, hD1⟩ := hB
              rw [ht] at hP1
              have hP := hP1
              have hD := k_weak hD1 hFc
              generalize H1 = H at hP hS ⊢
              have hP : va_P D vwCl (cW cI cJ cO h xa ea pa C10) _ := hP
              have hD : va_D A (cW cI cJ cO h xa ea pa C10) := hD
              refine lv_aload_n hx hb dX3_beginWaiting_81 rfl (lv_at hl 2 rfl) ?_
              refine va_get (D := D) (ci := 3) (v := .ref (xa 9)) (C := RX3) (T := TX3) (N := 18) hx hb hts kin_X3_beginWaiting_X3 hown hK hP 0 rfl rfl 9 (by decide) (hts _ kw_X3_beginWaiting__fieldLink_RX3_40_ActHouse_begunOfClass_I_) (fun _ h9 => h9) rfl dX3_beginWaiting_82 ?_
              refine lv_aload_n hx hb dX3_beginWaiting_85 rfl (lv_at hl 1 rfl) ?_
              refine va_get (D := D) (ci := 0) (v := .int (gP C10 (((C.2.1 6) v1.toNatClampNeg).toNatClampNeg) 1)) (C := RX0) (T := TX0) (N := 20) hx hb hts kin_X3_beginWaiting_X0 hown hK hP (16 + (7 * (((C.2.1 6) v1.toNatClampNeg).toNatClampNeg) + 0)) (cW_get (show ((C.2.1 6) v1.toNatClampNeg).toNatClampNeg < gN C10 from by omega) rfl) rfl 1 (by decide) (hts _ kw_X3_beginWaiting__fieldLink_RX3_123_ActHouse_Act_kind_I_) (fun _ h9 => h9) rfl dX3_beginWaiting_86 ?_
              refine lv_dup2_11 hx hb dX3_beginWaiting_89 rfl rfl ?_
              obtain ⟨b11, hq⟩ := k_if hq
              refine va_iald hx hb hK hP 10 0 (f := (C10.2.1 9)) rfl rfl (k_in b11.1 b11.2) dX3_beginWaiting_90 ?_
              refine lv_iconst (v := 1) hx hb dX3_beginWaiting_91 (by decide) ?_
              refine lv_iadd hx hb dX3_beginWaiting_92 ?_
              refine va_iast hx hb hK hP hD hS 10 0 (f := (C10.2.1 9)) rfl rfl (x := (((C10.2.1 9) (gP C10 (((C.2.1 6) v1.toNatClampNeg).toNatClampNeg) 1).toNatClampNeg) + 1)) (k_in b11.1 b11.2) dX3_beginWaiting_93 (fun H locs hP hD hS => ?_)
              obtain ⟨C12, eC12, hg12, hh12, hq⟩ := k_lc (C := C10) hq rfl rfl
              rw [cW_F9, ← eC12] at hP hD
              have hP : va_P D vwCl (cW cI cJ cO h xa ea pa C12) _ := hP
              have hD : va_D A (cW cI cJ cO h xa ea pa C12) := hD
              refine W.widen (k := (7 * (gN C12 - gN C0) + (gE C12 - gE C0) / 256)) (n := (108 * (gN C12 - gN C0) + 2 * (gE C12 - gE C0))) (by omega) (by omega) ?_
              refine lv_aload_n hx hb dX3_beginWaiting_94 rfl (lv_at hl 2 rfl) ?_
              refine va_get (D := D) (ci := 3) (v := .ref (xa 10)) (C := RX3) (T := TX3) (N := 18) hx hb hts kin_X3_beginWaiting_X3 hown hK hP 0 rfl rfl 10 (by decide) (hts _ kw_X3_beginWaiting__fieldLink_RX3_46_ActHouse_book_LActHouse_LogBook_) (fun _ h9 => h9) rfl dX3_beginWaiting_95 ?_
              refine lv_iconst (v := 0) hx hb dX3_beginWaiting_98 (by decide) ?_
              refine lv_aload_n hx hb dX3_beginWaiting_99 rfl (lv_at hl 2 rfl) ?_
              refine va_get (D := D) (ci := 3) (v := .ref (xa 6)) (C := RX3) (T := TX3) (N := 18) hx hb hts kin_X3_beginWaiting_X3 hown hK hP 0 rfl rfl 6 (by decide) (hts _ kw_X3_beginWaiting__fieldLink_RX3_31_ActHouse_order_I_) (fun _ h9 => h9) rfl dX3_beginWaiting_100 ?_
              refine lv_iload_n hx hb dX3_beginWaiting_103 rfl (lv_at hl 3 rfl) ?_
              refine va_iald hx hb hK hP 7 0 (f := (C12.2.1 6)) rfl rfl (k_in b3.1 b3.2) dX3_beginWaiting_104 ?_
              refine lv_iconst (v := (-1)) hx hb dX3_beginWaiting_105 (by decide) ?_
              refine lv_aload_n hx hb dX3_beginWaiting_106 rfl (lv_at hl 2 rfl) ?_
              refine va_get (D := D) (ci := 3) (v := .int (C12.1 15)) (C := RX3) (T := TX3) (N := 18) hx hb hts kin_X3_beginWaiting_X3 hown hK hP 0 rfl rfl 15 (by decide) (hts _ kw_X3_beginWaiting__fieldLink_RX3_79_ActHouse_now_I_) (fun _ h9 => h9) rfl dX3_beginWaiting_107 ?_
              obtain ⟨q13, C13, h13, hq⟩ := k_bd hq
              have hFc := k_free hD hS hA
              refine k_facts (fun hn1 hn2 hn3 => ?_)
              refine va_calli (va_runV (As := [.int 0, .int ((C12.2.1 6) v1.toNatClampNeg), .int (-1), .int (C12.1 15)]) (rest := []) ⟨hx, hb, hml, hown, hts⟩ (c_X1_write (l := l) (D := D) (cI := cI) (cJ := cJ) (cO := cO) (h := h) (xa := xa) (ea0 := ea) (pa0 := pa)  (hg := by show gN C12 ≤ 80 ∧ gE C12 ≤ 1048576; omega) (hf := h13)) (cwV 4 hts gX3_beginWaiting_X1_write rfl rfl rfl (by decide +kernel) ⟨Nat.le_of_ble_eq_true rfl, Nat.le_of_ble_eq_true rfl⟩) ⟨k_blindH, va_recv hK hP (ci := 1) (q0 := 11) rfl rfl, fun U hU hW => ⟨rfl, k_preH hU hW hP hK hD⟩⟩ rfl rfl hl.1 rfl (lv_room (Nat.le_of_ble_eq_true rfl)) dX3_beginWaiting_110 ⟨by show (7 * (gN C12 - gN C0) + (gE C12 - gE C0) / 256) + (7 * (80 - gN C12) + (1048576 - gE C12) / 256) ≤ 7 * (80 - gN C0) + (1048576 - gE C0) / 256; omega, by show (108 * (gN C12 - gN C0) + 2 * (gE C12 - gE C0)) + (108 * (80 - gN C12) + 2 * (1048576 - gE C12)) ≤ 108 * (80 - gN C0) + 2 * (1048576 - gE C0); omega⟩) hS (fun q _ h => hFc q h) hFc (fun r13 u t H1 locs ht hvm hw hB hz1 hk1 hS => ?_)
              obtain ⟨ea13, pa13, rfl, rfl, hg13, hp13⟩ := hw
              have hg13 : gN C12 ≤ gN C13 ∧ gN C13 ≤ 80 ∧ gE C12 ≤ gE C13 ∧ gE C13 ≤ 1048576 := hg13
              have hpa : ∀ n, n < gN C0 → pa13 n = pa0 n := fun n hn => (hp13 n (by show n < gN C12; omega)).trans (hpa n hn)
              obtain ⟨hB, hz2, hz3, hz4⟩ := hB
              rw [ht] at hz2 hz3 hz4
              refine k_tight (k := (7 * (gN C13 - gN C0) + (gE C13 - gE C0) / 256)) (n := (108 * (gN C13 - gN C0) + 2 * (gE C13 - gE C0))) (by omega) (by rw [k_nS_tr hn3.1 hz2]; omega) ?_
              have hl : lv_has ls 4 [(3, .int ((C.2.1 1) (gP C (((C.2.1 6) v1.toNatClampNeg).toNatClampNeg) 0).toNatClampNeg)), (2, .ref (pa13 (((C.2.1 6) v1.toNatClampNeg).toNatClampNeg) 0)), (0, .ref h), (1, .int v1)] := by rw [hp13 (((C.2.1 6) v1.toNatClampNeg).toNatClampNeg) (by show ((C.2.1 6) v1.toNatClampNeg).toNatClampNeg < gN C12; omega)]; exact hl
              obtain ⟨hP1, hK1, hD1⟩ := hB
              rw [ht] at hP1
              have hP := hP1
              have hD := k_weak hD1 hFc
              generalize H1 = H at hP hS ⊢
              have hP : va_P D vwCl (cW cI cJ cO h xa ea13 pa13 C13) _ := hP
              have hD : va_D A (cW cI cJ cO h xa ea13 pa13 C13) := hD
              refine lv_pop hx hb dX3_beginWaiting_113 rfl ?_
              exact B114 (fun (v1 : Int32) (C : CS) => f_X3_beginWaiting_6  k v1 C) ih v1 C13 ea13 pa13 _ _ _ hq (by show (gN C0 ≤ gN C13 ∧ gN C13 ≤ 80 ∧ gE C0 ≤ gE C13 ∧ gE C13 ≤ 1048576); omega) hpa hP hD hS (lv_sub hl [2, 3] rfl)
  refine W.widen (k := (7 * (gN C0 - gN C0) + (gE C0 - gE C0) / 256)) (n := (108 * (gN C0 - gN C0) + 2 * (gE C0 - gE C0))) (by omega) (by omega) ?_
  have hpa : ∀ n, n < gN C0 → pa0 n = pa0 n := fun _ _ => rfl
  have hq := hf
  rw [f_X3_beginWaiting] at hq
  refine lv_aload_n hx hb dX3_beginWaiting_0 rfl (lv_at hl 0 rfl) ?_
  obtain ⟨r1, C1, h1, hq⟩ := k_bd hq
  have hFc := k_free hD hS hA
  refine va_callv (va_runV (As := []) (rest := []) ⟨hx, hb, hml, hown, hts⟩ (c_X3_countBegunOfClasses (l := l) (D := D) (cI := cI) (cJ := cJ) (cO := cO) (h := h) (xa := xa) (ea0 := ea0) (pa0 := pa0)  (hf := h1)) (cwV 0 hts gX3_beginWaiting_X3_countBegunOfClasses rfl rfl rfl (by decide +kernel) ⟨Nat.le_of_ble_eq_true rfl, Nat.le_of_ble_eq_true rfl⟩) ⟨k_blind, va_recv hK hP (ci := 3) (q0 := 0) rfl rfl, fun U hU hW => ⟨rfl, k_pre hU hW hP hK hD⟩⟩ rfl rfl hl.1 rfl (lv_room (Nat.le_of_ble_eq_true rfl)) dX3_beginWaiting_1 ⟨by show (7 * (gN C0 - gN C0) + (gE C0 - gE C0) / 256) + 0 ≤ 7 * (80 - gN C0) + (1048576 - gE C0) / 256; omega, by show (108 * (gN C0 - gN C0) + 2 * (gE C0 - gE C0)) + 0 ≤ 108 * (80 - gN C0) + 2 * (1048576 - gE C0); omega⟩) hS (fun q _ h => hFc q h) hFc (fun u t H1 locs ht hvm hw hB hz1 hk1 hS => ?_)
  obtain ⟨rfl, hg1, hh1⟩ := hw
  have hg1 : gN C1 = gN C0 := hg1
  have hh1 : gE C1 = gE C0 := hh1
  refine W.widen (k := (7 * (gN C1 - gN C0) + (gE C1 - gE C0) / 256)) (n := (108 * (gN C1 - gN C0) + 2 * (gE C1 - gE C0))) (by omega) (by omega) ?_
  obtain ⟨hP1, hK1, hD1⟩ := hB
  rw [ht] at hP1
  have hP := hP1
  have hD := k_weak hD1 hFc
  generalize H1 = H at hP hS ⊢
  have hP : va_P D vwCl (cW cI cJ cO h xa ea0 pa0 C1) _ := hP
  have hD : va_D A (cW cI cJ cO h xa ea0 pa0 C1) := hD
  refine lv_iconst (v := 0) hx hb dX3_beginWaiting_4 (by decide) ?_
  refine lv_istore_n (lv' := [(1, .int 0), (0, .ref h)]) hx hb dX3_beginWaiting_5 rfl hl (by decide) rfl (fun ls hl => ?_)
  exact B6  200 (0 : Int32) C1 ea0 pa0 _ _ _ hq (by show (gN C0 ≤ gN C1 ∧ gN C1 ≤ 80 ∧ gE C0 ≤ gE C1 ∧ gE C1 ≤ 1048576); omega) hpa hP hD hS (lv_sub hl [1, 0] rfl)
set_option maxRecDepth 100000 in
theorem kw_X3_answerDone__fieldLink_RX3_46_ActHouse_book_LActHouse_LogBook_ : (.fieldLink RX3 46 "ActHouse" "book" "LActHouse$LogBook;" : Cond) ∈ wsX3_answerDone := by decide +kernel
set_option maxRecDepth 100000 in
theorem kin_X3_answerDone_X3 : ∀ w ∈ u_ws RX3 TX3 18, w ∈ wsX3_answerDone := by decide +kernel
set_option maxRecDepth 100000 in
theorem kw_X3_answerDone__fieldLink_RX3_154_ActHouse_doneCount_I_ : (.fieldLink RX3 154 "ActHouse" "doneCount" "I" : Cond) ∈ wsX3_answerDone := by decide +kernel
set_option maxRecDepth 100000 in
theorem kw_X3_answerDone__fieldLink_RX3_27_ActHouse_acts_LActHouse_Act_ : (.fieldLink RX3 27 "ActHouse" "acts" "[LActHouse$Act;" : Cond) ∈ wsX3_answerDone := by decide +kernel
set_option maxRecDepth 100000 in
theorem kw_X3_answerDone__fieldLink_RX3_34_ActHouse_doneRow_I_ : (.fieldLink RX3 34 "ActHouse" "doneRow" "[I" : Cond) ∈ wsX3_answerDone := by decide +kernel
set_option maxRecDepth 100000 in
theorem kw_X3_answerDone__fieldLink_RX3_117_ActHouse_Act_state_I_ : (.fieldLink RX3 117 "ActHouse$Act" "state" "I" : Cond) ∈ wsX3_answerDone := by decide +kernel
set_option maxRecDepth 100000 in
theorem kin_X3_answerDone_X0 : ∀ w ∈ u_ws RX0 TX0 20, w ∈ wsX3_answerDone := by decide +kernel
def f_X3_answerDone_9  : Nat → Int32 → CS → Option (Int32 × CS)
  | 0, _, _ => none
  | k + 1, v1, C => (if (C.1 13) ≤ v1 then some ((0 : Int32), C) else (if 0 ≤ v1.toInt ∧ v1.toInt < 80 then (if (0 ≤ ((C.2.1 7) v1.toNatClampNeg).toInt ∧ ((C.2.1 7) v1.toNatClampNeg).toInt < 80) ∧ ((C.2.1 7) v1.toNatClampNeg).toNatClampNeg < gN C then (k_let (cP C (((C.2.1 7) v1.toNatClampNeg).toNatClampNeg) 12 (3 : Int32)) fun C5 => f_X3_answerDone_9  k (v1 + 1) C5) else none) else none))
def f_X3_answerDone  (C0 : CS) : Option (Int32 × CS) := (k_bind (f_X1_keepAll C0) fun r1 C1 => f_X3_answerDone_9  200 (0 : Int32) C1)
set_option maxHeartbeats 4000000 in
set_option maxRecDepth 100000 in
theorem c_X3_answerDone {l : Launch} {D : va_G} {sz : Nat} {cI cJ cO : ClassId} {h : Nat} {xa : Nat → Nat} {ea0 : Nat} {pa0 : Nat → Nat → Nat} {C0 C' : CS} { r' : Int32} (hf : f_X3_answerDone  C0 = some (r', C')) : Met l yX3_answerDone wsX3_answerDone ({ frames := 1, cells := 0, slots := 0, locals := 20 }) (va_Pc [.ref h] (k_Pre D [(cI, .int), (cO, .object RX0), (cJ, .long)] (cW cI cJ cO h xa ea0 pa0 C0) sz)) (va_Qv (fun (u : va_W × List (ClassId × FieldType)) => u = (cW cI cJ cO h xa ea0 pa0 C', [(cI, .int), (cO, .object RX0), (cJ, .long)]) ∧ gN C' = gN C0 ∧ gE C' = gE C0) (k_B D (va_A (cW cI cJ cO h xa ea0 pa0 C0) sz)) (va_A (cW cI cJ cO h xa ea0 pa0 C0) sz)) (0) (0) (va_A (cW cI cJ cO h xa ea0 pa0 C0) sz) := by
  refine Met.ofW (cc := cX3_answerDone) (maxL := 2) (ret := none) (by decide) rfl ?_
  intro p e s m args below meth c s₁ B hml hv
  obtain ⟨rfl, hsz, hP, hK, hD0⟩ := hv
  have hx := B.exec
  have hb := B.bytes
  have hr := B.returns
  have hts := atoms_spec (ws := wsX3_answerDone) B.pre
  have hown : s.vm.findClass RX3 = some m.cls := findClass_of_methodNamed B.named
  have hlocks := B.notSynchronized
  subst hsz
  have hD := hD0.self (sz := s.heap.size)
  generalize hAe : va_A (cW cI cJ cO h xa ea0 pa0 C0) s.heap.size = A at hD ⊢
  have hA : ∀ q : Nat, s.heap.size ≤ q → A q := fun q h => by rw [← hAe]; exact Or.inr h
  have hS : va_S A s.heap s.heap [] := va_S.rf
  have hl := lv_entry ([.ref h]) (n := 2) (Nat.le_of_ble_eq_true rfl)
  rw [lg_entry_eq]
  generalize (lg_sl ([.ref h]) ++ List.replicate (2 - (lg_sl ([.ref h])).length) Slot.unset).toArray = ls at hl ⊢
  have hl : lv_has ls 2 [(0, .ref h)] := hl
  refine k_Q (fun Q hQ => ?_)
  have hg0 : gN C0 = gN C0 ∧ gE C0 = gE C0 := ⟨rfl, rfl⟩
  have B9 : ∀  (k : Nat), ∀ (v1 : Int32)  (C : CS)  (H : Heap) (locs : List Loc) (ls : Array Slot), f_X3_answerDone_9  k v1 C = some (r', C') → (gN C = gN C0 ∧ gE C = gE C0) → va_P D vwCl (cW cI cJ cO h xa ea0 pa0 C) H → va_D A (cW cI cJ cO h xa ea0 pa0 C) → va_S A s.heap H locs → lv_has ls 2 [(0, .ref h), (1, .int v1)] → W p l e (headSpec wsX3_answerDone ({ frames := 1, cells := 0, slots := 0, locals := 20 })).room s m ([.ref h] : List Value).toArray below meth c H locs (0) (0) Q (F0 m 9 ls []) := by
    intro  k
    induction k with
    | zero =>
      intro v1  C  H locs ls hq hg  hP hD hS hl
      exact absurd hq (by rw [f_X3_answerDone_9]; exact k_non)
    | succ k ih =>
      intro v1  C  H locs ls hq hg  hP hD hS hl
      rw [f_X3_answerDone_9] at hq
      refine lv_iload_n hx hb dX3_answerDone_9 rfl (lv_at hl 1 rfl) ?_
      refine lv_aload_n hx hb dX3_answerDone_10 rfl (lv_at hl 0 rfl) ?_
      refine va_get (D := D) (ci := 3) (v := .int (C.1 13)) (C := RX3) (T := TX3) (N := 18) hx hb hts kin_X3_answerDone_X3 hown hK hP 0 rfl rfl 13 (by decide) (hts _ kw_X3_answerDone__fieldLink_RX3_154_ActHouse_doneCount_I_) (fun _ h9 => h9) rfl dX3_answerDone_11 ?_
      refine lv_icmp_ge (tgt := 38) hx hb dX3_answerDone_14 (by decide) (fun c2 => ?_) (fun c2 => ?_)
      · skip
        rw [if_pos c2] at hq
        obtain ⟨e2, e3⟩ := k_so hq
        subst hQ
        have hP : va_P D vwCl (cW cI cJ cO h xa ea0 pa0 C) _ := hP
        have hD : va_D A (cW cI cJ cO h xa ea0 pa0 C) := hD
        have hgE := congrArg (fun X : CS => gN X) e3
        have hgE : gN C = gN C' := hgE
        have hhE := congrArg (fun X : CS => gE X) e3
        have hhE : gE C = gE C' := hhE
        refine W.widen (k := 0) (n := 0) (by decide) (by decide) ?_
        exact W.vret hx hb hr (fun t ht hW => ⟨⟨(cW cI cJ cO h xa ea0 pa0 C, [(cI, .int), (cO, .object RX0), (cJ, .long)]), rfl, ⟨(congrArg (fun X : CS => ((cW cI cJ cO h xa ea0 pa0 X, [(cI, .int), (cO, .object RX0), (cJ, .long)]) : va_W × List (ClassId × FieldType))) e3), by omega, by omega⟩, ⟨by rw [ht]; exact hP, va_K.moved hW.alike hK, hD⟩⟩, hS.F ht⟩) hS.2.2 dX3_answerDone_38
      · skip
        rw [if_neg c2] at hq
        refine lv_aload_n hx hb dX3_answerDone_17 rfl (lv_at hl 0 rfl) ?_
        refine va_get (D := D) (ci := 3) (v := .ref (xa 5)) (C := RX3) (T := TX3) (N := 18) hx hb hts kin_X3_answerDone_X3 hown hK hP 0 rfl rfl 5 (by decide) (hts _ kw_X3_answerDone__fieldLink_RX3_27_ActHouse_acts_LActHouse_Act_) (fun _ h9 => h9) rfl dX3_answerDone_18 ?_
        refine lv_aload_n hx hb dX3_answerDone_21 rfl (lv_at hl 0 rfl) ?_
        refine va_get (D := D) (ci := 3) (v := .ref (xa 7)) (C := RX3) (T := TX3) (N := 18) hx hb hts kin_X3_answerDone_X3 hown hK hP 0 rfl rfl 7 (by decide) (hts _ kw_X3_answerDone__fieldLink_RX3_34_ActHouse_doneRow_I_) (fun _ h9 => h9) rfl dX3_answerDone_22 ?_
        refine lv_iload_n hx hb dX3_answerDone_25 rfl (lv_at hl 1 rfl) ?_
        obtain ⟨b3, hq⟩ := k_if hq
        refine va_iald hx hb hK hP 8 0 (f := (C.2.1 7)) rfl rfl (k_in b3.1 b3.2) dX3_answerDone_26 ?_
        obtain ⟨b4, hq⟩ := k_if hq
        refine va_aldq hx hb hK hP 6 1 (f := cActs pa0 (gN C)) rfl rfl (k_in b4.1.1 b4.1.2) dX3_answerDone_27 ?_
        refine W.eq (g2 := F0 m 28 ls [.ref (pa0 (((C.2.1 7) v1.toNatClampNeg).toNatClampNeg) 0)]) (by rw [cActs_lt b4.2]; rfl) ?_
        refine lv_iconst (v := 3) hx hb dX3_answerDone_28 (by decide) ?_
        refine va_put (D := D) (ci := 0) (v := .int 3) (ty := .int) (C := RX0) (T := TX0) (N := 20) hx hb hts kin_X3_answerDone_X0 tyX0 tyX0_ok nmX0 hown hK hP hD hS (16 + (7 * (((C.2.1 7) v1.toNatClampNeg).toNatClampNeg) + 0)) (fs := aF (pa0 (((C.2.1 7) v1.toNatClampNeg).toNatClampNeg)) (gP C (((C.2.1 7) v1.toNatClampNeg).toNatClampNeg))) (cW_get (show ((C.2.1 7) v1.toNatClampNeg).toNatClampNeg < gN C from by omega) rfl) rfl 12 (by decide) (hts _ kw_X3_answerDone__fieldLink_RX3_117_ActHouse_Act_state_I_) (fun _ h9 => h9) rfl (by decide +kernel) rfl rfl (Nat.le_of_ble_eq_true rfl) dX3_answerDone_29 (fun H locs hP hD hS => ?_)
        obtain ⟨C5, eC5, hg5, hh5, hq⟩ := k_lc (C := C) hq rfl rfl
        rw [cP_eq12 (show ((C.2.1 7) v1.toNatClampNeg).toNatClampNeg < gN C from by omega), ← eC5] at hP hD
        have hP : va_P D vwCl (cW cI cJ cO h xa ea0 pa0 C5) _ := hP
        have hD : va_D A (cW cI cJ cO h xa ea0 pa0 C5) := hD
        refine lv_iinc (v := v1 + 1) (lv' := [(1, .int (v1 + 1)), (0, .ref h)]) hx hb dX3_answerDone_32 hl (k := 1) rfl (by rfl) (by decide) rfl (fun ls hl => ?_)
        refine lv_goto (tgt := 9) hx hb dX3_answerDone_35 (by decide) ?_
        exact ih (v1 + 1) C5  _ _ _ hq (by show (gN C5 = gN C0 ∧ gE C5 = gE C0); omega) hP hD hS (lv_sub hl [1, 0] rfl)
  have hq := hf
  rw [f_X3_answerDone] at hq
  refine lv_aload_n hx hb dX3_answerDone_0 rfl (lv_at hl 0 rfl) ?_
  refine va_get (D := D) (ci := 3) (v := .ref (xa 10)) (C := RX3) (T := TX3) (N := 18) hx hb hts kin_X3_answerDone_X3 hown hK hP 0 rfl rfl 10 (by decide) (hts _ kw_X3_answerDone__fieldLink_RX3_46_ActHouse_book_LActHouse_LogBook_) (fun _ h9 => h9) rfl dX3_answerDone_1 ?_
  obtain ⟨r1, C1, h1, hq⟩ := k_bd hq
  have hFc := k_free hD hS hA
  refine va_callv (va_runV (As := []) (rest := []) ⟨hx, hb, hml, hown, hts⟩ (c_X1_keepAll (l := l) (D := D) (cI := cI) (cJ := cJ) (cO := cO) (h := h) (xa := xa) (ea0 := ea0) (pa0 := pa0)  (hf := h1)) (cwV 0 hts gX3_answerDone_X1_keepAll rfl rfl rfl (by decide +kernel) ⟨Nat.le_of_ble_eq_true rfl, Nat.le_of_ble_eq_true rfl⟩) ⟨k_blind, va_recv hK hP (ci := 1) (q0 := 11) rfl rfl, fun U hU hW => ⟨rfl, k_pre hU hW hP hK hD⟩⟩ rfl rfl hl.1 rfl (lv_room (Nat.le_of_ble_eq_true rfl)) dX3_answerDone_4 ⟨by decide, by decide⟩) hS (fun q _ h => hFc q h) hFc (fun u t H1 locs ht hvm hw hB hz1 hk1 hS => ?_)
  obtain ⟨rfl, hg1, hh1⟩ := hw
  have hg1 : gN C1 = gN C0 := hg1
  have hh1 : gE C1 = gE C0 := hh1
  refine W.widen (k := 0) (n := 0) (Nat.le_refl _) (Nat.le_refl _) ?_
  obtain ⟨hP1, hK1, hD1⟩ := hB
  rw [ht] at hP1
  have hP := hP1
  have hD := k_weak hD1 hFc
  generalize H1 = H at hP hS ⊢
  have hP : va_P D vwCl (cW cI cJ cO h xa ea0 pa0 C1) _ := hP
  have hD : va_D A (cW cI cJ cO h xa ea0 pa0 C1) := hD
  refine lv_iconst (v := 0) hx hb dX3_answerDone_7 (by decide) ?_
  refine lv_istore_n (lv' := [(1, .int 0), (0, .ref h)]) hx hb dX3_answerDone_8 rfl hl (by decide) rfl (fun ls hl => ?_)
  exact B9  200 (0 : Int32) C1  _ _ _ hq (by show (gN C1 = gN C0 ∧ gE C1 = gE C0); omega) hP hD hS (lv_sub hl [1, 0] rfl)
set_option maxRecDepth 100000 in
theorem kw_X3_passTick__fieldLink_RX3_79_ActHouse_now_I_ : (.fieldLink RX3 79 "ActHouse" "now" "I" : Cond) ∈ wsX3_passTick := by decide +kernel
set_option maxRecDepth 100000 in
theorem kin_X3_passTick_X3 : ∀ w ∈ u_ws RX3 TX3 18, w ∈ wsX3_passTick := by decide +kernel
def f_X3_passTick_26    (C : CS) : Option (Int32 × CS) := (k_let (cN C 15 ((C.1 15) + 1)) fun C5 => some ((0 : Int32), C5))
def f_X3_passTick  (C0 : CS) : Option (Int32 × CS) := (k_bind (f_X3_stepBegun C0) fun r1 C1 => (k_bind (f_X3_breakRings C1) fun r2 C2 => (k_bind (f_X3_beginWaiting C2) fun r3 C3 => (if ((C3.1 15) - (C3.1 15) / 4 * 4) = 3 then (k_bind (f_X3_answerDone C3) fun r6 C6 => f_X3_passTick_26  C6) else f_X3_passTick_26  C3))))
set_option maxHeartbeats 4000000 in
set_option maxRecDepth 100000 in
theorem c_X3_passTick {l : Launch} {D : va_G} {hp : Heap} {cI cJ cO : ClassId} {h : Nat} {xa : Nat → Nat} {ea0 : Nat} {pa0 : Nat → Nat → Nat} {C0 C' : CS} { r' : Int32} (hg : gN C0 ≤ 80 ∧ gE C0 ≤ 1048576) (hf : f_X3_passTick  C0 = some (r', C')) : Met l yX3_passTick wsX3_passTick ({ frames := 6, cells := 7 * (80 - gN C0) + (1048576 - gE C0) / 256, slots := 108 * (80 - gN C0) + 2 * (1048576 - gE C0), locals := 155 }) (va_Pc [.ref h] (k_PreH D [(cI, .int), (cO, .object RX0), (cJ, .long)] (cW cI cJ cO h xa ea0 pa0 C0) hp)) (va_Qv (fun (u : va_W × List (ClassId × FieldType)) => ∃ (ea' : Nat) (pa' : Nat → Nat → Nat), u = (cW cI cJ cO h xa ea' pa' C', [(cI, .int), (cO, .object RX0), (cJ, .long)]) ∧ (gN C0 ≤ gN C' ∧ gN C' ≤ 80 ∧ gE C0 ≤ gE C' ∧ gE C' ≤ 1048576) ∧ ∀ n, n < gN C0 → pa' n = pa0 n) (k_BM D (va_A (cW cI cJ cO h xa ea0 pa0 C0) hp.size) hp (7 * (gN C' - gN C0) + (gE C' - gE C0) / 256) (108 * (gN C' - gN C0) + 2 * (gE C' - gE C0))) (va_A (cW cI cJ cO h xa ea0 pa0 C0) hp.size)) (7 * (80 - gN C0) + (1048576 - gE C0) / 256) (108 * (80 - gN C0) + 2 * (1048576 - gE C0)) (va_A (cW cI cJ cO h xa ea0 pa0 C0) hp.size) := by
  refine Met.ofW (cc := cX3_passTick) (maxL := 1) (ret := none) (by decide) rfl ?_
  intro p e s m args below meth c s₁ B hml hv
  obtain ⟨rfl, hsz, hP, hK, hD0⟩ := hv
  have hx := B.exec
  have hb := B.bytes
  have hr := B.returns
  have hts := atoms_spec (ws := wsX3_passTick) B.pre
  have hown : s.vm.findClass RX3 = some m.cls := findClass_of_methodNamed B.named
  have hlocks := B.notSynchronized
  have hsz : s.heap = hp := hsz
  subst hsz
  have hD := hD0.self (sz := s.heap.size)
  generalize hAe : va_A (cW cI cJ cO h xa ea0 pa0 C0) s.heap.size = A at hD ⊢
  have hA : ∀ q : Nat, s.heap.size ≤ q → A q := fun q h => by rw [← hAe]; exact Or.inr h
  have hS : va_S A s.heap s.heap [] := va_S.rf
  have hl := lv_entry ([.ref h]) (n := 1) (Nat.le_of_ble_eq_true rfl)
  rw [lg_entry_eq]
  generalize (lg_sl ([.ref h]) ++ List.replicate (1 - (lg_sl ([.ref h])).length) Slot.unset).toArray = ls at hl ⊢
  have hl : lv_has ls 1 [(0, .ref h)] := hl
  refine k_Q (fun Q hQ => ?_)
  have B26 : ∀   (C : CS) (ea : Nat) (pa : Nat → Nat → Nat) (H : Heap) (locs : List Loc) (ls : Array Slot), f_X3_passTick_26 C = some (r', C') → (gN C0 ≤ gN C ∧ gN C ≤ 80 ∧ gE C0 ≤ gE C ∧ gE C ≤ 1048576) → (∀ n, n < gN C0 → pa n = pa0 n) → va_P D vwCl (cW cI cJ cO h xa ea pa C) H → va_D A (cW cI cJ cO h xa ea pa C) → va_S A s.heap H locs → lv_has ls 1 [(0, .ref h)] → W p l e (headSpec wsX3_passTick ({ frames := 6, cells := 7 * (80 - gN C0) + (1048576 - gE C0) / 256, slots := 108 * (80 - gN C0) + 2 * (1048576 - gE C0), locals := 155 })).room s m ([.ref h] : List Value).toArray below meth c H locs ((7 * (gN C - gN C0) + (gE C - gE C0) / 256)) ((108 * (gN C - gN C0) + 2 * (gE C - gE C0))) Q (F0 m 26 ls []) := by
    intro   C ea pa H locs ls hq hg hpa  hP hD hS hl
    rw [f_X3_passTick_26] at hq
    refine lv_aload_n hx hb dX3_passTick_26 rfl (lv_at hl 0 rfl) ?_
    refine lv_dup hx hb dX3_passTick_27 rfl ?_
    refine va_get (D := D) (ci := 3) (v := .int (C.1 15)) (C := RX3) (T := TX3) (N := 18) hx hb hts kin_X3_passTick_X3 hown hK hP 0 rfl rfl 15 (by decide) (hts _ kw_X3_passTick__fieldLink_RX3_79_ActHouse_now_I_) (fun _ h9 => h9) rfl dX3_passTick_28 ?_
    refine lv_iconst (v := 1) hx hb dX3_passTick_31 (by decide) ?_
    refine lv_iadd hx hb dX3_passTick_32 ?_
    refine va_put (D := D) (ci := 3) (v := .int ((C.1 15) + 1)) (ty := .int) (C := RX3) (T := TX3) (N := 18) hx hb hts kin_X3_passTick_X3 tyX3 tyX3_ok nmX3 hown hK hP hD hS 0 (fs := hF xa C) rfl rfl 15 (by decide) (hts _ kw_X3_passTick__fieldLink_RX3_79_ActHouse_now_I_) (fun _ h9 => h9) rfl (by decide +kernel) rfl rfl (Nat.le_of_ble_eq_true rfl) dX3_passTick_33 (fun H locs hP hD hS => ?_)
    obtain ⟨C5, eC5, hg5, hh5, hq⟩ := k_lc (C := C) hq rfl rfl
    rw [cW_I15, ← eC5] at hP hD
    have hP : va_P D vwCl (cW cI cJ cO h xa ea pa C5) _ := hP
    have hD : va_D A (cW cI cJ cO h xa ea pa C5) := hD
    refine W.widen (k := (7 * (gN C5 - gN C0) + (gE C5 - gE C0) / 256)) (n := (108 * (gN C5 - gN C0) + 2 * (gE C5 - gE C0))) (by omega) (by omega) ?_
    obtain ⟨e2, e3⟩ := k_so hq
    subst hQ
    have hP : va_P D vwCl (cW cI cJ cO h xa ea pa C5) _ := hP
    have hD : va_D A (cW cI cJ cO h xa ea pa C5) := hD
    have hgE := congrArg (fun X : CS => gN X) e3
    have hgE : gN C5 = gN C' := hgE
    have hhE := congrArg (fun X : CS => gE X) e3
    have hhE : gE C5 = gE C' := hhE
    refine k_facts (fun hm1 hm2 hm3 => ?_)
    refine W.widen (k := 7 * (80 - gN C0) + (1048576 - gE C0) / 256) (n := 108 * (80 - gN C0) + 2 * (1048576 - gE C0)) (by omega) (by omega) ?_
    exact W.vret hx hb hr (fun t ht hW => ⟨⟨(cW cI cJ cO h xa ea pa C5, [(cI, .int), (cO, .object RX0), (cJ, .long)]), rfl, ⟨ea, pa, (congrArg (fun X : CS => ((cW cI cJ cO h xa ea pa X, [(cI, .int), (cO, .object RX0), (cJ, .long)]) : va_W × List (ClassId × FieldType))) e3), (by show gN C0 ≤ gN C' ∧ gN C' ≤ 80 ∧ gE C0 ≤ gE C' ∧ gE C' ≤ 1048576; omega), hpa⟩, ⟨⟨by rw [ht]; exact hP, va_K.moved hW.alike hK, hD⟩, by rw [ht]; exact hm3, by rw [ht]; omega, by rw [ht]; omega⟩⟩, hS.F ht⟩) hS.2.2 dX3_passTick_36
  refine W.widen (k := (7 * (gN C0 - gN C0) + (gE C0 - gE C0) / 256)) (n := (108 * (gN C0 - gN C0) + 2 * (gE C0 - gE C0))) (by omega) (by omega) ?_
  have hpa : ∀ n, n < gN C0 → pa0 n = pa0 n := fun _ _ => rfl
  have hq := hf
  rw [f_X3_passTick] at hq
  refine lv_aload_n hx hb dX3_passTick_0 rfl (lv_at hl 0 rfl) ?_
  obtain ⟨r1, C1, h1, hq⟩ := k_bd hq
  have hFc := k_free hD hS hA
  refine k_facts (fun hn1 hn2 hn3 => ?_)
  refine va_callv (va_runV (As := []) (rest := []) ⟨hx, hb, hml, hown, hts⟩ (c_X3_stepBegun (l := l) (D := D) (cI := cI) (cJ := cJ) (cO := cO) (h := h) (xa := xa) (ea0 := ea0) (pa0 := pa0)  (hg := by show gN C0 ≤ 80 ∧ gE C0 ≤ 1048576; omega) (hf := h1)) (cwV 0 hts gX3_passTick_X3_stepBegun rfl rfl rfl (by decide +kernel) ⟨Nat.le_of_ble_eq_true rfl, Nat.le_of_ble_eq_true rfl⟩) ⟨k_blindH, va_recv hK hP (ci := 3) (q0 := 0) rfl rfl, fun U hU hW => ⟨rfl, k_preH hU hW hP hK hD⟩⟩ rfl rfl hl.1 rfl (lv_room (Nat.le_of_ble_eq_true rfl)) dX3_passTick_1 ⟨by show (7 * (gN C0 - gN C0) + (gE C0 - gE C0) / 256) + (7 * (80 - gN C0) + (1048576 - gE C0) / 256) ≤ 7 * (80 - gN C0) + (1048576 - gE C0) / 256; omega, by show (108 * (gN C0 - gN C0) + 2 * (gE C0 - gE C0)) + (108 * (80 - gN C0) + 2 * (1048576 - gE C0)) ≤ 108 * (80 - gN C0) + 2 * (1048576 - gE C0); omega⟩) hS (fun q _ h => hFc q h) hFc (fun u t H1 locs ht hvm hw hB hz1 hk1 hS => ?_)
  obtain ⟨ea1, pa1, rfl, hg1, hp1⟩ := hw
  have hg1 : gN C0 ≤ gN C1 ∧ gN C1 ≤ 80 ∧ gE C0 ≤ gE C1 ∧ gE C1 ≤ 1048576 := hg1
  have hpa : ∀ n, n < gN C0 → pa1 n = pa0 n := fun n hn => (hp1 n (by show n < gN C0; omega)).trans (hpa n hn)
  obtain ⟨hB, hz2, hz3, hz4⟩ := hB
  rw [ht] at hz2 hz3 hz4
  refine k_tight (k := (7 * (gN C1 - gN C0) + (gE C1 - gE C0) / 256)) (n := (108 * (gN C1 - gN C0) + 2 * (gE C1 - gE C0))) (by omega) (by rw [k_nS_tr hn3.1 hz2]; omega) ?_
  obtain ⟨hP1, hK1, hD1⟩ := hB
  rw [ht] at hP1
  have hP := hP1
  have hD := k_weak hD1 hFc
  generalize H1 = H at hP hS ⊢
  have hP : va_P D vwCl (cW cI cJ cO h xa ea1 pa1 C1) _ := hP
  have hD : va_D A (cW cI cJ cO h xa ea1 pa1 C1) := hD
  refine lv_aload_n hx hb dX3_passTick_4 rfl (lv_at hl 0 rfl) ?_
  obtain ⟨r2, C2, h2, hq⟩ := k_bd hq
  have hFc := k_free hD hS hA
  refine k_facts (fun hn1 hn2 hn3 => ?_)
  refine va_callv (va_runV (As := []) (rest := []) ⟨hx, hb, hml, hown, hts⟩ (c_X3_breakRings (l := l) (D := D) (cI := cI) (cJ := cJ) (cO := cO) (h := h) (xa := xa) (ea0 := ea1) (pa0 := pa1)  (hg := by show gN C1 ≤ 80 ∧ gE C1 ≤ 1048576; omega) (hf := h2)) (cwV 0 hts gX3_passTick_X3_breakRings rfl rfl rfl (by decide +kernel) ⟨Nat.le_of_ble_eq_true rfl, Nat.le_of_ble_eq_true rfl⟩) ⟨k_blindH, va_recv hK hP (ci := 3) (q0 := 0) rfl rfl, fun U hU hW => ⟨rfl, k_preH hU hW hP hK hD⟩⟩ rfl rfl hl.1 rfl (lv_room (Nat.le_of_ble_eq_true rfl)) dX3_passTick_5 ⟨by show (7 * (gN C1 - gN C0) + (gE C1 - gE C0) / 256) + (7 * (80 - gN C1) + (1048576 - gE C1) / 256) ≤ 7 * (80 - gN C0) + (1048576 - gE C0) / 256; omega, by show (108 * (gN C1 - gN C0) + 2 * (gE C1 - gE C0)) + (108 * (80 - gN C1) + 2 * (1048576 - gE C1)) ≤ 108 * (80 - gN C0) + 2 * (1048576 - gE C0); omega⟩) hS (fun q _ h => hFc q h) hFc (fun u t H1 locs ht hvm hw hB hz1 hk1 hS => ?_)
  obtain ⟨ea2, pa2, rfl, hg2, hp2⟩ := hw
  have hg2 : gN C1 ≤ gN C2 ∧ gN C2 ≤ 80 ∧ gE C1 ≤ gE C2 ∧ gE C2 ≤ 1048576 := hg2
  have hpa : ∀ n, n < gN C0 → pa2 n = pa0 n := fun n hn => (hp2 n (by show n < gN C1; omega)).trans (hpa n hn)
  obtain ⟨hB, hz2, hz3, hz4⟩ := hB
  rw [ht] at hz2 hz3 hz4
  refine k_tight (k := (7 * (gN C2 - gN C0) + (gE C2 - gE C0) / 256)) (n := (108 * (gN C2 - gN C0) + 2 * (gE C2 - gE C0))) (by omega) (by rw [k_nS_tr hn3.1 hz2]; omega) ?_
  obtain ⟨hP1, hK1, hD1⟩ := hB
  rw [ht] at hP1
  have hP := hP1
  have hD := k_weak hD1 hFc
  generalize H1 = H at hP hS ⊢
  have hP : va_P D vwCl (cW cI cJ cO h xa ea2 pa2 C2) _ := hP
  have hD : va_D A (cW cI cJ cO h xa ea2 pa2 C2) := hD
  refine lv_aload_n hx hb dX3_passTick_8 rfl (lv_at hl 0 rfl) ?_
  obtain ⟨r3, C3, h3, hq⟩ := k_bd hq
  have hFc := k_free hD hS hA
  refine k_facts (fun hn1 hn2 hn3 => ?_)
  refine va_callv (va_runV (As := []) (rest := []) ⟨hx, hb, hml, hown, hts⟩ (c_X3_beginWaiting (l := l) (D := D) (cI := cI) (cJ := cJ) (cO := cO) (h := h) (xa := xa) (ea0 := ea2) (pa0 := pa2)  (hg := by show gN C2 ≤ 80 ∧ gE C2 ≤ 1048576; omega) (hf := h3)) (cwV 0 hts gX3_passTick_X3_beginWaiting rfl rfl rfl (by decide +kernel) ⟨Nat.le_of_ble_eq_true rfl, Nat.le_of_ble_eq_true rfl⟩) ⟨k_blindH, va_recv hK hP (ci := 3) (q0 := 0) rfl rfl, fun U hU hW => ⟨rfl, k_preH hU hW hP hK hD⟩⟩ rfl rfl hl.1 rfl (lv_room (Nat.le_of_ble_eq_true rfl)) dX3_passTick_9 ⟨by show (7 * (gN C2 - gN C0) + (gE C2 - gE C0) / 256) + (7 * (80 - gN C2) + (1048576 - gE C2) / 256) ≤ 7 * (80 - gN C0) + (1048576 - gE C0) / 256; omega, by show (108 * (gN C2 - gN C0) + 2 * (gE C2 - gE C0)) + (108 * (80 - gN C2) + 2 * (1048576 - gE C2)) ≤ 108 * (80 - gN C0) + 2 * (1048576 - gE C0); omega⟩) hS (fun q _ h => hFc q h) hFc (fun u t H1 locs ht hvm hw hB hz1 hk1 hS => ?_)
  obtain ⟨ea3, pa3, rfl, hg3, hp3⟩ := hw
  have hg3 : gN C2 ≤ gN C3 ∧ gN C3 ≤ 80 ∧ gE C2 ≤ gE C3 ∧ gE C3 ≤ 1048576 := hg3
  have hpa : ∀ n, n < gN C0 → pa3 n = pa0 n := fun n hn => (hp3 n (by show n < gN C2; omega)).trans (hpa n hn)
  obtain ⟨hB, hz2, hz3, hz4⟩ := hB
  rw [ht] at hz2 hz3 hz4
  refine k_tight (k := (7 * (gN C3 - gN C0) + (gE C3 - gE C0) / 256)) (n := (108 * (gN C3 - gN C0) + 2 * (gE C3 - gE C0))) (by omega) (by rw [k_nS_tr hn3.1 hz2]; omega) ?_
  obtain ⟨hP1, hK1, hD1⟩ := hB
  rw [ht] at hP1
  have hP := hP1
  have hD := k_weak hD1 hFc
  generalize H1 = H at hP hS ⊢
  have hP : va_P D vwCl (cW cI cJ cO h xa ea3 pa3 C3) _ := hP
  have hD : va_D A (cW cI cJ cO h xa ea3 pa3 C3) := hD
  refine lv_aload_n hx hb dX3_passTick_12 rfl (lv_at hl 0 rfl) ?_
  refine va_get (D := D) (ci := 3) (v := .int (C3.1 15)) (C := RX3) (T := TX3) (N := 18) hx hb hts kin_X3_passTick_X3 hown hK hP 0 rfl rfl 15 (by decide) (hts _ kw_X3_passTick__fieldLink_RX3_79_ActHouse_now_I_) (fun _ h9 => h9) rfl dX3_passTick_13 ?_
  refine lv_iconst (v := 4) hx hb dX3_passTick_16 (by decide) ?_
  refine lv_irem hx hb dX3_passTick_17 (by decide) ?_
  refine lv_iconst (v := 3) hx hb dX3_passTick_18 (by decide) ?_
  refine lv_icmp_ne (tgt := 26) hx hb dX3_passTick_19 (by decide) (fun c4 => ?_) (fun c4 => ?_)
  · skip
    rw [if_neg c4] at hq
    exact B26  C3 ea3 pa3 _ _ _ hq (by show (gN C0 ≤ gN C3 ∧ gN C3 ≤ 80 ∧ gE C0 ≤ gE C3 ∧ gE C3 ≤ 1048576); omega) hpa hP hD hS (lv_sub hl [0] rfl)
  · skip
    rw [if_pos c4] at hq
    refine lv_aload_n hx hb dX3_passTick_22 rfl (lv_at hl 0 rfl) ?_
    obtain ⟨r6, C6, h6, hq⟩ := k_bd hq
    have hFc := k_free hD hS hA
    refine va_callv (va_runV (As := []) (rest := []) ⟨hx, hb, hml, hown, hts⟩ (c_X3_answerDone (l := l) (D := D) (cI := cI) (cJ := cJ) (cO := cO) (h := h) (xa := xa) (ea0 := ea3) (pa0 := pa3)  (hf := h6)) (cwV 0 hts gX3_passTick_X3_answerDone rfl rfl rfl (by decide +kernel) ⟨Nat.le_of_ble_eq_true rfl, Nat.le_of_ble_eq_true rfl⟩) ⟨k_blind, va_recv hK hP (ci := 3) (q0 := 0) rfl rfl, fun U hU hW => ⟨rfl, k_pre hU hW hP hK hD⟩⟩ rfl rfl hl.1 rfl (lv_room (Nat.le_of_ble_eq_true rfl)) dX3_passTick_23 ⟨by show (7 * (gN C3 - gN C0) + (gE C3 - gE C0) / 256) + 0 ≤ 7 * (80 - gN C0) + (1048576 - gE C0) / 256; omega, by show (108 * (gN C3 - gN C0) + 2 * (gE C3 - gE C0)) + 0 ≤ 108 * (80 - gN C0) + 2 * (1048576 - gE C0); omega⟩) hS (fun q _ h => hFc q h) hFc (fun u t H1 locs ht hvm hw hB hz1 hk1 hS => ?_)
    obtain ⟨rfl, hg6, hh6⟩ := hw
    have hg6 : gN C6 = gN C3 := hg6
    have hh6 : gE C6 = gE C3 := hh6
    refine W.widen (k := (7 * (gN C6 - gN C0) + (gE C6 - gE C0) / 256)) (n := (108 * (gN C6 - gN C0) + 2 * (gE C6 - gE C0))) (by omega) (by omega) ?_
    obtain ⟨hP1, hK1, hD1⟩ := hB
    rw [ht] at hP1
    have hP := hP1
    have hD := k_weak hD1 hFc
    generalize H1 = H at hP hS ⊢
    have hP : va_P D vwCl (cW cI cJ cO h xa ea3 pa3 C6) _ := hP
    have hD : va_D A (cW cI cJ cO h xa ea3 pa3 C6) := hD
    exact B26  C6 ea3 pa3 _ _ _ hq (by show (gN C0 ≤ gN C6 ∧ gN C6 ≤ 80 ∧ gE C0 ≤ gE C6 ∧ gE C6 ≤ 1048576); omega) hpa hP hD hS (lv_sub hl [0] rfl)
set_option maxRecDepth 100000 in
theorem kw_X3_go__fieldLink_RX3_79_ActHouse_now_I_ : (.fieldLink RX3 79 "ActHouse" "now" "I" : Cond) ∈ wsX3_go := by decide +kernel
set_option maxRecDepth 100000 in
theorem kin_X3_go_X3 : ∀ w ∈ u_ws RX3 TX3 18, w ∈ wsX3_go := by decide +kernel
def f_X3_go_15  : Nat → Int32 → Int32 → CS → Option (Int32 × CS)
  | 0, _, _, _ => none
  | k + 1, v1, v2, C => (if v1 ≤ v2 then some ((C.1 15), C) else (if 5000 ≤ (C.1 15) then some ((C.1 15), C) else (k_bind (f_X3_passTick C) fun r5 C5 => f_X3_go_15  k v1 (v2 + 1) C5)))
def f_X3_go (x1 : Int32) (C0 : CS) : Option (Int32 × CS) := (if x1 < 0 then some (((-1) : Int32), C0) else (if x1 ≤ 200 then f_X3_go_15  300 x1 (0 : Int32) C0 else some (((-1) : Int32), C0)))
set_option maxHeartbeats 4000000 in
set_option maxRecDepth 100000 in
theorem c_X3_go {l : Launch} {D : va_G} {hp : Heap} {cI cJ cO : ClassId} {h : Nat} {xa : Nat → Nat} {ea0 : Nat} {pa0 : Nat → Nat → Nat} {C0 C' : CS} {x1 r' : Int32} (hg : gN C0 ≤ 80 ∧ gE C0 ≤ 1048576) (hf : f_X3_go x1 C0 = some (r', C')) : Met l yX3_go wsX3_go ({ frames := 7, cells := 7 * (80 - gN C0) + (1048576 - gE C0) / 256, slots := 108 * (80 - gN C0) + 2 * (1048576 - gE C0), locals := 175 }) (va_Pc [.ref h, .int x1] (k_PreH D [(cI, .int), (cO, .object RX0), (cJ, .long)] (cW cI cJ cO h xa ea0 pa0 C0) hp)) (va_Qi (fun (r0 : Int32) (u : va_W × List (ClassId × FieldType)) => ∃ (ea' : Nat) (pa' : Nat → Nat → Nat), r0 = r' ∧ u = (cW cI cJ cO h xa ea' pa' C', [(cI, .int), (cO, .object RX0), (cJ, .long)]) ∧ (gN C0 ≤ gN C' ∧ gN C' ≤ 80 ∧ gE C0 ≤ gE C' ∧ gE C' ≤ 1048576) ∧ ∀ n, n < gN C0 → pa' n = pa0 n) (k_BM D (va_A (cW cI cJ cO h xa ea0 pa0 C0) hp.size) hp (7 * (gN C' - gN C0) + (gE C' - gE C0) / 256) (108 * (gN C' - gN C0) + 2 * (gE C' - gE C0))) (va_A (cW cI cJ cO h xa ea0 pa0 C0) hp.size)) (7 * (80 - gN C0) + (1048576 - gE C0) / 256) (108 * (80 - gN C0) + 2 * (1048576 - gE C0)) (va_A (cW cI cJ cO h xa ea0 pa0 C0) hp.size) := by
  refine Met.ofW (cc := cX3_go) (maxL := 3) (ret := (some .int)) (by decide) rfl ?_
  intro p e s m args below meth c s₁ B hml hv
  obtain ⟨rfl, hsz, hP, hK, hD0⟩ := hv
  have hx := B.exec
  have hb := B.bytes
  have hr := B.returns
  have hts := atoms_spec (ws := wsX3_go) B.pre
  have hown : s.vm.findClass RX3 = some m.cls := findClass_of_methodNamed B.named
  have hlocks := B.notSynchronized
  have hsz : s.heap = hp := hsz
  subst hsz
  have hD := hD0.self (sz := s.heap.size)
  generalize hAe : va_A (cW cI cJ cO h xa ea0 pa0 C0) s.heap.size = A at hD ⊢
  have hA : ∀ q : Nat, s.heap.size ≤ q → A q := fun q h => by rw [← hAe]; exact Or.inr h
  have hS : va_S A s.heap s.heap [] := va_S.rf
  have hl := lv_entry ([.ref h, .int x1]) (n := 3) (Nat.le_of_ble_eq_true rfl)
  rw [lg_entry_eq]
  generalize (lg_sl ([.ref h, .int x1]) ++ List.replicate (3 - (lg_sl ([.ref h, .int x1])).length) Slot.unset).toArray = ls at hl ⊢
  have hl : lv_has ls 3 [(0, .ref h), (1, .int x1)] := hl
  refine k_Q (fun Q hQ => ?_)
  have B15 : ∀  (k : Nat), ∀ (v1 : Int32) (v2 : Int32)  (C : CS) (ea : Nat) (pa : Nat → Nat → Nat) (H : Heap) (locs : List Loc) (ls : Array Slot), f_X3_go_15  k v1 v2 C = some (r', C') → (gN C0 ≤ gN C ∧ gN C ≤ 80 ∧ gE C0 ≤ gE C ∧ gE C ≤ 1048576) → (∀ n, n < gN C0 → pa n = pa0 n) → va_P D vwCl (cW cI cJ cO h xa ea pa C) H → va_D A (cW cI cJ cO h xa ea pa C) → va_S A s.heap H locs → lv_has ls 3 [(0, .ref h), (1, .int v1), (2, .int v2)] → W p l e (headSpec wsX3_go ({ frames := 7, cells := 7 * (80 - gN C0) + (1048576 - gE C0) / 256, slots := 108 * (80 - gN C0) + 2 * (1048576 - gE C0), locals := 175 })).room s m ([.ref h, .int x1] : List Value).toArray below meth c H locs ((7 * (gN C - gN C0) + (gE C - gE C0) / 256)) ((108 * (gN C - gN C0) + 2 * (gE C - gE C0))) Q (F0 m 15 ls []) := by
    intro  k
    induction k with
    | zero =>
      intro v1 v2  C ea pa H locs ls hq hg hpa  hP hD hS hl
      exact absurd hq (by rw [f_X3_go_15]; exact k_non)
    | succ k ih =>
      intro v1 v2  C ea pa H locs ls hq hg hpa  hP hD hS hl
      rw [f_X3_go_15] at hq
      refine lv_iload_n hx hb dX3_go_15 rfl (lv_at hl 2 rfl) ?_
      refine lv_iload_n hx hb dX3_go_16 rfl (lv_at hl 1 rfl) ?_
      refine lv_icmp_ge (tgt := 40) hx hb dX3_go_17 (by decide) (fun c3 => ?_) (fun c3 => ?_)
      · skip
        rw [if_pos c3] at hq
        refine lv_aload_n hx hb dX3_go_40 rfl (lv_at hl 0 rfl) ?_
        refine va_get (D := D) (ci := 3) (v := .int (C.1 15)) (C := RX3) (T := TX3) (N := 18) hx hb hts kin_X3_go_X3 hown hK hP 0 rfl rfl 15 (by decide) (hts _ kw_X3_go__fieldLink_RX3_79_ActHouse_now_I_) (fun _ h9 => h9) rfl dX3_go_41 ?_
        obtain ⟨e2, e3⟩ := k_so hq
        subst hQ
        have hP : va_P D vwCl (cW cI cJ cO h xa ea pa C) _ := hP
        have hD : va_D A (cW cI cJ cO h xa ea pa C) := hD
        have hgE := congrArg (fun X : CS => gN X) e3
        have hgE : gN C = gN C' := hgE
        have hhE := congrArg (fun X : CS => gE X) e3
        have hhE : gE C = gE C' := hhE
        refine k_facts (fun hm1 hm2 hm3 => ?_)
        refine W.widen (k := 7 * (80 - gN C0) + (1048576 - gE C0) / 256) (n := 108 * (80 - gN C0) + 2 * (1048576 - gE C0)) (by omega) (by omega) ?_
        exact W.iret (v := C.1 15) hx hb hr (fun t ht hW => ⟨⟨C.1 15, (cW cI cJ cO h xa ea pa C, [(cI, .int), (cO, .object RX0), (cJ, .long)]), rfl, ⟨ea, pa, e2, (congrArg (fun X : CS => ((cW cI cJ cO h xa ea pa X, [(cI, .int), (cO, .object RX0), (cJ, .long)]) : va_W × List (ClassId × FieldType))) e3), (by show gN C0 ≤ gN C' ∧ gN C' ≤ 80 ∧ gE C0 ≤ gE C' ∧ gE C' ≤ 1048576; omega), hpa⟩, ⟨⟨by rw [ht]; exact hP, va_K.moved hW.alike hK, hD⟩, by rw [ht]; exact hm3, by rw [ht]; omega, by rw [ht]; omega⟩⟩, hS.F ht⟩) hS.2.2 dX3_go_44
      · skip
        rw [if_neg c3] at hq
        refine lv_aload_n hx hb dX3_go_20 rfl (lv_at hl 0 rfl) ?_
        refine va_get (D := D) (ci := 3) (v := .int (C.1 15)) (C := RX3) (T := TX3) (N := 18) hx hb hts kin_X3_go_X3 hown hK hP 0 rfl rfl 15 (by decide) (hts _ kw_X3_go__fieldLink_RX3_79_ActHouse_now_I_) (fun _ h9 => h9) rfl dX3_go_21 ?_
        refine lv_sipush (v := 5000) hx hb dX3_go_24 (by decide) ?_
        refine lv_icmp_ge (tgt := 40) hx hb dX3_go_27 (by decide) (fun c4 => ?_) (fun c4 => ?_)
        · skip
          rw [if_pos c4] at hq
          refine lv_aload_n hx hb dX3_go_40 rfl (lv_at hl 0 rfl) ?_
          refine va_get (D := D) (ci := 3) (v := .int (C.1 15)) (C := RX3) (T := TX3) (N := 18) hx hb hts kin_X3_go_X3 hown hK hP 0 rfl rfl 15 (by decide) (hts _ kw_X3_go__fieldLink_RX3_79_ActHouse_now_I_) (fun _ h9 => h9) rfl dX3_go_41 ?_
          obtain ⟨e2, e3⟩ := k_so hq
          subst hQ
          have hP : va_P D vwCl (cW cI cJ cO h xa ea pa C) _ := hP
          have hD : va_D A (cW cI cJ cO h xa ea pa C) := hD
          have hgE := congrArg (fun X : CS => gN X) e3
          have hgE : gN C = gN C' := hgE
          have hhE := congrArg (fun X : CS => gE X) e3
          have hhE : gE C = gE C' := hhE
          refine k_facts (fun hm1 hm2 hm3 => ?_)
          refine W.widen (k := 7 * (80 - gN C0) + (1048576 - gE C0) / 256) (n := 108 * (80 - gN C0) + 2 * (1048576 - gE C0)) (by omega) (by omega) ?_
          exact W.iret (v := C.1 15) hx hb hr (fun t ht hW => ⟨⟨C.1 15, (cW cI cJ cO h xa ea pa C, [(cI, .int), (cO, .object RX0), (cJ, .long)]), rfl, ⟨ea, pa, e2, (congrArg (fun X : CS => ((cW cI cJ cO h xa ea pa X, [(cI, .int), (cO, .object RX0), (cJ, .long)]) : va_W × List (ClassId × FieldType))) e3), (by show gN C0 ≤ gN C' ∧ gN C' ≤ 80 ∧ gE C0 ≤ gE C' ∧ gE C' ≤ 1048576; omega), hpa⟩, ⟨⟨by rw [ht]; exact hP, va_K.moved hW.alike hK, hD⟩, by rw [ht]; exact hm3, by rw [ht]; omega, by rw [ht]; omega⟩⟩, hS.F ht⟩) hS.2.2 dX3_go_44
        · skip
          rw [if_neg c4] at hq
          refine lv_aload_n hx hb dX3_go_30 rfl (lv_at hl 0 rfl) ?_
          obtain ⟨r5, C5, h5, hq⟩ := k_bd hq
          have hFc := k_free hD hS hA
          refine k_facts (fun hn1 hn2 hn3 => ?_)
          refine va_callv (va_runV (As := []) (rest := []) ⟨hx, hb, hml, hown, hts⟩ (c_X3_passTick (l := l) (D := D) (cI := cI) (cJ := cJ) (cO := cO) (h := h) (xa := xa) (ea0 := ea) (pa0 := pa)  (hg := by show gN C ≤ 80 ∧ gE C ≤ 1048576; omega) (hf := h5)) (cwV 0 hts gX3_go_X3_passTick rfl rfl rfl (by decide +kernel) ⟨Nat.le_of_ble_eq_true rfl, Nat.le_of_ble_eq_true rfl⟩) ⟨k_blindH, va_recv hK hP (ci := 3) (q0 := 0) rfl rfl, fun U hU hW => ⟨rfl, k_preH hU hW hP hK hD⟩⟩ rfl rfl hl.1 rfl (lv_room (Nat.le_of_ble_eq_true rfl)) dX3_go_31 ⟨by show (7 * (gN C - gN C0) + (gE C - gE C0) / 256) + (7 * (80 - gN C) + (1048576 - gE C) / 256) ≤ 7 * (80 - gN C0) + (1048576 - gE C0) / 256; omega, by show (108 * (gN C - gN C0) + 2 * (gE C - gE C0)) + (108 * (80 - gN C) + 2 * (1048576 - gE C)) ≤ 108 * (80 - gN C0) + 2 * (1048576 - gE C0); omega⟩) hS (fun q _ h => hFc q h) hFc (fun u t H1 locs ht hvm hw hB hz1 hk1 hS => ?_)
          obtain ⟨ea5, pa5, rfl, hg5, hp5⟩ := hw
          have hg5 : gN C ≤ gN C5 ∧ gN C5 ≤ 80 ∧ gE C ≤ gE C5 ∧ gE C5 ≤ 1048576 := hg5
          have hpa : ∀ n, n < gN C0 → pa5 n = pa0 n := fun n hn => (hp5 n (by show n < gN C; omega)).trans (hpa n hn)
          obtain ⟨hB, hz2, hz3, hz4⟩ := hB
          rw [ht] at hz2 hz3 hz4
          refine k_tight (k := (7 * (gN C5 - gN C0) + (gE C5 - gE C0) / 256)) (n := (108 * (gN C5 - gN C0) + 2 * (gE C5 - gE C0))) (by omega) (by rw [k_nS_tr hn3.1 hz2]; omega) ?_
          obtain ⟨hP1, hK1, hD1⟩ := hB
          rw [ht] at hP1
          have hP := hP1
          have hD := k_weak hD1 hFc
          generalize H1 = H at hP hS ⊢
          have hP : va_P D vwCl (cW cI cJ cO h xa ea5 pa5 C5) _ := hP
          have hD : va_D A (cW cI cJ cO h xa ea5 pa5 C5) := hD
          refine lv_iinc (v := v2 + 1) (lv' := [(2, .int (v2 + 1)), (0, .ref h), (1, .int v1)]) hx hb dX3_go_34 hl (k := 2) rfl (by rfl) (by decide) rfl (fun ls hl => ?_)
          refine lv_goto (tgt := 15) hx hb dX3_go_37 (by decide) ?_
          exact ih v1 (v2 + 1) C5 ea5 pa5 _ _ _ hq (by show (gN C0 ≤ gN C5 ∧ gN C5 ≤ 80 ∧ gE C0 ≤ gE C5 ∧ gE C5 ≤ 1048576); omega) hpa hP hD hS (lv_sub hl [1, 2, 0] rfl)
  refine W.widen (k := (7 * (gN C0 - gN C0) + (gE C0 - gE C0) / 256)) (n := (108 * (gN C0 - gN C0) + 2 * (gE C0 - gE C0))) (by omega) (by omega) ?_
  have hpa : ∀ n, n < gN C0 → pa0 n = pa0 n := fun _ _ => rfl
  have hq := hf
  rw [f_X3_go] at hq
  refine lv_iload_n hx hb dX3_go_0 rfl (lv_at hl 1 rfl) ?_
  refine lv_if_lt (tgt := 11) hx hb dX3_go_1 (by decide) (fun c1 => ?_) (fun c1 => ?_)
  · skip
    rw [if_pos c1] at hq
    refine lv_iconst (v := (-1)) hx hb dX3_go_11 (by decide) ?_
    obtain ⟨e2, e3⟩ := k_so hq
    subst hQ
    have hP : va_P D vwCl (cW cI cJ cO h xa ea0 pa0 C0) _ := hP
    have hD : va_D A (cW cI cJ cO h xa ea0 pa0 C0) := hD
    have hgE := congrArg (fun X : CS => gN X) e3
    have hgE : gN C0 = gN C' := hgE
    have hhE := congrArg (fun X : CS => gE X) e3
    have hhE : gE C0 = gE C' := hhE
    refine k_facts (fun hm1 hm2 hm3 => ?_)
    refine W.widen (k := 7 * (80 - gN C0) + (1048576 - gE C0) / 256) (n := 108 * (80 - gN C0) + 2 * (1048576 - gE C0)) (by omega) (by omega) ?_
    exact W.iret (v := (-1)) hx hb hr (fun t ht hW => ⟨⟨(-1), (cW cI cJ cO h xa ea0 pa0 C0, [(cI, .int), (cO, .object RX0), (cJ, .long)]), rfl, ⟨ea0, pa0, e2, (congrArg (fun X : CS => ((cW cI cJ cO h xa ea0 pa0 X, [(cI, .int), (cO, .object RX0), (cJ, .long)]) : va_W × List (ClassId × FieldType))) e3), (by show gN C0 ≤ gN C' ∧ gN C' ≤ 80 ∧ gE C0 ≤ gE C' ∧ gE C' ≤ 1048576; omega), hpa⟩, ⟨⟨by rw [ht]; exact hP, va_K.moved hW.alike hK, hD⟩, by rw [ht]; exact hm3, by rw [ht]; omega, by rw [ht]; omega⟩⟩, hS.F ht⟩) hS.2.2 dX3_go_12
  · skip
    rw [if_neg c1] at hq
    refine lv_iload_n hx hb dX3_go_4 rfl (lv_at hl 1 rfl) ?_
    refine lv_sipush (v := 200) hx hb dX3_go_5 (by decide) ?_
    refine lv_icmp_le (tgt := 13) hx hb dX3_go_8 (by decide) (fun c2 => ?_) (fun c2 => ?_)
    · skip
      rw [if_pos c2] at hq
      refine lv_iconst (v := 0) hx hb dX3_go_13 (by decide) ?_
      refine lv_istore_n (lv' := [(2, .int 0), (0, .ref h), (1, .int x1)]) hx hb dX3_go_14 rfl hl (by decide) rfl (fun ls hl => ?_)
      exact B15  300 x1 (0 : Int32) C0 ea0 pa0 _ _ _ hq (by show (gN C0 ≤ gN C0 ∧ gN C0 ≤ 80 ∧ gE C0 ≤ gE C0 ∧ gE C0 ≤ 1048576); omega) hpa hP hD hS (lv_sub hl [1, 2, 0] rfl)
    · skip
      rw [if_neg c2] at hq
      refine lv_iconst (v := (-1)) hx hb dX3_go_11 (by decide) ?_
      obtain ⟨e2, e3⟩ := k_so hq
      subst hQ
      have hP : va_P D vwCl (cW cI cJ cO h xa ea0 pa0 C0) _ := hP
      have hD : va_D A (cW cI cJ cO h xa ea0 pa0 C0) := hD
      have hgE := congrArg (fun X : CS => gN X) e3
      have hgE : gN C0 = gN C' := hgE
      have hhE := congrArg (fun X : CS => gE X) e3
      have hhE : gE C0 = gE C' := hhE
      refine k_facts (fun hm1 hm2 hm3 => ?_)
      refine W.widen (k := 7 * (80 - gN C0) + (1048576 - gE C0) / 256) (n := 108 * (80 - gN C0) + 2 * (1048576 - gE C0)) (by omega) (by omega) ?_
      exact W.iret (v := (-1)) hx hb hr (fun t ht hW => ⟨⟨(-1), (cW cI cJ cO h xa ea0 pa0 C0, [(cI, .int), (cO, .object RX0), (cJ, .long)]), rfl, ⟨ea0, pa0, e2, (congrArg (fun X : CS => ((cW cI cJ cO h xa ea0 pa0 X, [(cI, .int), (cO, .object RX0), (cJ, .long)]) : va_W × List (ClassId × FieldType))) e3), (by show gN C0 ≤ gN C' ∧ gN C' ≤ 80 ∧ gE C0 ≤ gE C' ∧ gE C' ≤ 1048576; omega), hpa⟩, ⟨⟨by rw [ht]; exact hP, va_K.moved hW.alike hK, hD⟩, by rw [ht]; exact hm3, by rw [ht]; omega, by rw [ht]; omega⟩⟩, hS.F ht⟩) hS.2.2 dX3_go_12
