set_option maxRecDepth 100000 in
theorem kw_X3_countState__fieldLink_RX3_102_ActHouse_actCount_I_ : (.fieldLink RX3 102 "ActHouse" "actCount" "I" : Cond) ∈ wsX3_countState := by decide +kernel
set_option maxRecDepth 100000 in
theorem kin_X3_countState_X3 : ∀ w ∈ u_ws RX3 TX3 18, w ∈ wsX3_countState := by decide +kernel
set_option maxRecDepth 100000 in
theorem kw_X3_countState__fieldLink_RX3_27_ActHouse_acts_LActHouse_Act_ : (.fieldLink RX3 27 "ActHouse" "acts" "[LActHouse$Act;" : Cond) ∈ wsX3_countState := by decide +kernel
set_option maxRecDepth 100000 in
theorem kw_X3_countState__fieldLink_RX3_117_ActHouse_Act_state_I_ : (.fieldLink RX3 117 "ActHouse$Act" "state" "I" : Cond) ∈ wsX3_countState := by decide +kernel
set_option maxRecDepth 100000 in
theorem kin_X3_countState_X0 : ∀ w ∈ u_ws RX0 TX0 20, w ∈ wsX3_countState := by decide +kernel
def f_X3_countState_28 (K4 : Int32 → Int32 → Int32 → CS → Option (Int32 × CS)) (v1 : Int32) (v2 : Int32) (v3 : Int32)  (C : CS) : Option (Int32 × CS) := K4 v1 v2 (v3 + 1) C
def f_X3_countState_4  : Nat → Int32 → Int32 → Int32 → CS → Option (Int32 × CS)
  | 0, _, _, _, _ => none
  | k + 1, v1, v2, v3, C => (if (C.1 12) ≤ v3 then some (v2, C) else (if (0 ≤ v3.toInt ∧ v3.toInt < 80) ∧ v3.toNatClampNeg < gN C then (if (gP C v3.toNatClampNeg 12) = v1 then f_X3_countState_28 (fun (v1 : Int32) (v2 : Int32) (v3 : Int32) (C : CS) => f_X3_countState_4  k v1 v2 v3 C) v1 (v2 + 1) v3 C else f_X3_countState_28 (fun (v1 : Int32) (v2 : Int32) (v3 : Int32) (C : CS) => f_X3_countState_4  k v1 v2 v3 C) v1 v2 v3 C) else none))
def f_X3_countState (x1 : Int32) (C0 : CS) : Option (Int32 × CS) := f_X3_countState_4  200 x1 (0 : Int32) (0 : Int32) C0
set_option maxHeartbeats 4000000 in
set_option maxRecDepth 100000 in
theorem c_X3_countState {l : Launch} {D : va_G} {sz : Nat} {cI cJ cO : ClassId} {h : Nat} {xa : Nat → Nat} {ea0 : Nat} {pa0 : Nat → Nat → Nat} {C0 C' : CS} {x1 r' : Int32} (hf : f_X3_countState x1 C0 = some (r', C')) : Met l yX3_countState wsX3_countState ({ frames := 0, cells := 0, slots := 0, locals := 0 }) (va_Pc [.ref h, .int x1] (k_Pre D [(cI, .int), (cO, .object RX0), (cJ, .long)] (cW cI cJ cO h xa ea0 pa0 C0) sz)) (va_Qi (fun (r0 : Int32) (u : va_W × List (ClassId × FieldType)) => r0 = r' ∧ u = (cW cI cJ cO h xa ea0 pa0 C', [(cI, .int), (cO, .object RX0), (cJ, .long)]) ∧ gN C' = gN C0 ∧ gE C' = gE C0) (k_B D (va_A (cW cI cJ cO h xa ea0 pa0 C0) sz)) (va_A (cW cI cJ cO h xa ea0 pa0 C0) sz)) (0) (0) (va_A (cW cI cJ cO h xa ea0 pa0 C0) sz) := by
  refine Met.ofW (cc := cX3_countState) (maxL := 4) (ret := (some .int)) (by decide) rfl ?_
  intro p e s m args below meth c s₁ B hml hv
  obtain ⟨rfl, hsz, hP, hK, hD0⟩ := hv
  have hx := B.exec
  have hb := B.bytes
  have hr := B.returns
  have hts := atoms_spec (ws := wsX3_countState) B.pre
  have hown : s.vm.findClass RX3 = some m.cls := findClass_of_methodNamed B.named
  have hlocks := B.notSynchronized
  subst hsz
  have hD := hD0.self (sz := s.heap.size)
  generalize hAe : va_A (cW cI cJ cO h xa ea0 pa0 C0) s.heap.size = A at hD ⊢
  have hA : ∀ q : Nat, s.heap.size ≤ q → A q := fun q h => by rw [← hAe]; exact Or.inr h
  have hS : va_S A s.heap s.heap [] := va_S.rf
  have hl := lv_entry ([.ref h, .int x1]) (n := 4) (Nat.le_of_ble_eq_true rfl)
  rw [lg_entry_eq]
  generalize (lg_sl ([.ref h, .int x1]) ++ List.replicate (4 - (lg_sl ([.ref h, .int x1])).length) Slot.unset).toArray = ls at hl ⊢
  have hl : lv_has ls 4 [(0, .ref h), (1, .int x1)] := hl
  refine k_Q (fun Q hQ => ?_)
  have hg0 : gN C0 = gN C0 ∧ gE C0 = gE C0 := ⟨rfl, rfl⟩
  have B28 : ∀ (K4 : Int32 → Int32 → Int32 → CS → Option (Int32 × CS)) (hK4 : ∀ (v1 : Int32) (v2 : Int32) (v3 : Int32)  (C : CS)  (H : Heap) (locs : List Loc) (ls : Array Slot), K4 v1 v2 v3 C = some (r', C') → (gN C = gN C0 ∧ gE C = gE C0) → va_P D vwCl (cW cI cJ cO h xa ea0 pa0 C) H → va_D A (cW cI cJ cO h xa ea0 pa0 C) → va_S A s.heap H locs → lv_has ls 4 [(0, .ref h), (1, .int v1), (2, .int v2), (3, .int v3)] → W p l e (headSpec wsX3_countState ({ frames := 0, cells := 0, slots := 0, locals := 0 })).room s m ([.ref h, .int x1] : List Value).toArray below meth c H locs (0) (0) Q (F0 m 4 ls [])), ∀ (v1 : Int32) (v2 : Int32) (v3 : Int32)  (C : CS)  (H : Heap) (locs : List Loc) (ls : Array Slot), f_X3_countState_28 K4 v1 v2 v3 C = some (r', C') → (gN C = gN C0 ∧ gE C = gE C0) → va_P D vwCl (cW cI cJ cO h xa ea0 pa0 C) H → va_D A (cW cI cJ cO h xa ea0 pa0 C) → va_S A s.heap H locs → lv_has ls 4 [(0, .ref h), (1, .int v1), (2, .int v2), (3, .int v3)] → W p l e (headSpec wsX3_countState ({ frames := 0, cells := 0, slots := 0, locals := 0 })).room s m ([.ref h, .int x1] : List Value).toArray below meth c H locs (0) (0) Q (F0 m 28 ls []) := by
    intro K4 hK4
    intro v1 v2 v3  C  H locs ls hq hg  hP hD hS hl
    rw [f_X3_countState_28] at hq
    refine lv_iinc (v := v3 + 1) (lv' := [(3, .int (v3 + 1)), (0, .ref h), (1, .int v1), (2, .int v2)]) hx hb dX3_countState_28 hl (k := 3) rfl (by rfl) (by decide) rfl (fun ls hl => ?_)
    refine lv_goto (tgt := 4) hx hb dX3_countState_31 (by decide) ?_
    exact hK4 v1 v2 (v3 + 1) C  _ _ _ hq (by show (gN C = gN C0 ∧ gE C = gE C0); omega) hP hD hS (lv_sub hl [1, 2, 3, 0] rfl)
  have B4 : ∀  (k : Nat), ∀ (v1 : Int32) (v2 : Int32) (v3 : Int32)  (C : CS)  (H : Heap) (locs : List Loc) (ls : Array Slot), f_X3_countState_4  k v1 v2 v3 C = some (r', C') → (gN C = gN C0 ∧ gE C = gE C0) → va_P D vwCl (cW cI cJ cO h xa ea0 pa0 C) H → va_D A (cW cI cJ cO h xa ea0 pa0 C) → va_S A s.heap H locs → lv_has ls 4 [(0, .ref h), (1, .int v1), (2, .int v2), (3, .int v3)] → W p l e (headSpec wsX3_countState ({ frames := 0, cells := 0, slots := 0, locals := 0 })).room s m ([.ref h, .int x1] : List Value).toArray below meth c H locs (0) (0) Q (F0 m 4 ls []) := by
    intro  k
    induction k with
    | zero =>
      intro v1 v2 v3  C  H locs ls hq hg  hP hD hS hl
      exact absurd hq (by rw [f_X3_countState_4]; exact k_non)
    | succ k ih =>
      intro v1 v2 v3  C  H locs ls hq hg  hP hD hS hl
      rw [f_X3_countState_4] at hq
      refine lv_iload_n hx hb dX3_countState_4 rfl (lv_at hl 3 rfl) ?_
      refine lv_aload_n hx hb dX3_countState_5 rfl (lv_at hl 0 rfl) ?_
      refine va_get (D := D) (ci := 3) (v := .int (C.1 12)) (C := RX3) (T := TX3) (N := 18) hx hb hts kin_X3_countState_X3 hown hK hP 0 rfl rfl 12 (by decide) (hts _ kw_X3_countState__fieldLink_RX3_102_ActHouse_actCount_I_) (fun _ h9 => h9) rfl dX3_countState_6 ?_
      refine lv_icmp_ge (tgt := 34) hx hb dX3_countState_9 (by decide) (fun c1 => ?_) (fun c1 => ?_)
      · skip
        rw [if_pos c1] at hq
        refine lv_iload_n hx hb dX3_countState_34 rfl (lv_at hl 2 rfl) ?_
        obtain ⟨e2, e3⟩ := k_so hq
        subst hQ
        have hP : va_P D vwCl (cW cI cJ cO h xa ea0 pa0 C) _ := hP
        have hD : va_D A (cW cI cJ cO h xa ea0 pa0 C) := hD
        have hgE := congrArg (fun X : CS => gN X) e3
        have hgE : gN C = gN C' := hgE
        have hhE := congrArg (fun X : CS => gE X) e3
        have hhE : gE C = gE C' := hhE
        refine W.widen (k := 0) (n := 0) (by decide) (by decide) ?_
        exact W.iret (v := v2) hx hb hr (fun t ht hW => ⟨⟨v2, (cW cI cJ cO h xa ea0 pa0 C, [(cI, .int), (cO, .object RX0), (cJ, .long)]), rfl, ⟨e2, (congrArg (fun X : CS => ((cW cI cJ cO h xa ea0 pa0 X, [(cI, .int), (cO, .object RX0), (cJ, .long)]) : va_W × List (ClassId × FieldType))) e3), by omega, by omega⟩, ⟨by rw [ht]; exact hP, va_K.moved hW.alike hK, hD⟩⟩, hS.F ht⟩) hS.2.2 dX3_countState_35
      · skip
        rw [if_neg c1] at hq
        refine lv_aload_n hx hb dX3_countState_12 rfl (lv_at hl 0 rfl) ?_
        refine va_get (D := D) (ci := 3) (v := .ref (xa 5)) (C := RX3) (T := TX3) (N := 18) hx hb hts kin_X3_countState_X3 hown hK hP 0 rfl rfl 5 (by decide) (hts _ kw_X3_countState__fieldLink_RX3_27_ActHouse_acts_LActHouse_Act_) (fun _ h9 => h9) rfl dX3_countState_13 ?_
        refine lv_iload_n hx hb dX3_countState_16 rfl (lv_at hl 3 rfl) ?_
        obtain ⟨b2, hq⟩ := k_if hq
        refine va_aldq hx hb hK hP 6 1 (f := cActs pa0 (gN C)) rfl rfl (k_in b2.1.1 b2.1.2) dX3_countState_17 ?_
        refine W.eq (g2 := F0 m 18 ls [.ref (pa0 v3.toNatClampNeg 0)]) (by rw [cActs_lt b2.2]; rfl) ?_
        refine va_get (D := D) (ci := 0) (v := .int (gP C v3.toNatClampNeg 12)) (C := RX0) (T := TX0) (N := 20) hx hb hts kin_X3_countState_X0 hown hK hP (16 + (7 * v3.toNatClampNeg + 0)) (cW_get (show v3.toNatClampNeg < gN C from by omega) rfl) rfl 12 (by decide) (hts _ kw_X3_countState__fieldLink_RX3_117_ActHouse_Act_state_I_) (fun _ h9 => h9) rfl dX3_countState_18 ?_
        refine lv_iload_n hx hb dX3_countState_21 rfl (lv_at hl 1 rfl) ?_
        refine lv_icmp_ne (tgt := 28) hx hb dX3_countState_22 (by decide) (fun c3 => ?_) (fun c3 => ?_)
        · skip
          rw [if_neg c3] at hq
          exact B28 (fun (v1 : Int32) (v2 : Int32) (v3 : Int32) (C : CS) => f_X3_countState_4  k v1 v2 v3 C) ih v1 v2 v3 C  _ _ _ hq (by show (gN C = gN C0 ∧ gE C = gE C0); omega) hP hD hS (lv_sub hl [0, 1, 2, 3] rfl)
        · skip
          rw [if_pos c3] at hq
          refine lv_iinc (v := v2 + 1) (lv' := [(2, .int (v2 + 1)), (0, .ref h), (1, .int v1), (3, .int v3)]) hx hb dX3_countState_25 hl (k := 2) rfl (by rfl) (by decide) rfl (fun ls hl => ?_)
          exact B28 (fun (v1 : Int32) (v2 : Int32) (v3 : Int32) (C : CS) => f_X3_countState_4  k v1 v2 v3 C) ih v1 (v2 + 1) v3 C  _ _ _ hq (by show (gN C = gN C0 ∧ gE C = gE C0); omega) hP hD hS (lv_sub hl [1, 2, 0, 3] rfl)
  have hq := hf
  rw [f_X3_countState] at hq
  refine lv_iconst (v := 0) hx hb dX3_countState_0 (by decide) ?_
  refine lv_istore_n (lv' := [(2, .int 0), (0, .ref h), (1, .int x1)]) hx hb dX3_countState_1 rfl hl (by decide) rfl (fun ls hl => ?_)
  refine lv_iconst (v := 0) hx hb dX3_countState_2 (by decide) ?_
  refine lv_istore_n (lv' := [(3, .int 0), (2, .int 0), (0, .ref h), (1, .int x1)]) hx hb dX3_countState_3 rfl hl (by decide) rfl (fun ls hl => ?_)
  exact B4  200 x1 (0 : Int32) (0 : Int32) C0  _ _ _ hq (by show (gN C0 = gN C0 ∧ gE C0 = gE C0); omega) hP hD hS (lv_sub hl [2, 3, 1, 0] rfl)
set_option maxRecDepth 100000 in
theorem kw_X3_admit__fieldLink_RX3_102_ActHouse_actCount_I_ : (.fieldLink RX3 102 "ActHouse" "actCount" "I" : Cond) ∈ wsX3_admit := by decide +kernel
set_option maxRecDepth 100000 in
theorem kin_X3_admit_X3 : ∀ w ∈ u_ws RX3 TX3 18, w ∈ wsX3_admit := by decide +kernel
set_option maxRecDepth 100000 in
theorem kw_X3_admit__fieldLink_RX3_27_ActHouse_acts_LActHouse_Act_ : (.fieldLink RX3 27 "ActHouse" "acts" "[LActHouse$Act;" : Cond) ∈ wsX3_admit := by decide +kernel
set_option maxRecDepth 100000 in
theorem kin_X3_admit_X0 : ∀ w ∈ u_ws RX0 TX0 20, w ∈ wsX3_admit := by decide +kernel
set_option maxRecDepth 100000 in
theorem kw_X3_admit__classLink_RX3_25_RX0 : (.classLink RX3 25 RX0 : Cond) ∈ wsX3_admit := by decide +kernel
set_option maxRecDepth 100000 in
theorem kw_X3_admit__instantiable_RX0_20 : (.instantiable RX0 20 : Cond) ∈ wsX3_admit := by decide +kernel
set_option maxRecDepth 100000 in
theorem kw_X3_admit__initialized_RX0 : (.initialized RX0 : Cond) ∈ wsX3_admit := by decide +kernel
set_option maxRecDepth 100000 in
theorem kw_X3_admit__methodLink_RX3_176_yX0_init : (.methodLink RX3 176 yX0_init : Cond) ∈ wsX3_admit := by decide +kernel
set_option maxRecDepth 100000 in
theorem kw_X3_admit__instanceMethod_yX0_init : (.instanceMethod yX0_init : Cond) ∈ wsX3_admit := by decide +kernel
set_option maxRecDepth 100000 in
theorem kw_X3_admit__fieldLink_RX3_31_ActHouse_order_I_ : (.fieldLink RX3 31 "ActHouse" "order" "[I" : Cond) ∈ wsX3_admit := by decide +kernel
set_option maxRecDepth 100000 in
theorem kw_X3_admit__fieldLink_RX3_126_ActHouse_Act_rank_I_ : (.fieldLink RX3 126 "ActHouse$Act" "rank" "I" : Cond) ∈ wsX3_admit := by decide +kernel
def f_X3_admit_88  (v5 : Int32) (v6 : Int32)  (C : CS) : Option (Int32 × CS) := (if 0 ≤ v6.toInt ∧ v6.toInt < 80 then (k_let (cAF C 6 (upd (C.2.1 6) v6.toNatClampNeg v5)) fun C6 => (k_let (cN C6 12 ((C6.1 12) + 1)) fun C7 => some (v5, C7))) else none)
def f_X3_admit_40  : Nat → Int32 → Int32 → Int32 → CS → Option (Int32 × CS)
  | 0, _, _, _, _ => none
  | k + 1, v3, v5, v6, C => (if v6 ≤ 0 then f_X3_admit_88  v5 v6 C else (if 0 ≤ (v6 - 1).toInt ∧ (v6 - 1).toInt < 80 then (if (0 ≤ ((C.2.1 6) (v6 - 1).toNatClampNeg).toInt ∧ ((C.2.1 6) (v6 - 1).toNatClampNeg).toInt < 80) ∧ ((C.2.1 6) (v6 - 1).toNatClampNeg).toNatClampNeg < gN C then (if (gP C (((C.2.1 6) (v6 - 1).toNatClampNeg).toNatClampNeg) 2) ≤ v3 then f_X3_admit_88  v5 v6 C else (if 0 ≤ v6.toInt ∧ v6.toInt < 80 then (k_let (cAF C 6 (upd (C.2.1 6) v6.toNatClampNeg ((C.2.1 6) (v6 - 1).toNatClampNeg))) fun C12 => f_X3_admit_40  k v3 v5 (v6 - 1) C12) else none)) else none) else none))
def f_X3_admit (x1 : Int32) (x2 : Int32) (x3 : Int32) (x4 : Int32) (C0 : CS) : Option (Int32 × CS) := (if (C0.1 12) < 80 then (if gN C0 < 80 ∧ (C0.1 12).toNatClampNeg = gN C0 ∧ 0 ≤ (C0.1 12).toInt ∧ (C0.1 12).toInt < 80 then (k_let (cAdd C0 (kAct x1 x2 x3 x4) (fun _ _ => 0)) fun C3 => f_X3_admit_40  200 x3 (C0.1 12) (C0.1 12) C3) else none) else some (((-1) : Int32), C0))
set_option maxHeartbeats 4000000 in
set_option maxRecDepth 100000 in
theorem c_X3_admit {l : Launch} {D : va_G} {hp : Heap} {cI cJ cO : ClassId} {h : Nat} {xa : Nat → Nat} {ea0 : Nat} {pa0 : Nat → Nat → Nat} {C0 C' : CS} {x1 x2 x3 x4 r' : Int32} (hg : gN C0 ≤ 80 ∧ gE C0 ≤ 1048576) (hf : f_X3_admit x1 x2 x3 x4 C0 = some (r', C')) : Met l yX3_admit wsX3_admit ({ frames := 2, cells := 7 * (80 - gN C0) + (1048576 - gE C0) / 256, slots := 108 * (80 - gN C0) + 2 * (1048576 - gE C0), locals := 36 }) (va_Pc [.ref h, .int x1, .int x2, .int x3, .int x4] (k_PreH D [(cI, .int), (cO, .object RX0), (cJ, .long)] (cW cI cJ cO h xa ea0 pa0 C0) hp)) (va_Qi (fun (r0 : Int32) (u : va_W × List (ClassId × FieldType)) => ∃ (ea' : Nat) (pa' : Nat → Nat → Nat), r0 = r' ∧ u = (cW cI cJ cO h xa ea' pa' C', [(cI, .int), (cO, .object RX0), (cJ, .long)]) ∧ (gN C0 ≤ gN C' ∧ gN C' ≤ 80 ∧ gE C0 ≤ gE C' ∧ gE C' ≤ 1048576) ∧ ∀ n, n < gN C0 → pa' n = pa0 n) (k_BM D (va_A (cW cI cJ cO h xa ea0 pa0 C0) hp.size) hp (7 * (gN C' - gN C0) + (gE C' - gE C0) / 256) (108 * (gN C' - gN C0) + 2 * (gE C' - gE C0))) (va_A (cW cI cJ cO h xa ea0 pa0 C0) hp.size)) (7 * (80 - gN C0) + (1048576 - gE C0) / 256) (108 * (80 - gN C0) + 2 * (1048576 - gE C0)) (va_A (cW cI cJ cO h xa ea0 pa0 C0) hp.size) := by
  refine Met.ofW (cc := cX3_admit) (maxL := 7) (ret := (some .int)) (by decide) rfl ?_
  intro p e s m args below meth c s₁ B hml hv
  obtain ⟨rfl, hsz, hP, hK, hD0⟩ := hv
  have hx := B.exec
  have hb := B.bytes
  have hr := B.returns
  have hts := atoms_spec (ws := wsX3_admit) B.pre
  have hown : s.vm.findClass RX3 = some m.cls := findClass_of_methodNamed B.named
  have hlocks := B.notSynchronized
  have hsz : s.heap = hp := hsz
  subst hsz
  have hD := hD0.self (sz := s.heap.size)
  generalize hAe : va_A (cW cI cJ cO h xa ea0 pa0 C0) s.heap.size = A at hD ⊢
  have hA : ∀ q : Nat, s.heap.size ≤ q → A q := fun q h => by rw [← hAe]; exact Or.inr h
  have hS : va_S A s.heap s.heap [] := va_S.rf
  have hl := lv_entry ([.ref h, .int x1, .int x2, .int x3, .int x4]) (n := 7) (Nat.le_of_ble_eq_true rfl)
  rw [lg_entry_eq]
  generalize (lg_sl ([.ref h, .int x1, .int x2, .int x3, .int x4]) ++ List.replicate (7 - (lg_sl ([.ref h, .int x1, .int x2, .int x3, .int x4])).length) Slot.unset).toArray = ls at hl ⊢
  have hl : lv_has ls 7 [(0, .ref h), (1, .int x1), (2, .int x2), (3, .int x3), (4, .int x4)] := hl
  refine k_Q (fun Q hQ => ?_)
  have B88 : ∀ (v5 : Int32) (v6 : Int32)  (C : CS) (ea : Nat) (pa : Nat → Nat → Nat) (H : Heap) (locs : List Loc) (ls : Array Slot), f_X3_admit_88 v5 v6 C = some (r', C') → (gN C0 ≤ gN C ∧ gN C ≤ 80 ∧ gE C0 ≤ gE C ∧ gE C ≤ 1048576) → (∀ n, n < gN C0 → pa n = pa0 n) → va_P D vwCl (cW cI cJ cO h xa ea pa C) H → va_D A (cW cI cJ cO h xa ea pa C) → va_S A s.heap H locs → lv_has ls 7 [(0, .ref h), (5, .int v5), (6, .int v6)] → W p l e (headSpec wsX3_admit ({ frames := 2, cells := 7 * (80 - gN C0) + (1048576 - gE C0) / 256, slots := 108 * (80 - gN C0) + 2 * (1048576 - gE C0), locals := 36 })).room s m ([.ref h, .int x1, .int x2, .int x3, .int x4] : List Value).toArray below meth c H locs ((7 * (gN C - gN C0) + (gE C - gE C0) / 256)) ((108 * (gN C - gN C0) + 2 * (gE C - gE C0))) Q (F0 m 88 ls []) := by
    intro v5 v6  C ea pa H locs ls hq hg hpa  hP hD hS hl
    rw [f_X3_admit_88] at hq
    refine lv_aload_n hx hb dX3_admit_88 rfl (lv_at hl 0 rfl) ?_
    refine va_get (D := D) (ci := 3) (v := .ref (xa 6)) (C := RX3) (T := TX3) (N := 18) hx hb hts kin_X3_admit_X3 hown hK hP 0 rfl rfl 6 (by decide) (hts _ kw_X3_admit__fieldLink_RX3_31_ActHouse_order_I_) (fun _ h9 => h9) rfl dX3_admit_89 ?_
    refine lv_iload hx hb dX3_admit_92 (lv_at hl 2 rfl) ?_
    refine lv_iload hx hb dX3_admit_94 (lv_at hl 1 rfl) ?_
    obtain ⟨b5, hq⟩ := k_if hq
    refine va_iast hx hb hK hP hD hS 7 0 (f := (C.2.1 6)) rfl rfl (x := v5) (k_in b5.1 b5.2) dX3_admit_96 (fun H locs hP hD hS => ?_)
    obtain ⟨C6, eC6, hg6, hh6, hq⟩ := k_lc (C := C) hq rfl rfl
    rw [cW_F6, ← eC6] at hP hD
    have hP : va_P D vwCl (cW cI cJ cO h xa ea pa C6) _ := hP
    have hD : va_D A (cW cI cJ cO h xa ea pa C6) := hD
    refine W.widen (k := (7 * (gN C6 - gN C0) + (gE C6 - gE C0) / 256)) (n := (108 * (gN C6 - gN C0) + 2 * (gE C6 - gE C0))) (by omega) (by omega) ?_
    refine lv_aload_n hx hb dX3_admit_97 rfl (lv_at hl 0 rfl) ?_
    refine lv_dup hx hb dX3_admit_98 rfl ?_
    refine va_get (D := D) (ci := 3) (v := .int (C6.1 12)) (C := RX3) (T := TX3) (N := 18) hx hb hts kin_X3_admit_X3 hown hK hP 0 rfl rfl 12 (by decide) (hts _ kw_X3_admit__fieldLink_RX3_102_ActHouse_actCount_I_) (fun _ h9 => h9) rfl dX3_admit_99 ?_
    refine lv_iconst (v := 1) hx hb dX3_admit_102 (by decide) ?_
    refine lv_iadd hx hb dX3_admit_103 ?_
    refine va_put (D := D) (ci := 3) (v := .int ((C6.1 12) + 1)) (ty := .int) (C := RX3) (T := TX3) (N := 18) hx hb hts kin_X3_admit_X3 tyX3 tyX3_ok nmX3 hown hK hP hD hS 0 (fs := hF xa C6) rfl rfl 12 (by decide) (hts _ kw_X3_admit__fieldLink_RX3_102_ActHouse_actCount_I_) (fun _ h9 => h9) rfl (by decide +kernel) rfl rfl (Nat.le_of_ble_eq_true rfl) dX3_admit_104 (fun H locs hP hD hS => ?_)
    obtain ⟨C7, eC7, hg7, hh7, hq⟩ := k_lc (C := C6) hq rfl rfl
    rw [cW_I12, ← eC7] at hP hD
    have hP : va_P D vwCl (cW cI cJ cO h xa ea pa C7) _ := hP
    have hD : va_D A (cW cI cJ cO h xa ea pa C7) := hD
    refine W.widen (k := (7 * (gN C7 - gN C0) + (gE C7 - gE C0) / 256)) (n := (108 * (gN C7 - gN C0) + 2 * (gE C7 - gE C0))) (by omega) (by omega) ?_
    refine lv_iload hx hb dX3_admit_107 (lv_at hl 1 rfl) ?_
    obtain ⟨e2, e3⟩ := k_so hq
    subst hQ
    have hP : va_P D vwCl (cW cI cJ cO h xa ea pa C7) _ := hP
    have hD : va_D A (cW cI cJ cO h xa ea pa C7) := hD
    have hgE := congrArg (fun X : CS => gN X) e3
    have hgE : gN C7 = gN C' := hgE
    have hhE := congrArg (fun X : CS => gE X) e3
    have hhE : gE C7 = gE C' := hhE
    refine k_facts (fun hm1 hm2 hm3 => ?_)
    refine W.widen (k := 7 * (80 - gN C0) + (1048576 - gE C0) / 256) (n := 108 * (80 - gN C0) + 2 * (1048576 - gE C0)) (by omega) (by omega) ?_
    exact W.iret (v := v5) hx hb hr (fun t ht hW => ⟨⟨v5, (cW cI cJ cO h xa ea pa C7, [(cI, .int), (cO, .object RX0), (cJ, .long)]), rfl, ⟨ea, pa, e2, (congrArg (fun X : CS => ((cW cI cJ cO h xa ea pa X, [(cI, .int), (cO, .object RX0), (cJ, .long)]) : va_W × List (ClassId × FieldType))) e3), (by show gN C0 ≤ gN C' ∧ gN C' ≤ 80 ∧ gE C0 ≤ gE C' ∧ gE C' ≤ 1048576; omega), hpa⟩, ⟨⟨by rw [ht]; exact hP, va_K.moved hW.alike hK, hD⟩, by rw [ht]; exact hm3, by rw [ht]; omega, by rw [ht]; omega⟩⟩, hS.F ht⟩) hS.2.2 dX3_admit_109
  have B40 : ∀  (k : Nat), ∀ (v3 : Int32) (v5 : Int32) (v6 : Int32)  (C : CS) (ea : Nat) (pa : Nat → Nat → Nat) (H : Heap) (locs : List Loc) (ls : Array Slot), f_X3_admit_40  k v3 v5 v6 C = some (r', C') → (gN C0 ≤ gN C ∧ gN C ≤ 80 ∧ gE C0 ≤ gE C ∧ gE C ≤ 1048576) → (∀ n, n < gN C0 → pa n = pa0 n) → va_P D vwCl (cW cI cJ cO h xa ea pa C) H → va_D A (cW cI cJ cO h xa ea pa C) → va_S A s.heap H locs → lv_has ls 7 [(0, .ref h), (3, .int v3), (5, .int v5), (6, .int v6)] → W p l e (headSpec wsX3_admit ({ frames := 2, cells := 7 * (80 - gN C0) + (1048576 - gE C0) / 256, slots := 108 * (80 - gN C0) + 2 * (1048576 - gE C0), locals := 36 })).room s m ([.ref h, .int x1, .int x2, .int x3, .int x4] : List Value).toArray below meth c H locs ((7 * (gN C - gN C0) + (gE C - gE C0) / 256)) ((108 * (gN C - gN C0) + 2 * (gE C - gE C0))) Q (F0 m 40 ls []) := by
    intro  k
    induction k with
    | zero =>
      intro v3 v5 v6  C ea pa H locs ls hq hg hpa  hP hD hS hl
      exact absurd hq (by rw [f_X3_admit_40]; exact k_non)
    | succ k ih =>
      intro v3 v5 v6  C ea pa H locs ls hq hg hpa  hP hD hS hl
      rw [f_X3_admit_40] at hq
      refine lv_iload hx hb dX3_admit_40 (lv_at hl 3 rfl) ?_
      refine lv_if_le (tgt := 88) hx hb dX3_admit_42 (by decide) (fun c4 => ?_) (fun c4 => ?_)
      · skip
        rw [if_pos c4] at hq
        exact B88  v5 v6 C ea pa _ _ _ hq (by show (gN C0 ≤ gN C ∧ gN C ≤ 80 ∧ gE C0 ≤ gE C ∧ gE C ≤ 1048576); omega) hpa hP hD hS (lv_sub hl [0, 2, 3] rfl)
      · skip
        rw [if_neg c4] at hq
        refine lv_aload_n hx hb dX3_admit_45 rfl (lv_at hl 0 rfl) ?_
        refine va_get (D := D) (ci := 3) (v := .ref (xa 5)) (C := RX3) (T := TX3) (N := 18) hx hb hts kin_X3_admit_X3 hown hK hP 0 rfl rfl 5 (by decide) (hts _ kw_X3_admit__fieldLink_RX3_27_ActHouse_acts_LActHouse_Act_) (fun _ h9 => h9) rfl dX3_admit_46 ?_
        refine lv_aload_n hx hb dX3_admit_49 rfl (lv_at hl 0 rfl) ?_
        refine va_get (D := D) (ci := 3) (v := .ref (xa 6)) (C := RX3) (T := TX3) (N := 18) hx hb hts kin_X3_admit_X3 hown hK hP 0 rfl rfl 6 (by decide) (hts _ kw_X3_admit__fieldLink_RX3_31_ActHouse_order_I_) (fun _ h9 => h9) rfl dX3_admit_50 ?_
        refine lv_iload hx hb dX3_admit_53 (lv_at hl 3 rfl) ?_
        refine lv_iconst (v := 1) hx hb dX3_admit_55 (by decide) ?_
        refine lv_isub hx hb dX3_admit_56 ?_
        obtain ⟨b8, hq⟩ := k_if hq
        refine va_iald hx hb hK hP 7 0 (f := (C.2.1 6)) rfl rfl (k_in b8.1 b8.2) dX3_admit_57 ?_
        obtain ⟨b9, hq⟩ := k_if hq
        refine va_aldq hx hb hK hP 6 1 (f := cActs pa (gN C)) rfl rfl (k_in b9.1.1 b9.1.2) dX3_admit_58 ?_
        refine W.eq (g2 := F0 m 59 ls [.ref (pa (((C.2.1 6) (v6 - 1).toNatClampNeg).toNatClampNeg) 0)]) (by rw [cActs_lt b9.2]; rfl) ?_
        refine va_get (D := D) (ci := 0) (v := .int (gP C (((C.2.1 6) (v6 - 1).toNatClampNeg).toNatClampNeg) 2)) (C := RX0) (T := TX0) (N := 20) hx hb hts kin_X3_admit_X0 hown hK hP (16 + (7 * (((C.2.1 6) (v6 - 1).toNatClampNeg).toNatClampNeg) + 0)) (cW_get (show ((C.2.1 6) (v6 - 1).toNatClampNeg).toNatClampNeg < gN C from by omega) rfl) rfl 2 (by decide) (hts _ kw_X3_admit__fieldLink_RX3_126_ActHouse_Act_rank_I_) (fun _ h9 => h9) rfl dX3_admit_59 ?_
        refine lv_iload_n hx hb dX3_admit_62 rfl (lv_at hl 1 rfl) ?_
        refine lv_icmp_le (tgt := 88) hx hb dX3_admit_63 (by decide) (fun c10 => ?_) (fun c10 => ?_)
        · skip
          rw [if_pos c10] at hq
          exact B88  v5 v6 C ea pa _ _ _ hq (by show (gN C0 ≤ gN C ∧ gN C ≤ 80 ∧ gE C0 ≤ gE C ∧ gE C ≤ 1048576); omega) hpa hP hD hS (lv_sub hl [0, 2, 3] rfl)
        · skip
          rw [if_neg c10] at hq
          refine lv_aload_n hx hb dX3_admit_66 rfl (lv_at hl 0 rfl) ?_
          refine va_get (D := D) (ci := 3) (v := .ref (xa 6)) (C := RX3) (T := TX3) (N := 18) hx hb hts kin_X3_admit_X3 hown hK hP 0 rfl rfl 6 (by decide) (hts _ kw_X3_admit__fieldLink_RX3_31_ActHouse_order_I_) (fun _ h9 => h9) rfl dX3_admit_67 ?_
          refine lv_iload hx hb dX3_admit_70 (lv_at hl 3 rfl) ?_
          refine lv_aload_n hx hb dX3_admit_72 rfl (lv_at hl 0 rfl) ?_
          refine va_get (D := D) (ci := 3) (v := .ref (xa 6)) (C := RX3) (T := TX3) (N := 18) hx hb hts kin_X3_admit_X3 hown hK hP 0 rfl rfl 6 (by decide) (hts _ kw_X3_admit__fieldLink_RX3_31_ActHouse_order_I_) (fun _ h9 => h9) rfl dX3_admit_73 ?_
          refine lv_iload hx hb dX3_admit_76 (lv_at hl 3 rfl) ?_
          refine lv_iconst (v := 1) hx hb dX3_admit_78 (by decide) ?_
          refine lv_isub hx hb dX3_admit_79 ?_
          refine va_iald hx hb hK hP 7 0 (f := (C.2.1 6)) rfl rfl (k_in b8.1 b8.2) dX3_admit_80 ?_
          obtain ⟨b11, hq⟩ := k_if hq
          refine va_iast hx hb hK hP hD hS 7 0 (f := (C.2.1 6)) rfl rfl (x := ((C.2.1 6) (v6 - 1).toNatClampNeg)) (k_in b11.1 b11.2) dX3_admit_81 (fun H locs hP hD hS => ?_)
          obtain ⟨C12, eC12, hg12, hh12, hq⟩ := k_lc (C := C) hq rfl rfl
          rw [cW_F6, ← eC12] at hP hD
          have hP : va_P D vwCl (cW cI cJ cO h xa ea pa C12) _ := hP
          have hD : va_D A (cW cI cJ cO h xa ea pa C12) := hD
          refine W.widen (k := (7 * (gN C12 - gN C0) + (gE C12 - gE C0) / 256)) (n := (108 * (gN C12 - gN C0) + 2 * (gE C12 - gE C0))) (by omega) (by omega) ?_
          refine lv_iinc (v := v6 - 1) (lv' := [(6, .int (v6 - 1)), (0, .ref h), (3, .int v3), (5, .int v5)]) hx hb dX3_admit_82 hl (k := 3) rfl (by exact k_dec _) (by decide) rfl (fun ls hl => ?_)
          refine lv_goto (tgt := 40) hx hb dX3_admit_85 (by decide) ?_
          exact ih v3 v5 (v6 - 1) C12 ea pa _ _ _ hq (by show (gN C0 ≤ gN C12 ∧ gN C12 ≤ 80 ∧ gE C0 ≤ gE C12 ∧ gE C12 ≤ 1048576); omega) hpa hP hD hS (lv_sub hl [1, 2, 3, 0] rfl)
  refine W.widen (k := (7 * (gN C0 - gN C0) + (gE C0 - gE C0) / 256)) (n := (108 * (gN C0 - gN C0) + 2 * (gE C0 - gE C0))) (by omega) (by omega) ?_
  have hpa : ∀ n, n < gN C0 → pa0 n = pa0 n := fun _ _ => rfl
  have hq := hf
  rw [f_X3_admit] at hq
  refine lv_aload_n hx hb dX3_admit_0 rfl (lv_at hl 0 rfl) ?_
  refine va_get (D := D) (ci := 3) (v := .int (C0.1 12)) (C := RX3) (T := TX3) (N := 18) hx hb hts kin_X3_admit_X3 hown hK hP 0 rfl rfl 12 (by decide) (hts _ kw_X3_admit__fieldLink_RX3_102_ActHouse_actCount_I_) (fun _ h9 => h9) rfl dX3_admit_1 ?_
  refine lv_bipush (v := 80) hx hb dX3_admit_4 (by decide) ?_
  refine lv_icmp_lt (tgt := 11) hx hb dX3_admit_6 (by decide) (fun c1 => ?_) (fun c1 => ?_)
  · skip
    rw [if_pos c1] at hq
    refine lv_aload_n hx hb dX3_admit_11 rfl (lv_at hl 0 rfl) ?_
    refine va_get (D := D) (ci := 3) (v := .int (C0.1 12)) (C := RX3) (T := TX3) (N := 18) hx hb hts kin_X3_admit_X3 hown hK hP 0 rfl rfl 12 (by decide) (hts _ kw_X3_admit__fieldLink_RX3_102_ActHouse_actCount_I_) (fun _ h9 => h9) rfl dX3_admit_12 ?_
    refine lv_istore (lv' := [(5, .int (C0.1 12)), (0, .ref h), (1, .int x1), (2, .int x2), (3, .int x3), (4, .int x4)]) hx hb dX3_admit_15 hl (by decide) rfl (fun ls hl => ?_)
    refine lv_aload_n hx hb dX3_admit_17 rfl (lv_at hl 1 rfl) ?_
    refine va_get (D := D) (ci := 3) (v := .ref (xa 5)) (C := RX3) (T := TX3) (N := 18) hx hb hts kin_X3_admit_X3 hown hK hP 0 rfl rfl 5 (by decide) (hts _ kw_X3_admit__fieldLink_RX3_27_ActHouse_acts_LActHouse_Act_) (fun _ h9 => h9) rfl dX3_admit_18 ?_
    refine lv_iload hx hb dX3_admit_21 (lv_at hl 0 rfl) ?_
    obtain ⟨b2, hq⟩ := k_if hq
    refine va_new (ci := 0) (fs := [.int 0, .int 0, .int 0, .int 0, .null, .null, .null, .null, .null, .null, .int 0, .int 0, .int 0, .int 0, .int 0, .int 0, .int 0, .int 0, .int 0, .int 0]) (C := RX0) (T := TX0) (N := 20) hx hb hts kin_X3_admit_X0 tyX0 tyX0_ok hown (hts _ kw_X3_admit__classLink_RX3_25_RX0) (hts _ kw_X3_admit__instantiable_RX0_20) (hts _ kw_X3_admit__initialized_RX0) hK hP hD hS hA rfl (fun j hj => by revert j; decide) (by show (7 * (gN C0 - gN C0) + (gE C0 - gE C0) / 256) + 1 ≤ 7 * (80 - gN C0) + (1048576 - gE C0) / 256; omega) (by show (108 * (gN C0 - gN C0) + 2 * (gE C0 - gE C0)) + 20 ≤ 108 * (80 - gN C0) + 2 * (1048576 - gE C0); omega) dX3_admit_23 (fun q H hP hD hS => ?_)
    refine lv_dup hx hb dX3_admit_26 rfl ?_
    refine lv_iload_n hx hb dX3_admit_27 rfl (lv_at hl 2 rfl) ?_
    refine lv_iload_n hx hb dX3_admit_28 rfl (lv_at hl 3 rfl) ?_
    refine lv_iload_n hx hb dX3_admit_29 rfl (lv_at hl 4 rfl) ?_
    refine lv_iload hx hb dX3_admit_30 (lv_at hl 5 rfl) ?_
    have he9 := k_last (ws := cW cI cJ cO h xa ea0 pa0 C0) (c := (q, .inr (0, [.int 0, .int 0, .int 0, .int 0, .null, .null, .null, .null, .null, .null, .int 0, .int 0, .int 0, .int 0, .int 0, .int 0, .int 0, .int 0, .int 0, .int 0])))
    have hP9 := k_oneP he9 hP
    have hD9 := k_oneD he9 hD
    have hK9 := hK.sub (tys' := [(cI, .int)]) [0] rfl
    have hF9 := k_free hD9 hS hA
    refine va_callv (va_runI (As := [.int x1, .int x2, .int x3, .int x4]) (rest := [.ref q, .int (C0.1 12), .ref (xa 5)]) ⟨hx, hb, hml, hown, hts⟩ (c_X0_init (l := l) (D := D) (h := q) (x := x1) (y := x2) (z := x3) (w := x4) (cI := cI)) (cwI 4 hts gX3_admit_X0_init rfl rfl rfl (hts _ kw_X3_admit__initialized_RX0) (hts _ kw_X3_admit__methodLink_RX3_176_yX0_init) (hts _ kw_X3_admit__instanceMethod_yX0_init) rfl (by decide +kernel) ⟨Nat.le_of_ble_eq_true rfl, Nat.le_of_ble_eq_true rfl⟩) ⟨k_blind, fun U hU hW => ⟨rfl, k_pre hU hW hP9 hK9 hD9⟩⟩ rfl rfl hl.1 rfl (lv_room (Nat.le_of_ble_eq_true rfl)) dX3_admit_32 ⟨by show (7 * (gN C0 - gN C0) + (gE C0 - gE C0) / 256) + 1 + 6 ≤ 7 * (80 - gN C0) + (1048576 - gE C0) / 256; omega, by show (108 * (gN C0 - gN C0) + 2 * (gE C0 - gE C0)) + 20 + 88 ≤ 108 * (80 - gN C0) + 2 * (1048576 - gE C0); omega⟩) hS (fun q _ h => hF9 q h) hF9 (fun u t H1 locs ht hvm hw hB hz1 hk1 hS => ?_)
    obtain ⟨b4, b5, b6, b7, b8, b9, rfl⟩ := hw
    obtain ⟨hP1, -, hD1⟩ := hB
    rw [ht] at hP1
    obtain ⟨hP, hD⟩ := k_lastN hP hD hF9 hk1 hP1 hD1
    generalize H1 = H at hP hS ⊢
    have hP : va_P D vwCl (cW cI cJ cO h xa ea0 pa0 C0 ++ cCell cI (k7 q b4 b5 b6 b7 b8 b9) (kAct x1 x2 x3 x4) (fun _ _ => 0)) _ := hP
    have hD : va_D A (cW cI cJ cO h xa ea0 pa0 C0 ++ cCell cI (k7 q b4 b5 b6 b7 b8 b9) (kAct x1 x2 x3 x4) (fun _ _ => 0)) := hD
    refine va_astq hx hb hK hP hD hS 6 1 (cW cI cJ cO h xa ea0 pa0 C0).length 0 (f := cActs pa0 (gN C0)) rfl rfl k_app0 rfl (k_in b2.2.2.1 b2.2.2.2) dX3_admit_35 (fun H locs hP hD hS => ?_)
    rw [b2.2.1] at hP hD
    rw [cW_add] at hP hD
    obtain ⟨pa3, epa⟩ : ∃ X, X = va_up pa0 (gN C0) (k7 q b4 b5 b6 b7 b8 b9) := ⟨_, rfl⟩
    rw [← epa] at hP hD
    have hpa : ∀ n, n < gN C0 → pa3 n = pa0 n := fun n hn => by rw [epa]; exact (if_neg (by omega)).trans (hpa n hn)
    obtain ⟨C3, eC3, hg3, hh3, hq⟩ := k_lAdd hq
    rw [← eC3] at hP hD
    refine W.widen (k := (7 * (gN C3 - gN C0) + (gE C3 - gE C0) / 256)) (n := (108 * (gN C3 - gN C0) + 2 * (gE C3 - gE C0))) (by omega) (by omega) ?_
    have hP : va_P D vwCl (cW cI cJ cO h xa ea0 pa3 C3) _ := hP
    have hD : va_D A (cW cI cJ cO h xa ea0 pa3 C3) := hD
    refine lv_iload hx hb dX3_admit_36 (lv_at hl 0 rfl) ?_
    refine lv_istore (lv' := [(6, .int (C0.1 12)), (5, .int (C0.1 12)), (0, .ref h), (1, .int x1), (2, .int x2), (3, .int x3), (4, .int x4)]) hx hb dX3_admit_38 hl (by decide) rfl (fun ls hl => ?_)
    exact B40  200 x3 (C0.1 12) (C0.1 12) C3 ea0 pa3 _ _ _ hq (by show (gN C0 ≤ gN C3 ∧ gN C3 ≤ 80 ∧ gE C0 ≤ gE C3 ∧ gE C3 ≤ 1048576); omega) hpa hP hD hS (lv_sub hl [2, 5, 1, 0] rfl)
  · skip
    rw [if_neg c1] at hq
    refine lv_iconst (v := (-1)) hx hb dX3_admit_9 (by decide) ?_
    obtain ⟨e2, e3⟩ := k_so hq
    subst hQ
    have hP : va_P D vwCl (cW cI cJ cO h xa ea0 pa0 C0) _ := hP
    have hD : va_D A (cW cI cJ cO h xa ea0 pa0 C0) := hD
    have hgE := congrArg (fun X : CS => gN X) e3
    have hgE : gN C0 = gN C' := hgE
    have hhE := congrArg (fun X : CS => gE X) e3
    have hhE : gE C0 = gE C' := hhE
    refine k_facts (fun hm1 hm2 hm3 => ?_)
    refine W.widen (k := 7 * (80 - gN C0) + (1048576 - gE C0) / 256) (n := 108 * (80 - gN C0) + 2 * (1048576 - gE C0)) (by omega) (by omega) ?_
    exact W.iret (v := (-1)) hx hb hr (fun t ht hW => ⟨⟨(-1), (cW cI cJ cO h xa ea0 pa0 C0, [(cI, .int), (cO, .object RX0), (cJ, .long)]), rfl, ⟨ea0, pa0, e2, (congrArg (fun X : CS => ((cW cI cJ cO h xa ea0 pa0 X, [(cI, .int), (cO, .object RX0), (cJ, .long)]) : va_W × List (ClassId × FieldType))) e3), (by show gN C0 ≤ gN C' ∧ gN C' ≤ 80 ∧ gE C0 ≤ gE C' ∧ gE C' ≤ 1048576; omega), hpa⟩, ⟨⟨by rw [ht]; exact hP, va_K.moved hW.alike hK, hD⟩, by rw [ht]; exact hm3, by rw [ht]; omega, by rw [ht]; omega⟩⟩, hS.F ht⟩) hS.2.2 dX3_admit_10
set_option maxRecDepth 100000 in
theorem kw_X3_leastToCome__fieldLink_RX3_22_ActHouse_values_I_ : (.fieldLink RX3 22 "ActHouse" "values" "[I" : Cond) ∈ wsX3_leastToCome := by decide +kernel
set_option maxRecDepth 100000 in
theorem kin_X3_leastToCome_X3 : ∀ w ∈ u_ws RX3 TX3 18, w ∈ wsX3_leastToCome := by decide +kernel
set_option maxRecDepth 100000 in
theorem kw_X3_leastToCome__fieldLink_RX3_102_ActHouse_actCount_I_ : (.fieldLink RX3 102 "ActHouse" "actCount" "I" : Cond) ∈ wsX3_leastToCome := by decide +kernel
set_option maxRecDepth 100000 in
theorem kw_X3_leastToCome__fieldLink_RX3_27_ActHouse_acts_LActHouse_Act_ : (.fieldLink RX3 27 "ActHouse" "acts" "[LActHouse$Act;" : Cond) ∈ wsX3_leastToCome := by decide +kernel
set_option maxRecDepth 100000 in
theorem kw_X3_leastToCome__fieldLink_RX3_117_ActHouse_Act_state_I_ : (.fieldLink RX3 117 "ActHouse$Act" "state" "I" : Cond) ∈ wsX3_leastToCome := by decide +kernel
set_option maxRecDepth 100000 in
theorem kin_X3_leastToCome_X0 : ∀ w ∈ u_ws RX0 TX0 20, w ∈ wsX3_leastToCome := by decide +kernel
set_option maxRecDepth 100000 in
theorem kw_X3_leastToCome__fieldLink_RX3_229_ActHouse_Act_takes_I_ : (.fieldLink RX3 229 "ActHouse$Act" "takes" "[I" : Cond) ∈ wsX3_leastToCome := by decide +kernel
def f_X3_leastToCome_47 (K12 : Int32 → Int32 → Int32 → CS → Option (Int32 × CS)) (v1 : Int32) (v2 : Int32) (v3 : Int32)  (C : CS) : Option (Int32 × CS) := K12 v1 v2 (v3 + 1) C
def f_X3_leastToCome_12  : Nat → Int32 → Int32 → Int32 → CS → Option (Int32 × CS)
  | 0, _, _, _, _ => none
  | k + 1, v1, v2, v3, C => (if (C.1 12) ≤ v3 then some (v2, C) else (if (0 ≤ v3.toInt ∧ v3.toInt < 80) ∧ v3.toNatClampNeg < gN C then (if (gP C v3.toNatClampNeg 12) = 1 then (if 0 ≤ v1.toInt ∧ v1.toInt < 8 then f_X3_leastToCome_47 (fun (v1 : Int32) (v2 : Int32) (v3 : Int32) (C : CS) => f_X3_leastToCome_12  k v1 v2 v3 C) v1 (v2 + ((gQ C v3.toNatClampNeg 8) v1.toNatClampNeg)) v3 C else none) else f_X3_leastToCome_47 (fun (v1 : Int32) (v2 : Int32) (v3 : Int32) (C : CS) => f_X3_leastToCome_12  k v1 v2 v3 C) v1 v2 v3 C) else none))
def f_X3_leastToCome (x1 : Int32) (C0 : CS) : Option (Int32 × CS) := (if 0 ≤ (24 + x1).toInt ∧ (24 + x1).toInt < 32 then f_X3_leastToCome_12  200 x1 ((C0.2.1 4) (24 + x1).toNatClampNeg) (0 : Int32) C0 else none)
set_option maxHeartbeats 4000000 in
set_option maxRecDepth 100000 in
theorem c_X3_leastToCome {l : Launch} {D : va_G} {sz : Nat} {cI cJ cO : ClassId} {h : Nat} {xa : Nat → Nat} {ea0 : Nat} {pa0 : Nat → Nat → Nat} {C0 C' : CS} {x1 r' : Int32} (hf : f_X3_leastToCome x1 C0 = some (r', C')) : Met l yX3_leastToCome wsX3_leastToCome ({ frames := 0, cells := 0, slots := 0, locals := 0 }) (va_Pc [.ref h, .int x1] (k_Pre D [(cI, .int), (cO, .object RX0), (cJ, .long)] (cW cI cJ cO h xa ea0 pa0 C0) sz)) (va_Qi (fun (r0 : Int32) (u : va_W × List (ClassId × FieldType)) => r0 = r' ∧ u = (cW cI cJ cO h xa ea0 pa0 C', [(cI, .int), (cO, .object RX0), (cJ, .long)]) ∧ gN C' = gN C0 ∧ gE C' = gE C0) (k_B D (va_A (cW cI cJ cO h xa ea0 pa0 C0) sz)) (va_A (cW cI cJ cO h xa ea0 pa0 C0) sz)) (0) (0) (va_A (cW cI cJ cO h xa ea0 pa0 C0) sz) := by
  refine Met.ofW (cc := cX3_leastToCome) (maxL := 4) (ret := (some .int)) (by decide) rfl ?_
  intro p e s m args below meth c s₁ B hml hv
  obtain ⟨rfl, hsz, hP, hK, hD0⟩ := hv
  have hx := B.exec
  have hb := B.bytes
  have hr := B.returns
  have hts := atoms_spec (ws := wsX3_leastToCome) B.pre
  have hown : s.vm.findClass RX3 = some m.cls := findClass_of_methodNamed B.named
  have hlocks := B.notSynchronized
  subst hsz
  have hD := hD0.self (sz := s.heap.size)
  generalize hAe : va_A (cW cI cJ cO h xa ea0 pa0 C0) s.heap.size = A at hD ⊢
  have hA : ∀ q : Nat, s.heap.size ≤ q → A q := fun q h => by rw [← hAe]; exact Or.inr h
  have hS : va_S A s.heap s.heap [] := va_S.rf
  have hl := lv_entry ([.ref h, .int x1]) (n := 4) (Nat.le_of_ble_eq_true rfl)
  rw [lg_entry_eq]
  generalize (lg_sl ([.ref h, .int x1]) ++ List.replicate (4 - (lg_sl ([.ref h, .int x1])).length) Slot.unset).toArray = ls at hl ⊢
  have hl : lv_has ls 4 [(0, .ref h), (1, .int x1)] := hl
  refine k_Q (fun Q hQ => ?_)
  have hg0 : gN C0 = gN C0 ∧ gE C0 = gE C0 := ⟨rfl, rfl⟩
  have B47 : ∀ (K12 : Int32 → Int32 → Int32 → CS → Option (Int32 × CS)) (hK12 : ∀ (v1 : Int32) (v2 : Int32) (v3 : Int32)  (C : CS)  (H : Heap) (locs : List Loc) (ls : Array Slot), K12 v1 v2 v3 C = some (r', C') → (gN C = gN C0 ∧ gE C = gE C0) → va_P D vwCl (cW cI cJ cO h xa ea0 pa0 C) H → va_D A (cW cI cJ cO h xa ea0 pa0 C) → va_S A s.heap H locs → lv_has ls 4 [(0, .ref h), (1, .int v1), (2, .int v2), (3, .int v3)] → W p l e (headSpec wsX3_leastToCome ({ frames := 0, cells := 0, slots := 0, locals := 0 })).room s m ([.ref h, .int x1] : List Value).toArray below meth c H locs (0) (0) Q (F0 m 12 ls [])), ∀ (v1 : Int32) (v2 : Int32) (v3 : Int32)  (C : CS)  (H : Heap) (locs : List Loc) (ls : Array Slot), f_X3_leastToCome_47 K12 v1 v2 v3 C = some (r', C') → (gN C = gN C0 ∧ gE C = gE C0) → va_P D vwCl (cW cI cJ cO h xa ea0 pa0 C) H → va_D A (cW cI cJ cO h xa ea0 pa0 C) → va_S A s.heap H locs → lv_has ls 4 [(0, .ref h), (1, .int v1), (2, .int v2), (3, .int v3)] → W p l e (headSpec wsX3_leastToCome ({ frames := 0, cells := 0, slots := 0, locals := 0 })).room s m ([.ref h, .int x1] : List Value).toArray below meth c H locs (0) (0) Q (F0 m 47 ls []) := by
    intro K12 hK12
    intro v1 v2 v3  C  H locs ls hq hg  hP hD hS hl
    rw [f_X3_leastToCome_47] at hq
    refine lv_iinc (v := v3 + 1) (lv' := [(3, .int (v3 + 1)), (0, .ref h), (1, .int v1), (2, .int v2)]) hx hb dX3_leastToCome_47 hl (k := 3) rfl (by rfl) (by decide) rfl (fun ls hl => ?_)
    refine lv_goto (tgt := 12) hx hb dX3_leastToCome_50 (by decide) ?_
    exact hK12 v1 v2 (v3 + 1) C  _ _ _ hq (by show (gN C = gN C0 ∧ gE C = gE C0); omega) hP hD hS (lv_sub hl [1, 2, 3, 0] rfl)
  have B12 : ∀  (k : Nat), ∀ (v1 : Int32) (v2 : Int32) (v3 : Int32)  (C : CS)  (H : Heap) (locs : List Loc) (ls : Array Slot), f_X3_leastToCome_12  k v1 v2 v3 C = some (r', C') → (gN C = gN C0 ∧ gE C = gE C0) → va_P D vwCl (cW cI cJ cO h xa ea0 pa0 C) H → va_D A (cW cI cJ cO h xa ea0 pa0 C) → va_S A s.heap H locs → lv_has ls 4 [(0, .ref h), (1, .int v1), (2, .int v2), (3, .int v3)] → W p l e (headSpec wsX3_leastToCome ({ frames := 0, cells := 0, slots := 0, locals := 0 })).room s m ([.ref h, .int x1] : List Value).toArray below meth c H locs (0) (0) Q (F0 m 12 ls []) := by
    intro  k
    induction k with
    | zero =>
      intro v1 v2 v3  C  H locs ls hq hg  hP hD hS hl
      exact absurd hq (by rw [f_X3_leastToCome_12]; exact k_non)
    | succ k ih =>
      intro v1 v2 v3  C  H locs ls hq hg  hP hD hS hl
      rw [f_X3_leastToCome_12] at hq
      refine lv_iload_n hx hb dX3_leastToCome_12 rfl (lv_at hl 3 rfl) ?_
      refine lv_aload_n hx hb dX3_leastToCome_13 rfl (lv_at hl 0 rfl) ?_
      refine va_get (D := D) (ci := 3) (v := .int (C.1 12)) (C := RX3) (T := TX3) (N := 18) hx hb hts kin_X3_leastToCome_X3 hown hK hP 0 rfl rfl 12 (by decide) (hts _ kw_X3_leastToCome__fieldLink_RX3_102_ActHouse_actCount_I_) (fun _ h9 => h9) rfl dX3_leastToCome_14 ?_
      refine lv_icmp_ge (tgt := 53) hx hb dX3_leastToCome_17 (by decide) (fun c2 => ?_) (fun c2 => ?_)
      · skip
        rw [if_pos c2] at hq
        refine lv_iload_n hx hb dX3_leastToCome_53 rfl (lv_at hl 2 rfl) ?_
        obtain ⟨e2, e3⟩ := k_so hq
        subst hQ
        have hP : va_P D vwCl (cW cI cJ cO h xa ea0 pa0 C) _ := hP
        have hD : va_D A (cW cI cJ cO h xa ea0 pa0 C) := hD
        have hgE := congrArg (fun X : CS => gN X) e3
        have hgE : gN C = gN C' := hgE
        have hhE := congrArg (fun X : CS => gE X) e3
        have hhE : gE C = gE C' := hhE
        refine W.widen (k := 0) (n := 0) (by decide) (by decide) ?_
        exact W.iret (v := v2) hx hb hr (fun t ht hW => ⟨⟨v2, (cW cI cJ cO h xa ea0 pa0 C, [(cI, .int), (cO, .object RX0), (cJ, .long)]), rfl, ⟨e2, (congrArg (fun X : CS => ((cW cI cJ cO h xa ea0 pa0 X, [(cI, .int), (cO, .object RX0), (cJ, .long)]) : va_W × List (ClassId × FieldType))) e3), by omega, by omega⟩, ⟨by rw [ht]; exact hP, va_K.moved hW.alike hK, hD⟩⟩, hS.F ht⟩) hS.2.2 dX3_leastToCome_54
      · skip
        rw [if_neg c2] at hq
        refine lv_aload_n hx hb dX3_leastToCome_20 rfl (lv_at hl 0 rfl) ?_
        refine va_get (D := D) (ci := 3) (v := .ref (xa 5)) (C := RX3) (T := TX3) (N := 18) hx hb hts kin_X3_leastToCome_X3 hown hK hP 0 rfl rfl 5 (by decide) (hts _ kw_X3_leastToCome__fieldLink_RX3_27_ActHouse_acts_LActHouse_Act_) (fun _ h9 => h9) rfl dX3_leastToCome_21 ?_
        refine lv_iload_n hx hb dX3_leastToCome_24 rfl (lv_at hl 3 rfl) ?_
        obtain ⟨b3, hq⟩ := k_if hq
        refine va_aldq hx hb hK hP 6 1 (f := cActs pa0 (gN C)) rfl rfl (k_in b3.1.1 b3.1.2) dX3_leastToCome_25 ?_
        refine W.eq (g2 := F0 m 26 ls [.ref (pa0 v3.toNatClampNeg 0)]) (by rw [cActs_lt b3.2]; rfl) ?_
        refine va_get (D := D) (ci := 0) (v := .int (gP C v3.toNatClampNeg 12)) (C := RX0) (T := TX0) (N := 20) hx hb hts kin_X3_leastToCome_X0 hown hK hP (16 + (7 * v3.toNatClampNeg + 0)) (cW_get (show v3.toNatClampNeg < gN C from by omega) rfl) rfl 12 (by decide) (hts _ kw_X3_leastToCome__fieldLink_RX3_117_ActHouse_Act_state_I_) (fun _ h9 => h9) rfl dX3_leastToCome_26 ?_
        refine lv_iconst (v := 1) hx hb dX3_leastToCome_29 (by decide) ?_
        refine lv_icmp_ne (tgt := 47) hx hb dX3_leastToCome_30 (by decide) (fun c4 => ?_) (fun c4 => ?_)
        · skip
          rw [if_neg c4] at hq
          exact B47 (fun (v1 : Int32) (v2 : Int32) (v3 : Int32) (C : CS) => f_X3_leastToCome_12  k v1 v2 v3 C) ih v1 v2 v3 C  _ _ _ hq (by show (gN C = gN C0 ∧ gE C = gE C0); omega) hP hD hS (lv_sub hl [0, 1, 2, 3] rfl)
        · skip
          rw [if_pos c4] at hq
          refine lv_iload_n hx hb dX3_leastToCome_33 rfl (lv_at hl 2 rfl) ?_
          refine lv_aload_n hx hb dX3_leastToCome_34 rfl (lv_at hl 0 rfl) ?_
          refine va_get (D := D) (ci := 3) (v := .ref (xa 5)) (C := RX3) (T := TX3) (N := 18) hx hb hts kin_X3_leastToCome_X3 hown hK hP 0 rfl rfl 5 (by decide) (hts _ kw_X3_leastToCome__fieldLink_RX3_27_ActHouse_acts_LActHouse_Act_) (fun _ h9 => h9) rfl dX3_leastToCome_35 ?_
          refine lv_iload_n hx hb dX3_leastToCome_38 rfl (lv_at hl 3 rfl) ?_
          refine va_aldq hx hb hK hP 6 1 (f := cActs pa0 (gN C)) rfl rfl (k_in b3.1.1 b3.1.2) dX3_leastToCome_39 ?_
          refine W.eq (g2 := F0 m 40 ls [.ref (pa0 v3.toNatClampNeg 0), .int v2]) (by rw [cActs_lt b3.2]; rfl) ?_
          refine va_get (D := D) (ci := 0) (v := .ref (pa0 v3.toNatClampNeg 8)) (C := RX0) (T := TX0) (N := 20) hx hb hts kin_X3_leastToCome_X0 hown hK hP (16 + (7 * v3.toNatClampNeg + 0)) (cW_get (show v3.toNatClampNeg < gN C from by omega) rfl) rfl 8 (by decide) (hts _ kw_X3_leastToCome__fieldLink_RX3_229_ActHouse_Act_takes_I_) (fun _ h9 => h9) rfl dX3_leastToCome_40 ?_
          refine lv_iload_n hx hb dX3_leastToCome_43 rfl (lv_at hl 1 rfl) ?_
          obtain ⟨b5, hq⟩ := k_if hq
          refine va_iald hx hb hK hP (16 + (7 * v3.toNatClampNeg + 5)) 0 (f := (gQ C v3.toNatClampNeg 8)) (cW_get (show v3.toNatClampNeg < gN C from by omega) rfl) rfl (k_in b5.1 b5.2) dX3_leastToCome_44 ?_
          refine lv_iadd hx hb dX3_leastToCome_45 ?_
          refine lv_istore_n (lv' := [(2, .int (v2 + ((gQ C v3.toNatClampNeg 8) v1.toNatClampNeg))), (0, .ref h), (1, .int v1), (3, .int v3)]) hx hb dX3_leastToCome_46 rfl hl (by decide) rfl (fun ls hl => ?_)
          exact B47 (fun (v1 : Int32) (v2 : Int32) (v3 : Int32) (C : CS) => f_X3_leastToCome_12  k v1 v2 v3 C) ih v1 (v2 + ((gQ C v3.toNatClampNeg 8) v1.toNatClampNeg)) v3 C  _ _ _ hq (by show (gN C = gN C0 ∧ gE C = gE C0); omega) hP hD hS (lv_sub hl [1, 2, 0, 3] rfl)
  have hq := hf
  rw [f_X3_leastToCome] at hq
  refine lv_aload_n hx hb dX3_leastToCome_0 rfl (lv_at hl 0 rfl) ?_
  refine va_get (D := D) (ci := 3) (v := .ref (xa 4)) (C := RX3) (T := TX3) (N := 18) hx hb hts kin_X3_leastToCome_X3 hown hK hP 0 rfl rfl 4 (by decide) (hts _ kw_X3_leastToCome__fieldLink_RX3_22_ActHouse_values_I_) (fun _ h9 => h9) rfl dX3_leastToCome_1 ?_
  refine lv_bipush (v := 24) hx hb dX3_leastToCome_4 (by decide) ?_
  refine lv_iload_n hx hb dX3_leastToCome_6 rfl (lv_at hl 1 rfl) ?_
  refine lv_iadd hx hb dX3_leastToCome_7 ?_
  obtain ⟨b1, hq⟩ := k_if hq
  refine va_iald hx hb hK hP 5 0 (f := (C0.2.1 4)) rfl rfl (k_in b1.1 b1.2) dX3_leastToCome_8 ?_
  refine lv_istore_n (lv' := [(2, .int ((C0.2.1 4) (24 + x1).toNatClampNeg)), (0, .ref h), (1, .int x1)]) hx hb dX3_leastToCome_9 rfl hl (by decide) rfl (fun ls hl => ?_)
  refine lv_iconst (v := 0) hx hb dX3_leastToCome_10 (by decide) ?_
  refine lv_istore_n (lv' := [(3, .int 0), (2, .int ((C0.2.1 4) (24 + x1).toNatClampNeg)), (0, .ref h), (1, .int x1)]) hx hb dX3_leastToCome_11 rfl hl (by decide) rfl (fun ls hl => ?_)
  exact B12  200 x1 ((C0.2.1 4) (24 + x1).toNatClampNeg) (0 : Int32) C0  _ _ _ hq (by show (gN C0 = gN C0 ∧ gE C0 = gE C0); omega) hP hD hS (lv_sub hl [2, 3, 1, 0] rfl)
set_option maxRecDepth 100000 in
theorem kw_X3_blocks__fieldLink_RX3_117_ActHouse_Act_state_I_ : (.fieldLink RX3 117 "ActHouse$Act" "state" "I" : Cond) ∈ wsX3_blocks := by decide +kernel
set_option maxRecDepth 100000 in
theorem kin_X3_blocks_X0 : ∀ w ∈ u_ws RX0 TX0 20, w ∈ wsX3_blocks := by decide +kernel
set_option maxRecDepth 100000 in
theorem kw_X3_blocks__fieldLink_RX3_151_ActHouse_Act_locks_I_ : (.fieldLink RX3 151 "ActHouse$Act" "locks" "[I" : Cond) ∈ wsX3_blocks := by decide +kernel
def f_X3_blocks (n0 : Nat) (x1 : Int32) (C0 : CS) : Option (Int32 × CS) := (if (gP C0 n0 12) = 1 then (if 0 ≤ (f_X3_aOf x1).toInt ∧ (f_X3_aOf x1).toInt < 24 then (if (f_X3_opOf x1) = 3 then (if ((gQ C0 n0 5) (f_X3_aOf x1).toNatClampNeg) = 0 then some ((0 : Int32), C0) else some ((1 : Int32), C0)) else (if ((gQ C0 n0 5) (f_X3_aOf x1).toNatClampNeg) = 2 then some ((1 : Int32), C0) else some ((0 : Int32), C0))) else none) else some ((0 : Int32), C0))
set_option maxHeartbeats 4000000 in
set_option maxRecDepth 100000 in
theorem c_X3_blocks {l : Launch} {D : va_G} {sz : Nat} {cI cJ cO : ClassId} {h : Nat} {xa : Nat → Nat} {ea0 : Nat} {pa0 : Nat → Nat → Nat} {C0 C' : CS} {n0 : Nat} {x1 r' : Int32} (hn0 : n0 < gN C0) (hf : f_X3_blocks n0 x1 C0 = some (r', C')) : Met l yX3_blocks wsX3_blocks ({ frames := 1, cells := 0, slots := 0, locals := 20 }) (va_Pc [.ref (pa0 n0 0), .int x1] (k_Pre D [(cI, .int), (cO, .object RX0), (cJ, .long)] (cW cI cJ cO h xa ea0 pa0 C0) sz)) (va_Qi (fun (r0 : Int32) (u : va_W × List (ClassId × FieldType)) => r0 = r' ∧ u = (cW cI cJ cO h xa ea0 pa0 C', [(cI, .int), (cO, .object RX0), (cJ, .long)]) ∧ gN C' = gN C0 ∧ gE C' = gE C0) (k_B D (va_A (cW cI cJ cO h xa ea0 pa0 C0) sz)) (va_A (cW cI cJ cO h xa ea0 pa0 C0) sz)) (0) (0) (va_A (cW cI cJ cO h xa ea0 pa0 C0) sz) := by
  refine Met.ofW (cc := cX3_blocks) (maxL := 3) (ret := (some .boolean)) (by decide) rfl ?_
  intro p e s m args below meth c s₁ B hml hv
  obtain ⟨rfl, hsz, hP, hK, hD0⟩ := hv
  have hx := B.exec
  have hb := B.bytes
  have hr := B.returns
  have hts := atoms_spec (ws := wsX3_blocks) B.pre
  have hown : s.vm.findClass RX3 = some m.cls := findClass_of_methodNamed B.named
  have hlocks := B.notSynchronized
  subst hsz
  have hD := hD0.self (sz := s.heap.size)
  generalize hAe : va_A (cW cI cJ cO h xa ea0 pa0 C0) s.heap.size = A at hD ⊢
  have hA : ∀ q : Nat, s.heap.size ≤ q → A q := fun q h => by rw [← hAe]; exact Or.inr h
  have hS : va_S A s.heap s.heap [] := va_S.rf
  have hl := lv_entry ([.ref (pa0 n0 0), .int x1]) (n := 3) (Nat.le_of_ble_eq_true rfl)
  rw [lg_entry_eq]
  generalize (lg_sl ([.ref (pa0 n0 0), .int x1]) ++ List.replicate (3 - (lg_sl ([.ref (pa0 n0 0), .int x1])).length) Slot.unset).toArray = ls at hl ⊢
  have hl : lv_has ls 3 [(0, .ref (pa0 n0 0)), (1, .int x1)] := hl
  refine k_Q (fun Q hQ => ?_)
  have hg0 : gN C0 = gN C0 ∧ gE C0 = gE C0 := ⟨rfl, rfl⟩
  have hq := hf
  rw [f_X3_blocks] at hq
  refine lv_aload_n hx hb dX3_blocks_0 rfl (lv_at hl 0 rfl) ?_
  refine va_get (D := D) (ci := 0) (v := .int (gP C0 n0 12)) (C := RX0) (T := TX0) (N := 20) hx hb hts kin_X3_blocks_X0 hown hK hP (16 + (7 * n0 + 0)) (cW_get (show n0 < gN C0 from by omega) rfl) rfl 12 (by decide) (hts _ kw_X3_blocks__fieldLink_RX3_117_ActHouse_Act_state_I_) (fun _ h9 => h9) rfl dX3_blocks_1 ?_
  refine lv_iconst (v := 1) hx hb dX3_blocks_4 (by decide) ?_
  refine lv_icmp_eq (tgt := 10) hx hb dX3_blocks_5 (by decide) (fun c1 => ?_) (fun c1 => ?_)
  · skip
    rw [if_pos c1] at hq
    refine lv_aload_n hx hb dX3_blocks_10 rfl (lv_at hl 0 rfl) ?_
    refine va_get (D := D) (ci := 0) (v := .ref (pa0 n0 5)) (C := RX0) (T := TX0) (N := 20) hx hb hts kin_X3_blocks_X0 hown hK hP (16 + (7 * n0 + 0)) (cW_get (show n0 < gN C0 from by omega) rfl) rfl 5 (by decide) (hts _ kw_X3_blocks__fieldLink_RX3_151_ActHouse_Act_locks_I_) (fun _ h9 => h9) rfl dX3_blocks_11 ?_
    refine lv_iload_n hx hb dX3_blocks_14 rfl (lv_at hl 1 rfl) ?_
    have hFc := k_free hD hS hA
    refine va_calli (va_runS (As := [.int x1]) (rest := [.ref (pa0 n0 5)]) ⟨hx, hb, hml, hown, hts⟩ (c_X3_aOf (l := l) (D := D) (cI := cI) (cJ := cJ) (cO := cO) (h := h) (xa := xa) (ea0 := ea0) (pa0 := pa0) (C0 := C0) (hf := rfl)) (va_cwS 1 hts gX3_blocks_X3_aOf rfl rfl rfl (by decide +kernel) ⟨Nat.le_of_ble_eq_true rfl, Nat.le_of_ble_eq_true rfl⟩) ⟨k_blind, fun U hU hW => ⟨rfl, k_pre hU hW hP hK hD⟩⟩ rfl rfl hl.1 rfl (lv_room (Nat.le_of_ble_eq_true rfl)) dX3_blocks_15 ⟨by decide, by decide⟩) hS (fun q _ h => hFc q h) hFc (fun r2 u t H1 locs ht hvm hw hB hz1 hk1 hS => ?_)
    obtain ⟨rfl, rfl⟩ := hw
    refine W.widen (k := 0) (n := 0) (Nat.le_refl _) (Nat.le_refl _) ?_
    obtain ⟨hP1, hK1, hD1⟩ := hB
    rw [ht] at hP1
    have hP := hP1
    have hD := k_weak hD1 hFc
    generalize H1 = H at hP hS ⊢
    have hP : va_P D vwCl (cW cI cJ cO h xa ea0 pa0 C0) _ := hP
    have hD : va_D A (cW cI cJ cO h xa ea0 pa0 C0) := hD
    obtain ⟨b3, hq⟩ := k_if hq
    refine va_iald hx hb hK hP (16 + (7 * n0 + 2)) 0 (f := (gQ C0 n0 5)) (cW_get (show n0 < gN C0 from by omega) rfl) rfl (k_in b3.1 b3.2) dX3_blocks_18 ?_
    refine lv_istore_n (lv' := [(2, .int ((gQ C0 n0 5) (f_X3_aOf x1).toNatClampNeg)), (0, .ref (pa0 n0 0)), (1, .int x1)]) hx hb dX3_blocks_19 rfl hl (by decide) rfl (fun ls hl => ?_)
    refine lv_iload_n hx hb dX3_blocks_20 rfl (lv_at hl 2 rfl) ?_
    have hFc := k_free hD hS hA
    refine va_calli (va_runS (As := [.int x1]) (rest := []) ⟨hx, hb, hml, hown, hts⟩ (c_X3_opOf (l := l) (D := D) (cI := cI) (cJ := cJ) (cO := cO) (h := h) (xa := xa) (ea0 := ea0) (pa0 := pa0) (C0 := C0) (hf := rfl)) (va_cwS 1 hts gX3_blocks_X3_opOf rfl rfl rfl (by decide +kernel) ⟨Nat.le_of_ble_eq_true rfl, Nat.le_of_ble_eq_true rfl⟩) ⟨k_blind, fun U hU hW => ⟨rfl, k_pre hU hW hP hK hD⟩⟩ rfl rfl hl.1 rfl (lv_room (Nat.le_of_ble_eq_true rfl)) dX3_blocks_21 ⟨by decide, by decide⟩) hS (fun q _ h => hFc q h) hFc (fun r4 u t H1 locs ht hvm hw hB hz1 hk1 hS => ?_)
    obtain ⟨rfl, rfl⟩ := hw
    refine W.widen (k := 0) (n := 0) (Nat.le_refl _) (Nat.le_refl _) ?_
    obtain ⟨hP1, hK1, hD1⟩ := hB
    rw [ht] at hP1
    have hP := hP1
    have hD := k_weak hD1 hFc
    generalize H1 = H at hP hS ⊢
    have hP : va_P D vwCl (cW cI cJ cO h xa ea0 pa0 C0) _ := hP
    have hD : va_D A (cW cI cJ cO h xa ea0 pa0 C0) := hD
    refine lv_iconst (v := 3) hx hb dX3_blocks_24 (by decide) ?_
    refine lv_icmp_ne (tgt := 40) hx hb dX3_blocks_25 (by decide) (fun c5 => ?_) (fun c5 => ?_)
    · skip
      rw [if_neg c5] at hq
      refine lv_iload_n hx hb dX3_blocks_40 rfl (lv_at hl 0 rfl) ?_
      refine lv_iconst (v := 2) hx hb dX3_blocks_41 (by decide) ?_
      refine lv_icmp_ne (tgt := 49) hx hb dX3_blocks_42 (by decide) (fun c6 => ?_) (fun c6 => ?_)
      · skip
        rw [if_neg c6] at hq
        refine lv_iconst (v := 0) hx hb dX3_blocks_49 (by decide) ?_
        obtain ⟨e2, e3⟩ := k_so hq
        subst hQ
        have hP : va_P D vwCl (cW cI cJ cO h xa ea0 pa0 C0) _ := hP
        have hD : va_D A (cW cI cJ cO h xa ea0 pa0 C0) := hD
        have hgE := congrArg (fun X : CS => gN X) e3
        have hgE : gN C0 = gN C' := hgE
        have hhE := congrArg (fun X : CS => gE X) e3
        have hhE : gE C0 = gE C' := hhE
        refine W.widen (k := 0) (n := 0) (by decide) (by decide) ?_
        exact W.zret (v := 0) hx hb hr (by decide) (fun t ht hW => ⟨⟨0, (cW cI cJ cO h xa ea0 pa0 C0, [(cI, .int), (cO, .object RX0), (cJ, .long)]), rfl, ⟨e2, (congrArg (fun X : CS => ((cW cI cJ cO h xa ea0 pa0 X, [(cI, .int), (cO, .object RX0), (cJ, .long)]) : va_W × List (ClassId × FieldType))) e3), by omega, by omega⟩, ⟨by rw [ht]; exact hP, va_K.moved hW.alike hK, hD⟩⟩, hS.F ht⟩) hS.2.2 dX3_blocks_50
      · skip
        rw [if_pos c6] at hq
        refine lv_iconst (v := 1) hx hb dX3_blocks_45 (by decide) ?_
        refine lv_goto (tgt := 50) hx hb dX3_blocks_46 (by decide) ?_
        obtain ⟨e2, e3⟩ := k_so hq
        subst hQ
        have hP : va_P D vwCl (cW cI cJ cO h xa ea0 pa0 C0) _ := hP
        have hD : va_D A (cW cI cJ cO h xa ea0 pa0 C0) := hD
        have hgE := congrArg (fun X : CS => gN X) e3
        have hgE : gN C0 = gN C' := hgE
        have hhE := congrArg (fun X : CS => gE X) e3
        have hhE : gE C0 = gE C' := hhE
        refine W.widen (k := 0) (n := 0) (by decide) (by decide) ?_
        exact W.zret (v := 1) hx hb hr (by decide) (fun t ht hW => ⟨⟨1, (cW cI cJ cO h xa ea0 pa0 C0, [(cI, .int), (cO, .object RX0), (cJ, .long)]), rfl, ⟨e2, (congrArg (fun X : CS => ((cW cI cJ cO h xa ea0 pa0 X, [(cI, .int), (cO, .object RX0), (cJ, .long)]) : va_W × List (ClassId × FieldType))) e3), by omega, by omega⟩, ⟨by rw [ht]; exact hP, va_K.moved hW.alike hK, hD⟩⟩, hS.F ht⟩) hS.2.2 dX3_blocks_50
    · skip
      rw [if_pos c5] at hq
      refine lv_iload_n hx hb dX3_blocks_28 rfl (lv_at hl 0 rfl) ?_
      refine lv_if_eq (tgt := 36) hx hb dX3_blocks_29 (by decide) (fun c7 => ?_) (fun c7 => ?_)
      · skip
        rw [if_pos c7] at hq
        refine lv_iconst (v := 0) hx hb dX3_blocks_36 (by decide) ?_
        refine lv_goto (tgt := 50) hx hb dX3_blocks_37 (by decide) ?_
        obtain ⟨e2, e3⟩ := k_so hq
        subst hQ
        have hP : va_P D vwCl (cW cI cJ cO h xa ea0 pa0 C0) _ := hP
        have hD : va_D A (cW cI cJ cO h xa ea0 pa0 C0) := hD
        have hgE := congrArg (fun X : CS => gN X) e3
        have hgE : gN C0 = gN C' := hgE
        have hhE := congrArg (fun X : CS => gE X) e3
        have hhE : gE C0 = gE C' := hhE
        refine W.widen (k := 0) (n := 0) (by decide) (by decide) ?_
        exact W.zret (v := 0) hx hb hr (by decide) (fun t ht hW => ⟨⟨0, (cW cI cJ cO h xa ea0 pa0 C0, [(cI, .int), (cO, .object RX0), (cJ, .long)]), rfl, ⟨e2, (congrArg (fun X : CS => ((cW cI cJ cO h xa ea0 pa0 X, [(cI, .int), (cO, .object RX0), (cJ, .long)]) : va_W × List (ClassId × FieldType))) e3), by omega, by omega⟩, ⟨by rw [ht]; exact hP, va_K.moved hW.alike hK, hD⟩⟩, hS.F ht⟩) hS.2.2 dX3_blocks_50
      · skip
        rw [if_neg c7] at hq
        refine lv_iconst (v := 1) hx hb dX3_blocks_32 (by decide) ?_
        refine lv_goto (tgt := 50) hx hb dX3_blocks_33 (by decide) ?_
        obtain ⟨e2, e3⟩ := k_so hq
        subst hQ
        have hP : va_P D vwCl (cW cI cJ cO h xa ea0 pa0 C0) _ := hP
        have hD : va_D A (cW cI cJ cO h xa ea0 pa0 C0) := hD
        have hgE := congrArg (fun X : CS => gN X) e3
        have hgE : gN C0 = gN C' := hgE
        have hhE := congrArg (fun X : CS => gE X) e3
        have hhE : gE C0 = gE C' := hhE
        refine W.widen (k := 0) (n := 0) (by decide) (by decide) ?_
        exact W.zret (v := 1) hx hb hr (by decide) (fun t ht hW => ⟨⟨1, (cW cI cJ cO h xa ea0 pa0 C0, [(cI, .int), (cO, .object RX0), (cJ, .long)]), rfl, ⟨e2, (congrArg (fun X : CS => ((cW cI cJ cO h xa ea0 pa0 X, [(cI, .int), (cO, .object RX0), (cJ, .long)]) : va_W × List (ClassId × FieldType))) e3), by omega, by omega⟩, ⟨by rw [ht]; exact hP, va_K.moved hW.alike hK, hD⟩⟩, hS.F ht⟩) hS.2.2 dX3_blocks_50
  · skip
    rw [if_neg c1] at hq
    refine lv_iconst (v := 0) hx hb dX3_blocks_8 (by decide) ?_
    obtain ⟨e2, e3⟩ := k_so hq
    subst hQ
    have hP : va_P D vwCl (cW cI cJ cO h xa ea0 pa0 C0) _ := hP
    have hD : va_D A (cW cI cJ cO h xa ea0 pa0 C0) := hD
    have hgE := congrArg (fun X : CS => gN X) e3
    have hgE : gN C0 = gN C' := hgE
    have hhE := congrArg (fun X : CS => gE X) e3
    have hhE : gE C0 = gE C' := hhE
    refine W.widen (k := 0) (n := 0) (by decide) (by decide) ?_
    exact W.zret (v := 0) hx hb hr (by decide) (fun t ht hW => ⟨⟨0, (cW cI cJ cO h xa ea0 pa0 C0, [(cI, .int), (cO, .object RX0), (cJ, .long)]), rfl, ⟨e2, (congrArg (fun X : CS => ((cW cI cJ cO h xa ea0 pa0 X, [(cI, .int), (cO, .object RX0), (cJ, .long)]) : va_W × List (ClassId × FieldType))) e3), by omega, by omega⟩, ⟨by rw [ht]; exact hP, va_K.moved hW.alike hK, hD⟩⟩, hS.F ht⟩) hS.2.2 dX3_blocks_9
set_option maxRecDepth 100000 in
theorem kw_X3_canBe__fieldLink_RX3_194_ActHouse_runningCount_I_ : (.fieldLink RX3 194 "ActHouse" "runningCount" "I" : Cond) ∈ wsX3_canBe := by decide +kernel
set_option maxRecDepth 100000 in
theorem kin_X3_canBe_X3 : ∀ w ∈ u_ws RX3 TX3 18, w ∈ wsX3_canBe := by decide +kernel
set_option maxRecDepth 100000 in
theorem kw_X3_canBe__fieldLink_RX3_37_ActHouse_running_I_ : (.fieldLink RX3 37 "ActHouse" "running" "[I" : Cond) ∈ wsX3_canBe := by decide +kernel
set_option maxRecDepth 100000 in
theorem kw_X3_canBe__fieldLink_RX3_27_ActHouse_acts_LActHouse_Act_ : (.fieldLink RX3 27 "ActHouse" "acts" "[LActHouse$Act;" : Cond) ∈ wsX3_canBe := by decide +kernel
set_option maxRecDepth 100000 in
theorem kw_X3_canBe__fieldLink_RX3_19_ActHouse_floors_I_ : (.fieldLink RX3 19 "ActHouse" "floors" "[I" : Cond) ∈ wsX3_canBe := by decide +kernel
def f_X3_canBe_100 (K62 : Int32 → Int32 → Int32 → CS → Option (Int32 × CS)) (v1 : Int32) (v2 : Int32) (v3 : Int32)  (C : CS) : Option (Int32 × CS) := K62 v1 v2 (v3 + 1) C
def f_X3_canBe_62  : Nat → Int32 → Int32 → Int32 → CS → Option (Int32 × CS)
  | 0, _, _, _, _ => none
  | k + 1, v1, v2, v3, C => (if (C.1 14) ≤ v3 then some ((1 : Int32), C) else (if 0 ≤ v3.toInt ∧ v3.toInt < 36 then (if ((C.2.1 8) v3.toNatClampNeg) = v1 then f_X3_canBe_100 (fun (v1 : Int32) (v2 : Int32) (v3 : Int32) (C : CS) => f_X3_canBe_62  k v1 v2 v3 C) v1 v2 v3 C else (if (0 ≤ ((C.2.1 8) v3.toNatClampNeg).toInt ∧ ((C.2.1 8) v3.toNatClampNeg).toInt < 80) ∧ ((C.2.1 8) v3.toNatClampNeg).toNatClampNeg < gN C then (k_bind (f_X3_blocks (((C.2.1 8) v3.toNatClampNeg).toNatClampNeg) v2 C) fun r9 C9 => (if r9 = 0 then f_X3_canBe_100 (fun (v1 : Int32) (v2 : Int32) (v3 : Int32) (C : CS) => f_X3_canBe_62  k v1 v2 v3 C) v1 v2 v3 C9 else some ((0 : Int32), C9))) else none)) else none))
def f_X3_canBe (x1 : Int32) (x2 : Int32) (C0 : CS) : Option (Int32 × CS) := (if (f_X3_opOf x2) = 6 then (if 0 ≤ ((f_X3_bOf x2) - 50) then some ((1 : Int32), C0) else (k_bind (f_X3_leastToCome (f_X3_aOf x2) C0) fun r14 C14 => (if 0 ≤ (f_X3_aOf x2).toInt ∧ (f_X3_aOf x2).toInt < 8 then (if (r14 + ((f_X3_bOf x2) - 50)) < ((C14.2.1 3) (f_X3_aOf x2).toNatClampNeg) then some ((0 : Int32), C14) else some ((1 : Int32), C14)) else none))) else (if (f_X3_usesCell x2) = 0 then some ((1 : Int32), C0) else f_X3_canBe_62  200 x1 x2 (0 : Int32) C0))
set_option maxHeartbeats 4000000 in
set_option maxRecDepth 100000 in
theorem c_X3_canBe {l : Launch} {D : va_G} {sz : Nat} {cI cJ cO : ClassId} {h : Nat} {xa : Nat → Nat} {ea0 : Nat} {pa0 : Nat → Nat → Nat} {C0 C' : CS} {x1 x2 r' : Int32} (hf : f_X3_canBe x1 x2 C0 = some (r', C')) : Met l yX3_canBe wsX3_canBe ({ frames := 2, cells := 0, slots := 0, locals := 42 }) (va_Pc [.ref h, .int x1, .int x2] (k_Pre D [(cI, .int), (cO, .object RX0), (cJ, .long)] (cW cI cJ cO h xa ea0 pa0 C0) sz)) (va_Qi (fun (r0 : Int32) (u : va_W × List (ClassId × FieldType)) => r0 = r' ∧ u = (cW cI cJ cO h xa ea0 pa0 C', [(cI, .int), (cO, .object RX0), (cJ, .long)]) ∧ gN C' = gN C0 ∧ gE C' = gE C0) (k_B D (va_A (cW cI cJ cO h xa ea0 pa0 C0) sz)) (va_A (cW cI cJ cO h xa ea0 pa0 C0) sz)) (0) (0) (va_A (cW cI cJ cO h xa ea0 pa0 C0) sz) := by
  refine Met.ofW (cc := cX3_canBe) (maxL := 5) (ret := (some .boolean)) (by decide) rfl ?_
  intro p e s m args below meth c s₁ B hml hv
  obtain ⟨rfl, hsz, hP, hK, hD0⟩ := hv
  have hx := B.exec
  have hb := B.bytes
  have hr := B.returns
  have hts := atoms_spec (ws := wsX3_canBe) B.pre
  have hown : s.vm.findClass RX3 = some m.cls := findClass_of_methodNamed B.named
  have hlocks := B.notSynchronized
  subst hsz
  have hD := hD0.self (sz := s.heap.size)
  generalize hAe : va_A (cW cI cJ cO h xa ea0 pa0 C0) s.heap.size = A at hD ⊢
  have hA : ∀ q : Nat, s.heap.size ≤ q → A q := fun q h => by rw [← hAe]; exact Or.inr h
  have hS : va_S A s.heap s.heap [] := va_S.rf
  have hl := lv_entry ([.ref h, .int x1, .int x2]) (n := 5) (Nat.le_of_ble_eq_true rfl)
  rw [lg_entry_eq]
  generalize (lg_sl ([.ref h, .int x1, .int x2]) ++ List.replicate (5 - (lg_sl ([.ref h, .int x1, .int x2])).length) Slot.unset).toArray = ls at hl ⊢
  have hl : lv_has ls 5 [(0, .ref h), (1, .int x1), (2, .int x2)] := hl
  refine k_Q (fun Q hQ => ?_)
  have hg0 : gN C0 = gN C0 ∧ gE C0 = gE C0 := ⟨rfl, rfl⟩
  have B100 : ∀ (K62 : Int32 → Int32 → Int32 → CS → Option (Int32 × CS)) (hK62 : ∀ (v1 : Int32) (v2 : Int32) (v3 : Int32)  (C : CS)  (H : Heap) (locs : List Loc) (ls : Array Slot), K62 v1 v2 v3 C = some (r', C') → (gN C = gN C0 ∧ gE C = gE C0) → va_P D vwCl (cW cI cJ cO h xa ea0 pa0 C) H → va_D A (cW cI cJ cO h xa ea0 pa0 C) → va_S A s.heap H locs → lv_has ls 5 [(0, .ref h), (1, .int v1), (2, .int v2), (3, .int v3)] → W p l e (headSpec wsX3_canBe ({ frames := 2, cells := 0, slots := 0, locals := 42 })).room s m ([.ref h, .int x1, .int x2] : List Value).toArray below meth c H locs (0) (0) Q (F0 m 62 ls [])), ∀ (v1 : Int32) (v2 : Int32) (v3 : Int32)  (C : CS)  (H : Heap) (locs : List Loc) (ls : Array Slot), f_X3_canBe_100 K62 v1 v2 v3 C = some (r', C') → (gN C = gN C0 ∧ gE C = gE C0) → va_P D vwCl (cW cI cJ cO h xa ea0 pa0 C) H → va_D A (cW cI cJ cO h xa ea0 pa0 C) → va_S A s.heap H locs → lv_has ls 5 [(0, .ref h), (1, .int v1), (2, .int v2), (3, .int v3)] → W p l e (headSpec wsX3_canBe ({ frames := 2, cells := 0, slots := 0, locals := 42 })).room s m ([.ref h, .int x1, .int x2] : List Value).toArray below meth c H locs (0) (0) Q (F0 m 100 ls []) := by
    intro K62 hK62
    intro v1 v2 v3  C  H locs ls hq hg  hP hD hS hl
    rw [f_X3_canBe_100] at hq
    refine lv_iinc (v := v3 + 1) (lv' := [(3, .int (v3 + 1)), (0, .ref h), (1, .int v1), (2, .int v2)]) hx hb dX3_canBe_100 hl (k := 3) rfl (by rfl) (by decide) rfl (fun ls hl => ?_)
    refine lv_goto (tgt := 62) hx hb dX3_canBe_103 (by decide) ?_
    exact hK62 v1 v2 (v3 + 1) C  _ _ _ hq (by show (gN C = gN C0 ∧ gE C = gE C0); omega) hP hD hS (lv_sub hl [1, 2, 3, 0] rfl)
  have B62 : ∀  (k : Nat), ∀ (v1 : Int32) (v2 : Int32) (v3 : Int32)  (C : CS)  (H : Heap) (locs : List Loc) (ls : Array Slot), f_X3_canBe_62  k v1 v2 v3 C = some (r', C') → (gN C = gN C0 ∧ gE C = gE C0) → va_P D vwCl (cW cI cJ cO h xa ea0 pa0 C) H → va_D A (cW cI cJ cO h xa ea0 pa0 C) → va_S A s.heap H locs → lv_has ls 5 [(0, .ref h), (1, .int v1), (2, .int v2), (3, .int v3)] → W p l e (headSpec wsX3_canBe ({ frames := 2, cells := 0, slots := 0, locals := 42 })).room s m ([.ref h, .int x1, .int x2] : List Value).toArray below meth c H locs (0) (0) Q (F0 m 62 ls []) := by
    intro  k
    induction k with
    | zero =>
      intro v1 v2 v3  C  H locs ls hq hg  hP hD hS hl
      exact absurd hq (by rw [f_X3_canBe_62]; exact k_non)
    | succ k ih =>
      intro v1 v2 v3  C  H locs ls hq hg  hP hD hS hl
      rw [f_X3_canBe_62] at hq
      refine lv_iload_n hx hb dX3_canBe_62 rfl (lv_at hl 3 rfl) ?_
      refine lv_aload_n hx hb dX3_canBe_63 rfl (lv_at hl 0 rfl) ?_
      refine va_get (D := D) (ci := 3) (v := .int (C.1 14)) (C := RX3) (T := TX3) (N := 18) hx hb hts kin_X3_canBe_X3 hown hK hP 0 rfl rfl 14 (by decide) (hts _ kw_X3_canBe__fieldLink_RX3_194_ActHouse_runningCount_I_) (fun _ h9 => h9) rfl dX3_canBe_64 ?_
      refine lv_icmp_ge (tgt := 106) hx hb dX3_canBe_67 (by decide) (fun c5 => ?_) (fun c5 => ?_)
      · skip
        rw [if_pos c5] at hq
        refine lv_iconst (v := 1) hx hb dX3_canBe_106 (by decide) ?_
        obtain ⟨e2, e3⟩ := k_so hq
        subst hQ
        have hP : va_P D vwCl (cW cI cJ cO h xa ea0 pa0 C) _ := hP
        have hD : va_D A (cW cI cJ cO h xa ea0 pa0 C) := hD
        have hgE := congrArg (fun X : CS => gN X) e3
        have hgE : gN C = gN C' := hgE
        have hhE := congrArg (fun X : CS => gE X) e3
        have hhE : gE C = gE C' := hhE
        refine W.widen (k := 0) (n := 0) (by decide) (by decide) ?_
        exact W.zret (v := 1) hx hb hr (by decide) (fun t ht hW => ⟨⟨1, (cW cI cJ cO h xa ea0 pa0 C, [(cI, .int), (cO, .object RX0), (cJ, .long)]), rfl, ⟨e2, (congrArg (fun X : CS => ((cW cI cJ cO h xa ea0 pa0 X, [(cI, .int), (cO, .object RX0), (cJ, .long)]) : va_W × List (ClassId × FieldType))) e3), by omega, by omega⟩, ⟨by rw [ht]; exact hP, va_K.moved hW.alike hK, hD⟩⟩, hS.F ht⟩) hS.2.2 dX3_canBe_107
      · skip
        rw [if_neg c5] at hq
        refine lv_aload_n hx hb dX3_canBe_70 rfl (lv_at hl 0 rfl) ?_
        refine va_get (D := D) (ci := 3) (v := .ref (xa 8)) (C := RX3) (T := TX3) (N := 18) hx hb hts kin_X3_canBe_X3 hown hK hP 0 rfl rfl 8 (by decide) (hts _ kw_X3_canBe__fieldLink_RX3_37_ActHouse_running_I_) (fun _ h9 => h9) rfl dX3_canBe_71 ?_
        refine lv_iload_n hx hb dX3_canBe_74 rfl (lv_at hl 3 rfl) ?_
        obtain ⟨b6, hq⟩ := k_if hq
        refine va_iald hx hb hK hP 9 0 (f := (C.2.1 8)) rfl rfl (k_in b6.1 b6.2) dX3_canBe_75 ?_
        refine lv_iload_n hx hb dX3_canBe_76 rfl (lv_at hl 1 rfl) ?_
        refine lv_icmp_eq (tgt := 100) hx hb dX3_canBe_77 (by decide) (fun c7 => ?_) (fun c7 => ?_)
        · skip
          rw [if_pos c7] at hq
          exact B100 (fun (v1 : Int32) (v2 : Int32) (v3 : Int32) (C : CS) => f_X3_canBe_62  k v1 v2 v3 C) ih v1 v2 v3 C  _ _ _ hq (by show (gN C = gN C0 ∧ gE C = gE C0); omega) hP hD hS (lv_sub hl [0, 1, 2, 3] rfl)
        · skip
          rw [if_neg c7] at hq
          refine lv_aload_n hx hb dX3_canBe_80 rfl (lv_at hl 0 rfl) ?_
          refine va_get (D := D) (ci := 3) (v := .ref (xa 5)) (C := RX3) (T := TX3) (N := 18) hx hb hts kin_X3_canBe_X3 hown hK hP 0 rfl rfl 5 (by decide) (hts _ kw_X3_canBe__fieldLink_RX3_27_ActHouse_acts_LActHouse_Act_) (fun _ h9 => h9) rfl dX3_canBe_81 ?_
          refine lv_aload_n hx hb dX3_canBe_84 rfl (lv_at hl 0 rfl) ?_
          refine va_get (D := D) (ci := 3) (v := .ref (xa 8)) (C := RX3) (T := TX3) (N := 18) hx hb hts kin_X3_canBe_X3 hown hK hP 0 rfl rfl 8 (by decide) (hts _ kw_X3_canBe__fieldLink_RX3_37_ActHouse_running_I_) (fun _ h9 => h9) rfl dX3_canBe_85 ?_
          refine lv_iload_n hx hb dX3_canBe_88 rfl (lv_at hl 3 rfl) ?_
          refine va_iald hx hb hK hP 9 0 (f := (C.2.1 8)) rfl rfl (k_in b6.1 b6.2) dX3_canBe_89 ?_
          obtain ⟨b8, hq⟩ := k_if hq
          refine va_aldq hx hb hK hP 6 1 (f := cActs pa0 (gN C)) rfl rfl (k_in b8.1.1 b8.1.2) dX3_canBe_90 ?_
          refine W.eq (g2 := F0 m 91 ls [.ref (pa0 (((C.2.1 8) v3.toNatClampNeg).toNatClampNeg) 0)]) (by rw [cActs_lt b8.2]; rfl) ?_
          refine lv_iload_n hx hb dX3_canBe_91 rfl (lv_at hl 2 rfl) ?_
          obtain ⟨q9, C9, h9, hq⟩ := k_bd hq
          have hFc := k_free hD hS hA
          refine va_calli (va_runS (As := [.ref (pa0 (((C.2.1 8) v3.toNatClampNeg).toNatClampNeg) 0), .int v2]) (rest := []) ⟨hx, hb, hml, hown, hts⟩ (c_X3_blocks (l := l) (D := D) (cI := cI) (cJ := cJ) (cO := cO) (h := h) (xa := xa) (ea0 := ea0) (pa0 := pa0)  (hn0 := by show ((C.2.1 8) v3.toNatClampNeg).toNatClampNeg < gN C; omega) (hf := h9)) (va_cwS 2 hts gX3_canBe_X3_blocks rfl rfl rfl (by decide +kernel) ⟨Nat.le_of_ble_eq_true rfl, Nat.le_of_ble_eq_true rfl⟩) ⟨k_blind, fun U hU hW => ⟨rfl, k_pre hU hW hP hK hD⟩⟩ rfl rfl hl.1 rfl (lv_room (Nat.le_of_ble_eq_true rfl)) dX3_canBe_92 ⟨by decide, by decide⟩) hS (fun q _ h => hFc q h) hFc (fun r9 u t H1 locs ht hvm hw hB hz1 hk1 hS => ?_)
          obtain ⟨rfl, rfl, hg9, hh9⟩ := hw
          have hg9 : gN C9 = gN C := hg9
          have hh9 : gE C9 = gE C := hh9
          refine W.widen (k := 0) (n := 0) (Nat.le_refl _) (Nat.le_refl _) ?_
          obtain ⟨hP1, hK1, hD1⟩ := hB
          rw [ht] at hP1
          have hP := hP1
          have hD := k_weak hD1 hFc
          generalize H1 = H at hP hS ⊢
          have hP : va_P D vwCl (cW cI cJ cO h xa ea0 pa0 C9) _ := hP
          have hD : va_D A (cW cI cJ cO h xa ea0 pa0 C9) := hD
          refine lv_if_eq (tgt := 100) hx hb dX3_canBe_95 (by decide) (fun c10 => ?_) (fun c10 => ?_)
          · skip
            rw [if_pos c10] at hq
            exact B100 (fun (v1 : Int32) (v2 : Int32) (v3 : Int32) (C : CS) => f_X3_canBe_62  k v1 v2 v3 C) ih v1 v2 v3 C9  _ _ _ hq (by show (gN C9 = gN C0 ∧ gE C9 = gE C0); omega) hP hD hS (lv_sub hl [0, 1, 2, 3] rfl)
          · skip
            rw [if_neg c10] at hq
            refine lv_iconst (v := 0) hx hb dX3_canBe_98 (by decide) ?_
            obtain ⟨e2, e3⟩ := k_so hq
            subst hQ
            have hP : va_P D vwCl (cW cI cJ cO h xa ea0 pa0 C9) _ := hP
            have hD : va_D A (cW cI cJ cO h xa ea0 pa0 C9) := hD
            have hgE := congrArg (fun X : CS => gN X) e3
            have hgE : gN C9 = gN C' := hgE
            have hhE := congrArg (fun X : CS => gE X) e3
            have hhE : gE C9 = gE C' := hhE
            refine W.widen (k := 0) (n := 0) (by decide) (by decide) ?_
            exact W.zret (v := 0) hx hb hr (by decide) (fun t ht hW => ⟨⟨0, (cW cI cJ cO h xa ea0 pa0 C9, [(cI, .int), (cO, .object RX0), (cJ, .long)]), rfl, ⟨e2, (congrArg (fun X : CS => ((cW cI cJ cO h xa ea0 pa0 X, [(cI, .int), (cO, .object RX0), (cJ, .long)]) : va_W × List (ClassId × FieldType))) e3), by omega, by omega⟩, ⟨by rw [ht]; exact hP, va_K.moved hW.alike hK, hD⟩⟩, hS.F ht⟩) hS.2.2 dX3_canBe_99
  have hq := hf
  rw [f_X3_canBe] at hq
  refine lv_iload_n hx hb dX3_canBe_0 rfl (lv_at hl 2 rfl) ?_
  have hFc := k_free hD hS hA
  refine va_calli (va_runS (As := [.int x2]) (rest := []) ⟨hx, hb, hml, hown, hts⟩ (c_X3_opOf (l := l) (D := D) (cI := cI) (cJ := cJ) (cO := cO) (h := h) (xa := xa) (ea0 := ea0) (pa0 := pa0) (C0 := C0) (hf := rfl)) (va_cwS 1 hts gX3_canBe_X3_opOf rfl rfl rfl (by decide +kernel) ⟨Nat.le_of_ble_eq_true rfl, Nat.le_of_ble_eq_true rfl⟩) ⟨k_blind, fun U hU hW => ⟨rfl, k_pre hU hW hP hK hD⟩⟩ rfl rfl hl.1 rfl (lv_room (Nat.le_of_ble_eq_true rfl)) dX3_canBe_1 ⟨by decide, by decide⟩) hS (fun q _ h => hFc q h) hFc (fun r1 u t H1 locs ht hvm hw hB hz1 hk1 hS => ?_)
  obtain ⟨rfl, rfl⟩ := hw
  refine W.widen (k := 0) (n := 0) (Nat.le_refl _) (Nat.le_refl _) ?_
  obtain ⟨hP1, hK1, hD1⟩ := hB
  rw [ht] at hP1
  have hP := hP1
  have hD := k_weak hD1 hFc
  generalize H1 = H at hP hS ⊢
  have hP : va_P D vwCl (cW cI cJ cO h xa ea0 pa0 C0) _ := hP
  have hD : va_D A (cW cI cJ cO h xa ea0 pa0 C0) := hD
  refine lv_bipush (v := 6) hx hb dX3_canBe_4 (by decide) ?_
  refine lv_icmp_ne (tgt := 51) hx hb dX3_canBe_6 (by decide) (fun c2 => ?_) (fun c2 => ?_)
  · skip
    rw [if_neg c2] at hq
    refine lv_iload_n hx hb dX3_canBe_51 rfl (lv_at hl 2 rfl) ?_
    have hFc := k_free hD hS hA
    refine va_calli (va_runS (As := [.int x2]) (rest := []) ⟨hx, hb, hml, hown, hts⟩ (c_X3_usesCell (l := l) (D := D) (cI := cI) (cJ := cJ) (cO := cO) (h := h) (xa := xa) (ea0 := ea0) (pa0 := pa0) (C0 := C0) (hf := rfl)) (va_cwS 1 hts gX3_canBe_X3_usesCell rfl rfl rfl (by decide +kernel) ⟨Nat.le_of_ble_eq_true rfl, Nat.le_of_ble_eq_true rfl⟩) ⟨k_blind, fun U hU hW => ⟨rfl, k_pre hU hW hP hK hD⟩⟩ rfl rfl hl.1 rfl (lv_room (Nat.le_of_ble_eq_true rfl)) dX3_canBe_52 ⟨by decide, by decide⟩) hS (fun q _ h => hFc q h) hFc (fun r3 u t H1 locs ht hvm hw hB hz1 hk1 hS => ?_)
    obtain ⟨rfl, rfl⟩ := hw
    refine W.widen (k := 0) (n := 0) (Nat.le_refl _) (Nat.le_refl _) ?_
    obtain ⟨hP1, hK1, hD1⟩ := hB
    rw [ht] at hP1
    have hP := hP1
    have hD := k_weak hD1 hFc
    generalize H1 = H at hP hS ⊢
    have hP : va_P D vwCl (cW cI cJ cO h xa ea0 pa0 C0) _ := hP
    have hD : va_D A (cW cI cJ cO h xa ea0 pa0 C0) := hD
    refine lv_if_ne (tgt := 60) hx hb dX3_canBe_55 (by decide) (fun c4 => ?_) (fun c4 => ?_)
    · skip
      rw [if_neg c4] at hq
      refine lv_iconst (v := 0) hx hb dX3_canBe_60 (by decide) ?_
      refine lv_istore_n (lv' := [(3, .int 0), (0, .ref h), (1, .int x1), (2, .int x2)]) hx hb dX3_canBe_61 rfl hl (by decide) rfl (fun ls hl => ?_)
      exact B62  200 x1 x2 (0 : Int32) C0  _ _ _ hq (by show (gN C0 = gN C0 ∧ gE C0 = gE C0); omega) hP hD hS (lv_sub hl [1, 2, 3, 0] rfl)
    · skip
      rw [if_pos c4] at hq
      refine lv_iconst (v := 1) hx hb dX3_canBe_58 (by decide) ?_
      obtain ⟨e2, e3⟩ := k_so hq
      subst hQ
      have hP : va_P D vwCl (cW cI cJ cO h xa ea0 pa0 C0) _ := hP
      have hD : va_D A (cW cI cJ cO h xa ea0 pa0 C0) := hD
      have hgE := congrArg (fun X : CS => gN X) e3
      have hgE : gN C0 = gN C' := hgE
      have hhE := congrArg (fun X : CS => gE X) e3
      have hhE : gE C0 = gE C' := hhE
      refine W.widen (k := 0) (n := 0) (by decide) (by decide) ?_
      exact W.zret (v := 1) hx hb hr (by decide) (fun t ht hW => ⟨⟨1, (cW cI cJ cO h xa ea0 pa0 C0, [(cI, .int), (cO, .object RX0), (cJ, .long)]), rfl, ⟨e2, (congrArg (fun X : CS => ((cW cI cJ cO h xa ea0 pa0 X, [(cI, .int), (cO, .object RX0), (cJ, .long)]) : va_W × List (ClassId × FieldType))) e3), by omega, by omega⟩, ⟨by rw [ht]; exact hP, va_K.moved hW.alike hK, hD⟩⟩, hS.F ht⟩) hS.2.2 dX3_canBe_59
  · skip
    rw [if_pos c2] at hq
    refine lv_iload_n hx hb dX3_canBe_9 rfl (lv_at hl 2 rfl) ?_
    have hFc := k_free hD hS hA
    refine va_calli (va_runS (As := [.int x2]) (rest := []) ⟨hx, hb, hml, hown, hts⟩ (c_X3_aOf (l := l) (D := D) (cI := cI) (cJ := cJ) (cO := cO) (h := h) (xa := xa) (ea0 := ea0) (pa0 := pa0) (C0 := C0) (hf := rfl)) (va_cwS 1 hts gX3_canBe_X3_aOf rfl rfl rfl (by decide +kernel) ⟨Nat.le_of_ble_eq_true rfl, Nat.le_of_ble_eq_true rfl⟩) ⟨k_blind, fun U hU hW => ⟨rfl, k_pre hU hW hP hK hD⟩⟩ rfl rfl hl.1 rfl (lv_room (Nat.le_of_ble_eq_true rfl)) dX3_canBe_10 ⟨by decide, by decide⟩) hS (fun q _ h => hFc q h) hFc (fun r11 u t H1 locs ht hvm hw hB hz1 hk1 hS => ?_)
    obtain ⟨rfl, rfl⟩ := hw
    refine W.widen (k := 0) (n := 0) (Nat.le_refl _) (Nat.le_refl _) ?_
    obtain ⟨hP1, hK1, hD1⟩ := hB
    rw [ht] at hP1
    have hP := hP1
    have hD := k_weak hD1 hFc
    generalize H1 = H at hP hS ⊢
    have hP : va_P D vwCl (cW cI cJ cO h xa ea0 pa0 C0) _ := hP
    have hD : va_D A (cW cI cJ cO h xa ea0 pa0 C0) := hD
    refine lv_istore_n (lv' := [(3, .int (f_X3_aOf x2)), (0, .ref h), (1, .int x1), (2, .int x2)]) hx hb dX3_canBe_13 rfl hl (by decide) rfl (fun ls hl => ?_)
    refine lv_iload_n hx hb dX3_canBe_14 rfl (lv_at hl 3 rfl) ?_
    have hFc := k_free hD hS hA
    refine va_calli (va_runS (As := [.int x2]) (rest := []) ⟨hx, hb, hml, hown, hts⟩ (c_X3_bOf (l := l) (D := D) (cI := cI) (cJ := cJ) (cO := cO) (h := h) (xa := xa) (ea0 := ea0) (pa0 := pa0) (C0 := C0) (hf := rfl)) (va_cwS 1 hts gX3_canBe_X3_bOf rfl rfl rfl (by decide +kernel) ⟨Nat.le_of_ble_eq_true rfl, Nat.le_of_ble_eq_true rfl⟩) ⟨k_blind, fun U hU hW => ⟨rfl, k_pre hU hW hP hK hD⟩⟩ rfl rfl hl.1 rfl (lv_room (Nat.le_of_ble_eq_true rfl)) dX3_canBe_15 ⟨by decide, by decide⟩) hS (fun q _ h => hFc q h) hFc (fun r12 u t H1 locs ht hvm hw hB hz1 hk1 hS => ?_)
    obtain ⟨rfl, rfl⟩ := hw
    refine W.widen (k := 0) (n := 0) (Nat.le_refl _) (Nat.le_refl _) ?_
    obtain ⟨hP1, hK1, hD1⟩ := hB
    rw [ht] at hP1
    have hP := hP1
    have hD := k_weak hD1 hFc
    generalize H1 = H at hP hS ⊢
    have hP : va_P D vwCl (cW cI cJ cO h xa ea0 pa0 C0) _ := hP
    have hD : va_D A (cW cI cJ cO h xa ea0 pa0 C0) := hD
    refine lv_bipush (v := 50) hx hb dX3_canBe_18 (by decide) ?_
    refine lv_isub hx hb dX3_canBe_20 ?_
    refine lv_istore (lv' := [(4, .int ((f_X3_bOf x2) - 50)), (3, .int (f_X3_aOf x2)), (0, .ref h), (1, .int x1), (2, .int x2)]) hx hb dX3_canBe_21 hl (by decide) rfl (fun ls hl => ?_)
    refine lv_iload hx hb dX3_canBe_23 (lv_at hl 0 rfl) ?_
    refine lv_if_ge (tgt := 45) hx hb dX3_canBe_25 (by decide) (fun c13 => ?_) (fun c13 => ?_)
    · skip
      rw [if_pos c13] at hq
      refine lv_iconst (v := 1) hx hb dX3_canBe_45 (by decide) ?_
      refine lv_goto (tgt := 50) hx hb dX3_canBe_46 (by decide) ?_
      obtain ⟨e2, e3⟩ := k_so hq
      subst hQ
      have hP : va_P D vwCl (cW cI cJ cO h xa ea0 pa0 C0) _ := hP
      have hD : va_D A (cW cI cJ cO h xa ea0 pa0 C0) := hD
      have hgE := congrArg (fun X : CS => gN X) e3
      have hgE : gN C0 = gN C' := hgE
      have hhE := congrArg (fun X : CS => gE X) e3
      have hhE : gE C0 = gE C' := hhE
      refine W.widen (k := 0) (n := 0) (by decide) (by decide) ?_
      exact W.zret (v := 1) hx hb hr (by decide) (fun t ht hW => ⟨⟨1, (cW cI cJ cO h xa ea0 pa0 C0, [(cI, .int), (cO, .object RX0), (cJ, .long)]), rfl, ⟨e2, (congrArg (fun X : CS => ((cW cI cJ cO h xa ea0 pa0 X, [(cI, .int), (cO, .object RX0), (cJ, .long)]) : va_W × List (ClassId × FieldType))) e3), by omega, by omega⟩, ⟨by rw [ht]; exact hP, va_K.moved hW.alike hK, hD⟩⟩, hS.F ht⟩) hS.2.2 dX3_canBe_50
    · skip
      rw [if_neg c13] at hq
      refine lv_aload_n hx hb dX3_canBe_28 rfl (lv_at hl 2 rfl) ?_
      refine lv_iload_n hx hb dX3_canBe_29 rfl (lv_at hl 1 rfl) ?_
      obtain ⟨q14, C14, h14, hq⟩ := k_bd hq
      have hFc := k_free hD hS hA
      refine va_calli (va_runV (As := [.int (f_X3_aOf x2)]) (rest := []) ⟨hx, hb, hml, hown, hts⟩ (c_X3_leastToCome (l := l) (D := D) (cI := cI) (cJ := cJ) (cO := cO) (h := h) (xa := xa) (ea0 := ea0) (pa0 := pa0)  (hf := h14)) (cwV 1 hts gX3_canBe_X3_leastToCome rfl rfl rfl (by decide +kernel) ⟨Nat.le_of_ble_eq_true rfl, Nat.le_of_ble_eq_true rfl⟩) ⟨k_blind, va_recv hK hP (ci := 3) (q0 := 0) rfl rfl, fun U hU hW => ⟨rfl, k_pre hU hW hP hK hD⟩⟩ rfl rfl hl.1 rfl (lv_room (Nat.le_of_ble_eq_true rfl)) dX3_canBe_30 ⟨by decide, by decide⟩) hS (fun q _ h => hFc q h) hFc (fun r14 u t H1 locs ht hvm hw hB hz1 hk1 hS => ?_)
      obtain ⟨rfl, rfl, hg14, hh14⟩ := hw
      have hg14 : gN C14 = gN C0 := hg14
      have hh14 : gE C14 = gE C0 := hh14
      refine W.widen (k := 0) (n := 0) (Nat.le_refl _) (Nat.le_refl _) ?_
      obtain ⟨hP1, hK1, hD1⟩ := hB
      rw [ht] at hP1
      have hP := hP1
      have hD := k_weak hD1 hFc
      generalize H1 = H at hP hS ⊢
      have hP : va_P D vwCl (cW cI cJ cO h xa ea0 pa0 C14) _ := hP
      have hD : va_D A (cW cI cJ cO h xa ea0 pa0 C14) := hD
      refine lv_iload hx hb dX3_canBe_33 (lv_at hl 0 rfl) ?_
      refine lv_iadd hx hb dX3_canBe_35 ?_
      refine lv_aload_n hx hb dX3_canBe_36 rfl (lv_at hl 2 rfl) ?_
      refine va_get (D := D) (ci := 3) (v := .ref (xa 3)) (C := RX3) (T := TX3) (N := 18) hx hb hts kin_X3_canBe_X3 hown hK hP 0 rfl rfl 3 (by decide) (hts _ kw_X3_canBe__fieldLink_RX3_19_ActHouse_floors_I_) (fun _ h9 => h9) rfl dX3_canBe_37 ?_
      refine lv_iload_n hx hb dX3_canBe_40 rfl (lv_at hl 1 rfl) ?_
      obtain ⟨b15, hq⟩ := k_if hq
      refine va_iald hx hb hK hP 4 0 (f := (C14.2.1 3)) rfl rfl (k_in b15.1 b15.2) dX3_canBe_41 ?_
      refine lv_icmp_lt (tgt := 49) hx hb dX3_canBe_42 (by decide) (fun c16 => ?_) (fun c16 => ?_)
      · skip
        rw [if_pos c16] at hq
        refine lv_iconst (v := 0) hx hb dX3_canBe_49 (by decide) ?_
        obtain ⟨e2, e3⟩ := k_so hq
        subst hQ
        have hP : va_P D vwCl (cW cI cJ cO h xa ea0 pa0 C14) _ := hP
        have hD : va_D A (cW cI cJ cO h xa ea0 pa0 C14) := hD
        have hgE := congrArg (fun X : CS => gN X) e3
        have hgE : gN C14 = gN C' := hgE
        have hhE := congrArg (fun X : CS => gE X) e3
        have hhE : gE C14 = gE C' := hhE
        refine W.widen (k := 0) (n := 0) (by decide) (by decide) ?_
        exact W.zret (v := 0) hx hb hr (by decide) (fun t ht hW => ⟨⟨0, (cW cI cJ cO h xa ea0 pa0 C14, [(cI, .int), (cO, .object RX0), (cJ, .long)]), rfl, ⟨e2, (congrArg (fun X : CS => ((cW cI cJ cO h xa ea0 pa0 X, [(cI, .int), (cO, .object RX0), (cJ, .long)]) : va_W × List (ClassId × FieldType))) e3), by omega, by omega⟩, ⟨by rw [ht]; exact hP, va_K.moved hW.alike hK, hD⟩⟩, hS.F ht⟩) hS.2.2 dX3_canBe_50
      · skip
        rw [if_neg c16] at hq
        refine lv_iconst (v := 1) hx hb dX3_canBe_45 (by decide) ?_
        refine lv_goto (tgt := 50) hx hb dX3_canBe_46 (by decide) ?_
        obtain ⟨e2, e3⟩ := k_so hq
        subst hQ
        have hP : va_P D vwCl (cW cI cJ cO h xa ea0 pa0 C14) _ := hP
        have hD : va_D A (cW cI cJ cO h xa ea0 pa0 C14) := hD
        have hgE := congrArg (fun X : CS => gN X) e3
        have hgE : gN C14 = gN C' := hgE
        have hhE := congrArg (fun X : CS => gE X) e3
        have hhE : gE C14 = gE C' := hhE
        refine W.widen (k := 0) (n := 0) (by decide) (by decide) ?_
        exact W.zret (v := 1) hx hb hr (by decide) (fun t ht hW => ⟨⟨1, (cW cI cJ cO h xa ea0 pa0 C14, [(cI, .int), (cO, .object RX0), (cJ, .long)]), rfl, ⟨e2, (congrArg (fun X : CS => ((cW cI cJ cO h xa ea0 pa0 X, [(cI, .int), (cO, .object RX0), (cJ, .long)]) : va_W × List (ClassId × FieldType))) e3), by omega, by omega⟩, ⟨by rw [ht]; exact hP, va_K.moved hW.alike hK, hD⟩⟩, hS.F ht⟩) hS.2.2 dX3_canBe_50
set_option maxRecDepth 100000 in
theorem kw_X3_seenBy__fieldLink_RX3_22_ActHouse_values_I_ : (.fieldLink RX3 22 "ActHouse" "values" "[I" : Cond) ∈ wsX3_seenBy := by decide +kernel
set_option maxRecDepth 100000 in
theorem kin_X3_seenBy_X3 : ∀ w ∈ u_ws RX3 TX3 18, w ∈ wsX3_seenBy := by decide +kernel
def f_X3_seenBy (n1 : Nat) (x2 : Int32) (C0 : CS) : Option (Int32 × CS) := (if 0 ≤ x2.toInt ∧ x2.toInt < 32 then (k_bind (f_X0_valueAfter n1 x2 ((C0.2.1 4) x2.toNatClampNeg) C0) fun r2 C2 => some (r2, C2)) else none)
set_option maxHeartbeats 4000000 in
set_option maxRecDepth 100000 in
theorem c_X3_seenBy {l : Launch} {D : va_G} {sz : Nat} {cI cJ cO : ClassId} {h : Nat} {xa : Nat → Nat} {ea0 : Nat} {pa0 : Nat → Nat → Nat} {C0 C' : CS} {n1 : Nat} {x2 r' : Int32} (hn1 : n1 < gN C0) (hf : f_X3_seenBy n1 x2 C0 = some (r', C')) : Met l yX3_seenBy wsX3_seenBy ({ frames := 1, cells := 0, slots := 0, locals := 22 }) (va_Pc [.ref h, .ref (pa0 n1 0), .int x2] (k_Pre D [(cI, .int), (cO, .object RX0), (cJ, .long)] (cW cI cJ cO h xa ea0 pa0 C0) sz)) (va_Qi (fun (r0 : Int32) (u : va_W × List (ClassId × FieldType)) => r0 = r' ∧ u = (cW cI cJ cO h xa ea0 pa0 C', [(cI, .int), (cO, .object RX0), (cJ, .long)]) ∧ gN C' = gN C0 ∧ gE C' = gE C0) (k_B D (va_A (cW cI cJ cO h xa ea0 pa0 C0) sz)) (va_A (cW cI cJ cO h xa ea0 pa0 C0) sz)) (0) (0) (va_A (cW cI cJ cO h xa ea0 pa0 C0) sz) := by
  refine Met.ofW (cc := cX3_seenBy) (maxL := 3) (ret := (some .int)) (by decide) rfl ?_
  intro p e s m args below meth c s₁ B hml hv
  obtain ⟨rfl, hsz, hP, hK, hD0⟩ := hv
  have hx := B.exec
  have hb := B.bytes
  have hr := B.returns
  have hts := atoms_spec (ws := wsX3_seenBy) B.pre
  have hown : s.vm.findClass RX3 = some m.cls := findClass_of_methodNamed B.named
  have hlocks := B.notSynchronized
  subst hsz
  have hD := hD0.self (sz := s.heap.size)
  generalize hAe : va_A (cW cI cJ cO h xa ea0 pa0 C0) s.heap.size = A at hD ⊢
  have hA : ∀ q : Nat, s.heap.size ≤ q → A q := fun q h => by rw [← hAe]; exact Or.inr h
  have hS : va_S A s.heap s.heap [] := va_S.rf
  have hl := lv_entry ([.ref h, .ref (pa0 n1 0), .int x2]) (n := 3) (Nat.le_of_ble_eq_true rfl)
  rw [lg_entry_eq]
  generalize (lg_sl ([.ref h, .ref (pa0 n1 0), .int x2]) ++ List.replicate (3 - (lg_sl ([.ref h, .ref (pa0 n1 0), .int x2])).length) Slot.unset).toArray = ls at hl ⊢
  have hl : lv_has ls 3 [(0, .ref h), (1, .ref (pa0 n1 0)), (2, .int x2)] := hl
  refine k_Q (fun Q hQ => ?_)
  have hg0 : gN C0 = gN C0 ∧ gE C0 = gE C0 := ⟨rfl, rfl⟩
  have hq := hf
  rw [f_X3_seenBy] at hq
  refine lv_aload_n hx hb dX3_seenBy_0 rfl (lv_at hl 1 rfl) ?_
  refine lv_iload_n hx hb dX3_seenBy_1 rfl (lv_at hl 2 rfl) ?_
  refine lv_aload_n hx hb dX3_seenBy_2 rfl (lv_at hl 0 rfl) ?_
  refine va_get (D := D) (ci := 3) (v := .ref (xa 4)) (C := RX3) (T := TX3) (N := 18) hx hb hts kin_X3_seenBy_X3 hown hK hP 0 rfl rfl 4 (by decide) (hts _ kw_X3_seenBy__fieldLink_RX3_22_ActHouse_values_I_) (fun _ h9 => h9) rfl dX3_seenBy_3 ?_
  refine lv_iload_n hx hb dX3_seenBy_6 rfl (lv_at hl 2 rfl) ?_
  obtain ⟨b1, hq⟩ := k_if hq
  refine va_iald hx hb hK hP 5 0 (f := (C0.2.1 4)) rfl rfl (k_in b1.1 b1.2) dX3_seenBy_7 ?_
  obtain ⟨q2, C2, h2, hq⟩ := k_bd hq
  have hFc := k_free hD hS hA
  refine va_calli (va_runV (As := [.int x2, .int ((C0.2.1 4) x2.toNatClampNeg)]) (rest := []) ⟨hx, hb, hml, hown, hts⟩ (c_X0_valueAfter (l := l) (D := D) (cI := cI) (cJ := cJ) (cO := cO) (h := h) (xa := xa) (ea0 := ea0) (pa0 := pa0)  (hn0 := by show n1 < gN C0; omega) (hf := h2)) (cwV 2 hts gX3_seenBy_X0_valueAfter rfl rfl rfl (by decide +kernel) ⟨Nat.le_of_ble_eq_true rfl, Nat.le_of_ble_eq_true rfl⟩) ⟨k_blind, va_recv hK hP (ci := 0) (q0 := (16 + (7 * n1 + 0))) rfl (cW_get (show n1 < gN C0 from by omega) rfl), fun U hU hW => ⟨rfl, k_pre hU hW hP hK hD⟩⟩ rfl rfl hl.1 rfl (lv_room (Nat.le_of_ble_eq_true rfl)) dX3_seenBy_8 ⟨by decide, by decide⟩) hS (fun q _ h => hFc q h) hFc (fun r2 u t H1 locs ht hvm hw hB hz1 hk1 hS => ?_)
  obtain ⟨rfl, rfl, hg2, hh2⟩ := hw
  have hg2 : gN C2 = gN C0 := hg2
  have hh2 : gE C2 = gE C0 := hh2
  refine W.widen (k := 0) (n := 0) (Nat.le_refl _) (Nat.le_refl _) ?_
  obtain ⟨hP1, hK1, hD1⟩ := hB
  rw [ht] at hP1
  have hP := hP1
  have hD := k_weak hD1 hFc
  generalize H1 = H at hP hS ⊢
  have hP : va_P D vwCl (cW cI cJ cO h xa ea0 pa0 C2) _ := hP
  have hD : va_D A (cW cI cJ cO h xa ea0 pa0 C2) := hD
  obtain ⟨e2, e3⟩ := k_so hq
  subst hQ
  have hP : va_P D vwCl (cW cI cJ cO h xa ea0 pa0 C2) _ := hP
  have hD : va_D A (cW cI cJ cO h xa ea0 pa0 C2) := hD
  have hgE := congrArg (fun X : CS => gN X) e3
  have hgE : gN C2 = gN C' := hgE
  have hhE := congrArg (fun X : CS => gE X) e3
  have hhE : gE C2 = gE C' := hhE
  refine W.widen (k := 0) (n := 0) (by decide) (by decide) ?_
  exact W.iret (v := r2) hx hb hr (fun t ht hW => ⟨⟨r2, (cW cI cJ cO h xa ea0 pa0 C2, [(cI, .int), (cO, .object RX0), (cJ, .long)]), rfl, ⟨e2, (congrArg (fun X : CS => ((cW cI cJ cO h xa ea0 pa0 X, [(cI, .int), (cO, .object RX0), (cJ, .long)]) : va_W × List (ClassId × FieldType))) e3), by omega, by omega⟩, ⟨by rw [ht]; exact hP, va_K.moved hW.alike hK, hD⟩⟩, hS.F ht⟩) hS.2.2 dX3_seenBy_11
