set_option maxRecDepth 100000 in
theorem kw_X3_drawWaits__fieldLink_RX3_53_ActHouse_waits_LActHouse_Waits_ : (.fieldLink RX3 53 "ActHouse" "waits" "LActHouse$Waits;" : Cond) ∈ wsX3_drawWaits := by decide +kernel
set_option maxRecDepth 100000 in
theorem kin_X3_drawWaits_X3 : ∀ w ∈ u_ws RX3 TX3 18, w ∈ wsX3_drawWaits := by decide +kernel
set_option maxRecDepth 100000 in
theorem kw_X3_drawWaits__fieldLink_RX3_194_ActHouse_runningCount_I_ : (.fieldLink RX3 194 "ActHouse" "runningCount" "I" : Cond) ∈ wsX3_drawWaits := by decide +kernel
set_option maxRecDepth 100000 in
theorem kw_X3_drawWaits__fieldLink_RX3_27_ActHouse_acts_LActHouse_Act_ : (.fieldLink RX3 27 "ActHouse" "acts" "[LActHouse$Act;" : Cond) ∈ wsX3_drawWaits := by decide +kernel
set_option maxRecDepth 100000 in
theorem kw_X3_drawWaits__fieldLink_RX3_37_ActHouse_running_I_ : (.fieldLink RX3 37 "ActHouse" "running" "[I" : Cond) ∈ wsX3_drawWaits := by decide +kernel
set_option maxRecDepth 100000 in
theorem kw_X3_drawWaits__fieldLink_RX3_117_ActHouse_Act_state_I_ : (.fieldLink RX3 117 "ActHouse$Act" "state" "I" : Cond) ∈ wsX3_drawWaits := by decide +kernel
set_option maxRecDepth 100000 in
theorem kin_X3_drawWaits_X0 : ∀ w ∈ u_ws RX0 TX0 20, w ∈ wsX3_drawWaits := by decide +kernel
set_option maxRecDepth 100000 in
theorem kw_X3_drawWaits__fieldLink_RX3_132_ActHouse_Act_heldTick_I_ : (.fieldLink RX3 132 "ActHouse$Act" "heldTick" "I" : Cond) ∈ wsX3_drawWaits := by decide +kernel
set_option maxRecDepth 100000 in
theorem kw_X3_drawWaits__fieldLink_RX3_79_ActHouse_now_I_ : (.fieldLink RX3 79 "ActHouse" "now" "I" : Cond) ∈ wsX3_drawWaits := by decide +kernel
set_option maxRecDepth 100000 in
theorem kw_X3_drawWaits__fieldLink_RX3_204_ActHouse_Act_steps_I_ : (.fieldLink RX3 204 "ActHouse$Act" "steps" "[I" : Cond) ∈ wsX3_drawWaits := by decide +kernel
set_option maxRecDepth 100000 in
theorem kw_X3_drawWaits__fieldLink_RX3_129_ActHouse_Act_at_I_ : (.fieldLink RX3 129 "ActHouse$Act" "at" "I" : Cond) ∈ wsX3_drawWaits := by decide +kernel
def f_X3_drawWaits_142 (K15 : Int32 → Int32 → CS → Option (Int32 × CS)) (v1 : Int32) (v2 : Int32)  (C : CS) : Option (Int32 × CS) := K15 v1 (v2 + 1) C
def f_X3_drawWaits_136 (K15 : Int32 → Int32 → CS → Option (Int32 × CS)) (K82 : Int32 → Int32 → Nat → Int32 → CS → Option (Int32 × CS)) (v1 : Int32) (v2 : Int32) (y3 : Nat) (v4 : Int32)  (C : CS) : Option (Int32 × CS) := K82 v1 v2 y3 (v4 + 1) C
def f_X3_drawWaits_82 (K15 : Int32 → Int32 → CS → Option (Int32 × CS)) : Nat → Int32 → Int32 → Nat → Int32 → CS → Option (Int32 × CS)
  | 0, _, _, _, _, _ => none
  | k + 1, v1, v2, y3, v4, C => (if (C.1 14) ≤ v4 then f_X3_drawWaits_142 K15 v1 v2 C else (if v4 = v2 then f_X3_drawWaits_136 K15 (fun (v1 : Int32) (v2 : Int32) (y3 : Nat) (v4 : Int32) (C : CS) => f_X3_drawWaits_82 K15 k v1 v2 y3 v4 C) v1 v2 y3 v4 C else (if 0 ≤ v4.toInt ∧ v4.toInt < 36 then (if (0 ≤ ((C.2.1 8) v4.toNatClampNeg).toInt ∧ ((C.2.1 8) v4.toNatClampNeg).toInt < 80) ∧ ((C.2.1 8) v4.toNatClampNeg).toNatClampNeg < gN C then (if 0 ≤ (gP C y3 14).toInt ∧ (gP C y3 14).toInt < 12 then (k_bind (f_X3_blocks (((C.2.1 8) v4.toNatClampNeg).toNatClampNeg) ((gQ C y3 4) (gP C y3 14).toNatClampNeg) C) fun r18 C18 => (if r18 = 0 then f_X3_drawWaits_136 K15 (fun (v1 : Int32) (v2 : Int32) (y3 : Nat) (v4 : Int32) (C : CS) => f_X3_drawWaits_82 K15 k v1 v2 y3 v4 C) v1 v2 y3 v4 C18 else (k_bind (f_X2_add v2 v4 C18) fun r20 C20 => f_X3_drawWaits_136 K15 (fun (v1 : Int32) (v2 : Int32) (y3 : Nat) (v4 : Int32) (C : CS) => f_X3_drawWaits_82 K15 k v1 v2 y3 v4 C) (1 : Int32) v2 y3 v4 C20))) else none) else none) else none)))
def f_X3_drawWaits_15  : Nat → Int32 → Int32 → CS → Option (Int32 × CS)
  | 0, _, _, _ => none
  | k + 1, v1, v2, C => (if (C.1 14) ≤ v2 then (if v1 &&& 1 = v1 then some (v1, C) else none) else (if 0 ≤ v2.toInt ∧ v2.toInt < 36 then (if (0 ≤ ((C.2.1 8) v2.toNatClampNeg).toInt ∧ ((C.2.1 8) v2.toNatClampNeg).toInt < 80) ∧ ((C.2.1 8) v2.toNatClampNeg).toNatClampNeg < gN C then (if (gP C (((C.2.1 8) v2.toNatClampNeg).toNatClampNeg) 12) = 1 then (if (gP C (((C.2.1 8) v2.toNatClampNeg).toNatClampNeg) 15) = (C.1 15) then (k_bind (f_X0_hasStep (((C.2.1 8) v2.toNatClampNeg).toNatClampNeg) C) fun r8 C8 => (if r8 = 0 then f_X3_drawWaits_142 (fun (v1 : Int32) (v2 : Int32) (C : CS) => f_X3_drawWaits_15  k v1 v2 C) v1 v2 C8 else (if 0 ≤ (gP C8 (((C.2.1 8) v2.toNatClampNeg).toNatClampNeg) 14).toInt ∧ (gP C8 (((C.2.1 8) v2.toNatClampNeg).toNatClampNeg) 14).toInt < 12 then (if (f_X3_usesCell ((gQ C8 (((C.2.1 8) v2.toNatClampNeg).toNatClampNeg) 4) (gP C8 (((C.2.1 8) v2.toNatClampNeg).toNatClampNeg) 14).toNatClampNeg)) = 0 then f_X3_drawWaits_142 (fun (v1 : Int32) (v2 : Int32) (C : CS) => f_X3_drawWaits_15  k v1 v2 C) v1 v2 C8 else f_X3_drawWaits_82 (fun (v1 : Int32) (v2 : Int32) (C : CS) => f_X3_drawWaits_15  k v1 v2 C) 200 v1 v2 (((C.2.1 8) v2.toNatClampNeg).toNatClampNeg) (0 : Int32) C8) else none))) else f_X3_drawWaits_142 (fun (v1 : Int32) (v2 : Int32) (C : CS) => f_X3_drawWaits_15  k v1 v2 C) v1 v2 C) else f_X3_drawWaits_142 (fun (v1 : Int32) (v2 : Int32) (C : CS) => f_X3_drawWaits_15  k v1 v2 C) v1 v2 C) else none) else none))
def f_X3_drawWaits  (C0 : CS) : Option (Int32 × CS) := (k_bind (f_X2_clear (C0.1 14) C0) fun r1 C1 => f_X3_drawWaits_15  200 (0 : Int32) (0 : Int32) C1)
set_option maxHeartbeats 4000000 in
set_option maxRecDepth 100000 in
theorem c_X3_drawWaits {l : Launch} {D : va_G} {sz : Nat} {cI cJ cO : ClassId} {h : Nat} {xa : Nat → Nat} {ea0 : Nat} {pa0 : Nat → Nat → Nat} {C0 C' : CS} { r' : Int32} (hf : f_X3_drawWaits  C0 = some (r', C')) : Met l yX3_drawWaits wsX3_drawWaits ({ frames := 2, cells := 0, slots := 0, locals := 45 }) (va_Pc [.ref h] (k_Pre D [(cI, .int), (cO, .object RX0), (cJ, .long)] (cW cI cJ cO h xa ea0 pa0 C0) sz)) (va_Qi (fun (r0 : Int32) (u : va_W × List (ClassId × FieldType)) => r0 = r' ∧ u = (cW cI cJ cO h xa ea0 pa0 C', [(cI, .int), (cO, .object RX0), (cJ, .long)]) ∧ gN C' = gN C0 ∧ gE C' = gE C0) (k_B D (va_A (cW cI cJ cO h xa ea0 pa0 C0) sz)) (va_A (cW cI cJ cO h xa ea0 pa0 C0) sz)) (0) (0) (va_A (cW cI cJ cO h xa ea0 pa0 C0) sz) := by
  refine Met.ofW (cc := cX3_drawWaits) (maxL := 5) (ret := (some .boolean)) (by decide) rfl ?_
  intro p e s m args below meth c s₁ B hml hv
  obtain ⟨rfl, hsz, hP, hK, hD0⟩ := hv
  have hx := B.exec
  have hb := B.bytes
  have hr := B.returns
  have hts := atoms_spec (ws := wsX3_drawWaits) B.pre
  have hown : s.vm.findClass RX3 = some m.cls := findClass_of_methodNamed B.named
  have hlocks := B.notSynchronized
  subst hsz
  have hD := hD0.self (sz := s.heap.size)
  generalize hAe : va_A (cW cI cJ cO h xa ea0 pa0 C0) s.heap.size = A at hD ⊢
  have hA : ∀ q : Nat, s.heap.size ≤ q → A q := fun q h => by rw [← hAe]; exact Or.inr h
  have hS : va_S A s.heap s.heap [] := va_S.rf
  have hl := lv_entry ([.ref h]) (n := 5) (Nat.le_of_ble_eq_true rfl)
  rw [lg_entry_eq]
  generalize (lg_sl ([.ref h]) ++ List.replicate (5 - (lg_sl ([.ref h])).length) Slot.unset).toArray = ls at hl ⊢
  have hl : lv_has ls 5 [(0, .ref h)] := hl
  refine k_Q (fun Q hQ => ?_)
  have hg0 : gN C0 = gN C0 ∧ gE C0 = gE C0 := ⟨rfl, rfl⟩
  have B142 : ∀ (K15 : Int32 → Int32 → CS → Option (Int32 × CS)) (hK15 : ∀ (v1 : Int32) (v2 : Int32)  (C : CS)  (H : Heap) (locs : List Loc) (ls : Array Slot), K15 v1 v2 C = some (r', C') → (gN C = gN C0 ∧ gE C = gE C0) → va_P D vwCl (cW cI cJ cO h xa ea0 pa0 C) H → va_D A (cW cI cJ cO h xa ea0 pa0 C) → va_S A s.heap H locs → lv_has ls 5 [(0, .ref h), (1, .int v1), (2, .int v2)] → W p l e (headSpec wsX3_drawWaits ({ frames := 2, cells := 0, slots := 0, locals := 45 })).room s m ([.ref h] : List Value).toArray below meth c H locs (0) (0) Q (F0 m 15 ls [])), ∀ (v1 : Int32) (v2 : Int32)  (C : CS)  (H : Heap) (locs : List Loc) (ls : Array Slot), f_X3_drawWaits_142 K15 v1 v2 C = some (r', C') → (gN C = gN C0 ∧ gE C = gE C0) → va_P D vwCl (cW cI cJ cO h xa ea0 pa0 C) H → va_D A (cW cI cJ cO h xa ea0 pa0 C) → va_S A s.heap H locs → lv_has ls 5 [(0, .ref h), (1, .int v1), (2, .int v2)] → W p l e (headSpec wsX3_drawWaits ({ frames := 2, cells := 0, slots := 0, locals := 45 })).room s m ([.ref h] : List Value).toArray below meth c H locs (0) (0) Q (F0 m 142 ls []) := by
    intro K15 hK15
    intro v1 v2  C  H locs ls hq hg  hP hD hS hl
    rw [f_X3_drawWaits_142] at hq
    refine lv_iinc (v := v2 + 1) (lv' := [(2, .int (v2 + 1)), (0, .ref h), (1, .int v1)]) hx hb dX3_drawWaits_142 hl (k := 2) rfl (by rfl) (by decide) rfl (fun ls hl => ?_)
    refine lv_goto (tgt := 15) hx hb dX3_drawWaits_145 (by decide) ?_
    exact hK15 v1 (v2 + 1) C  _ _ _ hq (by show (gN C = gN C0 ∧ gE C = gE C0); omega) hP hD hS (lv_sub hl [1, 2, 0] rfl)
  have B136 : ∀ (K15 : Int32 → Int32 → CS → Option (Int32 × CS)) (hK15 : ∀ (v1 : Int32) (v2 : Int32)  (C : CS)  (H : Heap) (locs : List Loc) (ls : Array Slot), K15 v1 v2 C = some (r', C') → (gN C = gN C0 ∧ gE C = gE C0) → va_P D vwCl (cW cI cJ cO h xa ea0 pa0 C) H → va_D A (cW cI cJ cO h xa ea0 pa0 C) → va_S A s.heap H locs → lv_has ls 5 [(0, .ref h), (1, .int v1), (2, .int v2)] → W p l e (headSpec wsX3_drawWaits ({ frames := 2, cells := 0, slots := 0, locals := 45 })).room s m ([.ref h] : List Value).toArray below meth c H locs (0) (0) Q (F0 m 15 ls [])) (K82 : Int32 → Int32 → Nat → Int32 → CS → Option (Int32 × CS)) (hK82 : ∀ (v1 : Int32) (v2 : Int32) (y3 : Nat) (v4 : Int32)  (C : CS)  (H : Heap) (locs : List Loc) (ls : Array Slot), K82 v1 v2 y3 v4 C = some (r', C') → (gN C = gN C0 ∧ gE C = gE C0) → y3 < gN C → va_P D vwCl (cW cI cJ cO h xa ea0 pa0 C) H → va_D A (cW cI cJ cO h xa ea0 pa0 C) → va_S A s.heap H locs → lv_has ls 5 [(0, .ref h), (1, .int v1), (2, .int v2), (3, .ref (pa0 y3 0)), (4, .int v4)] → W p l e (headSpec wsX3_drawWaits ({ frames := 2, cells := 0, slots := 0, locals := 45 })).room s m ([.ref h] : List Value).toArray below meth c H locs (0) (0) Q (F0 m 82 ls [])), ∀ (v1 : Int32) (v2 : Int32) (y3 : Nat) (v4 : Int32)  (C : CS)  (H : Heap) (locs : List Loc) (ls : Array Slot), f_X3_drawWaits_136 K15 K82 v1 v2 y3 v4 C = some (r', C') → (gN C = gN C0 ∧ gE C = gE C0) → y3 < gN C → va_P D vwCl (cW cI cJ cO h xa ea0 pa0 C) H → va_D A (cW cI cJ cO h xa ea0 pa0 C) → va_S A s.heap H locs → lv_has ls 5 [(0, .ref h), (1, .int v1), (2, .int v2), (3, .ref (pa0 y3 0)), (4, .int v4)] → W p l e (headSpec wsX3_drawWaits ({ frames := 2, cells := 0, slots := 0, locals := 45 })).room s m ([.ref h] : List Value).toArray below meth c H locs (0) (0) Q (F0 m 136 ls []) := by
    intro K15 hK15 K82 hK82
    intro v1 v2 y3 v4  C  H locs ls hq hg hn_y3 hP hD hS hl
    rw [f_X3_drawWaits_136] at hq
    refine lv_iinc (v := v4 + 1) (lv' := [(4, .int (v4 + 1)), (0, .ref h), (1, .int v1), (2, .int v2), (3, .ref (pa0 y3 0))]) hx hb dX3_drawWaits_136 hl (k := 4) rfl (by rfl) (by decide) rfl (fun ls hl => ?_)
    refine lv_goto (tgt := 82) hx hb dX3_drawWaits_139 (by decide) ?_
    exact hK82 v1 v2 y3 (v4 + 1) C  _ _ _ hq (by show (gN C = gN C0 ∧ gE C = gE C0); omega) (by show y3 < gN C; omega) hP hD hS (lv_sub hl [1, 2, 3, 4, 0] rfl)
  have B82 : ∀ (K15 : Int32 → Int32 → CS → Option (Int32 × CS)) (hK15 : ∀ (v1 : Int32) (v2 : Int32)  (C : CS)  (H : Heap) (locs : List Loc) (ls : Array Slot), K15 v1 v2 C = some (r', C') → (gN C = gN C0 ∧ gE C = gE C0) → va_P D vwCl (cW cI cJ cO h xa ea0 pa0 C) H → va_D A (cW cI cJ cO h xa ea0 pa0 C) → va_S A s.heap H locs → lv_has ls 5 [(0, .ref h), (1, .int v1), (2, .int v2)] → W p l e (headSpec wsX3_drawWaits ({ frames := 2, cells := 0, slots := 0, locals := 45 })).room s m ([.ref h] : List Value).toArray below meth c H locs (0) (0) Q (F0 m 15 ls [])) (k : Nat), ∀ (v1 : Int32) (v2 : Int32) (y3 : Nat) (v4 : Int32)  (C : CS)  (H : Heap) (locs : List Loc) (ls : Array Slot), f_X3_drawWaits_82 K15 k v1 v2 y3 v4 C = some (r', C') → (gN C = gN C0 ∧ gE C = gE C0) → y3 < gN C → va_P D vwCl (cW cI cJ cO h xa ea0 pa0 C) H → va_D A (cW cI cJ cO h xa ea0 pa0 C) → va_S A s.heap H locs → lv_has ls 5 [(0, .ref h), (1, .int v1), (2, .int v2), (3, .ref (pa0 y3 0)), (4, .int v4)] → W p l e (headSpec wsX3_drawWaits ({ frames := 2, cells := 0, slots := 0, locals := 45 })).room s m ([.ref h] : List Value).toArray below meth c H locs (0) (0) Q (F0 m 82 ls []) := by
    intro K15 hK15 k
    induction k with
    | zero =>
      intro v1 v2 y3 v4  C  H locs ls hq hg hn_y3 hP hD hS hl
      exact absurd hq (by rw [f_X3_drawWaits_82]; exact k_non)
    | succ k ih =>
      intro v1 v2 y3 v4  C  H locs ls hq hg hn_y3 hP hD hS hl
      rw [f_X3_drawWaits_82] at hq
      refine lv_iload hx hb dX3_drawWaits_82 (lv_at hl 4 rfl) ?_
      refine lv_aload_n hx hb dX3_drawWaits_84 rfl (lv_at hl 0 rfl) ?_
      refine va_get (D := D) (ci := 3) (v := .int (C.1 14)) (C := RX3) (T := TX3) (N := 18) hx hb hts kin_X3_drawWaits_X3 hown hK hP 0 rfl rfl 14 (by decide) (hts _ kw_X3_drawWaits__fieldLink_RX3_194_ActHouse_runningCount_I_) (fun _ h9 => h9) rfl dX3_drawWaits_85 ?_
      refine lv_icmp_ge (tgt := 142) hx hb dX3_drawWaits_88 (by decide) (fun c13 => ?_) (fun c13 => ?_)
      · skip
        rw [if_pos c13] at hq
        exact B142 K15 hK15 v1 v2 C  _ _ _ hq (by show (gN C = gN C0 ∧ gE C = gE C0); omega) hP hD hS (lv_sub hl [0, 1, 2] rfl)
      · skip
        rw [if_neg c13] at hq
        refine lv_iload hx hb dX3_drawWaits_91 (lv_at hl 4 rfl) ?_
        refine lv_iload_n hx hb dX3_drawWaits_93 rfl (lv_at hl 2 rfl) ?_
        refine lv_icmp_eq (tgt := 136) hx hb dX3_drawWaits_94 (by decide) (fun c14 => ?_) (fun c14 => ?_)
        · skip
          rw [if_pos c14] at hq
          exact B136 K15 hK15 (fun (v1 : Int32) (v2 : Int32) (y3 : Nat) (v4 : Int32) (C : CS) => f_X3_drawWaits_82 K15 k v1 v2 y3 v4 C) ih v1 v2 y3 v4 C  _ _ _ hq (by show (gN C = gN C0 ∧ gE C = gE C0); omega) (by show y3 < gN C; omega) hP hD hS (lv_sub hl [0, 1, 2, 3, 4] rfl)
        · skip
          rw [if_neg c14] at hq
          refine lv_aload_n hx hb dX3_drawWaits_97 rfl (lv_at hl 0 rfl) ?_
          refine va_get (D := D) (ci := 3) (v := .ref (xa 5)) (C := RX3) (T := TX3) (N := 18) hx hb hts kin_X3_drawWaits_X3 hown hK hP 0 rfl rfl 5 (by decide) (hts _ kw_X3_drawWaits__fieldLink_RX3_27_ActHouse_acts_LActHouse_Act_) (fun _ h9 => h9) rfl dX3_drawWaits_98 ?_
          refine lv_aload_n hx hb dX3_drawWaits_101 rfl (lv_at hl 0 rfl) ?_
          refine va_get (D := D) (ci := 3) (v := .ref (xa 8)) (C := RX3) (T := TX3) (N := 18) hx hb hts kin_X3_drawWaits_X3 hown hK hP 0 rfl rfl 8 (by decide) (hts _ kw_X3_drawWaits__fieldLink_RX3_37_ActHouse_running_I_) (fun _ h9 => h9) rfl dX3_drawWaits_102 ?_
          refine lv_iload hx hb dX3_drawWaits_105 (lv_at hl 4 rfl) ?_
          obtain ⟨b15, hq⟩ := k_if hq
          refine va_iald hx hb hK hP 9 0 (f := (C.2.1 8)) rfl rfl (k_in b15.1 b15.2) dX3_drawWaits_107 ?_
          obtain ⟨b16, hq⟩ := k_if hq
          refine va_aldq hx hb hK hP 6 1 (f := cActs pa0 (gN C)) rfl rfl (k_in b16.1.1 b16.1.2) dX3_drawWaits_108 ?_
          refine W.eq (g2 := F0 m 109 ls [.ref (pa0 (((C.2.1 8) v4.toNatClampNeg).toNatClampNeg) 0)]) (by rw [cActs_lt b16.2]; rfl) ?_
          refine lv_aload_n hx hb dX3_drawWaits_109 rfl (lv_at hl 3 rfl) ?_
          refine va_get (D := D) (ci := 0) (v := .ref (pa0 y3 4)) (C := RX0) (T := TX0) (N := 20) hx hb hts kin_X3_drawWaits_X0 hown hK hP (16 + (7 * y3 + 0)) (cW_get (show y3 < gN C from by omega) rfl) rfl 4 (by decide) (hts _ kw_X3_drawWaits__fieldLink_RX3_204_ActHouse_Act_steps_I_) (fun _ h9 => h9) rfl dX3_drawWaits_110 ?_
          refine lv_aload_n hx hb dX3_drawWaits_113 rfl (lv_at hl 3 rfl) ?_
          refine va_get (D := D) (ci := 0) (v := .int (gP C y3 14)) (C := RX0) (T := TX0) (N := 20) hx hb hts kin_X3_drawWaits_X0 hown hK hP (16 + (7 * y3 + 0)) (cW_get (show y3 < gN C from by omega) rfl) rfl 14 (by decide) (hts _ kw_X3_drawWaits__fieldLink_RX3_129_ActHouse_Act_at_I_) (fun _ h9 => h9) rfl dX3_drawWaits_114 ?_
          obtain ⟨b17, hq⟩ := k_if hq
          refine va_iald hx hb hK hP (16 + (7 * y3 + 1)) 0 (f := (gQ C y3 4)) (cW_get (show y3 < gN C from by omega) rfl) rfl (k_in b17.1 b17.2) dX3_drawWaits_117 ?_
          obtain ⟨q18, C18, h18, hq⟩ := k_bd hq
          have hFc := k_free hD hS hA
          refine va_calli (va_runS (As := [.ref (pa0 (((C.2.1 8) v4.toNatClampNeg).toNatClampNeg) 0), .int ((gQ C y3 4) (gP C y3 14).toNatClampNeg)]) (rest := []) ⟨hx, hb, hml, hown, hts⟩ (c_X3_blocks (l := l) (D := D) (cI := cI) (cJ := cJ) (cO := cO) (h := h) (xa := xa) (ea0 := ea0) (pa0 := pa0)  (hn0 := by show ((C.2.1 8) v4.toNatClampNeg).toNatClampNeg < gN C; omega) (hf := h18)) (va_cwS 2 hts gX3_drawWaits_X3_blocks rfl rfl rfl (by decide +kernel) ⟨Nat.le_of_ble_eq_true rfl, Nat.le_of_ble_eq_true rfl⟩) ⟨k_blind, fun U hU hW => ⟨rfl, k_pre hU hW hP hK hD⟩⟩ rfl rfl hl.1 rfl (lv_room (Nat.le_of_ble_eq_true rfl)) dX3_drawWaits_118 ⟨by decide, by decide⟩) hS (fun q _ h => hFc q h) hFc (fun r18 u t H1 locs ht hvm hw hB hz1 hk1 hS => ?_)
          obtain ⟨rfl, rfl, hg18, hh18⟩ := hw
          have hg18 : gN C18 = gN C := hg18
          have hh18 : gE C18 = gE C := hh18
          refine W.widen (k := 0) (n := 0) (Nat.le_refl _) (Nat.le_refl _) ?_
          obtain ⟨hP1, hK1, hD1⟩ := hB
          rw [ht] at hP1
          have hP := hP1
          have hD := k_weak hD1 hFc
          generalize H1 = H at hP hS ⊢
          have hP : va_P D vwCl (cW cI cJ cO h xa ea0 pa0 C18) _ := hP
          have hD : va_D A (cW cI cJ cO h xa ea0 pa0 C18) := hD
          refine lv_if_eq (tgt := 136) hx hb dX3_drawWaits_121 (by decide) (fun c19 => ?_) (fun c19 => ?_)
          · skip
            rw [if_pos c19] at hq
            exact B136 K15 hK15 (fun (v1 : Int32) (v2 : Int32) (y3 : Nat) (v4 : Int32) (C : CS) => f_X3_drawWaits_82 K15 k v1 v2 y3 v4 C) ih v1 v2 y3 v4 C18  _ _ _ hq (by show (gN C18 = gN C0 ∧ gE C18 = gE C0); omega) (by show y3 < gN C18; omega) hP hD hS (lv_sub hl [0, 1, 2, 3, 4] rfl)
          · skip
            rw [if_neg c19] at hq
            refine lv_aload_n hx hb dX3_drawWaits_124 rfl (lv_at hl 0 rfl) ?_
            refine va_get (D := D) (ci := 3) (v := .ref (xa 11)) (C := RX3) (T := TX3) (N := 18) hx hb hts kin_X3_drawWaits_X3 hown hK hP 0 rfl rfl 11 (by decide) (hts _ kw_X3_drawWaits__fieldLink_RX3_53_ActHouse_waits_LActHouse_Waits_) (fun _ h9 => h9) rfl dX3_drawWaits_125 ?_
            refine lv_iload_n hx hb dX3_drawWaits_128 rfl (lv_at hl 2 rfl) ?_
            refine lv_iload hx hb dX3_drawWaits_129 (lv_at hl 4 rfl) ?_
            obtain ⟨r20, C20, h20, hq⟩ := k_bd hq
            have hFc := k_free hD hS hA
            refine va_callv (va_runV (As := [.int v2, .int v4]) (rest := []) ⟨hx, hb, hml, hown, hts⟩ (c_X2_add (l := l) (D := D) (cI := cI) (cJ := cJ) (cO := cO) (h := h) (xa := xa) (ea0 := ea0) (pa0 := pa0)  (hf := h20)) (cwV 2 hts gX3_drawWaits_X2_add rfl rfl rfl (by decide +kernel) ⟨Nat.le_of_ble_eq_true rfl, Nat.le_of_ble_eq_true rfl⟩) ⟨k_blind, va_recv hK hP (ci := 2) (q0 := 13) rfl rfl, fun U hU hW => ⟨rfl, k_pre hU hW hP hK hD⟩⟩ rfl rfl hl.1 rfl (lv_room (Nat.le_of_ble_eq_true rfl)) dX3_drawWaits_131 ⟨by decide, by decide⟩) hS (fun q _ h => hFc q h) hFc (fun u t H1 locs ht hvm hw hB hz1 hk1 hS => ?_)
            obtain ⟨rfl, hg20, hh20⟩ := hw
            have hg20 : gN C20 = gN C18 := hg20
            have hh20 : gE C20 = gE C18 := hh20
            refine W.widen (k := 0) (n := 0) (Nat.le_refl _) (Nat.le_refl _) ?_
            obtain ⟨hP1, hK1, hD1⟩ := hB
            rw [ht] at hP1
            have hP := hP1
            have hD := k_weak hD1 hFc
            generalize H1 = H at hP hS ⊢
            have hP : va_P D vwCl (cW cI cJ cO h xa ea0 pa0 C20) _ := hP
            have hD : va_D A (cW cI cJ cO h xa ea0 pa0 C20) := hD
            refine lv_iconst (v := 1) hx hb dX3_drawWaits_134 (by decide) ?_
            refine lv_istore_n (lv' := [(1, .int 1), (0, .ref h), (2, .int v2), (3, .ref (pa0 y3 0)), (4, .int v4)]) hx hb dX3_drawWaits_135 rfl hl (by decide) rfl (fun ls hl => ?_)
            exact B136 K15 hK15 (fun (v1 : Int32) (v2 : Int32) (y3 : Nat) (v4 : Int32) (C : CS) => f_X3_drawWaits_82 K15 k v1 v2 y3 v4 C) ih (1 : Int32) v2 y3 v4 C20  _ _ _ hq (by show (gN C20 = gN C0 ∧ gE C20 = gE C0); omega) (by show y3 < gN C20; omega) hP hD hS (lv_sub hl [1, 0, 2, 3, 4] rfl)
  have B15 : ∀  (k : Nat), ∀ (v1 : Int32) (v2 : Int32)  (C : CS)  (H : Heap) (locs : List Loc) (ls : Array Slot), f_X3_drawWaits_15  k v1 v2 C = some (r', C') → (gN C = gN C0 ∧ gE C = gE C0) → va_P D vwCl (cW cI cJ cO h xa ea0 pa0 C) H → va_D A (cW cI cJ cO h xa ea0 pa0 C) → va_S A s.heap H locs → lv_has ls 5 [(0, .ref h), (1, .int v1), (2, .int v2)] → W p l e (headSpec wsX3_drawWaits ({ frames := 2, cells := 0, slots := 0, locals := 45 })).room s m ([.ref h] : List Value).toArray below meth c H locs (0) (0) Q (F0 m 15 ls []) := by
    intro  k
    induction k with
    | zero =>
      intro v1 v2  C  H locs ls hq hg  hP hD hS hl
      exact absurd hq (by rw [f_X3_drawWaits_15]; exact k_non)
    | succ k ih =>
      intro v1 v2  C  H locs ls hq hg  hP hD hS hl
      rw [f_X3_drawWaits_15] at hq
      refine lv_iload_n hx hb dX3_drawWaits_15 rfl (lv_at hl 2 rfl) ?_
      refine lv_aload_n hx hb dX3_drawWaits_16 rfl (lv_at hl 0 rfl) ?_
      refine va_get (D := D) (ci := 3) (v := .int (C.1 14)) (C := RX3) (T := TX3) (N := 18) hx hb hts kin_X3_drawWaits_X3 hown hK hP 0 rfl rfl 14 (by decide) (hts _ kw_X3_drawWaits__fieldLink_RX3_194_ActHouse_runningCount_I_) (fun _ h9 => h9) rfl dX3_drawWaits_17 ?_
      refine lv_icmp_ge (tgt := 148) hx hb dX3_drawWaits_20 (by decide) (fun c2 => ?_) (fun c2 => ?_)
      · skip
        rw [if_pos c2] at hq
        refine lv_iload_n hx hb dX3_drawWaits_148 rfl (lv_at hl 1 rfl) ?_
        obtain ⟨b3, hq⟩ := k_if hq
        obtain ⟨e2, e3⟩ := k_so hq
        subst hQ
        have hP : va_P D vwCl (cW cI cJ cO h xa ea0 pa0 C) _ := hP
        have hD : va_D A (cW cI cJ cO h xa ea0 pa0 C) := hD
        have hgE := congrArg (fun X : CS => gN X) e3
        have hgE : gN C = gN C' := hgE
        have hhE := congrArg (fun X : CS => gE X) e3
        have hhE : gE C = gE C' := hhE
        refine W.widen (k := 0) (n := 0) (by decide) (by decide) ?_
        exact W.zret (v := v1) hx hb hr (congrArg Value.int b3) (fun t ht hW => ⟨⟨v1, (cW cI cJ cO h xa ea0 pa0 C, [(cI, .int), (cO, .object RX0), (cJ, .long)]), rfl, ⟨e2, (congrArg (fun X : CS => ((cW cI cJ cO h xa ea0 pa0 X, [(cI, .int), (cO, .object RX0), (cJ, .long)]) : va_W × List (ClassId × FieldType))) e3), by omega, by omega⟩, ⟨by rw [ht]; exact hP, va_K.moved hW.alike hK, hD⟩⟩, hS.F ht⟩) hS.2.2 dX3_drawWaits_149
      · skip
        rw [if_neg c2] at hq
        refine lv_aload_n hx hb dX3_drawWaits_23 rfl (lv_at hl 0 rfl) ?_
        refine va_get (D := D) (ci := 3) (v := .ref (xa 5)) (C := RX3) (T := TX3) (N := 18) hx hb hts kin_X3_drawWaits_X3 hown hK hP 0 rfl rfl 5 (by decide) (hts _ kw_X3_drawWaits__fieldLink_RX3_27_ActHouse_acts_LActHouse_Act_) (fun _ h9 => h9) rfl dX3_drawWaits_24 ?_
        refine lv_aload_n hx hb dX3_drawWaits_27 rfl (lv_at hl 0 rfl) ?_
        refine va_get (D := D) (ci := 3) (v := .ref (xa 8)) (C := RX3) (T := TX3) (N := 18) hx hb hts kin_X3_drawWaits_X3 hown hK hP 0 rfl rfl 8 (by decide) (hts _ kw_X3_drawWaits__fieldLink_RX3_37_ActHouse_running_I_) (fun _ h9 => h9) rfl dX3_drawWaits_28 ?_
        refine lv_iload_n hx hb dX3_drawWaits_31 rfl (lv_at hl 2 rfl) ?_
        obtain ⟨b4, hq⟩ := k_if hq
        refine va_iald hx hb hK hP 9 0 (f := (C.2.1 8)) rfl rfl (k_in b4.1 b4.2) dX3_drawWaits_32 ?_
        obtain ⟨b5, hq⟩ := k_if hq
        refine va_aldq hx hb hK hP 6 1 (f := cActs pa0 (gN C)) rfl rfl (k_in b5.1.1 b5.1.2) dX3_drawWaits_33 ?_
        refine W.eq (g2 := F0 m 34 ls [.ref (pa0 (((C.2.1 8) v2.toNatClampNeg).toNatClampNeg) 0)]) (by rw [cActs_lt b5.2]; rfl) ?_
        refine lv_astore_n (lv' := [(3, .ref (pa0 (((C.2.1 8) v2.toNatClampNeg).toNatClampNeg) 0)), (0, .ref h), (1, .int v1), (2, .int v2)]) hx hb dX3_drawWaits_34 rfl hl (by decide) rfl (fun ls hl => ?_)
        refine lv_aload_n hx hb dX3_drawWaits_35 rfl (lv_at hl 0 rfl) ?_
        refine va_get (D := D) (ci := 0) (v := .int (gP C (((C.2.1 8) v2.toNatClampNeg).toNatClampNeg) 12)) (C := RX0) (T := TX0) (N := 20) hx hb hts kin_X3_drawWaits_X0 hown hK hP (16 + (7 * (((C.2.1 8) v2.toNatClampNeg).toNatClampNeg) + 0)) (cW_get (show ((C.2.1 8) v2.toNatClampNeg).toNatClampNeg < gN C from by omega) rfl) rfl 12 (by decide) (hts _ kw_X3_drawWaits__fieldLink_RX3_117_ActHouse_Act_state_I_) (fun _ h9 => h9) rfl dX3_drawWaits_36 ?_
        refine lv_iconst (v := 1) hx hb dX3_drawWaits_39 (by decide) ?_
        refine lv_icmp_ne (tgt := 142) hx hb dX3_drawWaits_40 (by decide) (fun c6 => ?_) (fun c6 => ?_)
        · skip
          rw [if_neg c6] at hq
          exact B142 (fun (v1 : Int32) (v2 : Int32) (C : CS) => f_X3_drawWaits_15  k v1 v2 C) ih v1 v2 C  _ _ _ hq (by show (gN C = gN C0 ∧ gE C = gE C0); omega) hP hD hS (lv_sub hl [1, 2, 3] rfl)
        · skip
          rw [if_pos c6] at hq
          refine lv_aload_n hx hb dX3_drawWaits_43 rfl (lv_at hl 0 rfl) ?_
          refine va_get (D := D) (ci := 0) (v := .int (gP C (((C.2.1 8) v2.toNatClampNeg).toNatClampNeg) 15)) (C := RX0) (T := TX0) (N := 20) hx hb hts kin_X3_drawWaits_X0 hown hK hP (16 + (7 * (((C.2.1 8) v2.toNatClampNeg).toNatClampNeg) + 0)) (cW_get (show ((C.2.1 8) v2.toNatClampNeg).toNatClampNeg < gN C from by omega) rfl) rfl 15 (by decide) (hts _ kw_X3_drawWaits__fieldLink_RX3_132_ActHouse_Act_heldTick_I_) (fun _ h9 => h9) rfl dX3_drawWaits_44 ?_
          refine lv_aload_n hx hb dX3_drawWaits_47 rfl (lv_at hl 1 rfl) ?_
          refine va_get (D := D) (ci := 3) (v := .int (C.1 15)) (C := RX3) (T := TX3) (N := 18) hx hb hts kin_X3_drawWaits_X3 hown hK hP 0 rfl rfl 15 (by decide) (hts _ kw_X3_drawWaits__fieldLink_RX3_79_ActHouse_now_I_) (fun _ h9 => h9) rfl dX3_drawWaits_48 ?_
          refine lv_icmp_ne (tgt := 142) hx hb dX3_drawWaits_51 (by decide) (fun c7 => ?_) (fun c7 => ?_)
          · skip
            rw [if_neg c7] at hq
            exact B142 (fun (v1 : Int32) (v2 : Int32) (C : CS) => f_X3_drawWaits_15  k v1 v2 C) ih v1 v2 C  _ _ _ hq (by show (gN C = gN C0 ∧ gE C = gE C0); omega) hP hD hS (lv_sub hl [1, 2, 3] rfl)
          · skip
            rw [if_pos c7] at hq
            refine lv_aload_n hx hb dX3_drawWaits_54 rfl (lv_at hl 0 rfl) ?_
            obtain ⟨q8, C8, h8, hq⟩ := k_bd hq
            have hFc := k_free hD hS hA
            refine va_calli (va_runV (As := []) (rest := []) ⟨hx, hb, hml, hown, hts⟩ (c_X0_hasStep (l := l) (D := D) (cI := cI) (cJ := cJ) (cO := cO) (h := h) (xa := xa) (ea0 := ea0) (pa0 := pa0)  (hn0 := by show ((C.2.1 8) v2.toNatClampNeg).toNatClampNeg < gN C; omega) (hf := h8)) (cwV 0 hts gX3_drawWaits_X0_hasStep rfl rfl rfl (by decide +kernel) ⟨Nat.le_of_ble_eq_true rfl, Nat.le_of_ble_eq_true rfl⟩) ⟨k_blind, va_recv hK hP (ci := 0) (q0 := (16 + (7 * (((C.2.1 8) v2.toNatClampNeg).toNatClampNeg) + 0))) rfl (cW_get (show ((C.2.1 8) v2.toNatClampNeg).toNatClampNeg < gN C from by omega) rfl), fun U hU hW => ⟨rfl, k_pre hU hW hP hK hD⟩⟩ rfl rfl hl.1 rfl (lv_room (Nat.le_of_ble_eq_true rfl)) dX3_drawWaits_55 ⟨by decide, by decide⟩) hS (fun q _ h => hFc q h) hFc (fun r8 u t H1 locs ht hvm hw hB hz1 hk1 hS => ?_)
            obtain ⟨rfl, rfl, hg8, hh8⟩ := hw
            have hg8 : gN C8 = gN C := hg8
            have hh8 : gE C8 = gE C := hh8
            refine W.widen (k := 0) (n := 0) (Nat.le_refl _) (Nat.le_refl _) ?_
            obtain ⟨hP1, hK1, hD1⟩ := hB
            rw [ht] at hP1
            have hP := hP1
            have hD := k_weak hD1 hFc
            generalize H1 = H at hP hS ⊢
            have hP : va_P D vwCl (cW cI cJ cO h xa ea0 pa0 C8) _ := hP
            have hD : va_D A (cW cI cJ cO h xa ea0 pa0 C8) := hD
            refine lv_if_eq (tgt := 142) hx hb dX3_drawWaits_58 (by decide) (fun c9 => ?_) (fun c9 => ?_)
            · skip
              rw [if_pos c9] at hq
              exact B142 (fun (v1 : Int32) (v2 : Int32) (C : CS) => f_X3_drawWaits_15  k v1 v2 C) ih v1 v2 C8  _ _ _ hq (by show (gN C8 = gN C0 ∧ gE C8 = gE C0); omega) hP hD hS (lv_sub hl [1, 2, 3] rfl)
            · skip
              rw [if_neg c9] at hq
              refine lv_aload_n hx hb dX3_drawWaits_61 rfl (lv_at hl 0 rfl) ?_
              refine va_get (D := D) (ci := 0) (v := .ref (pa0 (((C.2.1 8) v2.toNatClampNeg).toNatClampNeg) 4)) (C := RX0) (T := TX0) (N := 20) hx hb hts kin_X3_drawWaits_X0 hown hK hP (16 + (7 * (((C.2.1 8) v2.toNatClampNeg).toNatClampNeg) + 0)) (cW_get (show ((C.2.1 8) v2.toNatClampNeg).toNatClampNeg < gN C8 from by omega) rfl) rfl 4 (by decide) (hts _ kw_X3_drawWaits__fieldLink_RX3_204_ActHouse_Act_steps_I_) (fun _ h9 => h9) rfl dX3_drawWaits_62 ?_
              refine lv_aload_n hx hb dX3_drawWaits_65 rfl (lv_at hl 0 rfl) ?_
              refine va_get (D := D) (ci := 0) (v := .int (gP C8 (((C.2.1 8) v2.toNatClampNeg).toNatClampNeg) 14)) (C := RX0) (T := TX0) (N := 20) hx hb hts kin_X3_drawWaits_X0 hown hK hP (16 + (7 * (((C.2.1 8) v2.toNatClampNeg).toNatClampNeg) + 0)) (cW_get (show ((C.2.1 8) v2.toNatClampNeg).toNatClampNeg < gN C8 from by omega) rfl) rfl 14 (by decide) (hts _ kw_X3_drawWaits__fieldLink_RX3_129_ActHouse_Act_at_I_) (fun _ h9 => h9) rfl dX3_drawWaits_66 ?_
              obtain ⟨b10, hq⟩ := k_if hq
              refine va_iald hx hb hK hP (16 + (7 * (((C.2.1 8) v2.toNatClampNeg).toNatClampNeg) + 1)) 0 (f := (gQ C8 (((C.2.1 8) v2.toNatClampNeg).toNatClampNeg) 4)) (cW_get (show ((C.2.1 8) v2.toNatClampNeg).toNatClampNeg < gN C8 from by omega) rfl) rfl (k_in b10.1 b10.2) dX3_drawWaits_69 ?_
              have hFc := k_free hD hS hA
              refine va_calli (va_runS (As := [.int ((gQ C8 (((C.2.1 8) v2.toNatClampNeg).toNatClampNeg) 4) (gP C8 (((C.2.1 8) v2.toNatClampNeg).toNatClampNeg) 14).toNatClampNeg)]) (rest := []) ⟨hx, hb, hml, hown, hts⟩ (c_X3_usesCell (l := l) (D := D) (cI := cI) (cJ := cJ) (cO := cO) (h := h) (xa := xa) (ea0 := ea0) (pa0 := pa0) (C0 := C8) (hf := rfl)) (va_cwS 1 hts gX3_drawWaits_X3_usesCell rfl rfl rfl (by decide +kernel) ⟨Nat.le_of_ble_eq_true rfl, Nat.le_of_ble_eq_true rfl⟩) ⟨k_blind, fun U hU hW => ⟨rfl, k_pre hU hW hP hK hD⟩⟩ rfl rfl hl.1 rfl (lv_room (Nat.le_of_ble_eq_true rfl)) dX3_drawWaits_70 ⟨by decide, by decide⟩) hS (fun q _ h => hFc q h) hFc (fun r11 u t H1 locs ht hvm hw hB hz1 hk1 hS => ?_)
              obtain ⟨rfl, rfl⟩ := hw
              refine W.widen (k := 0) (n := 0) (Nat.le_refl _) (Nat.le_refl _) ?_
              obtain ⟨hP1, hK1, hD1⟩ := hB
              rw [ht] at hP1
              have hP := hP1
              have hD := k_weak hD1 hFc
              generalize H1 = H at hP hS ⊢
              have hP : va_P D vwCl (cW cI cJ cO h xa ea0 pa0 C8) _ := hP
              have hD : va_D A (cW cI cJ cO h xa ea0 pa0 C8) := hD
              refine lv_if_ne (tgt := 79) hx hb dX3_drawWaits_73 (by decide) (fun c12 => ?_) (fun c12 => ?_)
              · skip
                rw [if_neg c12] at hq
                refine lv_iconst (v := 0) hx hb dX3_drawWaits_79 (by decide) ?_
                refine lv_istore (lv' := [(4, .int 0), (3, .ref (pa0 (((C.2.1 8) v2.toNatClampNeg).toNatClampNeg) 0)), (0, .ref h), (1, .int v1), (2, .int v2)]) hx hb dX3_drawWaits_80 hl (by decide) rfl (fun ls hl => ?_)
                exact B82 (fun (v1 : Int32) (v2 : Int32) (C : CS) => f_X3_drawWaits_15  k v1 v2 C) ih 200 v1 v2 (((C.2.1 8) v2.toNatClampNeg).toNatClampNeg) (0 : Int32) C8  _ _ _ hq (by show (gN C8 = gN C0 ∧ gE C8 = gE C0); omega) (by show ((C.2.1 8) v2.toNatClampNeg).toNatClampNeg < gN C8; omega) hP hD hS (lv_sub hl [2, 3, 4, 1, 0] rfl)
              · skip
                rw [if_pos c12] at hq
                refine lv_goto (tgt := 142) hx hb dX3_drawWaits_76 (by decide) ?_
                exact B142 (fun (v1 : Int32) (v2 : Int32) (C : CS) => f_X3_drawWaits_15  k v1 v2 C) ih v1 v2 C8  _ _ _ hq (by show (gN C8 = gN C0 ∧ gE C8 = gE C0); omega) hP hD hS (lv_sub hl [1, 2, 3] rfl)
  have hq := hf
  rw [f_X3_drawWaits] at hq
  refine lv_aload_n hx hb dX3_drawWaits_0 rfl (lv_at hl 0 rfl) ?_
  refine va_get (D := D) (ci := 3) (v := .ref (xa 11)) (C := RX3) (T := TX3) (N := 18) hx hb hts kin_X3_drawWaits_X3 hown hK hP 0 rfl rfl 11 (by decide) (hts _ kw_X3_drawWaits__fieldLink_RX3_53_ActHouse_waits_LActHouse_Waits_) (fun _ h9 => h9) rfl dX3_drawWaits_1 ?_
  refine lv_aload_n hx hb dX3_drawWaits_4 rfl (lv_at hl 0 rfl) ?_
  refine va_get (D := D) (ci := 3) (v := .int (C0.1 14)) (C := RX3) (T := TX3) (N := 18) hx hb hts kin_X3_drawWaits_X3 hown hK hP 0 rfl rfl 14 (by decide) (hts _ kw_X3_drawWaits__fieldLink_RX3_194_ActHouse_runningCount_I_) (fun _ h9 => h9) rfl dX3_drawWaits_5 ?_
  obtain ⟨r1, C1, h1, hq⟩ := k_bd hq
  have hFc := k_free hD hS hA
  refine va_callv (va_runV (As := [.int (C0.1 14)]) (rest := []) ⟨hx, hb, hml, hown, hts⟩ (c_X2_clear (l := l) (D := D) (cI := cI) (cJ := cJ) (cO := cO) (h := h) (xa := xa) (ea0 := ea0) (pa0 := pa0)  (hf := h1)) (cwV 1 hts gX3_drawWaits_X2_clear rfl rfl rfl (by decide +kernel) ⟨Nat.le_of_ble_eq_true rfl, Nat.le_of_ble_eq_true rfl⟩) ⟨k_blind, va_recv hK hP (ci := 2) (q0 := 13) rfl rfl, fun U hU hW => ⟨rfl, k_pre hU hW hP hK hD⟩⟩ rfl rfl hl.1 rfl (lv_room (Nat.le_of_ble_eq_true rfl)) dX3_drawWaits_8 ⟨by decide, by decide⟩) hS (fun q _ h => hFc q h) hFc (fun u t H1 locs ht hvm hw hB hz1 hk1 hS => ?_)
  obtain ⟨rfl, hg1, hh1⟩ := hw
  have hg1 : gN C1 = gN C0 := hg1
  have hh1 : gE C1 = gE C0 := hh1
  refine W.widen (k := 0) (n := 0) (Nat.le_refl _) (Nat.le_refl _) ?_
  obtain ⟨hP1, hK1, hD1⟩ := hB
  rw [ht] at hP1
  have hP := hP1
  have hD := k_weak hD1 hFc
  generalize H1 = H at hP hS ⊢
  have hP : va_P D vwCl (cW cI cJ cO h xa ea0 pa0 C1) _ := hP
  have hD : va_D A (cW cI cJ cO h xa ea0 pa0 C1) := hD
  refine lv_iconst (v := 0) hx hb dX3_drawWaits_11 (by decide) ?_
  refine lv_istore_n (lv' := [(1, .int 0), (0, .ref h)]) hx hb dX3_drawWaits_12 rfl hl (by decide) rfl (fun ls hl => ?_)
  refine lv_iconst (v := 0) hx hb dX3_drawWaits_13 (by decide) ?_
  refine lv_istore_n (lv' := [(2, .int 0), (1, .int 0), (0, .ref h)]) hx hb dX3_drawWaits_14 rfl hl (by decide) rfl (fun ls hl => ?_)
  exact B15  200 (0 : Int32) (0 : Int32) C1  _ _ _ hq (by show (gN C1 = gN C0 ∧ gE C1 = gE C0); omega) hP hD hS (lv_sub hl [2, 1, 0] rfl)
set_option maxRecDepth 100000 in
theorem kw_X3_isBegunLater__fieldLink_RX3_27_ActHouse_acts_LActHouse_Act_ : (.fieldLink RX3 27 "ActHouse" "acts" "[LActHouse$Act;" : Cond) ∈ wsX3_isBegunLater := by decide +kernel
set_option maxRecDepth 100000 in
theorem kin_X3_isBegunLater_X3 : ∀ w ∈ u_ws RX3 TX3 18, w ∈ wsX3_isBegunLater := by decide +kernel
set_option maxRecDepth 100000 in
theorem kw_X3_isBegunLater__fieldLink_RX3_144_ActHouse_Act_begunTick_I_ : (.fieldLink RX3 144 "ActHouse$Act" "begunTick" "I" : Cond) ∈ wsX3_isBegunLater := by decide +kernel
set_option maxRecDepth 100000 in
theorem kin_X3_isBegunLater_X0 : ∀ w ∈ u_ws RX0 TX0 20, w ∈ wsX3_isBegunLater := by decide +kernel
def f_X3_isBegunLater (x1 : Int32) (x2 : Int32) (C0 : CS) : Option (Int32 × CS) := (if (0 ≤ x1.toInt ∧ x1.toInt < 80) ∧ x1.toNatClampNeg < gN C0 then (if (0 ≤ x2.toInt ∧ x2.toInt < 80) ∧ x2.toNatClampNeg < gN C0 then (if (gP C0 x1.toNatClampNeg 16) = (gP C0 x2.toNatClampNeg 16) then (if x1 ≤ x2 then some ((0 : Int32), C0) else some ((1 : Int32), C0)) else (if (gP C0 x1.toNatClampNeg 16) ≤ (gP C0 x2.toNatClampNeg 16) then some ((0 : Int32), C0) else some ((1 : Int32), C0))) else none) else none)
set_option maxHeartbeats 4000000 in
set_option maxRecDepth 100000 in
theorem c_X3_isBegunLater {l : Launch} {D : va_G} {sz : Nat} {cI cJ cO : ClassId} {h : Nat} {xa : Nat → Nat} {ea0 : Nat} {pa0 : Nat → Nat → Nat} {C0 C' : CS} {x1 x2 r' : Int32} (hf : f_X3_isBegunLater x1 x2 C0 = some (r', C')) : Met l yX3_isBegunLater wsX3_isBegunLater ({ frames := 0, cells := 0, slots := 0, locals := 0 }) (va_Pc [.ref h, .int x1, .int x2] (k_Pre D [(cI, .int), (cO, .object RX0), (cJ, .long)] (cW cI cJ cO h xa ea0 pa0 C0) sz)) (va_Qi (fun (r0 : Int32) (u : va_W × List (ClassId × FieldType)) => r0 = r' ∧ u = (cW cI cJ cO h xa ea0 pa0 C', [(cI, .int), (cO, .object RX0), (cJ, .long)]) ∧ gN C' = gN C0 ∧ gE C' = gE C0) (k_B D (va_A (cW cI cJ cO h xa ea0 pa0 C0) sz)) (va_A (cW cI cJ cO h xa ea0 pa0 C0) sz)) (0) (0) (va_A (cW cI cJ cO h xa ea0 pa0 C0) sz) := by
  refine Met.ofW (cc := cX3_isBegunLater) (maxL := 5) (ret := (some .boolean)) (by decide) rfl ?_
  intro p e s m args below meth c s₁ B hml hv
  obtain ⟨rfl, hsz, hP, hK, hD0⟩ := hv
  have hx := B.exec
  have hb := B.bytes
  have hr := B.returns
  have hts := atoms_spec (ws := wsX3_isBegunLater) B.pre
  have hown : s.vm.findClass RX3 = some m.cls := findClass_of_methodNamed B.named
  have hlocks := B.notSynchronized
  subst hsz
  have hD := hD0.self (sz := s.heap.size)
  generalize hAe : va_A (cW cI cJ cO h xa ea0 pa0 C0) s.heap.size = A at hD ⊢
  have hA : ∀ q : Nat, s.heap.size ≤ q → A q := fun q h => by rw [← hAe]; exact Or.inr h
  have hS : va_S A s.heap s.heap [] := va_S.rf
  have hl := lv_entry ([.ref h, .int x1, .int x2]) (n := 5) (Nat.le_of_ble_eq_true rfl)
  rw [lg_entry_eq]
  generalize (lg_sl ([.ref h, .int x1, .int x2]) ++ List.replicate (5 - (lg_sl ([.ref h, .int x1, .int x2])).length) Slot.unset).toArray = ls at hl ⊢
  have hl : lv_has ls 5 [(0, .ref h), (1, .int x1), (2, .int x2)] := hl
  refine k_Q (fun Q hQ => ?_)
  have hg0 : gN C0 = gN C0 ∧ gE C0 = gE C0 := ⟨rfl, rfl⟩
  have hq := hf
  rw [f_X3_isBegunLater] at hq
  refine lv_aload_n hx hb dX3_isBegunLater_0 rfl (lv_at hl 0 rfl) ?_
  refine va_get (D := D) (ci := 3) (v := .ref (xa 5)) (C := RX3) (T := TX3) (N := 18) hx hb hts kin_X3_isBegunLater_X3 hown hK hP 0 rfl rfl 5 (by decide) (hts _ kw_X3_isBegunLater__fieldLink_RX3_27_ActHouse_acts_LActHouse_Act_) (fun _ h9 => h9) rfl dX3_isBegunLater_1 ?_
  refine lv_iload_n hx hb dX3_isBegunLater_4 rfl (lv_at hl 1 rfl) ?_
  obtain ⟨b1, hq⟩ := k_if hq
  refine va_aldq hx hb hK hP 6 1 (f := cActs pa0 (gN C0)) rfl rfl (k_in b1.1.1 b1.1.2) dX3_isBegunLater_5 ?_
  refine W.eq (g2 := F0 m 6 ls [.ref (pa0 x1.toNatClampNeg 0)]) (by rw [cActs_lt b1.2]; rfl) ?_
  refine va_get (D := D) (ci := 0) (v := .int (gP C0 x1.toNatClampNeg 16)) (C := RX0) (T := TX0) (N := 20) hx hb hts kin_X3_isBegunLater_X0 hown hK hP (16 + (7 * x1.toNatClampNeg + 0)) (cW_get (show x1.toNatClampNeg < gN C0 from by omega) rfl) rfl 16 (by decide) (hts _ kw_X3_isBegunLater__fieldLink_RX3_144_ActHouse_Act_begunTick_I_) (fun _ h9 => h9) rfl dX3_isBegunLater_6 ?_
  refine lv_istore_n (lv' := [(3, .int (gP C0 x1.toNatClampNeg 16)), (0, .ref h), (1, .int x1), (2, .int x2)]) hx hb dX3_isBegunLater_9 rfl hl (by decide) rfl (fun ls hl => ?_)
  refine lv_aload_n hx hb dX3_isBegunLater_10 rfl (lv_at hl 1 rfl) ?_
  refine va_get (D := D) (ci := 3) (v := .ref (xa 5)) (C := RX3) (T := TX3) (N := 18) hx hb hts kin_X3_isBegunLater_X3 hown hK hP 0 rfl rfl 5 (by decide) (hts _ kw_X3_isBegunLater__fieldLink_RX3_27_ActHouse_acts_LActHouse_Act_) (fun _ h9 => h9) rfl dX3_isBegunLater_11 ?_
  refine lv_iload_n hx hb dX3_isBegunLater_14 rfl (lv_at hl 3 rfl) ?_
  obtain ⟨b2, hq⟩ := k_if hq
  refine va_aldq hx hb hK hP 6 1 (f := cActs pa0 (gN C0)) rfl rfl (k_in b2.1.1 b2.1.2) dX3_isBegunLater_15 ?_
  refine W.eq (g2 := F0 m 16 ls [.ref (pa0 x2.toNatClampNeg 0)]) (by rw [cActs_lt b2.2]; rfl) ?_
  refine va_get (D := D) (ci := 0) (v := .int (gP C0 x2.toNatClampNeg 16)) (C := RX0) (T := TX0) (N := 20) hx hb hts kin_X3_isBegunLater_X0 hown hK hP (16 + (7 * x2.toNatClampNeg + 0)) (cW_get (show x2.toNatClampNeg < gN C0 from by omega) rfl) rfl 16 (by decide) (hts _ kw_X3_isBegunLater__fieldLink_RX3_144_ActHouse_Act_begunTick_I_) (fun _ h9 => h9) rfl dX3_isBegunLater_16 ?_
  refine lv_istore (lv' := [(4, .int (gP C0 x2.toNatClampNeg 16)), (3, .int (gP C0 x1.toNatClampNeg 16)), (0, .ref h), (1, .int x1), (2, .int x2)]) hx hb dX3_isBegunLater_19 hl (by decide) rfl (fun ls hl => ?_)
  refine lv_iload_n hx hb dX3_isBegunLater_21 rfl (lv_at hl 1 rfl) ?_
  refine lv_iload hx hb dX3_isBegunLater_22 (lv_at hl 0 rfl) ?_
  refine lv_icmp_eq (tgt := 41) hx hb dX3_isBegunLater_24 (by decide) (fun c3 => ?_) (fun c3 => ?_)
  · skip
    rw [if_pos c3] at hq
    refine lv_iload_n hx hb dX3_isBegunLater_41 rfl (lv_at hl 3 rfl) ?_
    refine lv_iload_n hx hb dX3_isBegunLater_42 rfl (lv_at hl 4 rfl) ?_
    refine lv_icmp_le (tgt := 50) hx hb dX3_isBegunLater_43 (by decide) (fun c4 => ?_) (fun c4 => ?_)
    · skip
      rw [if_pos c4] at hq
      refine lv_iconst (v := 0) hx hb dX3_isBegunLater_50 (by decide) ?_
      obtain ⟨e2, e3⟩ := k_so hq
      subst hQ
      have hP : va_P D vwCl (cW cI cJ cO h xa ea0 pa0 C0) _ := hP
      have hD : va_D A (cW cI cJ cO h xa ea0 pa0 C0) := hD
      have hgE := congrArg (fun X : CS => gN X) e3
      have hgE : gN C0 = gN C' := hgE
      have hhE := congrArg (fun X : CS => gE X) e3
      have hhE : gE C0 = gE C' := hhE
      refine W.widen (k := 0) (n := 0) (by decide) (by decide) ?_
      exact W.zret (v := 0) hx hb hr (by decide) (fun t ht hW => ⟨⟨0, (cW cI cJ cO h xa ea0 pa0 C0, [(cI, .int), (cO, .object RX0), (cJ, .long)]), rfl, ⟨e2, (congrArg (fun X : CS => ((cW cI cJ cO h xa ea0 pa0 X, [(cI, .int), (cO, .object RX0), (cJ, .long)]) : va_W × List (ClassId × FieldType))) e3), by omega, by omega⟩, ⟨by rw [ht]; exact hP, va_K.moved hW.alike hK, hD⟩⟩, hS.F ht⟩) hS.2.2 dX3_isBegunLater_51
    · skip
      rw [if_neg c4] at hq
      refine lv_iconst (v := 1) hx hb dX3_isBegunLater_46 (by decide) ?_
      refine lv_goto (tgt := 51) hx hb dX3_isBegunLater_47 (by decide) ?_
      obtain ⟨e2, e3⟩ := k_so hq
      subst hQ
      have hP : va_P D vwCl (cW cI cJ cO h xa ea0 pa0 C0) _ := hP
      have hD : va_D A (cW cI cJ cO h xa ea0 pa0 C0) := hD
      have hgE := congrArg (fun X : CS => gN X) e3
      have hgE : gN C0 = gN C' := hgE
      have hhE := congrArg (fun X : CS => gE X) e3
      have hhE : gE C0 = gE C' := hhE
      refine W.widen (k := 0) (n := 0) (by decide) (by decide) ?_
      exact W.zret (v := 1) hx hb hr (by decide) (fun t ht hW => ⟨⟨1, (cW cI cJ cO h xa ea0 pa0 C0, [(cI, .int), (cO, .object RX0), (cJ, .long)]), rfl, ⟨e2, (congrArg (fun X : CS => ((cW cI cJ cO h xa ea0 pa0 X, [(cI, .int), (cO, .object RX0), (cJ, .long)]) : va_W × List (ClassId × FieldType))) e3), by omega, by omega⟩, ⟨by rw [ht]; exact hP, va_K.moved hW.alike hK, hD⟩⟩, hS.F ht⟩) hS.2.2 dX3_isBegunLater_51
  · skip
    rw [if_neg c3] at hq
    refine lv_iload_n hx hb dX3_isBegunLater_27 rfl (lv_at hl 1 rfl) ?_
    refine lv_iload hx hb dX3_isBegunLater_28 (lv_at hl 0 rfl) ?_
    refine lv_icmp_le (tgt := 37) hx hb dX3_isBegunLater_30 (by decide) (fun c5 => ?_) (fun c5 => ?_)
    · skip
      rw [if_pos c5] at hq
      refine lv_iconst (v := 0) hx hb dX3_isBegunLater_37 (by decide) ?_
      refine lv_goto (tgt := 51) hx hb dX3_isBegunLater_38 (by decide) ?_
      obtain ⟨e2, e3⟩ := k_so hq
      subst hQ
      have hP : va_P D vwCl (cW cI cJ cO h xa ea0 pa0 C0) _ := hP
      have hD : va_D A (cW cI cJ cO h xa ea0 pa0 C0) := hD
      have hgE := congrArg (fun X : CS => gN X) e3
      have hgE : gN C0 = gN C' := hgE
      have hhE := congrArg (fun X : CS => gE X) e3
      have hhE : gE C0 = gE C' := hhE
      refine W.widen (k := 0) (n := 0) (by decide) (by decide) ?_
      exact W.zret (v := 0) hx hb hr (by decide) (fun t ht hW => ⟨⟨0, (cW cI cJ cO h xa ea0 pa0 C0, [(cI, .int), (cO, .object RX0), (cJ, .long)]), rfl, ⟨e2, (congrArg (fun X : CS => ((cW cI cJ cO h xa ea0 pa0 X, [(cI, .int), (cO, .object RX0), (cJ, .long)]) : va_W × List (ClassId × FieldType))) e3), by omega, by omega⟩, ⟨by rw [ht]; exact hP, va_K.moved hW.alike hK, hD⟩⟩, hS.F ht⟩) hS.2.2 dX3_isBegunLater_51
    · skip
      rw [if_neg c5] at hq
      refine lv_iconst (v := 1) hx hb dX3_isBegunLater_33 (by decide) ?_
      refine lv_goto (tgt := 51) hx hb dX3_isBegunLater_34 (by decide) ?_
      obtain ⟨e2, e3⟩ := k_so hq
      subst hQ
      have hP : va_P D vwCl (cW cI cJ cO h xa ea0 pa0 C0) _ := hP
      have hD : va_D A (cW cI cJ cO h xa ea0 pa0 C0) := hD
      have hgE := congrArg (fun X : CS => gN X) e3
      have hgE : gN C0 = gN C' := hgE
      have hhE := congrArg (fun X : CS => gE X) e3
      have hhE : gE C0 = gE C' := hhE
      refine W.widen (k := 0) (n := 0) (by decide) (by decide) ?_
      exact W.zret (v := 1) hx hb hr (by decide) (fun t ht hW => ⟨⟨1, (cW cI cJ cO h xa ea0 pa0 C0, [(cI, .int), (cO, .object RX0), (cJ, .long)]), rfl, ⟨e2, (congrArg (fun X : CS => ((cW cI cJ cO h xa ea0 pa0 X, [(cI, .int), (cO, .object RX0), (cJ, .long)]) : va_W × List (ClassId × FieldType))) e3), by omega, by omega⟩, ⟨by rw [ht]; exact hP, va_K.moved hW.alike hK, hD⟩⟩, hS.F ht⟩) hS.2.2 dX3_isBegunLater_51
set_option maxRecDepth 100000 in
theorem kw_X3_lastBegunInRing__fieldLink_RX3_53_ActHouse_waits_LActHouse_Waits_ : (.fieldLink RX3 53 "ActHouse" "waits" "LActHouse$Waits;" : Cond) ∈ wsX3_lastBegunInRing := by decide +kernel
set_option maxRecDepth 100000 in
theorem kin_X3_lastBegunInRing_X3 : ∀ w ∈ u_ws RX3 TX3 18, w ∈ wsX3_lastBegunInRing := by decide +kernel
set_option maxRecDepth 100000 in
theorem kw_X3_lastBegunInRing__fieldLink_RX3_194_ActHouse_runningCount_I_ : (.fieldLink RX3 194 "ActHouse" "runningCount" "I" : Cond) ∈ wsX3_lastBegunInRing := by decide +kernel
set_option maxRecDepth 100000 in
theorem kw_X3_lastBegunInRing__fieldLink_RX3_37_ActHouse_running_I_ : (.fieldLink RX3 37 "ActHouse" "running" "[I" : Cond) ∈ wsX3_lastBegunInRing := by decide +kernel
def f_X3_lastBegunInRing_56 (K11 : Int32 → Int32 → CS → Option (Int32 × CS)) (v1 : Int32) (v2 : Int32)  (C : CS) : Option (Int32 × CS) := K11 v1 (v2 + 1) C
def f_X3_lastBegunInRing_54 (K11 : Int32 → Int32 → CS → Option (Int32 × CS)) (v2 : Int32)  (C : CS) : Option (Int32 × CS) := f_X3_lastBegunInRing_56 K11 v2 v2 C
def f_X3_lastBegunInRing_11  : Nat → Int32 → Int32 → CS → Option (Int32 × CS)
  | 0, _, _, _ => none
  | k + 1, v1, v2, C => (if (C.1 14) ≤ v2 then some (v1, C) else (k_bind (f_X2_isInRing v2 C) fun r3 C3 => (if r3 = 0 then f_X3_lastBegunInRing_56 (fun (v1 : Int32) (v2 : Int32) (C : CS) => f_X3_lastBegunInRing_11  k v1 v2 C) v1 v2 C3 else (if v1 = (-1) then f_X3_lastBegunInRing_54 (fun (v1 : Int32) (v2 : Int32) (C : CS) => f_X3_lastBegunInRing_11  k v1 v2 C) v2 C3 else (if 0 ≤ v2.toInt ∧ v2.toInt < 36 then (if 0 ≤ v1.toInt ∧ v1.toInt < 36 then (k_bind (f_X3_isBegunLater ((C3.2.1 8) v2.toNatClampNeg) ((C3.2.1 8) v1.toNatClampNeg) C3) fun r8 C8 => (if r8 = 0 then f_X3_lastBegunInRing_56 (fun (v1 : Int32) (v2 : Int32) (C : CS) => f_X3_lastBegunInRing_11  k v1 v2 C) v1 v2 C8 else f_X3_lastBegunInRing_54 (fun (v1 : Int32) (v2 : Int32) (C : CS) => f_X3_lastBegunInRing_11  k v1 v2 C) v2 C8)) else none) else none)))))
def f_X3_lastBegunInRing  (C0 : CS) : Option (Int32 × CS) := (k_bind (f_X2_close C0) fun r1 C1 => f_X3_lastBegunInRing_11  200 ((-1) : Int32) (0 : Int32) C1)
set_option maxHeartbeats 4000000 in
set_option maxRecDepth 100000 in
theorem c_X3_lastBegunInRing {l : Launch} {D : va_G} {sz : Nat} {cI cJ cO : ClassId} {h : Nat} {xa : Nat → Nat} {ea0 : Nat} {pa0 : Nat → Nat → Nat} {C0 C' : CS} { r' : Int32} (hf : f_X3_lastBegunInRing  C0 = some (r', C')) : Met l yX3_lastBegunInRing wsX3_lastBegunInRing ({ frames := 2, cells := 0, slots := 0, locals := 62 }) (va_Pc [.ref h] (k_Pre D [(cI, .int), (cO, .object RX0), (cJ, .long)] (cW cI cJ cO h xa ea0 pa0 C0) sz)) (va_Qi (fun (r0 : Int32) (u : va_W × List (ClassId × FieldType)) => r0 = r' ∧ u = (cW cI cJ cO h xa ea0 pa0 C', [(cI, .int), (cO, .object RX0), (cJ, .long)]) ∧ gN C' = gN C0 ∧ gE C' = gE C0) (k_B D (va_A (cW cI cJ cO h xa ea0 pa0 C0) sz)) (va_A (cW cI cJ cO h xa ea0 pa0 C0) sz)) (0) (0) (va_A (cW cI cJ cO h xa ea0 pa0 C0) sz) := by
  refine Met.ofW (cc := cX3_lastBegunInRing) (maxL := 3) (ret := (some .int)) (by decide) rfl ?_
  intro p e s m args below meth c s₁ B hml hv
  obtain ⟨rfl, hsz, hP, hK, hD0⟩ := hv
  have hx := B.exec
  have hb := B.bytes
  have hr := B.returns
  have hts := atoms_spec (ws := wsX3_lastBegunInRing) B.pre
  have hown : s.vm.findClass RX3 = some m.cls := findClass_of_methodNamed B.named
  have hlocks := B.notSynchronized
  subst hsz
  have hD := hD0.self (sz := s.heap.size)
  generalize hAe : va_A (cW cI cJ cO h xa ea0 pa0 C0) s.heap.size = A at hD ⊢
  have hA : ∀ q : Nat, s.heap.size ≤ q → A q := fun q h => by rw [← hAe]; exact Or.inr h
  have hS : va_S A s.heap s.heap [] := va_S.rf
  have hl := lv_entry ([.ref h]) (n := 3) (Nat.le_of_ble_eq_true rfl)
  rw [lg_entry_eq]
  generalize (lg_sl ([.ref h]) ++ List.replicate (3 - (lg_sl ([.ref h])).length) Slot.unset).toArray = ls at hl ⊢
  have hl : lv_has ls 3 [(0, .ref h)] := hl
  refine k_Q (fun Q hQ => ?_)
  have hg0 : gN C0 = gN C0 ∧ gE C0 = gE C0 := ⟨rfl, rfl⟩
  have B56 : ∀ (K11 : Int32 → Int32 → CS → Option (Int32 × CS)) (hK11 : ∀ (v1 : Int32) (v2 : Int32)  (C : CS)  (H : Heap) (locs : List Loc) (ls : Array Slot), K11 v1 v2 C = some (r', C') → (gN C = gN C0 ∧ gE C = gE C0) → va_P D vwCl (cW cI cJ cO h xa ea0 pa0 C) H → va_D A (cW cI cJ cO h xa ea0 pa0 C) → va_S A s.heap H locs → lv_has ls 3 [(0, .ref h), (1, .int v1), (2, .int v2)] → W p l e (headSpec wsX3_lastBegunInRing ({ frames := 2, cells := 0, slots := 0, locals := 62 })).room s m ([.ref h] : List Value).toArray below meth c H locs (0) (0) Q (F0 m 11 ls [])), ∀ (v1 : Int32) (v2 : Int32)  (C : CS)  (H : Heap) (locs : List Loc) (ls : Array Slot), f_X3_lastBegunInRing_56 K11 v1 v2 C = some (r', C') → (gN C = gN C0 ∧ gE C = gE C0) → va_P D vwCl (cW cI cJ cO h xa ea0 pa0 C) H → va_D A (cW cI cJ cO h xa ea0 pa0 C) → va_S A s.heap H locs → lv_has ls 3 [(0, .ref h), (1, .int v1), (2, .int v2)] → W p l e (headSpec wsX3_lastBegunInRing ({ frames := 2, cells := 0, slots := 0, locals := 62 })).room s m ([.ref h] : List Value).toArray below meth c H locs (0) (0) Q (F0 m 56 ls []) := by
    intro K11 hK11
    intro v1 v2  C  H locs ls hq hg  hP hD hS hl
    rw [f_X3_lastBegunInRing_56] at hq
    refine lv_iinc (v := v2 + 1) (lv' := [(2, .int (v2 + 1)), (0, .ref h), (1, .int v1)]) hx hb dX3_lastBegunInRing_56 hl (k := 2) rfl (by rfl) (by decide) rfl (fun ls hl => ?_)
    refine lv_goto (tgt := 11) hx hb dX3_lastBegunInRing_59 (by decide) ?_
    exact hK11 v1 (v2 + 1) C  _ _ _ hq (by show (gN C = gN C0 ∧ gE C = gE C0); omega) hP hD hS (lv_sub hl [1, 2, 0] rfl)
  have B54 : ∀ (K11 : Int32 → Int32 → CS → Option (Int32 × CS)) (hK11 : ∀ (v1 : Int32) (v2 : Int32)  (C : CS)  (H : Heap) (locs : List Loc) (ls : Array Slot), K11 v1 v2 C = some (r', C') → (gN C = gN C0 ∧ gE C = gE C0) → va_P D vwCl (cW cI cJ cO h xa ea0 pa0 C) H → va_D A (cW cI cJ cO h xa ea0 pa0 C) → va_S A s.heap H locs → lv_has ls 3 [(0, .ref h), (1, .int v1), (2, .int v2)] → W p l e (headSpec wsX3_lastBegunInRing ({ frames := 2, cells := 0, slots := 0, locals := 62 })).room s m ([.ref h] : List Value).toArray below meth c H locs (0) (0) Q (F0 m 11 ls [])), ∀ (v2 : Int32)  (C : CS)  (H : Heap) (locs : List Loc) (ls : Array Slot), f_X3_lastBegunInRing_54 K11 v2 C = some (r', C') → (gN C = gN C0 ∧ gE C = gE C0) → va_P D vwCl (cW cI cJ cO h xa ea0 pa0 C) H → va_D A (cW cI cJ cO h xa ea0 pa0 C) → va_S A s.heap H locs → lv_has ls 3 [(0, .ref h), (2, .int v2)] → W p l e (headSpec wsX3_lastBegunInRing ({ frames := 2, cells := 0, slots := 0, locals := 62 })).room s m ([.ref h] : List Value).toArray below meth c H locs (0) (0) Q (F0 m 54 ls []) := by
    intro K11 hK11
    intro v2  C  H locs ls hq hg  hP hD hS hl
    rw [f_X3_lastBegunInRing_54] at hq
    refine lv_iload_n hx hb dX3_lastBegunInRing_54 rfl (lv_at hl 1 rfl) ?_
    refine lv_istore_n (lv' := [(1, .int v2), (0, .ref h), (2, .int v2)]) hx hb dX3_lastBegunInRing_55 rfl hl (by decide) rfl (fun ls hl => ?_)
    exact B56 K11 hK11 v2 v2 C  _ _ _ hq (by show (gN C = gN C0 ∧ gE C = gE C0); omega) hP hD hS (lv_sub hl [1, 0, 2] rfl)
  have B11 : ∀  (k : Nat), ∀ (v1 : Int32) (v2 : Int32)  (C : CS)  (H : Heap) (locs : List Loc) (ls : Array Slot), f_X3_lastBegunInRing_11  k v1 v2 C = some (r', C') → (gN C = gN C0 ∧ gE C = gE C0) → va_P D vwCl (cW cI cJ cO h xa ea0 pa0 C) H → va_D A (cW cI cJ cO h xa ea0 pa0 C) → va_S A s.heap H locs → lv_has ls 3 [(0, .ref h), (1, .int v1), (2, .int v2)] → W p l e (headSpec wsX3_lastBegunInRing ({ frames := 2, cells := 0, slots := 0, locals := 62 })).room s m ([.ref h] : List Value).toArray below meth c H locs (0) (0) Q (F0 m 11 ls []) := by
    intro  k
    induction k with
    | zero =>
      intro v1 v2  C  H locs ls hq hg  hP hD hS hl
      exact absurd hq (by rw [f_X3_lastBegunInRing_11]; exact k_non)
    | succ k ih =>
      intro v1 v2  C  H locs ls hq hg  hP hD hS hl
      rw [f_X3_lastBegunInRing_11] at hq
      refine lv_iload_n hx hb dX3_lastBegunInRing_11 rfl (lv_at hl 2 rfl) ?_
      refine lv_aload_n hx hb dX3_lastBegunInRing_12 rfl (lv_at hl 0 rfl) ?_
      refine va_get (D := D) (ci := 3) (v := .int (C.1 14)) (C := RX3) (T := TX3) (N := 18) hx hb hts kin_X3_lastBegunInRing_X3 hown hK hP 0 rfl rfl 14 (by decide) (hts _ kw_X3_lastBegunInRing__fieldLink_RX3_194_ActHouse_runningCount_I_) (fun _ h9 => h9) rfl dX3_lastBegunInRing_13 ?_
      refine lv_icmp_ge (tgt := 62) hx hb dX3_lastBegunInRing_16 (by decide) (fun c2 => ?_) (fun c2 => ?_)
      · skip
        rw [if_pos c2] at hq
        refine lv_iload_n hx hb dX3_lastBegunInRing_62 rfl (lv_at hl 1 rfl) ?_
        obtain ⟨e2, e3⟩ := k_so hq
        subst hQ
        have hP : va_P D vwCl (cW cI cJ cO h xa ea0 pa0 C) _ := hP
        have hD : va_D A (cW cI cJ cO h xa ea0 pa0 C) := hD
        have hgE := congrArg (fun X : CS => gN X) e3
        have hgE : gN C = gN C' := hgE
        have hhE := congrArg (fun X : CS => gE X) e3
        have hhE : gE C = gE C' := hhE
        refine W.widen (k := 0) (n := 0) (by decide) (by decide) ?_
        exact W.iret (v := v1) hx hb hr (fun t ht hW => ⟨⟨v1, (cW cI cJ cO h xa ea0 pa0 C, [(cI, .int), (cO, .object RX0), (cJ, .long)]), rfl, ⟨e2, (congrArg (fun X : CS => ((cW cI cJ cO h xa ea0 pa0 X, [(cI, .int), (cO, .object RX0), (cJ, .long)]) : va_W × List (ClassId × FieldType))) e3), by omega, by omega⟩, ⟨by rw [ht]; exact hP, va_K.moved hW.alike hK, hD⟩⟩, hS.F ht⟩) hS.2.2 dX3_lastBegunInRing_63
      · skip
        rw [if_neg c2] at hq
        refine lv_aload_n hx hb dX3_lastBegunInRing_19 rfl (lv_at hl 0 rfl) ?_
        refine va_get (D := D) (ci := 3) (v := .ref (xa 11)) (C := RX3) (T := TX3) (N := 18) hx hb hts kin_X3_lastBegunInRing_X3 hown hK hP 0 rfl rfl 11 (by decide) (hts _ kw_X3_lastBegunInRing__fieldLink_RX3_53_ActHouse_waits_LActHouse_Waits_) (fun _ h9 => h9) rfl dX3_lastBegunInRing_20 ?_
        refine lv_iload_n hx hb dX3_lastBegunInRing_23 rfl (lv_at hl 2 rfl) ?_
        obtain ⟨q3, C3, h3, hq⟩ := k_bd hq
        have hFc := k_free hD hS hA
        refine va_calli (va_runV (As := [.int v2]) (rest := []) ⟨hx, hb, hml, hown, hts⟩ (c_X2_isInRing (l := l) (D := D) (cI := cI) (cJ := cJ) (cO := cO) (h := h) (xa := xa) (ea0 := ea0) (pa0 := pa0)  (hf := h3)) (cwV 1 hts gX3_lastBegunInRing_X2_isInRing rfl rfl rfl (by decide +kernel) ⟨Nat.le_of_ble_eq_true rfl, Nat.le_of_ble_eq_true rfl⟩) ⟨k_blind, va_recv hK hP (ci := 2) (q0 := 13) rfl rfl, fun U hU hW => ⟨rfl, k_pre hU hW hP hK hD⟩⟩ rfl rfl hl.1 rfl (lv_room (Nat.le_of_ble_eq_true rfl)) dX3_lastBegunInRing_24 ⟨by decide, by decide⟩) hS (fun q _ h => hFc q h) hFc (fun r3 u t H1 locs ht hvm hw hB hz1 hk1 hS => ?_)
        obtain ⟨rfl, rfl, hg3, hh3⟩ := hw
        have hg3 : gN C3 = gN C := hg3
        have hh3 : gE C3 = gE C := hh3
        refine W.widen (k := 0) (n := 0) (Nat.le_refl _) (Nat.le_refl _) ?_
        obtain ⟨hP1, hK1, hD1⟩ := hB
        rw [ht] at hP1
        have hP := hP1
        have hD := k_weak hD1 hFc
        generalize H1 = H at hP hS ⊢
        have hP : va_P D vwCl (cW cI cJ cO h xa ea0 pa0 C3) _ := hP
        have hD : va_D A (cW cI cJ cO h xa ea0 pa0 C3) := hD
        refine lv_if_eq (tgt := 56) hx hb dX3_lastBegunInRing_27 (by decide) (fun c4 => ?_) (fun c4 => ?_)
        · skip
          rw [if_pos c4] at hq
          exact B56 (fun (v1 : Int32) (v2 : Int32) (C : CS) => f_X3_lastBegunInRing_11  k v1 v2 C) ih v1 v2 C3  _ _ _ hq (by show (gN C3 = gN C0 ∧ gE C3 = gE C0); omega) hP hD hS (lv_sub hl [0, 1, 2] rfl)
        · skip
          rw [if_neg c4] at hq
          refine lv_iload_n hx hb dX3_lastBegunInRing_30 rfl (lv_at hl 1 rfl) ?_
          refine lv_iconst (v := (-1)) hx hb dX3_lastBegunInRing_31 (by decide) ?_
          refine lv_icmp_eq (tgt := 54) hx hb dX3_lastBegunInRing_32 (by decide) (fun c5 => ?_) (fun c5 => ?_)
          · skip
            rw [if_pos c5] at hq
            exact B54 (fun (v1 : Int32) (v2 : Int32) (C : CS) => f_X3_lastBegunInRing_11  k v1 v2 C) ih v2 C3  _ _ _ hq (by show (gN C3 = gN C0 ∧ gE C3 = gE C0); omega) hP hD hS (lv_sub hl [0, 2] rfl)
          · skip
            rw [if_neg c5] at hq
            refine lv_aload_n hx hb dX3_lastBegunInRing_35 rfl (lv_at hl 0 rfl) ?_
            refine lv_aload_n hx hb dX3_lastBegunInRing_36 rfl (lv_at hl 0 rfl) ?_
            refine va_get (D := D) (ci := 3) (v := .ref (xa 8)) (C := RX3) (T := TX3) (N := 18) hx hb hts kin_X3_lastBegunInRing_X3 hown hK hP 0 rfl rfl 8 (by decide) (hts _ kw_X3_lastBegunInRing__fieldLink_RX3_37_ActHouse_running_I_) (fun _ h9 => h9) rfl dX3_lastBegunInRing_37 ?_
            refine lv_iload_n hx hb dX3_lastBegunInRing_40 rfl (lv_at hl 2 rfl) ?_
            obtain ⟨b6, hq⟩ := k_if hq
            refine va_iald hx hb hK hP 9 0 (f := (C3.2.1 8)) rfl rfl (k_in b6.1 b6.2) dX3_lastBegunInRing_41 ?_
            refine lv_aload_n hx hb dX3_lastBegunInRing_42 rfl (lv_at hl 0 rfl) ?_
            refine va_get (D := D) (ci := 3) (v := .ref (xa 8)) (C := RX3) (T := TX3) (N := 18) hx hb hts kin_X3_lastBegunInRing_X3 hown hK hP 0 rfl rfl 8 (by decide) (hts _ kw_X3_lastBegunInRing__fieldLink_RX3_37_ActHouse_running_I_) (fun _ h9 => h9) rfl dX3_lastBegunInRing_43 ?_
            refine lv_iload_n hx hb dX3_lastBegunInRing_46 rfl (lv_at hl 1 rfl) ?_
            obtain ⟨b7, hq⟩ := k_if hq
            refine va_iald hx hb hK hP 9 0 (f := (C3.2.1 8)) rfl rfl (k_in b7.1 b7.2) dX3_lastBegunInRing_47 ?_
            obtain ⟨q8, C8, h8, hq⟩ := k_bd hq
            have hFc := k_free hD hS hA
            refine va_calli (va_runV (As := [.int ((C3.2.1 8) v2.toNatClampNeg), .int ((C3.2.1 8) v1.toNatClampNeg)]) (rest := []) ⟨hx, hb, hml, hown, hts⟩ (c_X3_isBegunLater (l := l) (D := D) (cI := cI) (cJ := cJ) (cO := cO) (h := h) (xa := xa) (ea0 := ea0) (pa0 := pa0)  (hf := h8)) (cwV 2 hts gX3_lastBegunInRing_X3_isBegunLater rfl rfl rfl (by decide +kernel) ⟨Nat.le_of_ble_eq_true rfl, Nat.le_of_ble_eq_true rfl⟩) ⟨k_blind, va_recv hK hP (ci := 3) (q0 := 0) rfl rfl, fun U hU hW => ⟨rfl, k_pre hU hW hP hK hD⟩⟩ rfl rfl hl.1 rfl (lv_room (Nat.le_of_ble_eq_true rfl)) dX3_lastBegunInRing_48 ⟨by decide, by decide⟩) hS (fun q _ h => hFc q h) hFc (fun r8 u t H1 locs ht hvm hw hB hz1 hk1 hS => ?_)
            obtain ⟨rfl, rfl, hg8, hh8⟩ := hw
            have hg8 : gN C8 = gN C3 := hg8
            have hh8 : gE C8 = gE C3 := hh8
            refine W.widen (k := 0) (n := 0) (Nat.le_refl _) (Nat.le_refl _) ?_
            obtain ⟨hP1, hK1, hD1⟩ := hB
            rw [ht] at hP1
            have hP := hP1
            have hD := k_weak hD1 hFc
            generalize H1 = H at hP hS ⊢
            have hP : va_P D vwCl (cW cI cJ cO h xa ea0 pa0 C8) _ := hP
            have hD : va_D A (cW cI cJ cO h xa ea0 pa0 C8) := hD
            refine lv_if_eq (tgt := 56) hx hb dX3_lastBegunInRing_51 (by decide) (fun c9 => ?_) (fun c9 => ?_)
            · skip
              rw [if_pos c9] at hq
              exact B56 (fun (v1 : Int32) (v2 : Int32) (C : CS) => f_X3_lastBegunInRing_11  k v1 v2 C) ih v1 v2 C8  _ _ _ hq (by show (gN C8 = gN C0 ∧ gE C8 = gE C0); omega) hP hD hS (lv_sub hl [0, 1, 2] rfl)
            · skip
              rw [if_neg c9] at hq
              exact B54 (fun (v1 : Int32) (v2 : Int32) (C : CS) => f_X3_lastBegunInRing_11  k v1 v2 C) ih v2 C8  _ _ _ hq (by show (gN C8 = gN C0 ∧ gE C8 = gE C0); omega) hP hD hS (lv_sub hl [0, 2] rfl)
  have hq := hf
  rw [f_X3_lastBegunInRing] at hq
  refine lv_aload_n hx hb dX3_lastBegunInRing_0 rfl (lv_at hl 0 rfl) ?_
  refine va_get (D := D) (ci := 3) (v := .ref (xa 11)) (C := RX3) (T := TX3) (N := 18) hx hb hts kin_X3_lastBegunInRing_X3 hown hK hP 0 rfl rfl 11 (by decide) (hts _ kw_X3_lastBegunInRing__fieldLink_RX3_53_ActHouse_waits_LActHouse_Waits_) (fun _ h9 => h9) rfl dX3_lastBegunInRing_1 ?_
  obtain ⟨r1, C1, h1, hq⟩ := k_bd hq
  have hFc := k_free hD hS hA
  refine va_callv (va_runV (As := []) (rest := []) ⟨hx, hb, hml, hown, hts⟩ (c_X2_close (l := l) (D := D) (cI := cI) (cJ := cJ) (cO := cO) (h := h) (xa := xa) (ea0 := ea0) (pa0 := pa0)  (hf := h1)) (cwV 0 hts gX3_lastBegunInRing_X2_close rfl rfl rfl (by decide +kernel) ⟨Nat.le_of_ble_eq_true rfl, Nat.le_of_ble_eq_true rfl⟩) ⟨k_blind, va_recv hK hP (ci := 2) (q0 := 13) rfl rfl, fun U hU hW => ⟨rfl, k_pre hU hW hP hK hD⟩⟩ rfl rfl hl.1 rfl (lv_room (Nat.le_of_ble_eq_true rfl)) dX3_lastBegunInRing_4 ⟨by decide, by decide⟩) hS (fun q _ h => hFc q h) hFc (fun u t H1 locs ht hvm hw hB hz1 hk1 hS => ?_)
  obtain ⟨rfl, hg1, hh1⟩ := hw
  have hg1 : gN C1 = gN C0 := hg1
  have hh1 : gE C1 = gE C0 := hh1
  refine W.widen (k := 0) (n := 0) (Nat.le_refl _) (Nat.le_refl _) ?_
  obtain ⟨hP1, hK1, hD1⟩ := hB
  rw [ht] at hP1
  have hP := hP1
  have hD := k_weak hD1 hFc
  generalize H1 = H at hP hS ⊢
  have hP : va_P D vwCl (cW cI cJ cO h xa ea0 pa0 C1) _ := hP
  have hD : va_D A (cW cI cJ cO h xa ea0 pa0 C1) := hD
  refine lv_iconst (v := (-1)) hx hb dX3_lastBegunInRing_7 (by decide) ?_
  refine lv_istore_n (lv' := [(1, .int (-1)), (0, .ref h)]) hx hb dX3_lastBegunInRing_8 rfl hl (by decide) rfl (fun ls hl => ?_)
  refine lv_iconst (v := 0) hx hb dX3_lastBegunInRing_9 (by decide) ?_
  refine lv_istore_n (lv' := [(2, .int 0), (1, .int (-1)), (0, .ref h)]) hx hb dX3_lastBegunInRing_10 rfl hl (by decide) rfl (fun ls hl => ?_)
  exact B11  200 ((-1) : Int32) (0 : Int32) C1  _ _ _ hq (by show (gN C1 = gN C0 ∧ gE C1 = gE C0); omega) hP hD hS (lv_sub hl [2, 1, 0] rfl)
set_option maxRecDepth 100000 in
theorem kw_X3_undoInRing__fieldLink_RX3_27_ActHouse_acts_LActHouse_Act_ : (.fieldLink RX3 27 "ActHouse" "acts" "[LActHouse$Act;" : Cond) ∈ wsX3_undoInRing := by decide +kernel
set_option maxRecDepth 100000 in
theorem kin_X3_undoInRing_X3 : ∀ w ∈ u_ws RX3 TX3 18, w ∈ wsX3_undoInRing := by decide +kernel
set_option maxRecDepth 100000 in
theorem kw_X3_undoInRing__fieldLink_RX3_46_ActHouse_book_LActHouse_LogBook_ : (.fieldLink RX3 46 "ActHouse" "book" "LActHouse$LogBook;" : Cond) ∈ wsX3_undoInRing := by decide +kernel
set_option maxRecDepth 100000 in
theorem kw_X3_undoInRing__fieldLink_RX3_79_ActHouse_now_I_ : (.fieldLink RX3 79 "ActHouse" "now" "I" : Cond) ∈ wsX3_undoInRing := by decide +kernel
set_option maxRecDepth 100000 in
theorem kw_X3_undoInRing__fieldLink_RX3_167_ActHouse_rings_I_ : (.fieldLink RX3 167 "ActHouse" "rings" "I" : Cond) ∈ wsX3_undoInRing := by decide +kernel
def f_X3_undoInRing (x1 : Int32) (C0 : CS) : Option (Int32 × CS) := (if (0 ≤ x1.toInt ∧ x1.toInt < 80) ∧ x1.toNatClampNeg < gN C0 then (k_bind (f_X0_undo x1.toNatClampNeg C0) fun r2 C2 => (k_bind (f_X1_write (4 : Int32) x1 ((-1) : Int32) (C2.1 15) C2) fun r3 C3 => (k_let (cN C3 16 ((C3.1 16) + 1)) fun C4 => some ((0 : Int32), C4)))) else none)
set_option maxHeartbeats 4000000 in
set_option maxRecDepth 100000 in
theorem c_X3_undoInRing {l : Launch} {D : va_G} {hp : Heap} {cI cJ cO : ClassId} {h : Nat} {xa : Nat → Nat} {ea0 : Nat} {pa0 : Nat → Nat → Nat} {C0 C' : CS} {x1 r' : Int32} (hg : gN C0 ≤ 80 ∧ gE C0 ≤ 1048576) (hf : f_X3_undoInRing x1 C0 = some (r', C')) : Met l yX3_undoInRing wsX3_undoInRing ({ frames := 3, cells := 7 * (80 - gN C0) + (1048576 - gE C0) / 256, slots := 108 * (80 - gN C0) + 2 * (1048576 - gE C0), locals := 86 }) (va_Pc [.ref h, .int x1] (k_PreH D [(cI, .int), (cO, .object RX0), (cJ, .long)] (cW cI cJ cO h xa ea0 pa0 C0) hp)) (va_Qv (fun (u : va_W × List (ClassId × FieldType)) => ∃ (ea' : Nat) (pa' : Nat → Nat → Nat), u = (cW cI cJ cO h xa ea' pa' C', [(cI, .int), (cO, .object RX0), (cJ, .long)]) ∧ (gN C0 ≤ gN C' ∧ gN C' ≤ 80 ∧ gE C0 ≤ gE C' ∧ gE C' ≤ 1048576) ∧ ∀ n, n < gN C0 → pa' n = pa0 n) (k_BM D (va_A (cW cI cJ cO h xa ea0 pa0 C0) hp.size) hp (7 * (gN C' - gN C0) + (gE C' - gE C0) / 256) (108 * (gN C' - gN C0) + 2 * (gE C' - gE C0))) (va_A (cW cI cJ cO h xa ea0 pa0 C0) hp.size)) (7 * (80 - gN C0) + (1048576 - gE C0) / 256) (108 * (80 - gN C0) + 2 * (1048576 - gE C0)) (va_A (cW cI cJ cO h xa ea0 pa0 C0) hp.size) := by
  refine Met.ofW (cc := cX3_undoInRing) (maxL := 2) (ret := none) (by decide) rfl ?_
  intro p e s m args below meth c s₁ B hml hv
  obtain ⟨rfl, hsz, hP, hK, hD0⟩ := hv
  have hx := B.exec
  have hb := B.bytes
  have hr := B.returns
  have hts := atoms_spec (ws := wsX3_undoInRing) B.pre
  have hown : s.vm.findClass RX3 = some m.cls := findClass_of_methodNamed B.named
  have hlocks := B.notSynchronized
  have hsz : s.heap = hp := hsz
  subst hsz
  have hD := hD0.self (sz := s.heap.size)
  generalize hAe : va_A (cW cI cJ cO h xa ea0 pa0 C0) s.heap.size = A at hD ⊢
  have hA : ∀ q : Nat, s.heap.size ≤ q → A q := fun q h => by rw [← hAe]; exact Or.inr h
  have hS : va_S A s.heap s.heap [] := va_S.rf
  have hl := lv_entry ([.ref h, .int x1]) (n := 2) (Nat.le_of_ble_eq_true rfl)
  rw [lg_entry_eq]
  generalize (lg_sl ([.ref h, .int x1]) ++ List.replicate (2 - (lg_sl ([.ref h, .int x1])).length) Slot.unset).toArray = ls at hl ⊢
  have hl : lv_has ls 2 [(0, .ref h), (1, .int x1)] := hl
  refine k_Q (fun Q hQ => ?_)
  refine W.widen (k := (7 * (gN C0 - gN C0) + (gE C0 - gE C0) / 256)) (n := (108 * (gN C0 - gN C0) + 2 * (gE C0 - gE C0))) (by omega) (by omega) ?_
  have hpa : ∀ n, n < gN C0 → pa0 n = pa0 n := fun _ _ => rfl
  have hq := hf
  rw [f_X3_undoInRing] at hq
  refine lv_aload_n hx hb dX3_undoInRing_0 rfl (lv_at hl 0 rfl) ?_
  refine va_get (D := D) (ci := 3) (v := .ref (xa 5)) (C := RX3) (T := TX3) (N := 18) hx hb hts kin_X3_undoInRing_X3 hown hK hP 0 rfl rfl 5 (by decide) (hts _ kw_X3_undoInRing__fieldLink_RX3_27_ActHouse_acts_LActHouse_Act_) (fun _ h9 => h9) rfl dX3_undoInRing_1 ?_
  refine lv_iload_n hx hb dX3_undoInRing_4 rfl (lv_at hl 1 rfl) ?_
  obtain ⟨b1, hq⟩ := k_if hq
  refine va_aldq hx hb hK hP 6 1 (f := cActs pa0 (gN C0)) rfl rfl (k_in b1.1.1 b1.1.2) dX3_undoInRing_5 ?_
  refine W.eq (g2 := F0 m 6 ls [.ref (pa0 x1.toNatClampNeg 0)]) (by rw [cActs_lt b1.2]; rfl) ?_
  obtain ⟨r2, C2, h2, hq⟩ := k_bd hq
  have hFc := k_free hD hS hA
  refine va_callv (va_runV (As := []) (rest := []) ⟨hx, hb, hml, hown, hts⟩ (c_X0_undo (l := l) (D := D) (cI := cI) (cJ := cJ) (cO := cO) (h := h) (xa := xa) (ea0 := ea0) (pa0 := pa0)  (hn0 := by show x1.toNatClampNeg < gN C0; omega) (hf := h2)) (cwV 0 hts gX3_undoInRing_X0_undo rfl rfl rfl (by decide +kernel) ⟨Nat.le_of_ble_eq_true rfl, Nat.le_of_ble_eq_true rfl⟩) ⟨k_blind, va_recv hK hP (ci := 0) (q0 := (16 + (7 * x1.toNatClampNeg + 0))) rfl (cW_get (show x1.toNatClampNeg < gN C0 from by omega) rfl), fun U hU hW => ⟨rfl, k_pre hU hW hP hK hD⟩⟩ rfl rfl hl.1 rfl (lv_room (Nat.le_of_ble_eq_true rfl)) dX3_undoInRing_6 ⟨by show (7 * (gN C0 - gN C0) + (gE C0 - gE C0) / 256) + 0 ≤ 7 * (80 - gN C0) + (1048576 - gE C0) / 256; omega, by show (108 * (gN C0 - gN C0) + 2 * (gE C0 - gE C0)) + 0 ≤ 108 * (80 - gN C0) + 2 * (1048576 - gE C0); omega⟩) hS (fun q _ h => hFc q h) hFc (fun u t H1 locs ht hvm hw hB hz1 hk1 hS => ?_)
  obtain ⟨rfl, hg2, hh2⟩ := hw
  have hg2 : gN C2 = gN C0 := hg2
  have hh2 : gE C2 = gE C0 := hh2
  refine W.widen (k := (7 * (gN C2 - gN C0) + (gE C2 - gE C0) / 256)) (n := (108 * (gN C2 - gN C0) + 2 * (gE C2 - gE C0))) (by omega) (by omega) ?_
  obtain ⟨hP1, hK1, hD1⟩ := hB
  rw [ht] at hP1
  have hP := hP1
  have hD := k_weak hD1 hFc
  generalize H1 = H at hP hS ⊢
  have hP : va_P D vwCl (cW cI cJ cO h xa ea0 pa0 C2) _ := hP
  have hD : va_D A (cW cI cJ cO h xa ea0 pa0 C2) := hD
  refine lv_aload_n hx hb dX3_undoInRing_9 rfl (lv_at hl 0 rfl) ?_
  refine va_get (D := D) (ci := 3) (v := .ref (xa 10)) (C := RX3) (T := TX3) (N := 18) hx hb hts kin_X3_undoInRing_X3 hown hK hP 0 rfl rfl 10 (by decide) (hts _ kw_X3_undoInRing__fieldLink_RX3_46_ActHouse_book_LActHouse_LogBook_) (fun _ h9 => h9) rfl dX3_undoInRing_10 ?_
  refine lv_iconst (v := 4) hx hb dX3_undoInRing_13 (by decide) ?_
  refine lv_iload_n hx hb dX3_undoInRing_14 rfl (lv_at hl 1 rfl) ?_
  refine lv_iconst (v := (-1)) hx hb dX3_undoInRing_15 (by decide) ?_
  refine lv_aload_n hx hb dX3_undoInRing_16 rfl (lv_at hl 0 rfl) ?_
  refine va_get (D := D) (ci := 3) (v := .int (C2.1 15)) (C := RX3) (T := TX3) (N := 18) hx hb hts kin_X3_undoInRing_X3 hown hK hP 0 rfl rfl 15 (by decide) (hts _ kw_X3_undoInRing__fieldLink_RX3_79_ActHouse_now_I_) (fun _ h9 => h9) rfl dX3_undoInRing_17 ?_
  obtain ⟨q3, C3, h3, hq⟩ := k_bd hq
  have hFc := k_free hD hS hA
  refine k_facts (fun hn1 hn2 hn3 => ?_)
  refine va_calli (va_runV (As := [.int 4, .int x1, .int (-1), .int (C2.1 15)]) (rest := []) ⟨hx, hb, hml, hown, hts⟩ (c_X1_write (l := l) (D := D) (cI := cI) (cJ := cJ) (cO := cO) (h := h) (xa := xa) (ea0 := ea0) (pa0 := pa0)  (hg := by show gN C2 ≤ 80 ∧ gE C2 ≤ 1048576; omega) (hf := h3)) (cwV 4 hts gX3_undoInRing_X1_write rfl rfl rfl (by decide +kernel) ⟨Nat.le_of_ble_eq_true rfl, Nat.le_of_ble_eq_true rfl⟩) ⟨k_blindH, va_recv hK hP (ci := 1) (q0 := 11) rfl rfl, fun U hU hW => ⟨rfl, k_preH hU hW hP hK hD⟩⟩ rfl rfl hl.1 rfl (lv_room (Nat.le_of_ble_eq_true rfl)) dX3_undoInRing_20 ⟨by show (7 * (gN C2 - gN C0) + (gE C2 - gE C0) / 256) + (7 * (80 - gN C2) + (1048576 - gE C2) / 256) ≤ 7 * (80 - gN C0) + (1048576 - gE C0) / 256; omega, by show (108 * (gN C2 - gN C0) + 2 * (gE C2 - gE C0)) + (108 * (80 - gN C2) + 2 * (1048576 - gE C2)) ≤ 108 * (80 - gN C0) + 2 * (1048576 - gE C0); omega⟩) hS (fun q _ h => hFc q h) hFc (fun r3 u t H1 locs ht hvm hw hB hz1 hk1 hS => ?_)
  obtain ⟨ea3, pa3, rfl, rfl, hg3, hp3⟩ := hw
  have hg3 : gN C2 ≤ gN C3 ∧ gN C3 ≤ 80 ∧ gE C2 ≤ gE C3 ∧ gE C3 ≤ 1048576 := hg3
  have hpa : ∀ n, n < gN C0 → pa3 n = pa0 n := fun n hn => (hp3 n (by show n < gN C2; omega)).trans (hpa n hn)
  obtain ⟨hB, hz2, hz3, hz4⟩ := hB
  rw [ht] at hz2 hz3 hz4
  refine k_tight (k := (7 * (gN C3 - gN C0) + (gE C3 - gE C0) / 256)) (n := (108 * (gN C3 - gN C0) + 2 * (gE C3 - gE C0))) (by omega) (by rw [k_nS_tr hn3.1 hz2]; omega) ?_
  obtain ⟨hP1, hK1, hD1⟩ := hB
  rw [ht] at hP1
  have hP := hP1
  have hD := k_weak hD1 hFc
  generalize H1 = H at hP hS ⊢
  have hP : va_P D vwCl (cW cI cJ cO h xa ea3 pa3 C3) _ := hP
  have hD : va_D A (cW cI cJ cO h xa ea3 pa3 C3) := hD
  refine lv_pop hx hb dX3_undoInRing_23 rfl ?_
  refine lv_aload_n hx hb dX3_undoInRing_24 rfl (lv_at hl 0 rfl) ?_
  refine lv_dup hx hb dX3_undoInRing_25 rfl ?_
  refine va_get (D := D) (ci := 3) (v := .int (C3.1 16)) (C := RX3) (T := TX3) (N := 18) hx hb hts kin_X3_undoInRing_X3 hown hK hP 0 rfl rfl 16 (by decide) (hts _ kw_X3_undoInRing__fieldLink_RX3_167_ActHouse_rings_I_) (fun _ h9 => h9) rfl dX3_undoInRing_26 ?_
  refine lv_iconst (v := 1) hx hb dX3_undoInRing_29 (by decide) ?_
  refine lv_iadd hx hb dX3_undoInRing_30 ?_
  refine va_put (D := D) (ci := 3) (v := .int ((C3.1 16) + 1)) (ty := .int) (C := RX3) (T := TX3) (N := 18) hx hb hts kin_X3_undoInRing_X3 tyX3 tyX3_ok nmX3 hown hK hP hD hS 0 (fs := hF xa C3) rfl rfl 16 (by decide) (hts _ kw_X3_undoInRing__fieldLink_RX3_167_ActHouse_rings_I_) (fun _ h9 => h9) rfl (by decide +kernel) rfl rfl (Nat.le_of_ble_eq_true rfl) dX3_undoInRing_31 (fun H locs hP hD hS => ?_)
  obtain ⟨C4, eC4, hg4, hh4, hq⟩ := k_lc (C := C3) hq rfl rfl
  rw [cW_I16, ← eC4] at hP hD
  have hP : va_P D vwCl (cW cI cJ cO h xa ea3 pa3 C4) _ := hP
  have hD : va_D A (cW cI cJ cO h xa ea3 pa3 C4) := hD
  refine W.widen (k := (7 * (gN C4 - gN C0) + (gE C4 - gE C0) / 256)) (n := (108 * (gN C4 - gN C0) + 2 * (gE C4 - gE C0))) (by omega) (by omega) ?_
  obtain ⟨e2, e3⟩ := k_so hq
  subst hQ
  have hP : va_P D vwCl (cW cI cJ cO h xa ea3 pa3 C4) _ := hP
  have hD : va_D A (cW cI cJ cO h xa ea3 pa3 C4) := hD
  have hgE := congrArg (fun X : CS => gN X) e3
  have hgE : gN C4 = gN C' := hgE
  have hhE := congrArg (fun X : CS => gE X) e3
  have hhE : gE C4 = gE C' := hhE
  refine k_facts (fun hm1 hm2 hm3 => ?_)
  refine W.widen (k := 7 * (80 - gN C0) + (1048576 - gE C0) / 256) (n := 108 * (80 - gN C0) + 2 * (1048576 - gE C0)) (by omega) (by omega) ?_
  exact W.vret hx hb hr (fun t ht hW => ⟨⟨(cW cI cJ cO h xa ea3 pa3 C4, [(cI, .int), (cO, .object RX0), (cJ, .long)]), rfl, ⟨ea3, pa3, (congrArg (fun X : CS => ((cW cI cJ cO h xa ea3 pa3 X, [(cI, .int), (cO, .object RX0), (cJ, .long)]) : va_W × List (ClassId × FieldType))) e3), (by show gN C0 ≤ gN C' ∧ gN C' ≤ 80 ∧ gE C0 ≤ gE C' ∧ gE C' ≤ 1048576; omega), hpa⟩, ⟨⟨by rw [ht]; exact hP, va_K.moved hW.alike hK, hD⟩, by rw [ht]; exact hm3, by rw [ht]; omega, by rw [ht]; omega⟩⟩, hS.F ht⟩) hS.2.2 dX3_undoInRing_34
set_option maxRecDepth 100000 in
theorem kw_X3_breakRings__fieldLink_RX3_194_ActHouse_runningCount_I_ : (.fieldLink RX3 194 "ActHouse" "runningCount" "I" : Cond) ∈ wsX3_breakRings := by decide +kernel
set_option maxRecDepth 100000 in
theorem kin_X3_breakRings_X3 : ∀ w ∈ u_ws RX3 TX3 18, w ∈ wsX3_breakRings := by decide +kernel
set_option maxRecDepth 100000 in
theorem kw_X3_breakRings__fieldLink_RX3_37_ActHouse_running_I_ : (.fieldLink RX3 37 "ActHouse" "running" "[I" : Cond) ∈ wsX3_breakRings := by decide +kernel
set_option maxRecDepth 100000 in
theorem kw_X3_breakRings__fieldLink_RX3_53_ActHouse_waits_LActHouse_Waits_ : (.fieldLink RX3 53 "ActHouse" "waits" "LActHouse$Waits;" : Cond) ∈ wsX3_breakRings := by decide +kernel
def f_X3_breakRings_10  : Nat → Int32 → CS → Option (Int32 × CS)
  | 0, _, _ => none
  | k + 1, v1, C => (if (C.1 14) ≤ v1 then some ((0 : Int32), C) else (k_bind (f_X3_lastBegunInRing C) fun r4 C4 => (if r4 = (-1) then some ((0 : Int32), C4) else (if 0 ≤ r4.toInt ∧ r4.toInt < 36 then (k_bind (f_X3_undoInRing ((C4.2.1 8) r4.toNatClampNeg) C4) fun r7 C7 => (k_bind (f_X2_remove r4 C7) fun r8 C8 => f_X3_breakRings_10  k (v1 + 1) C8)) else none))))
def f_X3_breakRings  (C0 : CS) : Option (Int32 × CS) := (k_bind (f_X3_drawWaits C0) fun r1 C1 => (if r1 = 0 then some ((0 : Int32), C1) else f_X3_breakRings_10  200 (0 : Int32) C1))
set_option maxHeartbeats 4000000 in
set_option maxRecDepth 100000 in
theorem c_X3_breakRings {l : Launch} {D : va_G} {hp : Heap} {cI cJ cO : ClassId} {h : Nat} {xa : Nat → Nat} {ea0 : Nat} {pa0 : Nat → Nat → Nat} {C0 C' : CS} { r' : Int32} (hg : gN C0 ≤ 80 ∧ gE C0 ≤ 1048576) (hf : f_X3_breakRings  C0 = some (r', C')) : Met l yX3_breakRings wsX3_breakRings ({ frames := 4, cells := 7 * (80 - gN C0) + (1048576 - gE C0) / 256, slots := 108 * (80 - gN C0) + 2 * (1048576 - gE C0), locals := 107 }) (va_Pc [.ref h] (k_PreH D [(cI, .int), (cO, .object RX0), (cJ, .long)] (cW cI cJ cO h xa ea0 pa0 C0) hp)) (va_Qv (fun (u : va_W × List (ClassId × FieldType)) => ∃ (ea' : Nat) (pa' : Nat → Nat → Nat), u = (cW cI cJ cO h xa ea' pa' C', [(cI, .int), (cO, .object RX0), (cJ, .long)]) ∧ (gN C0 ≤ gN C' ∧ gN C' ≤ 80 ∧ gE C0 ≤ gE C' ∧ gE C' ≤ 1048576) ∧ ∀ n, n < gN C0 → pa' n = pa0 n) (k_BM D (va_A (cW cI cJ cO h xa ea0 pa0 C0) hp.size) hp (7 * (gN C' - gN C0) + (gE C' - gE C0) / 256) (108 * (gN C' - gN C0) + 2 * (gE C' - gE C0))) (va_A (cW cI cJ cO h xa ea0 pa0 C0) hp.size)) (7 * (80 - gN C0) + (1048576 - gE C0) / 256) (108 * (80 - gN C0) + 2 * (1048576 - gE C0)) (va_A (cW cI cJ cO h xa ea0 pa0 C0) hp.size) := by
  refine Met.ofW (cc := cX3_breakRings) (maxL := 3) (ret := none) (by decide) rfl ?_
  intro p e s m args below meth c s₁ B hml hv
  obtain ⟨rfl, hsz, hP, hK, hD0⟩ := hv
  have hx := B.exec
  have hb := B.bytes
  have hr := B.returns
  have hts := atoms_spec (ws := wsX3_breakRings) B.pre
  have hown : s.vm.findClass RX3 = some m.cls := findClass_of_methodNamed B.named
  have hlocks := B.notSynchronized
  have hsz : s.heap = hp := hsz
  subst hsz
  have hD := hD0.self (sz := s.heap.size)
  generalize hAe : va_A (cW cI cJ cO h xa ea0 pa0 C0) s.heap.size = A at hD ⊢
  have hA : ∀ q : Nat, s.heap.size ≤ q → A q := fun q h => by rw [← hAe]; exact Or.inr h
  have hS : va_S A s.heap s.heap [] := va_S.rf
  have hl := lv_entry ([.ref h]) (n := 3) (Nat.le_of_ble_eq_true rfl)
  rw [lg_entry_eq]
  generalize (lg_sl ([.ref h]) ++ List.replicate (3 - (lg_sl ([.ref h])).length) Slot.unset).toArray = ls at hl ⊢
  have hl : lv_has ls 3 [(0, .ref h)] := hl
  refine k_Q (fun Q hQ => ?_)
  have B10 : ∀  (k : Nat), ∀ (v1 : Int32)  (C : CS) (ea : Nat) (pa : Nat → Nat → Nat) (H : Heap) (locs : List Loc) (ls : Array Slot), f_X3_breakRings_10  k v1 C = some (r', C') → (gN C0 ≤ gN C ∧ gN C ≤ 80 ∧ gE C0 ≤ gE C ∧ gE C ≤ 1048576) → (∀ n, n < gN C0 → pa n = pa0 n) → va_P D vwCl (cW cI cJ cO h xa ea pa C) H → va_D A (cW cI cJ cO h xa ea pa C) → va_S A s.heap H locs → lv_has ls 3 [(0, .ref h), (1, .int v1)] → W p l e (headSpec wsX3_breakRings ({ frames := 4, cells := 7 * (80 - gN C0) + (1048576 - gE C0) / 256, slots := 108 * (80 - gN C0) + 2 * (1048576 - gE C0), locals := 107 })).room s m ([.ref h] : List Value).toArray below meth c H locs ((7 * (gN C - gN C0) + (gE C - gE C0) / 256)) ((108 * (gN C - gN C0) + 2 * (gE C - gE C0))) Q (F0 m 10 ls []) := by
    intro  k
    induction k with
    | zero =>
      intro v1  C ea pa H locs ls hq hg hpa  hP hD hS hl
      exact absurd hq (by rw [f_X3_breakRings_10]; exact k_non)
    | succ k ih =>
      intro v1  C ea pa H locs ls hq hg hpa  hP hD hS hl
      rw [f_X3_breakRings_10] at hq
      refine lv_iload_n hx hb dX3_breakRings_10 rfl (lv_at hl 1 rfl) ?_
      refine lv_aload_n hx hb dX3_breakRings_11 rfl (lv_at hl 0 rfl) ?_
      refine va_get (D := D) (ci := 3) (v := .int (C.1 14)) (C := RX3) (T := TX3) (N := 18) hx hb hts kin_X3_breakRings_X3 hown hK hP 0 rfl rfl 14 (by decide) (hts _ kw_X3_breakRings__fieldLink_RX3_194_ActHouse_runningCount_I_) (fun _ h9 => h9) rfl dX3_breakRings_12 ?_
      refine lv_icmp_ge (tgt := 53) hx hb dX3_breakRings_15 (by decide) (fun c3 => ?_) (fun c3 => ?_)
      · skip
        rw [if_pos c3] at hq
        obtain ⟨e2, e3⟩ := k_so hq
        subst hQ
        have hP : va_P D vwCl (cW cI cJ cO h xa ea pa C) _ := hP
        have hD : va_D A (cW cI cJ cO h xa ea pa C) := hD
        have hgE := congrArg (fun X : CS => gN X) e3
        have hgE : gN C = gN C' := hgE
        have hhE := congrArg (fun X : CS => gE X) e3
        have hhE : gE C = gE C' := hhE
        refine k_facts (fun hm1 hm2 hm3 => ?_)
        refine W.widen (k := 7 * (80 - gN C0) + (1048576 - gE C0) / 256) (n := 108 * (80 - gN C0) + 2 * (1048576 - gE C0)) (by omega) (by omega) ?_
        exact W.vret hx hb hr (fun t ht hW => ⟨⟨(cW cI cJ cO h xa ea pa C, [(cI, .int), (cO, .object RX0), (cJ, .long)]), rfl, ⟨ea, pa, (congrArg (fun X : CS => ((cW cI cJ cO h xa ea pa X, [(cI, .int), (cO, .object RX0), (cJ, .long)]) : va_W × List (ClassId × FieldType))) e3), (by show gN C0 ≤ gN C' ∧ gN C' ≤ 80 ∧ gE C0 ≤ gE C' ∧ gE C' ≤ 1048576; omega), hpa⟩, ⟨⟨by rw [ht]; exact hP, va_K.moved hW.alike hK, hD⟩, by rw [ht]; exact hm3, by rw [ht]; omega, by rw [ht]; omega⟩⟩, hS.F ht⟩) hS.2.2 dX3_breakRings_53
      · skip
        rw [if_neg c3] at hq
        refine lv_aload_n hx hb dX3_breakRings_18 rfl (lv_at hl 0 rfl) ?_
        obtain ⟨q4, C4, h4, hq⟩ := k_bd hq
        have hFc := k_free hD hS hA
        refine va_calli (va_runV (As := []) (rest := []) ⟨hx, hb, hml, hown, hts⟩ (c_X3_lastBegunInRing (l := l) (D := D) (cI := cI) (cJ := cJ) (cO := cO) (h := h) (xa := xa) (ea0 := ea) (pa0 := pa)  (hf := h4)) (cwV 0 hts gX3_breakRings_X3_lastBegunInRing rfl rfl rfl (by decide +kernel) ⟨Nat.le_of_ble_eq_true rfl, Nat.le_of_ble_eq_true rfl⟩) ⟨k_blind, va_recv hK hP (ci := 3) (q0 := 0) rfl rfl, fun U hU hW => ⟨rfl, k_pre hU hW hP hK hD⟩⟩ rfl rfl hl.1 rfl (lv_room (Nat.le_of_ble_eq_true rfl)) dX3_breakRings_19 ⟨by show (7 * (gN C - gN C0) + (gE C - gE C0) / 256) + 0 ≤ 7 * (80 - gN C0) + (1048576 - gE C0) / 256; omega, by show (108 * (gN C - gN C0) + 2 * (gE C - gE C0)) + 0 ≤ 108 * (80 - gN C0) + 2 * (1048576 - gE C0); omega⟩) hS (fun q _ h => hFc q h) hFc (fun r4 u t H1 locs ht hvm hw hB hz1 hk1 hS => ?_)
        obtain ⟨rfl, rfl, hg4, hh4⟩ := hw
        have hg4 : gN C4 = gN C := hg4
        have hh4 : gE C4 = gE C := hh4
        refine W.widen (k := (7 * (gN C4 - gN C0) + (gE C4 - gE C0) / 256)) (n := (108 * (gN C4 - gN C0) + 2 * (gE C4 - gE C0))) (by omega) (by omega) ?_
        obtain ⟨hP1, hK1, hD1⟩ := hB
        rw [ht] at hP1
        have hP := hP1
        have hD := k_weak hD1 hFc
        generalize H1 = H at hP hS ⊢
        have hP : va_P D vwCl (cW cI cJ cO h xa ea pa C4) _ := hP
        have hD : va_D A (cW cI cJ cO h xa ea pa C4) := hD
        refine lv_istore_n (lv' := [(2, .int r4), (0, .ref h), (1, .int v1)]) hx hb dX3_breakRings_22 rfl hl (by decide) rfl (fun ls hl => ?_)
        refine lv_iload_n hx hb dX3_breakRings_23 rfl (lv_at hl 0 rfl) ?_
        refine lv_iconst (v := (-1)) hx hb dX3_breakRings_24 (by decide) ?_
        refine lv_icmp_ne (tgt := 29) hx hb dX3_breakRings_25 (by decide) (fun c5 => ?_) (fun c5 => ?_)
        · skip
          rw [if_neg c5] at hq
          refine lv_aload_n hx hb dX3_breakRings_29 rfl (lv_at hl 1 rfl) ?_
          refine lv_aload_n hx hb dX3_breakRings_30 rfl (lv_at hl 1 rfl) ?_
          refine va_get (D := D) (ci := 3) (v := .ref (xa 8)) (C := RX3) (T := TX3) (N := 18) hx hb hts kin_X3_breakRings_X3 hown hK hP 0 rfl rfl 8 (by decide) (hts _ kw_X3_breakRings__fieldLink_RX3_37_ActHouse_running_I_) (fun _ h9 => h9) rfl dX3_breakRings_31 ?_
          refine lv_iload_n hx hb dX3_breakRings_34 rfl (lv_at hl 0 rfl) ?_
          obtain ⟨b6, hq⟩ := k_if hq
          refine va_iald hx hb hK hP 9 0 (f := (C4.2.1 8)) rfl rfl (k_in b6.1 b6.2) dX3_breakRings_35 ?_
          obtain ⟨r7, C7, h7, hq⟩ := k_bd hq
          have hFc := k_free hD hS hA
          refine k_facts (fun hn1 hn2 hn3 => ?_)
          refine va_callv (va_runV (As := [.int ((C4.2.1 8) r4.toNatClampNeg)]) (rest := []) ⟨hx, hb, hml, hown, hts⟩ (c_X3_undoInRing (l := l) (D := D) (cI := cI) (cJ := cJ) (cO := cO) (h := h) (xa := xa) (ea0 := ea) (pa0 := pa)  (hg := by show gN C4 ≤ 80 ∧ gE C4 ≤ 1048576; omega) (hf := h7)) (cwV 1 hts gX3_breakRings_X3_undoInRing rfl rfl rfl (by decide +kernel) ⟨Nat.le_of_ble_eq_true rfl, Nat.le_of_ble_eq_true rfl⟩) ⟨k_blindH, va_recv hK hP (ci := 3) (q0 := 0) rfl rfl, fun U hU hW => ⟨rfl, k_preH hU hW hP hK hD⟩⟩ rfl rfl hl.1 rfl (lv_room (Nat.le_of_ble_eq_true rfl)) dX3_breakRings_36 ⟨by show (7 * (gN C4 - gN C0) + (gE C4 - gE C0) / 256) + (7 * (80 - gN C4) + (1048576 - gE C4) / 256) ≤ 7 * (80 - gN C0) + (1048576 - gE C0) / 256; omega, by show (108 * (gN C4 - gN C0) + 2 * (gE C4 - gE C0)) + (108 * (80 - gN C4) + 2 * (1048576 - gE C4)) ≤ 108 * (80 - gN C0) + 2 * (1048576 - gE C0); omega⟩) hS (fun q _ h => hFc q h) hFc (fun u t H1 locs ht hvm hw hB hz1 hk1 hS => ?_)
          obtain ⟨ea7, pa7, rfl, hg7, hp7⟩ := hw
          have hg7 : gN C4 ≤ gN C7 ∧ gN C7 ≤ 80 ∧ gE C4 ≤ gE C7 ∧ gE C7 ≤ 1048576 := hg7
          have hpa : ∀ n, n < gN C0 → pa7 n = pa0 n := fun n hn => (hp7 n (by show n < gN C4; omega)).trans (hpa n hn)
          obtain ⟨hB, hz2, hz3, hz4⟩ := hB
          rw [ht] at hz2 hz3 hz4
          refine k_tight (k := (7 * (gN C7 - gN C0) + (gE C7 - gE C0) / 256)) (n := (108 * (gN C7 - gN C0) + 2 * (gE C7 - gE C0))) (by omega) (by rw [k_nS_tr hn3.1 hz2]; omega) ?_
          obtain ⟨hP1, hK1, hD1⟩ := hB
          rw [ht] at hP1
          have hP := hP1
          have hD := k_weak hD1 hFc
          generalize H1 = H at hP hS ⊢
          have hP : va_P D vwCl (cW cI cJ cO h xa ea7 pa7 C7) _ := hP
          have hD : va_D A (cW cI cJ cO h xa ea7 pa7 C7) := hD
          refine lv_aload_n hx hb dX3_breakRings_39 rfl (lv_at hl 1 rfl) ?_
          refine va_get (D := D) (ci := 3) (v := .ref (xa 11)) (C := RX3) (T := TX3) (N := 18) hx hb hts kin_X3_breakRings_X3 hown hK hP 0 rfl rfl 11 (by decide) (hts _ kw_X3_breakRings__fieldLink_RX3_53_ActHouse_waits_LActHouse_Waits_) (fun _ h9 => h9) rfl dX3_breakRings_40 ?_
          refine lv_iload_n hx hb dX3_breakRings_43 rfl (lv_at hl 0 rfl) ?_
          obtain ⟨r8, C8, h8, hq⟩ := k_bd hq
          have hFc := k_free hD hS hA
          refine va_callv (va_runV (As := [.int r4]) (rest := []) ⟨hx, hb, hml, hown, hts⟩ (c_X2_remove (l := l) (D := D) (cI := cI) (cJ := cJ) (cO := cO) (h := h) (xa := xa) (ea0 := ea7) (pa0 := pa7)  (hf := h8)) (cwV 1 hts gX3_breakRings_X2_remove rfl rfl rfl (by decide +kernel) ⟨Nat.le_of_ble_eq_true rfl, Nat.le_of_ble_eq_true rfl⟩) ⟨k_blind, va_recv hK hP (ci := 2) (q0 := 13) rfl rfl, fun U hU hW => ⟨rfl, k_pre hU hW hP hK hD⟩⟩ rfl rfl hl.1 rfl (lv_room (Nat.le_of_ble_eq_true rfl)) dX3_breakRings_44 ⟨by show (7 * (gN C7 - gN C0) + (gE C7 - gE C0) / 256) + 0 ≤ 7 * (80 - gN C0) + (1048576 - gE C0) / 256; omega, by show (108 * (gN C7 - gN C0) + 2 * (gE C7 - gE C0)) + 0 ≤ 108 * (80 - gN C0) + 2 * (1048576 - gE C0); omega⟩) hS (fun q _ h => hFc q h) hFc (fun u t H1 locs ht hvm hw hB hz1 hk1 hS => ?_)
          obtain ⟨rfl, hg8, hh8⟩ := hw
          have hg8 : gN C8 = gN C7 := hg8
          have hh8 : gE C8 = gE C7 := hh8
          refine W.widen (k := (7 * (gN C8 - gN C0) + (gE C8 - gE C0) / 256)) (n := (108 * (gN C8 - gN C0) + 2 * (gE C8 - gE C0))) (by omega) (by omega) ?_
          obtain ⟨hP1, hK1, hD1⟩ := hB
          rw [ht] at hP1
          have hP := hP1
          have hD := k_weak hD1 hFc
          generalize H1 = H at hP hS ⊢
          have hP : va_P D vwCl (cW cI cJ cO h xa ea7 pa7 C8) _ := hP
          have hD : va_D A (cW cI cJ cO h xa ea7 pa7 C8) := hD
          refine lv_iinc (v := v1 + 1) (lv' := [(1, .int (v1 + 1)), (2, .int r4), (0, .ref h)]) hx hb dX3_breakRings_47 hl (k := 2) rfl (by rfl) (by decide) rfl (fun ls hl => ?_)
          refine lv_goto (tgt := 10) hx hb dX3_breakRings_50 (by decide) ?_
          exact ih (v1 + 1) C8 ea7 pa7 _ _ _ hq (by show (gN C0 ≤ gN C8 ∧ gN C8 ≤ 80 ∧ gE C0 ≤ gE C8 ∧ gE C8 ≤ 1048576); omega) hpa hP hD hS (lv_sub hl [2, 0] rfl)
        · skip
          rw [if_pos c5] at hq
          obtain ⟨e2, e3⟩ := k_so hq
          subst hQ
          have hP : va_P D vwCl (cW cI cJ cO h xa ea pa C4) _ := hP
          have hD : va_D A (cW cI cJ cO h xa ea pa C4) := hD
          have hgE := congrArg (fun X : CS => gN X) e3
          have hgE : gN C4 = gN C' := hgE
          have hhE := congrArg (fun X : CS => gE X) e3
          have hhE : gE C4 = gE C' := hhE
          refine k_facts (fun hm1 hm2 hm3 => ?_)
          refine W.widen (k := 7 * (80 - gN C0) + (1048576 - gE C0) / 256) (n := 108 * (80 - gN C0) + 2 * (1048576 - gE C0)) (by omega) (by omega) ?_
          exact W.vret hx hb hr (fun t ht hW => ⟨⟨(cW cI cJ cO h xa ea pa C4, [(cI, .int), (cO, .object RX0), (cJ, .long)]), rfl, ⟨ea, pa, (congrArg (fun X : CS => ((cW cI cJ cO h xa ea pa X, [(cI, .int), (cO, .object RX0), (cJ, .long)]) : va_W × List (ClassId × FieldType))) e3), (by show gN C0 ≤ gN C' ∧ gN C' ≤ 80 ∧ gE C0 ≤ gE C' ∧ gE C' ≤ 1048576; omega), hpa⟩, ⟨⟨by rw [ht]; exact hP, va_K.moved hW.alike hK, hD⟩, by rw [ht]; exact hm3, by rw [ht]; omega, by rw [ht]; omega⟩⟩, hS.F ht⟩) hS.2.2 dX3_breakRings_28
  refine W.widen (k := (7 * (gN C0 - gN C0) + (gE C0 - gE C0) / 256)) (n := (108 * (gN C0 - gN C0) + 2 * (gE C0 - gE C0))) (by omega) (by omega) ?_
  have hpa : ∀ n, n < gN C0 → pa0 n = pa0 n := fun _ _ => rfl
  have hq := hf
  rw [f_X3_breakRings] at hq
  refine lv_aload_n hx hb dX3_breakRings_0 rfl (lv_at hl 0 rfl) ?_
  obtain ⟨q1, C1, h1, hq⟩ := k_bd hq
  have hFc := k_free hD hS hA
  refine va_calli (va_runV (As := []) (rest := []) ⟨hx, hb, hml, hown, hts⟩ (c_X3_drawWaits (l := l) (D := D) (cI := cI) (cJ := cJ) (cO := cO) (h := h) (xa := xa) (ea0 := ea0) (pa0 := pa0)  (hf := h1)) (cwV 0 hts gX3_breakRings_X3_drawWaits rfl rfl rfl (by decide +kernel) ⟨Nat.le_of_ble_eq_true rfl, Nat.le_of_ble_eq_true rfl⟩) ⟨k_blind, va_recv hK hP (ci := 3) (q0 := 0) rfl rfl, fun U hU hW => ⟨rfl, k_pre hU hW hP hK hD⟩⟩ rfl rfl hl.1 rfl (lv_room (Nat.le_of_ble_eq_true rfl)) dX3_breakRings_1 ⟨by show (7 * (gN C0 - gN C0) + (gE C0 - gE C0) / 256) + 0 ≤ 7 * (80 - gN C0) + (1048576 - gE C0) / 256; omega, by show (108 * (gN C0 - gN C0) + 2 * (gE C0 - gE C0)) + 0 ≤ 108 * (80 - gN C0) + 2 * (1048576 - gE C0); omega⟩) hS (fun q _ h => hFc q h) hFc (fun r1 u t H1 locs ht hvm hw hB hz1 hk1 hS => ?_)
  obtain ⟨rfl, rfl, hg1, hh1⟩ := hw
  have hg1 : gN C1 = gN C0 := hg1
  have hh1 : gE C1 = gE C0 := hh1
  refine W.widen (k := (7 * (gN C1 - gN C0) + (gE C1 - gE C0) / 256)) (n := (108 * (gN C1 - gN C0) + 2 * (gE C1 - gE C0))) (by omega) (by omega) ?_
  obtain ⟨hP1, hK1, hD1⟩ := hB
  rw [ht] at hP1
  have hP := hP1
  have hD := k_weak hD1 hFc
  generalize H1 = H at hP hS ⊢
  have hP : va_P D vwCl (cW cI cJ cO h xa ea0 pa0 C1) _ := hP
  have hD : va_D A (cW cI cJ cO h xa ea0 pa0 C1) := hD
  refine lv_if_ne (tgt := 8) hx hb dX3_breakRings_4 (by decide) (fun c2 => ?_) (fun c2 => ?_)
  · skip
    rw [if_neg c2] at hq
    refine lv_iconst (v := 0) hx hb dX3_breakRings_8 (by decide) ?_
    refine lv_istore_n (lv' := [(1, .int 0), (0, .ref h)]) hx hb dX3_breakRings_9 rfl hl (by decide) rfl (fun ls hl => ?_)
    exact B10  200 (0 : Int32) C1 ea0 pa0 _ _ _ hq (by show (gN C0 ≤ gN C1 ∧ gN C1 ≤ 80 ∧ gE C0 ≤ gE C1 ∧ gE C1 ≤ 1048576); omega) hpa hP hD hS (lv_sub hl [1, 0] rfl)
  · skip
    rw [if_pos c2] at hq
    obtain ⟨e2, e3⟩ := k_so hq
    subst hQ
    have hP : va_P D vwCl (cW cI cJ cO h xa ea0 pa0 C1) _ := hP
    have hD : va_D A (cW cI cJ cO h xa ea0 pa0 C1) := hD
    have hgE := congrArg (fun X : CS => gN X) e3
    have hgE : gN C1 = gN C' := hgE
    have hhE := congrArg (fun X : CS => gE X) e3
    have hhE : gE C1 = gE C' := hhE
    refine k_facts (fun hm1 hm2 hm3 => ?_)
    refine W.widen (k := 7 * (80 - gN C0) + (1048576 - gE C0) / 256) (n := 108 * (80 - gN C0) + 2 * (1048576 - gE C0)) (by omega) (by omega) ?_
    exact W.vret hx hb hr (fun t ht hW => ⟨⟨(cW cI cJ cO h xa ea0 pa0 C1, [(cI, .int), (cO, .object RX0), (cJ, .long)]), rfl, ⟨ea0, pa0, (congrArg (fun X : CS => ((cW cI cJ cO h xa ea0 pa0 X, [(cI, .int), (cO, .object RX0), (cJ, .long)]) : va_W × List (ClassId × FieldType))) e3), (by show gN C0 ≤ gN C' ∧ gN C' ≤ 80 ∧ gE C0 ≤ gE C' ∧ gE C' ≤ 1048576; omega), hpa⟩, ⟨⟨by rw [ht]; exact hP, va_K.moved hW.alike hK, hD⟩, by rw [ht]; exact hm3, by rw [ht]; omega, by rw [ht]; omega⟩⟩, hS.F ht⟩) hS.2.2 dX3_breakRings_7
