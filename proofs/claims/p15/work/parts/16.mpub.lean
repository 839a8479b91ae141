set_option maxRecDepth 100000 in
theorem kw_X4_program__fieldLink_RX4_22_ActHouseModel_longs_I_ : (.fieldLink RX4 22 "ActHouseModel" "longs" "[I" : Cond) ∈ wsX4_program := by decide +kernel
set_option maxRecDepth 100000 in
theorem kin_X4_program_X4 : ∀ w ∈ u_ws RX4 TX4 39, w ∈ wsX4_program := by decide +kernel
def f_X4_program (x1 : Int32) (M0 : MS) : Option (Int32 × MS) := (if (f_X4_isProgram x1) = 0 then some ((0 : Int32), M0) else (if 0 ≤ x1.toInt ∧ x1.toInt < 8 then (k_let (mA M0 5 x1.toNatClampNeg (0 : Int32)) fun M4 => some ((1 : Int32), M4)) else none))
set_option maxHeartbeats 4000000 in
set_option maxRecDepth 100000 in
theorem c_X4_program {l : Launch} {D : va_G} {sz : Nat} {cI cZ : ClassId} {h : Nat} {ad : Nat → Nat} {M0 M' : MS} {x1 r' : Int32} (hf : f_X4_program x1 M0 = some (r', M')) : Met l yX4_program wsX4_program ({ frames := 2, cells := 0, slots := 0, locals := 42 }) (va_Pc [.ref h, .int x1] (k_Pre D [(cI, .int), (cZ, .boolean)] (mW cI cZ h ad M0) sz)) (va_Qi (fun (r0 : Int32) (u : va_W × List (ClassId × FieldType)) => r0 = r' ∧ u = (mW cI cZ h ad M', [(cI, .int), (cZ, .boolean)]) ∧ M'.2.2 = M0.2.2) (k_B D (va_A (mW cI cZ h ad M0) sz)) (va_A (mW cI cZ h ad M0) sz)) (0) (0) (va_A (mW cI cZ h ad M0) sz) := by
  refine Met.ofW (cc := cX4_program) (maxL := 2) (ret := (some .boolean)) (by decide) rfl ?_
  intro p e s m args below meth c s₁ B hml hv
  obtain ⟨rfl, hsz, hP, hK, hD0⟩ := hv
  have hx := B.exec
  have hb := B.bytes
  have hr := B.returns
  have hts := atoms_spec (ws := wsX4_program) B.pre
  have hown : s.vm.findClass RX4 = some m.cls := findClass_of_methodNamed B.named
  have hlocks := B.notSynchronized
  subst hsz
  have hD := hD0.self (sz := s.heap.size)
  generalize hAe : va_A (mW cI cZ h ad M0) s.heap.size = A at hD ⊢
  have hA : ∀ q : Nat, s.heap.size ≤ q → A q := fun q h => by rw [← hAe]; exact Or.inr h
  have hS : va_S A s.heap s.heap [] := va_S.rf
  have hl := lv_entry ([.ref h, .int x1]) (n := 2) (Nat.le_of_ble_eq_true rfl)
  rw [lg_entry_eq]
  generalize (lg_sl ([.ref h, .int x1]) ++ List.replicate (2 - (lg_sl ([.ref h, .int x1])).length) Slot.unset).toArray = ls at hl ⊢
  have hl : lv_has ls 2 [(0, .ref h), (1, .int x1)] := hl
  refine k_Q (fun Q hQ => ?_)
  have hq := hf
  rw [f_X4_program] at hq
  refine lv_iload_n hx hb dX4_program_0 rfl (lv_at hl 1 rfl) ?_
  have hFc := k_free hD hS hA
  refine va_calli (va_runS (As := [.int x1]) (rest := []) ⟨hx, hb, hml, hown, hts⟩ (c_X4_isProgram (l := l) (D := D) (cI := cI) (cZ := cZ) (h := h) (ad := ad) (M0 := M0) (hf := rfl)) (va_cwS 1 hts gX4_program_X4_isProgram rfl rfl rfl (by decide +kernel) ⟨Nat.le_of_ble_eq_true rfl, Nat.le_of_ble_eq_true rfl⟩) ⟨k_blind, fun U hU hW => ⟨rfl, k_pre hU hW hP hK hD⟩⟩ rfl rfl hl.1 rfl (lv_room (Nat.le_of_ble_eq_true rfl)) dX4_program_1 ⟨by decide, by decide⟩) hS (fun q _ h => hFc q h) hFc (fun r1 u t H1 locs ht hvm hw hB hz1 hk1 hS => ?_)
  obtain ⟨rfl, rfl⟩ := hw
  refine W.widen (k := 0) (n := 0) (Nat.le_refl _) (Nat.le_refl _) ?_
  obtain ⟨hP1, hK1, hD1⟩ := hB
  rw [ht] at hP1
  have hP := hP1
  have hD := k_weak hD1 hFc
  generalize H1 = H at hP hS ⊢
  have hP : va_P D vwCl (mW cI cZ h ad M0) _ := hP
  have hD : va_D A (mW cI cZ h ad M0) := hD
  refine lv_if_ne (tgt := 9) hx hb dX4_program_4 (by decide) (fun c2 => ?_) (fun c2 => ?_)
  · skip
    rw [if_neg c2] at hq
    refine lv_aload_n hx hb dX4_program_9 rfl (lv_at hl 0 rfl) ?_
    refine va_get (D := D) (ci := 4) (v := .ref (ad 5)) (C := RX4) (T := TX4) (N := 39) hx hb hts kin_X4_program_X4 hown hK hP 0 rfl rfl 5 (by decide) (hts _ kw_X4_program__fieldLink_RX4_22_ActHouseModel_longs_I_) (fun _ h9 => h9) rfl dX4_program_10 ?_
    refine lv_iload_n hx hb dX4_program_13 rfl (lv_at hl 1 rfl) ?_
    refine lv_iconst (v := 0) hx hb dX4_program_14 (by decide) ?_
    obtain ⟨b3, hq⟩ := k_if hq
    refine va_iast hx hb hK hP hD hS 5 0 (f := (M0.2.1 5)) rfl rfl (x := 0) (k_in b3.1 b3.2) dX4_program_15 (fun H locs hP hD hS => ?_)
    obtain ⟨M4, eM4, hg4, hq⟩ := k_lA hq
    rw [mW_A5, ← eM4] at hP hD
    have hP : va_P D vwCl (mW cI cZ h ad M4) _ := hP
    have hD : va_D A (mW cI cZ h ad M4) := hD
    refine lv_iconst (v := 1) hx hb dX4_program_16 (by decide) ?_
    obtain ⟨e2, e3⟩ := k_so hq
    subst hQ
    have hP : va_P D vwCl (mW cI cZ h ad M4) _ := hP
    have hD : va_D A (mW cI cZ h ad M4) := hD
    refine W.widen (k := 0) (n := 0) (by decide) (by decide) ?_
    have hgE := congrArg (fun X : MS => X.2.2) e3
    have hgE : M4.2.2 = M'.2.2 := hgE
    exact W.zret (v := 1) hx hb hr (by decide) (fun t ht hW => ⟨⟨1, (mW cI cZ h ad M4, [(cI, .int), (cZ, .boolean)]), rfl, ⟨e2, (congrArg (fun X : MS => ((mW cI cZ h ad X, [(cI, .int), (cZ, .boolean)]) : va_W × List (ClassId × FieldType))) e3), by omega⟩, ⟨by rw [ht]; exact hP, va_K.moved hW.alike hK, hD⟩⟩, hS.F ht⟩) hS.2.2 dX4_program_17
  · skip
    rw [if_pos c2] at hq
    refine lv_iconst (v := 0) hx hb dX4_program_7 (by decide) ?_
    obtain ⟨e2, e3⟩ := k_so hq
    subst hQ
    have hP : va_P D vwCl (mW cI cZ h ad M0) _ := hP
    have hD : va_D A (mW cI cZ h ad M0) := hD
    refine W.widen (k := 0) (n := 0) (by decide) (by decide) ?_
    have hgE := congrArg (fun X : MS => X.2.2) e3
    have hgE : M0.2.2 = M'.2.2 := hgE
    exact W.zret (v := 0) hx hb hr (by decide) (fun t ht hW => ⟨⟨0, (mW cI cZ h ad M0, [(cI, .int), (cZ, .boolean)]), rfl, ⟨e2, (congrArg (fun X : MS => ((mW cI cZ h ad X, [(cI, .int), (cZ, .boolean)]) : va_W × List (ClassId × FieldType))) e3), by omega⟩, ⟨by rw [ht]; exact hP, va_K.moved hW.alike hK, hD⟩⟩, hS.F ht⟩) hS.2.2 dX4_program_8
set_option maxRecDepth 100000 in
theorem kw_X4_step__fieldLink_RX4_22_ActHouseModel_longs_I_ : (.fieldLink RX4 22 "ActHouseModel" "longs" "[I" : Cond) ∈ wsX4_step := by decide +kernel
set_option maxRecDepth 100000 in
theorem kin_X4_step_X4 : ∀ w ∈ u_ws RX4 TX4 39, w ∈ wsX4_step := by decide +kernel
set_option maxRecDepth 100000 in
theorem kw_X4_step__fieldLink_RX4_25_ActHouseModel_steps_I_ : (.fieldLink RX4 25 "ActHouseModel" "steps" "[I" : Cond) ∈ wsX4_step := by decide +kernel
def f_X4_step_98  (v1 : Int32) (v2 : Int32)  (M : MS) : Option (Int32 × MS) := (if 0 ≤ v1.toInt ∧ v1.toInt < 8 then (if 0 ≤ ((12 * v1) + ((M.2.1 5) v1.toNatClampNeg)).toInt ∧ ((12 * v1) + ((M.2.1 5) v1.toNatClampNeg)).toInt < 96 then (k_let (mA M 6 (((12 * v1) + ((M.2.1 5) v1.toNatClampNeg)).toNatClampNeg) v2) fun M13 => (k_let (mA M13 5 v1.toNatClampNeg (((M13.2.1 5) v1.toNatClampNeg) + 1)) fun M14 => some (((M14.2.1 5) v1.toNatClampNeg), M14))) else none) else none)
def f_X4_step_83  (v1 : Int32) (v2 : Int32) (v3 : Int32) (v4 : Int32)  (M : MS) : Option (Int32 × MS) := (if v3 = 7 then (if v4 < 8 then f_X4_step_98  v1 v2 M else some (((-1) : Int32), M)) else f_X4_step_98  v1 v2 M)
def f_X4_step_70  (v1 : Int32) (v2 : Int32) (v3 : Int32) (v4 : Int32)  (M : MS) : Option (Int32 × MS) := (if v3 = 6 then (if 8 ≤ v4 then some (((-1) : Int32), M) else f_X4_step_83  v1 v2 v3 v4 M) else f_X4_step_83  v1 v2 v3 v4 M)
def f_X4_step_63  (v1 : Int32) (v2 : Int32) (v3 : Int32) (v4 : Int32)  (M : MS) : Option (Int32 × MS) := (if 24 ≤ v4 then some (((-1) : Int32), M) else f_X4_step_70  v1 v2 v3 v4 M)
def f_X4_step (x1 : Int32) (x2 : Int32) (M0 : MS) : Option (Int32 × MS) := (if (f_X4_isProgram x1) = 0 then some (((-1) : Int32), M0) else (if 0 ≤ x1.toInt ∧ x1.toInt < 8 then (if ((M0.2.1 5) x1.toNatClampNeg) = 12 then some (((-1) : Int32), M0) else (if x2 < 0 then some (((-1) : Int32), M0) else (if (x2 / 10000) ≤ 8 then (if (x2 / 10000) = 0 then f_X4_step_63  x1 x2 (x2 / 10000) ((x2 / 100) - (x2 / 100) / 100 * 100) M0 else (if (x2 / 10000) = 3 then f_X4_step_63  x1 x2 (x2 / 10000) ((x2 / 100) - (x2 / 100) / 100 * 100) M0 else (if (x2 / 10000) = 4 then f_X4_step_63  x1 x2 (x2 / 10000) ((x2 / 100) - (x2 / 100) / 100 * 100) M0 else f_X4_step_70  x1 x2 (x2 / 10000) ((x2 / 100) - (x2 / 100) / 100 * 100) M0))) else some (((-1) : Int32), M0)))) else none))
set_option maxHeartbeats 4000000 in
set_option maxRecDepth 100000 in
theorem c_X4_step {l : Launch} {D : va_G} {sz : Nat} {cI cZ : ClassId} {h : Nat} {ad : Nat → Nat} {M0 M' : MS} {x1 x2 r' : Int32} (hf : f_X4_step x1 x2 M0 = some (r', M')) : Met l yX4_step wsX4_step ({ frames := 2, cells := 0, slots := 0, locals := 42 }) (va_Pc [.ref h, .int x1, .int x2] (k_Pre D [(cI, .int), (cZ, .boolean)] (mW cI cZ h ad M0) sz)) (va_Qi (fun (r0 : Int32) (u : va_W × List (ClassId × FieldType)) => r0 = r' ∧ u = (mW cI cZ h ad M', [(cI, .int), (cZ, .boolean)]) ∧ M'.2.2 = M0.2.2) (k_B D (va_A (mW cI cZ h ad M0) sz)) (va_A (mW cI cZ h ad M0) sz)) (0) (0) (va_A (mW cI cZ h ad M0) sz) := by
  refine Met.ofW (cc := cX4_step) (maxL := 5) (ret := (some .int)) (by decide) rfl ?_
  intro p e s m args below meth c s₁ B hml hv
  obtain ⟨rfl, hsz, hP, hK, hD0⟩ := hv
  have hx := B.exec
  have hb := B.bytes
  have hr := B.returns
  have hts := atoms_spec (ws := wsX4_step) B.pre
  have hown : s.vm.findClass RX4 = some m.cls := findClass_of_methodNamed B.named
  have hlocks := B.notSynchronized
  subst hsz
  have hD := hD0.self (sz := s.heap.size)
  generalize hAe : va_A (mW cI cZ h ad M0) s.heap.size = A at hD ⊢
  have hA : ∀ q : Nat, s.heap.size ≤ q → A q := fun q h => by rw [← hAe]; exact Or.inr h
  have hS : va_S A s.heap s.heap [] := va_S.rf
  have hl := lv_entry ([.ref h, .int x1, .int x2]) (n := 5) (Nat.le_of_ble_eq_true rfl)
  rw [lg_entry_eq]
  generalize (lg_sl ([.ref h, .int x1, .int x2]) ++ List.replicate (5 - (lg_sl ([.ref h, .int x1, .int x2])).length) Slot.unset).toArray = ls at hl ⊢
  have hl : lv_has ls 5 [(0, .ref h), (1, .int x1), (2, .int x2)] := hl
  refine k_Q (fun Q hQ => ?_)
  have B98 : ∀ (v1 : Int32) (v2 : Int32)  (M : MS)  (H : Heap) (locs : List Loc) (ls : Array Slot), f_X4_step_98 v1 v2 M = some (r', M') → M.2.2 = M0.2.2 → va_P D vwCl (mW cI cZ h ad M) H → va_D A (mW cI cZ h ad M) → va_S A s.heap H locs → lv_has ls 5 [(0, .ref h), (1, .int v1), (2, .int v2)] → W p l e (headSpec wsX4_step ({ frames := 2, cells := 0, slots := 0, locals := 42 })).room s m ([.ref h, .int x1, .int x2] : List Value).toArray below meth c H locs (0) (0) Q (F0 m 98 ls []) := by
    intro v1 v2  M  H locs ls hq hg hP hD hS hl
    rw [f_X4_step_98] at hq
    refine lv_aload_n hx hb dX4_step_98 rfl (lv_at hl 0 rfl) ?_
    refine va_get (D := D) (ci := 4) (v := .ref (ad 6)) (C := RX4) (T := TX4) (N := 39) hx hb hts kin_X4_step_X4 hown hK hP 0 rfl rfl 6 (by decide) (hts _ kw_X4_step__fieldLink_RX4_25_ActHouseModel_steps_I_) (fun _ h9 => h9) rfl dX4_step_99 ?_
    refine lv_bipush (v := 12) hx hb dX4_step_102 (by decide) ?_
    refine lv_iload_n hx hb dX4_step_104 rfl (lv_at hl 1 rfl) ?_
    refine lv_imul hx hb dX4_step_105 ?_
    refine lv_aload_n hx hb dX4_step_106 rfl (lv_at hl 0 rfl) ?_
    refine va_get (D := D) (ci := 4) (v := .ref (ad 5)) (C := RX4) (T := TX4) (N := 39) hx hb hts kin_X4_step_X4 hown hK hP 0 rfl rfl 5 (by decide) (hts _ kw_X4_step__fieldLink_RX4_22_ActHouseModel_longs_I_) (fun _ h9 => h9) rfl dX4_step_107 ?_
    refine lv_iload_n hx hb dX4_step_110 rfl (lv_at hl 1 rfl) ?_
    obtain ⟨b11, hq⟩ := k_if hq
    refine va_iald hx hb hK hP 5 0 (f := (M.2.1 5)) rfl rfl (k_in b11.1 b11.2) dX4_step_111 ?_
    refine lv_iadd hx hb dX4_step_112 ?_
    refine lv_iload_n hx hb dX4_step_113 rfl (lv_at hl 2 rfl) ?_
    obtain ⟨b12, hq⟩ := k_if hq
    refine va_iast hx hb hK hP hD hS 6 0 (f := (M.2.1 6)) rfl rfl (x := v2) (k_in b12.1 b12.2) dX4_step_114 (fun H locs hP hD hS => ?_)
    obtain ⟨M13, eM13, hg13, hq⟩ := k_lA hq
    rw [mW_A6, ← eM13] at hP hD
    have hP : va_P D vwCl (mW cI cZ h ad M13) _ := hP
    have hD : va_D A (mW cI cZ h ad M13) := hD
    refine lv_aload_n hx hb dX4_step_115 rfl (lv_at hl 0 rfl) ?_
    refine va_get (D := D) (ci := 4) (v := .ref (ad 5)) (C := RX4) (T := TX4) (N := 39) hx hb hts kin_X4_step_X4 hown hK hP 0 rfl rfl 5 (by decide) (hts _ kw_X4_step__fieldLink_RX4_22_ActHouseModel_longs_I_) (fun _ h9 => h9) rfl dX4_step_116 ?_
    refine lv_iload_n hx hb dX4_step_119 rfl (lv_at hl 1 rfl) ?_
    refine lv_dup2_11 hx hb dX4_step_120 rfl rfl ?_
    refine va_iald hx hb hK hP 5 0 (f := (M13.2.1 5)) rfl rfl (k_in b11.1 b11.2) dX4_step_121 ?_
    refine lv_iconst (v := 1) hx hb dX4_step_122 (by decide) ?_
    refine lv_iadd hx hb dX4_step_123 ?_
    refine va_iast hx hb hK hP hD hS 5 0 (f := (M13.2.1 5)) rfl rfl (x := (((M13.2.1 5) v1.toNatClampNeg) + 1)) (k_in b11.1 b11.2) dX4_step_124 (fun H locs hP hD hS => ?_)
    obtain ⟨M14, eM14, hg14, hq⟩ := k_lA hq
    rw [mW_A5, ← eM14] at hP hD
    have hP : va_P D vwCl (mW cI cZ h ad M14) _ := hP
    have hD : va_D A (mW cI cZ h ad M14) := hD
    refine lv_aload_n hx hb dX4_step_125 rfl (lv_at hl 0 rfl) ?_
    refine va_get (D := D) (ci := 4) (v := .ref (ad 5)) (C := RX4) (T := TX4) (N := 39) hx hb hts kin_X4_step_X4 hown hK hP 0 rfl rfl 5 (by decide) (hts _ kw_X4_step__fieldLink_RX4_22_ActHouseModel_longs_I_) (fun _ h9 => h9) rfl dX4_step_126 ?_
    refine lv_iload_n hx hb dX4_step_129 rfl (lv_at hl 1 rfl) ?_
    refine va_iald hx hb hK hP 5 0 (f := (M14.2.1 5)) rfl rfl (k_in b11.1 b11.2) dX4_step_130 ?_
    obtain ⟨e2, e3⟩ := k_so hq
    subst hQ
    have hP : va_P D vwCl (mW cI cZ h ad M14) _ := hP
    have hD : va_D A (mW cI cZ h ad M14) := hD
    refine W.widen (k := 0) (n := 0) (by decide) (by decide) ?_
    have hgE := congrArg (fun X : MS => X.2.2) e3
    have hgE : M14.2.2 = M'.2.2 := hgE
    exact W.iret (v := (M14.2.1 5) v1.toNatClampNeg) hx hb hr (fun t ht hW => ⟨⟨(M14.2.1 5) v1.toNatClampNeg, (mW cI cZ h ad M14, [(cI, .int), (cZ, .boolean)]), rfl, ⟨e2, (congrArg (fun X : MS => ((mW cI cZ h ad X, [(cI, .int), (cZ, .boolean)]) : va_W × List (ClassId × FieldType))) e3), by omega⟩, ⟨by rw [ht]; exact hP, va_K.moved hW.alike hK, hD⟩⟩, hS.F ht⟩) hS.2.2 dX4_step_131
  have B83 : ∀ (v1 : Int32) (v2 : Int32) (v3 : Int32) (v4 : Int32)  (M : MS)  (H : Heap) (locs : List Loc) (ls : Array Slot), f_X4_step_83 v1 v2 v3 v4 M = some (r', M') → M.2.2 = M0.2.2 → va_P D vwCl (mW cI cZ h ad M) H → va_D A (mW cI cZ h ad M) → va_S A s.heap H locs → lv_has ls 5 [(0, .ref h), (1, .int v1), (2, .int v2), (3, .int v3), (4, .int v4)] → W p l e (headSpec wsX4_step ({ frames := 2, cells := 0, slots := 0, locals := 42 })).room s m ([.ref h, .int x1, .int x2] : List Value).toArray below meth c H locs (0) (0) Q (F0 m 83 ls []) := by
    intro v1 v2 v3 v4  M  H locs ls hq hg hP hD hS hl
    rw [f_X4_step_83] at hq
    refine lv_iload_n hx hb dX4_step_83 rfl (lv_at hl 3 rfl) ?_
    refine lv_bipush (v := 7) hx hb dX4_step_84 (by decide) ?_
    refine lv_icmp_ne (tgt := 98) hx hb dX4_step_86 (by decide) (fun c10 => ?_) (fun c10 => ?_)
    · skip
      rw [if_neg c10] at hq
      exact B98  v1 v2 M  _ _ _ hq (by show M.2.2 = M0.2.2; omega) hP hD hS (lv_sub hl [0, 1, 2] rfl)
    · skip
      rw [if_pos c10] at hq
      refine lv_iload hx hb dX4_step_89 (lv_at hl 4 rfl) ?_
      refine lv_bipush (v := 8) hx hb dX4_step_91 (by decide) ?_
      refine lv_icmp_lt (tgt := 98) hx hb dX4_step_93 (by decide) (fun c15 => ?_) (fun c15 => ?_)
      · skip
        rw [if_pos c15] at hq
        exact B98  v1 v2 M  _ _ _ hq (by show M.2.2 = M0.2.2; omega) hP hD hS (lv_sub hl [0, 1, 2] rfl)
      · skip
        rw [if_neg c15] at hq
        refine lv_iconst (v := (-1)) hx hb dX4_step_96 (by decide) ?_
        obtain ⟨e2, e3⟩ := k_so hq
        subst hQ
        have hP : va_P D vwCl (mW cI cZ h ad M) _ := hP
        have hD : va_D A (mW cI cZ h ad M) := hD
        refine W.widen (k := 0) (n := 0) (by decide) (by decide) ?_
        have hgE := congrArg (fun X : MS => X.2.2) e3
        have hgE : M.2.2 = M'.2.2 := hgE
        exact W.iret (v := (-1)) hx hb hr (fun t ht hW => ⟨⟨(-1), (mW cI cZ h ad M, [(cI, .int), (cZ, .boolean)]), rfl, ⟨e2, (congrArg (fun X : MS => ((mW cI cZ h ad X, [(cI, .int), (cZ, .boolean)]) : va_W × List (ClassId × FieldType))) e3), by omega⟩, ⟨by rw [ht]; exact hP, va_K.moved hW.alike hK, hD⟩⟩, hS.F ht⟩) hS.2.2 dX4_step_97
  have B70 : ∀ (v1 : Int32) (v2 : Int32) (v3 : Int32) (v4 : Int32)  (M : MS)  (H : Heap) (locs : List Loc) (ls : Array Slot), f_X4_step_70 v1 v2 v3 v4 M = some (r', M') → M.2.2 = M0.2.2 → va_P D vwCl (mW cI cZ h ad M) H → va_D A (mW cI cZ h ad M) → va_S A s.heap H locs → lv_has ls 5 [(0, .ref h), (1, .int v1), (2, .int v2), (3, .int v3), (4, .int v4)] → W p l e (headSpec wsX4_step ({ frames := 2, cells := 0, slots := 0, locals := 42 })).room s m ([.ref h, .int x1, .int x2] : List Value).toArray below meth c H locs (0) (0) Q (F0 m 70 ls []) := by
    intro v1 v2 v3 v4  M  H locs ls hq hg hP hD hS hl
    rw [f_X4_step_70] at hq
    refine lv_iload_n hx hb dX4_step_70 rfl (lv_at hl 3 rfl) ?_
    refine lv_bipush (v := 6) hx hb dX4_step_71 (by decide) ?_
    refine lv_icmp_ne (tgt := 83) hx hb dX4_step_73 (by decide) (fun c9 => ?_) (fun c9 => ?_)
    · skip
      rw [if_neg c9] at hq
      exact B83  v1 v2 v3 v4 M  _ _ _ hq (by show M.2.2 = M0.2.2; omega) hP hD hS (lv_sub hl [0, 1, 2, 3, 4] rfl)
    · skip
      rw [if_pos c9] at hq
      refine lv_iload hx hb dX4_step_76 (lv_at hl 4 rfl) ?_
      refine lv_bipush (v := 8) hx hb dX4_step_78 (by decide) ?_
      refine lv_icmp_ge (tgt := 96) hx hb dX4_step_80 (by decide) (fun c16 => ?_) (fun c16 => ?_)
      · skip
        rw [if_pos c16] at hq
        refine lv_iconst (v := (-1)) hx hb dX4_step_96 (by decide) ?_
        obtain ⟨e2, e3⟩ := k_so hq
        subst hQ
        have hP : va_P D vwCl (mW cI cZ h ad M) _ := hP
        have hD : va_D A (mW cI cZ h ad M) := hD
        refine W.widen (k := 0) (n := 0) (by decide) (by decide) ?_
        have hgE := congrArg (fun X : MS => X.2.2) e3
        have hgE : M.2.2 = M'.2.2 := hgE
        exact W.iret (v := (-1)) hx hb hr (fun t ht hW => ⟨⟨(-1), (mW cI cZ h ad M, [(cI, .int), (cZ, .boolean)]), rfl, ⟨e2, (congrArg (fun X : MS => ((mW cI cZ h ad X, [(cI, .int), (cZ, .boolean)]) : va_W × List (ClassId × FieldType))) e3), by omega⟩, ⟨by rw [ht]; exact hP, va_K.moved hW.alike hK, hD⟩⟩, hS.F ht⟩) hS.2.2 dX4_step_97
      · skip
        rw [if_neg c16] at hq
        exact B83  v1 v2 v3 v4 M  _ _ _ hq (by show M.2.2 = M0.2.2; omega) hP hD hS (lv_sub hl [0, 1, 2, 3, 4] rfl)
  have B63 : ∀ (v1 : Int32) (v2 : Int32) (v3 : Int32) (v4 : Int32)  (M : MS)  (H : Heap) (locs : List Loc) (ls : Array Slot), f_X4_step_63 v1 v2 v3 v4 M = some (r', M') → M.2.2 = M0.2.2 → va_P D vwCl (mW cI cZ h ad M) H → va_D A (mW cI cZ h ad M) → va_S A s.heap H locs → lv_has ls 5 [(0, .ref h), (1, .int v1), (2, .int v2), (3, .int v3), (4, .int v4)] → W p l e (headSpec wsX4_step ({ frames := 2, cells := 0, slots := 0, locals := 42 })).room s m ([.ref h, .int x1, .int x2] : List Value).toArray below meth c H locs (0) (0) Q (F0 m 63 ls []) := by
    intro v1 v2 v3 v4  M  H locs ls hq hg hP hD hS hl
    rw [f_X4_step_63] at hq
    refine lv_iload hx hb dX4_step_63 (lv_at hl 4 rfl) ?_
    refine lv_bipush (v := 24) hx hb dX4_step_65 (by decide) ?_
    refine lv_icmp_ge (tgt := 96) hx hb dX4_step_67 (by decide) (fun c8 => ?_) (fun c8 => ?_)
    · skip
      rw [if_pos c8] at hq
      refine lv_iconst (v := (-1)) hx hb dX4_step_96 (by decide) ?_
      obtain ⟨e2, e3⟩ := k_so hq
      subst hQ
      have hP : va_P D vwCl (mW cI cZ h ad M) _ := hP
      have hD : va_D A (mW cI cZ h ad M) := hD
      refine W.widen (k := 0) (n := 0) (by decide) (by decide) ?_
      have hgE := congrArg (fun X : MS => X.2.2) e3
      have hgE : M.2.2 = M'.2.2 := hgE
      exact W.iret (v := (-1)) hx hb hr (fun t ht hW => ⟨⟨(-1), (mW cI cZ h ad M, [(cI, .int), (cZ, .boolean)]), rfl, ⟨e2, (congrArg (fun X : MS => ((mW cI cZ h ad X, [(cI, .int), (cZ, .boolean)]) : va_W × List (ClassId × FieldType))) e3), by omega⟩, ⟨by rw [ht]; exact hP, va_K.moved hW.alike hK, hD⟩⟩, hS.F ht⟩) hS.2.2 dX4_step_97
    · skip
      rw [if_neg c8] at hq
      exact B70  v1 v2 v3 v4 M  _ _ _ hq (by show M.2.2 = M0.2.2; omega) hP hD hS (lv_sub hl [0, 1, 2, 3, 4] rfl)
  have hq := hf
  rw [f_X4_step] at hq
  refine lv_iload_n hx hb dX4_step_0 rfl (lv_at hl 1 rfl) ?_
  have hFc := k_free hD hS hA
  refine va_calli (va_runS (As := [.int x1]) (rest := []) ⟨hx, hb, hml, hown, hts⟩ (c_X4_isProgram (l := l) (D := D) (cI := cI) (cZ := cZ) (h := h) (ad := ad) (M0 := M0) (hf := rfl)) (va_cwS 1 hts gX4_step_X4_isProgram rfl rfl rfl (by decide +kernel) ⟨Nat.le_of_ble_eq_true rfl, Nat.le_of_ble_eq_true rfl⟩) ⟨k_blind, fun U hU hW => ⟨rfl, k_pre hU hW hP hK hD⟩⟩ rfl rfl hl.1 rfl (lv_room (Nat.le_of_ble_eq_true rfl)) dX4_step_1 ⟨by decide, by decide⟩) hS (fun q _ h => hFc q h) hFc (fun r1 u t H1 locs ht hvm hw hB hz1 hk1 hS => ?_)
  obtain ⟨rfl, rfl⟩ := hw
  refine W.widen (k := 0) (n := 0) (Nat.le_refl _) (Nat.le_refl _) ?_
  obtain ⟨hP1, hK1, hD1⟩ := hB
  rw [ht] at hP1
  have hP := hP1
  have hD := k_weak hD1 hFc
  generalize H1 = H at hP hS ⊢
  have hP : va_P D vwCl (mW cI cZ h ad M0) _ := hP
  have hD : va_D A (mW cI cZ h ad M0) := hD
  refine lv_if_eq (tgt := 32) hx hb dX4_step_4 (by decide) (fun c2 => ?_) (fun c2 => ?_)
  · skip
    rw [if_pos c2] at hq
    refine lv_iconst (v := (-1)) hx hb dX4_step_32 (by decide) ?_
    obtain ⟨e2, e3⟩ := k_so hq
    subst hQ
    have hP : va_P D vwCl (mW cI cZ h ad M0) _ := hP
    have hD : va_D A (mW cI cZ h ad M0) := hD
    refine W.widen (k := 0) (n := 0) (by decide) (by decide) ?_
    have hgE := congrArg (fun X : MS => X.2.2) e3
    have hgE : M0.2.2 = M'.2.2 := hgE
    exact W.iret (v := (-1)) hx hb hr (fun t ht hW => ⟨⟨(-1), (mW cI cZ h ad M0, [(cI, .int), (cZ, .boolean)]), rfl, ⟨e2, (congrArg (fun X : MS => ((mW cI cZ h ad X, [(cI, .int), (cZ, .boolean)]) : va_W × List (ClassId × FieldType))) e3), by omega⟩, ⟨by rw [ht]; exact hP, va_K.moved hW.alike hK, hD⟩⟩, hS.F ht⟩) hS.2.2 dX4_step_33
  · skip
    rw [if_neg c2] at hq
    refine lv_aload_n hx hb dX4_step_7 rfl (lv_at hl 0 rfl) ?_
    refine va_get (D := D) (ci := 4) (v := .ref (ad 5)) (C := RX4) (T := TX4) (N := 39) hx hb hts kin_X4_step_X4 hown hK hP 0 rfl rfl 5 (by decide) (hts _ kw_X4_step__fieldLink_RX4_22_ActHouseModel_longs_I_) (fun _ h9 => h9) rfl dX4_step_8 ?_
    refine lv_iload_n hx hb dX4_step_11 rfl (lv_at hl 1 rfl) ?_
    obtain ⟨b3, hq⟩ := k_if hq
    refine va_iald hx hb hK hP 5 0 (f := (M0.2.1 5)) rfl rfl (k_in b3.1 b3.2) dX4_step_12 ?_
    refine lv_bipush (v := 12) hx hb dX4_step_13 (by decide) ?_
    refine lv_icmp_eq (tgt := 32) hx hb dX4_step_15 (by decide) (fun c4 => ?_) (fun c4 => ?_)
    · skip
      rw [if_pos c4] at hq
      refine lv_iconst (v := (-1)) hx hb dX4_step_32 (by decide) ?_
      obtain ⟨e2, e3⟩ := k_so hq
      subst hQ
      have hP : va_P D vwCl (mW cI cZ h ad M0) _ := hP
      have hD : va_D A (mW cI cZ h ad M0) := hD
      refine W.widen (k := 0) (n := 0) (by decide) (by decide) ?_
      have hgE := congrArg (fun X : MS => X.2.2) e3
      have hgE : M0.2.2 = M'.2.2 := hgE
      exact W.iret (v := (-1)) hx hb hr (fun t ht hW => ⟨⟨(-1), (mW cI cZ h ad M0, [(cI, .int), (cZ, .boolean)]), rfl, ⟨e2, (congrArg (fun X : MS => ((mW cI cZ h ad X, [(cI, .int), (cZ, .boolean)]) : va_W × List (ClassId × FieldType))) e3), by omega⟩, ⟨by rw [ht]; exact hP, va_K.moved hW.alike hK, hD⟩⟩, hS.F ht⟩) hS.2.2 dX4_step_33
    · skip
      rw [if_neg c4] at hq
      refine lv_iload_n hx hb dX4_step_18 rfl (lv_at hl 2 rfl) ?_
      refine lv_if_lt (tgt := 32) hx hb dX4_step_19 (by decide) (fun c5 => ?_) (fun c5 => ?_)
      · skip
        rw [if_pos c5] at hq
        refine lv_iconst (v := (-1)) hx hb dX4_step_32 (by decide) ?_
        obtain ⟨e2, e3⟩ := k_so hq
        subst hQ
        have hP : va_P D vwCl (mW cI cZ h ad M0) _ := hP
        have hD : va_D A (mW cI cZ h ad M0) := hD
        refine W.widen (k := 0) (n := 0) (by decide) (by decide) ?_
        have hgE := congrArg (fun X : MS => X.2.2) e3
        have hgE : M0.2.2 = M'.2.2 := hgE
        exact W.iret (v := (-1)) hx hb hr (fun t ht hW => ⟨⟨(-1), (mW cI cZ h ad M0, [(cI, .int), (cZ, .boolean)]), rfl, ⟨e2, (congrArg (fun X : MS => ((mW cI cZ h ad X, [(cI, .int), (cZ, .boolean)]) : va_W × List (ClassId × FieldType))) e3), by omega⟩, ⟨by rw [ht]; exact hP, va_K.moved hW.alike hK, hD⟩⟩, hS.F ht⟩) hS.2.2 dX4_step_33
      · skip
        rw [if_neg c5] at hq
        refine lv_iload_n hx hb dX4_step_22 rfl (lv_at hl 2 rfl) ?_
        refine lv_sipush (v := 10000) hx hb dX4_step_23 (by decide) ?_
        refine lv_idiv hx hb dX4_step_26 (by decide) ?_
        refine lv_bipush (v := 8) hx hb dX4_step_27 (by decide) ?_
        refine lv_icmp_le (tgt := 34) hx hb dX4_step_29 (by decide) (fun c6 => ?_) (fun c6 => ?_)
        · skip
          rw [if_pos c6] at hq
          refine lv_iload_n hx hb dX4_step_34 rfl (lv_at hl 2 rfl) ?_
          refine lv_sipush (v := 10000) hx hb dX4_step_35 (by decide) ?_
          refine lv_idiv hx hb dX4_step_38 (by decide) ?_
          refine lv_istore_n (lv' := [(3, .int (x2 / 10000)), (0, .ref h), (1, .int x1), (2, .int x2)]) hx hb dX4_step_39 rfl hl (by decide) rfl (fun ls hl => ?_)
          refine lv_iload_n hx hb dX4_step_40 rfl (lv_at hl 3 rfl) ?_
          refine lv_bipush (v := 100) hx hb dX4_step_41 (by decide) ?_
          refine lv_idiv hx hb dX4_step_43 (by decide) ?_
          refine lv_bipush (v := 100) hx hb dX4_step_44 (by decide) ?_
          refine lv_irem hx hb dX4_step_46 (by decide) ?_
          refine lv_istore (lv' := [(4, .int ((x2 / 100) - (x2 / 100) / 100 * 100)), (3, .int (x2 / 10000)), (0, .ref h), (1, .int x1), (2, .int x2)]) hx hb dX4_step_47 hl (by decide) rfl (fun ls hl => ?_)
          refine lv_iload_n hx hb dX4_step_49 rfl (lv_at hl 1 rfl) ?_
          refine lv_if_eq (tgt := 63) hx hb dX4_step_50 (by decide) (fun c7 => ?_) (fun c7 => ?_)
          · skip
            rw [if_pos c7] at hq
            exact B63  x1 x2 (x2 / 10000) ((x2 / 100) - (x2 / 100) / 100 * 100) M0  _ _ _ hq (by show M0.2.2 = M0.2.2; omega) hP hD hS (lv_sub hl [2, 3, 4, 1, 0] rfl)
          · skip
            rw [if_neg c7] at hq
            refine lv_iload_n hx hb dX4_step_53 rfl (lv_at hl 1 rfl) ?_
            refine lv_iconst (v := 3) hx hb dX4_step_54 (by decide) ?_
            refine lv_icmp_eq (tgt := 63) hx hb dX4_step_55 (by decide) (fun c17 => ?_) (fun c17 => ?_)
            · skip
              rw [if_pos c17] at hq
              exact B63  x1 x2 (x2 / 10000) ((x2 / 100) - (x2 / 100) / 100 * 100) M0  _ _ _ hq (by show M0.2.2 = M0.2.2; omega) hP hD hS (lv_sub hl [2, 3, 4, 1, 0] rfl)
            · skip
              rw [if_neg c17] at hq
              refine lv_iload_n hx hb dX4_step_58 rfl (lv_at hl 1 rfl) ?_
              refine lv_iconst (v := 4) hx hb dX4_step_59 (by decide) ?_
              refine lv_icmp_ne (tgt := 70) hx hb dX4_step_60 (by decide) (fun c18 => ?_) (fun c18 => ?_)
              · skip
                rw [if_neg c18] at hq
                exact B70  x1 x2 (x2 / 10000) ((x2 / 100) - (x2 / 100) / 100 * 100) M0  _ _ _ hq (by show M0.2.2 = M0.2.2; omega) hP hD hS (lv_sub hl [2, 3, 4, 1, 0] rfl)
              · skip
                rw [if_pos c18] at hq
                exact B63  x1 x2 (x2 / 10000) ((x2 / 100) - (x2 / 100) / 100 * 100) M0  _ _ _ hq (by show M0.2.2 = M0.2.2; omega) hP hD hS (lv_sub hl [2, 3, 4, 1, 0] rfl)
        · skip
          rw [if_neg c6] at hq
          refine lv_iconst (v := (-1)) hx hb dX4_step_32 (by decide) ?_
          obtain ⟨e2, e3⟩ := k_so hq
          subst hQ
          have hP : va_P D vwCl (mW cI cZ h ad M0) _ := hP
          have hD : va_D A (mW cI cZ h ad M0) := hD
          refine W.widen (k := 0) (n := 0) (by decide) (by decide) ?_
          have hgE := congrArg (fun X : MS => X.2.2) e3
          have hgE : M0.2.2 = M'.2.2 := hgE
          exact W.iret (v := (-1)) hx hb hr (fun t ht hW => ⟨⟨(-1), (mW cI cZ h ad M0, [(cI, .int), (cZ, .boolean)]), rfl, ⟨e2, (congrArg (fun X : MS => ((mW cI cZ h ad X, [(cI, .int), (cZ, .boolean)]) : va_W × List (ClassId × FieldType))) e3), by omega⟩, ⟨by rw [ht]; exact hP, va_K.moved hW.alike hK, hD⟩⟩, hS.F ht⟩) hS.2.2 dX4_step_33
def f_X4_act (x1 : Int32) (x2 : Int32) (x3 : Int32) (M0 : MS) : Option (Int32 × MS) := (if (f_X4_isProgram x1) = 0 then some (((-1) : Int32), M0) else (if (f_X4_in x2 (0 : Int32) (3 : Int32)) = 0 then some (((-1) : Int32), M0) else (if (f_X4_in x3 (0 : Int32) (9 : Int32)) = 0 then some (((-1) : Int32), M0) else (k_bind (f_X4_newAct x1 x2 x3 ((-1) : Int32) M0) fun r7 M7 => some (r7, M7)))))
set_option maxHeartbeats 4000000 in
set_option maxRecDepth 100000 in
theorem c_X4_act {l : Launch} {D : va_G} {sz : Nat} {cI cZ : ClassId} {h : Nat} {ad : Nat → Nat} {M0 M' : MS} {x1 x2 x3 r' : Int32} (hf : f_X4_act x1 x2 x3 M0 = some (r', M')) : Met l yX4_act wsX4_act ({ frames := 2, cells := 0, slots := 0, locals := 42 }) (va_Pc [.ref h, .int x1, .int x2, .int x3] (k_Pre D [(cI, .int), (cZ, .boolean)] (mW cI cZ h ad M0) sz)) (va_Qi (fun (r0 : Int32) (u : va_W × List (ClassId × FieldType)) => r0 = r' ∧ u = (mW cI cZ h ad M', [(cI, .int), (cZ, .boolean)]) ∧ M'.2.2 = M0.2.2) (k_B D (va_A (mW cI cZ h ad M0) sz)) (va_A (mW cI cZ h ad M0) sz)) (0) (0) (va_A (mW cI cZ h ad M0) sz) := by
  refine Met.ofW (cc := cX4_act) (maxL := 4) (ret := (some .int)) (by decide) rfl ?_
  intro p e s m args below meth c s₁ B hml hv
  obtain ⟨rfl, hsz, hP, hK, hD0⟩ := hv
  have hx := B.exec
  have hb := B.bytes
  have hr := B.returns
  have hts := atoms_spec (ws := wsX4_act) B.pre
  have hown : s.vm.findClass RX4 = some m.cls := findClass_of_methodNamed B.named
  have hlocks := B.notSynchronized
  subst hsz
  have hD := hD0.self (sz := s.heap.size)
  generalize hAe : va_A (mW cI cZ h ad M0) s.heap.size = A at hD ⊢
  have hA : ∀ q : Nat, s.heap.size ≤ q → A q := fun q h => by rw [← hAe]; exact Or.inr h
  have hS : va_S A s.heap s.heap [] := va_S.rf
  have hl := lv_entry ([.ref h, .int x1, .int x2, .int x3]) (n := 4) (Nat.le_of_ble_eq_true rfl)
  rw [lg_entry_eq]
  generalize (lg_sl ([.ref h, .int x1, .int x2, .int x3]) ++ List.replicate (4 - (lg_sl ([.ref h, .int x1, .int x2, .int x3])).length) Slot.unset).toArray = ls at hl ⊢
  have hl : lv_has ls 4 [(0, .ref h), (1, .int x1), (2, .int x2), (3, .int x3)] := hl
  refine k_Q (fun Q hQ => ?_)
  have hq := hf
  rw [f_X4_act] at hq
  refine lv_iload_n hx hb dX4_act_0 rfl (lv_at hl 1 rfl) ?_
  have hFc := k_free hD hS hA
  refine va_calli (va_runS (As := [.int x1]) (rest := []) ⟨hx, hb, hml, hown, hts⟩ (c_X4_isProgram (l := l) (D := D) (cI := cI) (cZ := cZ) (h := h) (ad := ad) (M0 := M0) (hf := rfl)) (va_cwS 1 hts gX4_act_X4_isProgram rfl rfl rfl (by decide +kernel) ⟨Nat.le_of_ble_eq_true rfl, Nat.le_of_ble_eq_true rfl⟩) ⟨k_blind, fun U hU hW => ⟨rfl, k_pre hU hW hP hK hD⟩⟩ rfl rfl hl.1 rfl (lv_room (Nat.le_of_ble_eq_true rfl)) dX4_act_1 ⟨by decide, by decide⟩) hS (fun q _ h => hFc q h) hFc (fun r1 u t H1 locs ht hvm hw hB hz1 hk1 hS => ?_)
  obtain ⟨rfl, rfl⟩ := hw
  refine W.widen (k := 0) (n := 0) (Nat.le_refl _) (Nat.le_refl _) ?_
  obtain ⟨hP1, hK1, hD1⟩ := hB
  rw [ht] at hP1
  have hP := hP1
  have hD := k_weak hD1 hFc
  generalize H1 = H at hP hS ⊢
  have hP : va_P D vwCl (mW cI cZ h ad M0) _ := hP
  have hD : va_D A (mW cI cZ h ad M0) := hD
  refine lv_if_eq (tgt := 37) hx hb dX4_act_4 (by decide) (fun c2 => ?_) (fun c2 => ?_)
  · skip
    rw [if_pos c2] at hq
    refine lv_iconst (v := (-1)) hx hb dX4_act_37 (by decide) ?_
    obtain ⟨e2, e3⟩ := k_so hq
    subst hQ
    have hP : va_P D vwCl (mW cI cZ h ad M0) _ := hP
    have hD : va_D A (mW cI cZ h ad M0) := hD
    refine W.widen (k := 0) (n := 0) (by decide) (by decide) ?_
    have hgE := congrArg (fun X : MS => X.2.2) e3
    have hgE : M0.2.2 = M'.2.2 := hgE
    exact W.iret (v := (-1)) hx hb hr (fun t ht hW => ⟨⟨(-1), (mW cI cZ h ad M0, [(cI, .int), (cZ, .boolean)]), rfl, ⟨e2, (congrArg (fun X : MS => ((mW cI cZ h ad X, [(cI, .int), (cZ, .boolean)]) : va_W × List (ClassId × FieldType))) e3), by omega⟩, ⟨by rw [ht]; exact hP, va_K.moved hW.alike hK, hD⟩⟩, hS.F ht⟩) hS.2.2 dX4_act_38
  · skip
    rw [if_neg c2] at hq
    refine lv_iload_n hx hb dX4_act_7 rfl (lv_at hl 2 rfl) ?_
    refine lv_iconst (v := 0) hx hb dX4_act_8 (by decide) ?_
    refine lv_iconst (v := 3) hx hb dX4_act_9 (by decide) ?_
    have hFc := k_free hD hS hA
    refine va_calli (va_runS (As := [.int x2, .int 0, .int 3]) (rest := []) ⟨hx, hb, hml, hown, hts⟩ (c_X4_in (l := l) (D := D) (cI := cI) (cZ := cZ) (h := h) (ad := ad) (M0 := M0) (hf := rfl)) (va_cwS 3 hts gX4_act_X4_in rfl rfl rfl (by decide +kernel) ⟨Nat.le_of_ble_eq_true rfl, Nat.le_of_ble_eq_true rfl⟩) ⟨k_blind, fun U hU hW => ⟨rfl, k_pre hU hW hP hK hD⟩⟩ rfl rfl hl.1 rfl (lv_room (Nat.le_of_ble_eq_true rfl)) dX4_act_10 ⟨by decide, by decide⟩) hS (fun q _ h => hFc q h) hFc (fun r3 u t H1 locs ht hvm hw hB hz1 hk1 hS => ?_)
    obtain ⟨rfl, rfl⟩ := hw
    refine W.widen (k := 0) (n := 0) (Nat.le_refl _) (Nat.le_refl _) ?_
    obtain ⟨hP1, hK1, hD1⟩ := hB
    rw [ht] at hP1
    have hP := hP1
    have hD := k_weak hD1 hFc
    generalize H1 = H at hP hS ⊢
    have hP : va_P D vwCl (mW cI cZ h ad M0) _ := hP
    have hD : va_D A (mW cI cZ h ad M0) := hD
    refine lv_if_eq (tgt := 37) hx hb dX4_act_13 (by decide) (fun c4 => ?_) (fun c4 => ?_)
    · skip
      rw [if_pos c4] at hq
      refine lv_iconst (v := (-1)) hx hb dX4_act_37 (by decide) ?_
      obtain ⟨e2, e3⟩ := k_so hq
      subst hQ
      have hP : va_P D vwCl (mW cI cZ h ad M0) _ := hP
      have hD : va_D A (mW cI cZ h ad M0) := hD
      refine W.widen (k := 0) (n := 0) (by decide) (by decide) ?_
      have hgE := congrArg (fun X : MS => X.2.2) e3
      have hgE : M0.2.2 = M'.2.2 := hgE
      exact W.iret (v := (-1)) hx hb hr (fun t ht hW => ⟨⟨(-1), (mW cI cZ h ad M0, [(cI, .int), (cZ, .boolean)]), rfl, ⟨e2, (congrArg (fun X : MS => ((mW cI cZ h ad X, [(cI, .int), (cZ, .boolean)]) : va_W × List (ClassId × FieldType))) e3), by omega⟩, ⟨by rw [ht]; exact hP, va_K.moved hW.alike hK, hD⟩⟩, hS.F ht⟩) hS.2.2 dX4_act_38
    · skip
      rw [if_neg c4] at hq
      refine lv_iload_n hx hb dX4_act_16 rfl (lv_at hl 3 rfl) ?_
      refine lv_iconst (v := 0) hx hb dX4_act_17 (by decide) ?_
      refine lv_bipush (v := 9) hx hb dX4_act_18 (by decide) ?_
      have hFc := k_free hD hS hA
      refine va_calli (va_runS (As := [.int x3, .int 0, .int 9]) (rest := []) ⟨hx, hb, hml, hown, hts⟩ (c_X4_in (l := l) (D := D) (cI := cI) (cZ := cZ) (h := h) (ad := ad) (M0 := M0) (hf := rfl)) (va_cwS 3 hts gX4_act_X4_in rfl rfl rfl (by decide +kernel) ⟨Nat.le_of_ble_eq_true rfl, Nat.le_of_ble_eq_true rfl⟩) ⟨k_blind, fun U hU hW => ⟨rfl, k_pre hU hW hP hK hD⟩⟩ rfl rfl hl.1 rfl (lv_room (Nat.le_of_ble_eq_true rfl)) dX4_act_20 ⟨by decide, by decide⟩) hS (fun q _ h => hFc q h) hFc (fun r5 u t H1 locs ht hvm hw hB hz1 hk1 hS => ?_)
      obtain ⟨rfl, rfl⟩ := hw
      refine W.widen (k := 0) (n := 0) (Nat.le_refl _) (Nat.le_refl _) ?_
      obtain ⟨hP1, hK1, hD1⟩ := hB
      rw [ht] at hP1
      have hP := hP1
      have hD := k_weak hD1 hFc
      generalize H1 = H at hP hS ⊢
      have hP : va_P D vwCl (mW cI cZ h ad M0) _ := hP
      have hD : va_D A (mW cI cZ h ad M0) := hD
      refine lv_if_eq (tgt := 37) hx hb dX4_act_23 (by decide) (fun c6 => ?_) (fun c6 => ?_)
      · skip
        rw [if_pos c6] at hq
        refine lv_iconst (v := (-1)) hx hb dX4_act_37 (by decide) ?_
        obtain ⟨e2, e3⟩ := k_so hq
        subst hQ
        have hP : va_P D vwCl (mW cI cZ h ad M0) _ := hP
        have hD : va_D A (mW cI cZ h ad M0) := hD
        refine W.widen (k := 0) (n := 0) (by decide) (by decide) ?_
        have hgE := congrArg (fun X : MS => X.2.2) e3
        have hgE : M0.2.2 = M'.2.2 := hgE
        exact W.iret (v := (-1)) hx hb hr (fun t ht hW => ⟨⟨(-1), (mW cI cZ h ad M0, [(cI, .int), (cZ, .boolean)]), rfl, ⟨e2, (congrArg (fun X : MS => ((mW cI cZ h ad X, [(cI, .int), (cZ, .boolean)]) : va_W × List (ClassId × FieldType))) e3), by omega⟩, ⟨by rw [ht]; exact hP, va_K.moved hW.alike hK, hD⟩⟩, hS.F ht⟩) hS.2.2 dX4_act_38
      · skip
        rw [if_neg c6] at hq
        refine lv_aload_n hx hb dX4_act_26 rfl (lv_at hl 0 rfl) ?_
        refine lv_iload_n hx hb dX4_act_27 rfl (lv_at hl 1 rfl) ?_
        refine lv_iload_n hx hb dX4_act_28 rfl (lv_at hl 2 rfl) ?_
        refine lv_iload_n hx hb dX4_act_29 rfl (lv_at hl 3 rfl) ?_
        refine lv_iconst (v := (-1)) hx hb dX4_act_30 (by decide) ?_
        obtain ⟨q7, M7, h7, hq⟩ := k_bd hq
        have hFc := k_free hD hS hA
        refine va_calli (va_runV (As := [.int x1, .int x2, .int x3, .int (-1)]) (rest := []) ⟨hx, hb, hml, hown, hts⟩ (c_X4_newAct (l := l) (D := D) (cI := cI) (cZ := cZ) (h := h) (ad := ad)  (hf := h7)) (cwV 4 hts gX4_act_X4_newAct rfl rfl rfl (by decide +kernel) ⟨Nat.le_of_ble_eq_true rfl, Nat.le_of_ble_eq_true rfl⟩) ⟨k_blind, va_recv hK hP (ci := 4) (q0 := 0) rfl rfl, fun U hU hW => ⟨rfl, k_pre hU hW hP hK hD⟩⟩ rfl rfl hl.1 rfl (lv_room (Nat.le_of_ble_eq_true rfl)) dX4_act_31 ⟨by decide, by decide⟩) hS (fun q _ h => hFc q h) hFc (fun r7 u t H1 locs ht hvm hw hB hz1 hk1 hS => ?_)
        obtain ⟨rfl, rfl, hg7⟩ := hw
        have hg7 : M7.2.2 = M0.2.2 := hg7
        refine W.widen (k := 0) (n := 0) (Nat.le_refl _) (Nat.le_refl _) ?_
        obtain ⟨hP1, hK1, hD1⟩ := hB
        rw [ht] at hP1
        have hP := hP1
        have hD := k_weak hD1 hFc
        generalize H1 = H at hP hS ⊢
        have hP : va_P D vwCl (mW cI cZ h ad M7) _ := hP
        have hD : va_D A (mW cI cZ h ad M7) := hD
        refine lv_goto (tgt := 38) hx hb dX4_act_34 (by decide) ?_
        obtain ⟨e2, e3⟩ := k_so hq
        subst hQ
        have hP : va_P D vwCl (mW cI cZ h ad M7) _ := hP
        have hD : va_D A (mW cI cZ h ad M7) := hD
        refine W.widen (k := 0) (n := 0) (by decide) (by decide) ?_
        have hgE := congrArg (fun X : MS => X.2.2) e3
        have hgE : M7.2.2 = M'.2.2 := hgE
        exact W.iret (v := r7) hx hb hr (fun t ht hW => ⟨⟨r7, (mW cI cZ h ad M7, [(cI, .int), (cZ, .boolean)]), rfl, ⟨e2, (congrArg (fun X : MS => ((mW cI cZ h ad X, [(cI, .int), (cZ, .boolean)]) : va_W × List (ClassId × FieldType))) e3), by omega⟩, ⟨by rw [ht]; exact hP, va_K.moved hW.alike hK, hD⟩⟩, hS.F ht⟩) hS.2.2 dX4_act_38
set_option maxRecDepth 100000 in
theorem kw_X4_limit__fieldLink_RX4_19_ActHouseModel_limits_I_ : (.fieldLink RX4 19 "ActHouseModel" "limits" "[I" : Cond) ∈ wsX4_limit := by decide +kernel
set_option maxRecDepth 100000 in
theorem kin_X4_limit_X4 : ∀ w ∈ u_ws RX4 TX4 39, w ∈ wsX4_limit := by decide +kernel
def f_X4_limit (x1 : Int32) (x2 : Int32) (M0 : MS) : Option (Int32 × MS) := (if (f_X4_in x1 (0 : Int32) (3 : Int32)) = 0 then some ((0 : Int32), M0) else (if (f_X4_in x2 (0 : Int32) (9 : Int32)) = 0 then some ((0 : Int32), M0) else (if 0 ≤ x1.toInt ∧ x1.toInt < 4 then (k_let (mA M0 4 x1.toNatClampNeg x2) fun M6 => some ((1 : Int32), M6)) else none)))
set_option maxHeartbeats 4000000 in
set_option maxRecDepth 100000 in
theorem c_X4_limit {l : Launch} {D : va_G} {sz : Nat} {cI cZ : ClassId} {h : Nat} {ad : Nat → Nat} {M0 M' : MS} {x1 x2 r' : Int32} (hf : f_X4_limit x1 x2 M0 = some (r', M')) : Met l yX4_limit wsX4_limit ({ frames := 1, cells := 0, slots := 0, locals := 22 }) (va_Pc [.ref h, .int x1, .int x2] (k_Pre D [(cI, .int), (cZ, .boolean)] (mW cI cZ h ad M0) sz)) (va_Qi (fun (r0 : Int32) (u : va_W × List (ClassId × FieldType)) => r0 = r' ∧ u = (mW cI cZ h ad M', [(cI, .int), (cZ, .boolean)]) ∧ M'.2.2 = M0.2.2) (k_B D (va_A (mW cI cZ h ad M0) sz)) (va_A (mW cI cZ h ad M0) sz)) (0) (0) (va_A (mW cI cZ h ad M0) sz) := by
  refine Met.ofW (cc := cX4_limit) (maxL := 3) (ret := (some .boolean)) (by decide) rfl ?_
  intro p e s m args below meth c s₁ B hml hv
  obtain ⟨rfl, hsz, hP, hK, hD0⟩ := hv
  have hx := B.exec
  have hb := B.bytes
  have hr := B.returns
  have hts := atoms_spec (ws := wsX4_limit) B.pre
  have hown : s.vm.findClass RX4 = some m.cls := findClass_of_methodNamed B.named
  have hlocks := B.notSynchronized
  subst hsz
  have hD := hD0.self (sz := s.heap.size)
  generalize hAe : va_A (mW cI cZ h ad M0) s.heap.size = A at hD ⊢
  have hA : ∀ q : Nat, s.heap.size ≤ q → A q := fun q h => by rw [← hAe]; exact Or.inr h
  have hS : va_S A s.heap s.heap [] := va_S.rf
  have hl := lv_entry ([.ref h, .int x1, .int x2]) (n := 3) (Nat.le_of_ble_eq_true rfl)
  rw [lg_entry_eq]
  generalize (lg_sl ([.ref h, .int x1, .int x2]) ++ List.replicate (3 - (lg_sl ([.ref h, .int x1, .int x2])).length) Slot.unset).toArray = ls at hl ⊢
  have hl : lv_has ls 3 [(0, .ref h), (1, .int x1), (2, .int x2)] := hl
  refine k_Q (fun Q hQ => ?_)
  have hq := hf
  rw [f_X4_limit] at hq
  refine lv_iload_n hx hb dX4_limit_0 rfl (lv_at hl 1 rfl) ?_
  refine lv_iconst (v := 0) hx hb dX4_limit_1 (by decide) ?_
  refine lv_iconst (v := 3) hx hb dX4_limit_2 (by decide) ?_
  have hFc := k_free hD hS hA
  refine va_calli (va_runS (As := [.int x1, .int 0, .int 3]) (rest := []) ⟨hx, hb, hml, hown, hts⟩ (c_X4_in (l := l) (D := D) (cI := cI) (cZ := cZ) (h := h) (ad := ad) (M0 := M0) (hf := rfl)) (va_cwS 3 hts gX4_limit_X4_in rfl rfl rfl (by decide +kernel) ⟨Nat.le_of_ble_eq_true rfl, Nat.le_of_ble_eq_true rfl⟩) ⟨k_blind, fun U hU hW => ⟨rfl, k_pre hU hW hP hK hD⟩⟩ rfl rfl hl.1 rfl (lv_room (Nat.le_of_ble_eq_true rfl)) dX4_limit_3 ⟨by decide, by decide⟩) hS (fun q _ h => hFc q h) hFc (fun r1 u t H1 locs ht hvm hw hB hz1 hk1 hS => ?_)
  obtain ⟨rfl, rfl⟩ := hw
  refine W.widen (k := 0) (n := 0) (Nat.le_refl _) (Nat.le_refl _) ?_
  obtain ⟨hP1, hK1, hD1⟩ := hB
  rw [ht] at hP1
  have hP := hP1
  have hD := k_weak hD1 hFc
  generalize H1 = H at hP hS ⊢
  have hP : va_P D vwCl (mW cI cZ h ad M0) _ := hP
  have hD : va_D A (mW cI cZ h ad M0) := hD
  refine lv_if_eq (tgt := 19) hx hb dX4_limit_6 (by decide) (fun c2 => ?_) (fun c2 => ?_)
  · skip
    rw [if_pos c2] at hq
    refine lv_iconst (v := 0) hx hb dX4_limit_19 (by decide) ?_
    obtain ⟨e2, e3⟩ := k_so hq
    subst hQ
    have hP : va_P D vwCl (mW cI cZ h ad M0) _ := hP
    have hD : va_D A (mW cI cZ h ad M0) := hD
    refine W.widen (k := 0) (n := 0) (by decide) (by decide) ?_
    have hgE := congrArg (fun X : MS => X.2.2) e3
    have hgE : M0.2.2 = M'.2.2 := hgE
    exact W.zret (v := 0) hx hb hr (by decide) (fun t ht hW => ⟨⟨0, (mW cI cZ h ad M0, [(cI, .int), (cZ, .boolean)]), rfl, ⟨e2, (congrArg (fun X : MS => ((mW cI cZ h ad X, [(cI, .int), (cZ, .boolean)]) : va_W × List (ClassId × FieldType))) e3), by omega⟩, ⟨by rw [ht]; exact hP, va_K.moved hW.alike hK, hD⟩⟩, hS.F ht⟩) hS.2.2 dX4_limit_20
  · skip
    rw [if_neg c2] at hq
    refine lv_iload_n hx hb dX4_limit_9 rfl (lv_at hl 2 rfl) ?_
    refine lv_iconst (v := 0) hx hb dX4_limit_10 (by decide) ?_
    refine lv_bipush (v := 9) hx hb dX4_limit_11 (by decide) ?_
    have hFc := k_free hD hS hA
    refine va_calli (va_runS (As := [.int x2, .int 0, .int 9]) (rest := []) ⟨hx, hb, hml, hown, hts⟩ (c_X4_in (l := l) (D := D) (cI := cI) (cZ := cZ) (h := h) (ad := ad) (M0 := M0) (hf := rfl)) (va_cwS 3 hts gX4_limit_X4_in rfl rfl rfl (by decide +kernel) ⟨Nat.le_of_ble_eq_true rfl, Nat.le_of_ble_eq_true rfl⟩) ⟨k_blind, fun U hU hW => ⟨rfl, k_pre hU hW hP hK hD⟩⟩ rfl rfl hl.1 rfl (lv_room (Nat.le_of_ble_eq_true rfl)) dX4_limit_13 ⟨by decide, by decide⟩) hS (fun q _ h => hFc q h) hFc (fun r3 u t H1 locs ht hvm hw hB hz1 hk1 hS => ?_)
    obtain ⟨rfl, rfl⟩ := hw
    refine W.widen (k := 0) (n := 0) (Nat.le_refl _) (Nat.le_refl _) ?_
    obtain ⟨hP1, hK1, hD1⟩ := hB
    rw [ht] at hP1
    have hP := hP1
    have hD := k_weak hD1 hFc
    generalize H1 = H at hP hS ⊢
    have hP : va_P D vwCl (mW cI cZ h ad M0) _ := hP
    have hD : va_D A (mW cI cZ h ad M0) := hD
    refine lv_if_ne (tgt := 21) hx hb dX4_limit_16 (by decide) (fun c4 => ?_) (fun c4 => ?_)
    · skip
      rw [if_neg c4] at hq
      refine lv_aload_n hx hb dX4_limit_21 rfl (lv_at hl 0 rfl) ?_
      refine va_get (D := D) (ci := 4) (v := .ref (ad 4)) (C := RX4) (T := TX4) (N := 39) hx hb hts kin_X4_limit_X4 hown hK hP 0 rfl rfl 4 (by decide) (hts _ kw_X4_limit__fieldLink_RX4_19_ActHouseModel_limits_I_) (fun _ h9 => h9) rfl dX4_limit_22 ?_
      refine lv_iload_n hx hb dX4_limit_25 rfl (lv_at hl 1 rfl) ?_
      refine lv_iload_n hx hb dX4_limit_26 rfl (lv_at hl 2 rfl) ?_
      obtain ⟨b5, hq⟩ := k_if hq
      refine va_iast hx hb hK hP hD hS 4 0 (f := (M0.2.1 4)) rfl rfl (x := x2) (k_in b5.1 b5.2) dX4_limit_27 (fun H locs hP hD hS => ?_)
      obtain ⟨M6, eM6, hg6, hq⟩ := k_lA hq
      rw [mW_A4, ← eM6] at hP hD
      have hP : va_P D vwCl (mW cI cZ h ad M6) _ := hP
      have hD : va_D A (mW cI cZ h ad M6) := hD
      refine lv_iconst (v := 1) hx hb dX4_limit_28 (by decide) ?_
      obtain ⟨e2, e3⟩ := k_so hq
      subst hQ
      have hP : va_P D vwCl (mW cI cZ h ad M6) _ := hP
      have hD : va_D A (mW cI cZ h ad M6) := hD
      refine W.widen (k := 0) (n := 0) (by decide) (by decide) ?_
      have hgE := congrArg (fun X : MS => X.2.2) e3
      have hgE : M6.2.2 = M'.2.2 := hgE
      exact W.zret (v := 1) hx hb hr (by decide) (fun t ht hW => ⟨⟨1, (mW cI cZ h ad M6, [(cI, .int), (cZ, .boolean)]), rfl, ⟨e2, (congrArg (fun X : MS => ((mW cI cZ h ad X, [(cI, .int), (cZ, .boolean)]) : va_W × List (ClassId × FieldType))) e3), by omega⟩, ⟨by rw [ht]; exact hP, va_K.moved hW.alike hK, hD⟩⟩, hS.F ht⟩) hS.2.2 dX4_limit_29
    · skip
      rw [if_pos c4] at hq
      refine lv_iconst (v := 0) hx hb dX4_limit_19 (by decide) ?_
      obtain ⟨e2, e3⟩ := k_so hq
      subst hQ
      have hP : va_P D vwCl (mW cI cZ h ad M0) _ := hP
      have hD : va_D A (mW cI cZ h ad M0) := hD
      refine W.widen (k := 0) (n := 0) (by decide) (by decide) ?_
      have hgE := congrArg (fun X : MS => X.2.2) e3
      have hgE : M0.2.2 = M'.2.2 := hgE
      exact W.zret (v := 0) hx hb hr (by decide) (fun t ht hW => ⟨⟨0, (mW cI cZ h ad M0, [(cI, .int), (cZ, .boolean)]), rfl, ⟨e2, (congrArg (fun X : MS => ((mW cI cZ h ad X, [(cI, .int), (cZ, .boolean)]) : va_W × List (ClassId × FieldType))) e3), by omega⟩, ⟨by rw [ht]; exact hP, va_K.moved hW.alike hK, hD⟩⟩, hS.F ht⟩) hS.2.2 dX4_limit_20
set_option maxRecDepth 100000 in
theorem kw_X4_floor__fieldLink_RX4_16_ActHouseModel_floors_I_ : (.fieldLink RX4 16 "ActHouseModel" "floors" "[I" : Cond) ∈ wsX4_floor := by decide +kernel
set_option maxRecDepth 100000 in
theorem kin_X4_floor_X4 : ∀ w ∈ u_ws RX4 TX4 39, w ∈ wsX4_floor := by decide +kernel
def f_X4_floor (x1 : Int32) (x2 : Int32) (M0 : MS) : Option (Int32 × MS) := (if (f_X4_in x1 (0 : Int32) (7 : Int32)) = 0 then some ((0 : Int32), M0) else (if (f_X4_in x2 ((-1000) : Int32) (0 : Int32)) = 0 then some ((0 : Int32), M0) else (k_bind (f_X4_least x1 M0) fun r5 M5 => (if x2 ≤ r5 then (if 0 ≤ x1.toInt ∧ x1.toInt < 8 then (k_let (mA M5 3 x1.toNatClampNeg x2) fun M8 => some ((1 : Int32), M8)) else none) else some ((0 : Int32), M5)))))
set_option maxHeartbeats 4000000 in
set_option maxRecDepth 100000 in
theorem c_X4_floor {l : Launch} {D : va_G} {sz : Nat} {cI cZ : ClassId} {h : Nat} {ad : Nat → Nat} {M0 M' : MS} {x1 x2 r' : Int32} (hf : f_X4_floor x1 x2 M0 = some (r', M')) : Met l yX4_floor wsX4_floor ({ frames := 1, cells := 0, slots := 0, locals := 23 }) (va_Pc [.ref h, .int x1, .int x2] (k_Pre D [(cI, .int), (cZ, .boolean)] (mW cI cZ h ad M0) sz)) (va_Qi (fun (r0 : Int32) (u : va_W × List (ClassId × FieldType)) => r0 = r' ∧ u = (mW cI cZ h ad M', [(cI, .int), (cZ, .boolean)]) ∧ M'.2.2 = M0.2.2) (k_B D (va_A (mW cI cZ h ad M0) sz)) (va_A (mW cI cZ h ad M0) sz)) (0) (0) (va_A (mW cI cZ h ad M0) sz) := by
  refine Met.ofW (cc := cX4_floor) (maxL := 3) (ret := (some .boolean)) (by decide) rfl ?_
  intro p e s m args below meth c s₁ B hml hv
  obtain ⟨rfl, hsz, hP, hK, hD0⟩ := hv
  have hx := B.exec
  have hb := B.bytes
  have hr := B.returns
  have hts := atoms_spec (ws := wsX4_floor) B.pre
  have hown : s.vm.findClass RX4 = some m.cls := findClass_of_methodNamed B.named
  have hlocks := B.notSynchronized
  subst hsz
  have hD := hD0.self (sz := s.heap.size)
  generalize hAe : va_A (mW cI cZ h ad M0) s.heap.size = A at hD ⊢
  have hA : ∀ q : Nat, s.heap.size ≤ q → A q := fun q h => by rw [← hAe]; exact Or.inr h
  have hS : va_S A s.heap s.heap [] := va_S.rf
  have hl := lv_entry ([.ref h, .int x1, .int x2]) (n := 3) (Nat.le_of_ble_eq_true rfl)
  rw [lg_entry_eq]
  generalize (lg_sl ([.ref h, .int x1, .int x2]) ++ List.replicate (3 - (lg_sl ([.ref h, .int x1, .int x2])).length) Slot.unset).toArray = ls at hl ⊢
  have hl : lv_has ls 3 [(0, .ref h), (1, .int x1), (2, .int x2)] := hl
  refine k_Q (fun Q hQ => ?_)
  have hq := hf
  rw [f_X4_floor] at hq
  refine lv_iload_n hx hb dX4_floor_0 rfl (lv_at hl 1 rfl) ?_
  refine lv_iconst (v := 0) hx hb dX4_floor_1 (by decide) ?_
  refine lv_bipush (v := 7) hx hb dX4_floor_2 (by decide) ?_
  have hFc := k_free hD hS hA
  refine va_calli (va_runS (As := [.int x1, .int 0, .int 7]) (rest := []) ⟨hx, hb, hml, hown, hts⟩ (c_X4_in (l := l) (D := D) (cI := cI) (cZ := cZ) (h := h) (ad := ad) (M0 := M0) (hf := rfl)) (va_cwS 3 hts gX4_floor_X4_in rfl rfl rfl (by decide +kernel) ⟨Nat.le_of_ble_eq_true rfl, Nat.le_of_ble_eq_true rfl⟩) ⟨k_blind, fun U hU hW => ⟨rfl, k_pre hU hW hP hK hD⟩⟩ rfl rfl hl.1 rfl (lv_room (Nat.le_of_ble_eq_true rfl)) dX4_floor_4 ⟨by decide, by decide⟩) hS (fun q _ h => hFc q h) hFc (fun r1 u t H1 locs ht hvm hw hB hz1 hk1 hS => ?_)
  obtain ⟨rfl, rfl⟩ := hw
  refine W.widen (k := 0) (n := 0) (Nat.le_refl _) (Nat.le_refl _) ?_
  obtain ⟨hP1, hK1, hD1⟩ := hB
  rw [ht] at hP1
  have hP := hP1
  have hD := k_weak hD1 hFc
  generalize H1 = H at hP hS ⊢
  have hP : va_P D vwCl (mW cI cZ h ad M0) _ := hP
  have hD : va_D A (mW cI cZ h ad M0) := hD
  refine lv_if_eq (tgt := 30) hx hb dX4_floor_7 (by decide) (fun c2 => ?_) (fun c2 => ?_)
  · skip
    rw [if_pos c2] at hq
    refine lv_iconst (v := 0) hx hb dX4_floor_30 (by decide) ?_
    obtain ⟨e2, e3⟩ := k_so hq
    subst hQ
    have hP : va_P D vwCl (mW cI cZ h ad M0) _ := hP
    have hD : va_D A (mW cI cZ h ad M0) := hD
    refine W.widen (k := 0) (n := 0) (by decide) (by decide) ?_
    have hgE := congrArg (fun X : MS => X.2.2) e3
    have hgE : M0.2.2 = M'.2.2 := hgE
    exact W.zret (v := 0) hx hb hr (by decide) (fun t ht hW => ⟨⟨0, (mW cI cZ h ad M0, [(cI, .int), (cZ, .boolean)]), rfl, ⟨e2, (congrArg (fun X : MS => ((mW cI cZ h ad X, [(cI, .int), (cZ, .boolean)]) : va_W × List (ClassId × FieldType))) e3), by omega⟩, ⟨by rw [ht]; exact hP, va_K.moved hW.alike hK, hD⟩⟩, hS.F ht⟩) hS.2.2 dX4_floor_31
  · skip
    rw [if_neg c2] at hq
    refine lv_iload_n hx hb dX4_floor_10 rfl (lv_at hl 2 rfl) ?_
    refine lv_sipush (v := (-1000)) hx hb dX4_floor_11 (by decide) ?_
    refine lv_iconst (v := 0) hx hb dX4_floor_14 (by decide) ?_
    have hFc := k_free hD hS hA
    refine va_calli (va_runS (As := [.int x2, .int (-1000), .int 0]) (rest := []) ⟨hx, hb, hml, hown, hts⟩ (c_X4_in (l := l) (D := D) (cI := cI) (cZ := cZ) (h := h) (ad := ad) (M0 := M0) (hf := rfl)) (va_cwS 3 hts gX4_floor_X4_in rfl rfl rfl (by decide +kernel) ⟨Nat.le_of_ble_eq_true rfl, Nat.le_of_ble_eq_true rfl⟩) ⟨k_blind, fun U hU hW => ⟨rfl, k_pre hU hW hP hK hD⟩⟩ rfl rfl hl.1 rfl (lv_room (Nat.le_of_ble_eq_true rfl)) dX4_floor_15 ⟨by decide, by decide⟩) hS (fun q _ h => hFc q h) hFc (fun r3 u t H1 locs ht hvm hw hB hz1 hk1 hS => ?_)
    obtain ⟨rfl, rfl⟩ := hw
    refine W.widen (k := 0) (n := 0) (Nat.le_refl _) (Nat.le_refl _) ?_
    obtain ⟨hP1, hK1, hD1⟩ := hB
    rw [ht] at hP1
    have hP := hP1
    have hD := k_weak hD1 hFc
    generalize H1 = H at hP hS ⊢
    have hP : va_P D vwCl (mW cI cZ h ad M0) _ := hP
    have hD : va_D A (mW cI cZ h ad M0) := hD
    refine lv_if_eq (tgt := 30) hx hb dX4_floor_18 (by decide) (fun c4 => ?_) (fun c4 => ?_)
    · skip
      rw [if_pos c4] at hq
      refine lv_iconst (v := 0) hx hb dX4_floor_30 (by decide) ?_
      obtain ⟨e2, e3⟩ := k_so hq
      subst hQ
      have hP : va_P D vwCl (mW cI cZ h ad M0) _ := hP
      have hD : va_D A (mW cI cZ h ad M0) := hD
      refine W.widen (k := 0) (n := 0) (by decide) (by decide) ?_
      have hgE := congrArg (fun X : MS => X.2.2) e3
      have hgE : M0.2.2 = M'.2.2 := hgE
      exact W.zret (v := 0) hx hb hr (by decide) (fun t ht hW => ⟨⟨0, (mW cI cZ h ad M0, [(cI, .int), (cZ, .boolean)]), rfl, ⟨e2, (congrArg (fun X : MS => ((mW cI cZ h ad X, [(cI, .int), (cZ, .boolean)]) : va_W × List (ClassId × FieldType))) e3), by omega⟩, ⟨by rw [ht]; exact hP, va_K.moved hW.alike hK, hD⟩⟩, hS.F ht⟩) hS.2.2 dX4_floor_31
    · skip
      rw [if_neg c4] at hq
      refine lv_aload_n hx hb dX4_floor_21 rfl (lv_at hl 0 rfl) ?_
      refine lv_iload_n hx hb dX4_floor_22 rfl (lv_at hl 1 rfl) ?_
      obtain ⟨q5, M5, h5, hq⟩ := k_bd hq
      have hFc := k_free hD hS hA
      refine va_calli (va_runV (As := [.int x1]) (rest := []) ⟨hx, hb, hml, hown, hts⟩ (c_X4_least (l := l) (D := D) (cI := cI) (cZ := cZ) (h := h) (ad := ad)  (hf := h5)) (cwV 1 hts gX4_floor_X4_least rfl rfl rfl (by decide +kernel) ⟨Nat.le_of_ble_eq_true rfl, Nat.le_of_ble_eq_true rfl⟩) ⟨k_blind, va_recv hK hP (ci := 4) (q0 := 0) rfl rfl, fun U hU hW => ⟨rfl, k_pre hU hW hP hK hD⟩⟩ rfl rfl hl.1 rfl (lv_room (Nat.le_of_ble_eq_true rfl)) dX4_floor_23 ⟨by decide, by decide⟩) hS (fun q _ h => hFc q h) hFc (fun r5 u t H1 locs ht hvm hw hB hz1 hk1 hS => ?_)
      obtain ⟨rfl, rfl, hg5⟩ := hw
      have hg5 : M5.2.2 = M0.2.2 := hg5
      refine W.widen (k := 0) (n := 0) (Nat.le_refl _) (Nat.le_refl _) ?_
      obtain ⟨hP1, hK1, hD1⟩ := hB
      rw [ht] at hP1
      have hP := hP1
      have hD := k_weak hD1 hFc
      generalize H1 = H at hP hS ⊢
      have hP : va_P D vwCl (mW cI cZ h ad M5) _ := hP
      have hD : va_D A (mW cI cZ h ad M5) := hD
      refine lv_iload_n hx hb dX4_floor_26 rfl (lv_at hl 2 rfl) ?_
      refine lv_icmp_ge (tgt := 32) hx hb dX4_floor_27 (by decide) (fun c6 => ?_) (fun c6 => ?_)
      · skip
        rw [if_pos c6] at hq
        refine lv_aload_n hx hb dX4_floor_32 rfl (lv_at hl 0 rfl) ?_
        refine va_get (D := D) (ci := 4) (v := .ref (ad 3)) (C := RX4) (T := TX4) (N := 39) hx hb hts kin_X4_floor_X4 hown hK hP 0 rfl rfl 3 (by decide) (hts _ kw_X4_floor__fieldLink_RX4_16_ActHouseModel_floors_I_) (fun _ h9 => h9) rfl dX4_floor_33 ?_
        refine lv_iload_n hx hb dX4_floor_36 rfl (lv_at hl 1 rfl) ?_
        refine lv_iload_n hx hb dX4_floor_37 rfl (lv_at hl 2 rfl) ?_
        obtain ⟨b7, hq⟩ := k_if hq
        refine va_iast hx hb hK hP hD hS 3 0 (f := (M5.2.1 3)) rfl rfl (x := x2) (k_in b7.1 b7.2) dX4_floor_38 (fun H locs hP hD hS => ?_)
        obtain ⟨M8, eM8, hg8, hq⟩ := k_lA hq
        rw [mW_A3, ← eM8] at hP hD
        have hP : va_P D vwCl (mW cI cZ h ad M8) _ := hP
        have hD : va_D A (mW cI cZ h ad M8) := hD
        refine lv_iconst (v := 1) hx hb dX4_floor_39 (by decide) ?_
        obtain ⟨e2, e3⟩ := k_so hq
        subst hQ
        have hP : va_P D vwCl (mW cI cZ h ad M8) _ := hP
        have hD : va_D A (mW cI cZ h ad M8) := hD
        refine W.widen (k := 0) (n := 0) (by decide) (by decide) ?_
        have hgE := congrArg (fun X : MS => X.2.2) e3
        have hgE : M8.2.2 = M'.2.2 := hgE
        exact W.zret (v := 1) hx hb hr (by decide) (fun t ht hW => ⟨⟨1, (mW cI cZ h ad M8, [(cI, .int), (cZ, .boolean)]), rfl, ⟨e2, (congrArg (fun X : MS => ((mW cI cZ h ad X, [(cI, .int), (cZ, .boolean)]) : va_W × List (ClassId × FieldType))) e3), by omega⟩, ⟨by rw [ht]; exact hP, va_K.moved hW.alike hK, hD⟩⟩, hS.F ht⟩) hS.2.2 dX4_floor_40
      · skip
        rw [if_neg c6] at hq
        refine lv_iconst (v := 0) hx hb dX4_floor_30 (by decide) ?_
        obtain ⟨e2, e3⟩ := k_so hq
        subst hQ
        have hP : va_P D vwCl (mW cI cZ h ad M5) _ := hP
        have hD : va_D A (mW cI cZ h ad M5) := hD
        refine W.widen (k := 0) (n := 0) (by decide) (by decide) ?_
        have hgE := congrArg (fun X : MS => X.2.2) e3
        have hgE : M5.2.2 = M'.2.2 := hgE
        exact W.zret (v := 0) hx hb hr (by decide) (fun t ht hW => ⟨⟨0, (mW cI cZ h ad M5, [(cI, .int), (cZ, .boolean)]), rfl, ⟨e2, (congrArg (fun X : MS => ((mW cI cZ h ad X, [(cI, .int), (cZ, .boolean)]) : va_W × List (ClassId × FieldType))) e3), by omega⟩, ⟨by rw [ht]; exact hP, va_K.moved hW.alike hK, hD⟩⟩, hS.F ht⟩) hS.2.2 dX4_floor_31
set_option maxRecDepth 100000 in
theorem kw_X4_told__fieldLink_RX4_37_ActHouseModel_state_I_ : (.fieldLink RX4 37 "ActHouseModel" "state" "[I" : Cond) ∈ wsX4_told := by decide +kernel
set_option maxRecDepth 100000 in
theorem kin_X4_told_X4 : ∀ w ∈ u_ws RX4 TX4 39, w ∈ wsX4_told := by decide +kernel
set_option maxRecDepth 100000 in
theorem kw_X4_told__fieldLink_RX4_28_ActHouseModel_program_I_ : (.fieldLink RX4 28 "ActHouseModel" "program" "[I" : Cond) ∈ wsX4_told := by decide +kernel
set_option maxRecDepth 100000 in
theorem kw_X4_told__fieldLink_RX4_31_ActHouseModel_kind_I_ : (.fieldLink RX4 31 "ActHouseModel" "kind" "[I" : Cond) ∈ wsX4_told := by decide +kernel
set_option maxRecDepth 100000 in
theorem kw_X4_told__fieldLink_RX4_34_ActHouseModel_rank_I_ : (.fieldLink RX4 34 "ActHouseModel" "rank" "[I" : Cond) ∈ wsX4_told := by decide +kernel
set_option maxRecDepth 100000 in
theorem kw_X4_told__fieldLink_RX4_46_ActHouseModel_at_I_ : (.fieldLink RX4 46 "ActHouseModel" "at" "[I" : Cond) ∈ wsX4_told := by decide +kernel
set_option maxRecDepth 100000 in
theorem kw_X4_told__fieldLink_RX4_52_ActHouseModel_isHeld_Z_ : (.fieldLink RX4 52 "ActHouseModel" "isHeld" "[Z" : Cond) ∈ wsX4_told := by decide +kernel
set_option maxRecDepth 100000 in
theorem kw_X4_told__fieldLink_RX4_56_ActHouseModel_doneIn_I_ : (.fieldLink RX4 56 "ActHouseModel" "doneIn" "[I" : Cond) ∈ wsX4_told := by decide +kernel
set_option maxRecDepth 100000 in
theorem kw_X4_told__fieldLink_RX4_59_ActHouseModel_undone_I_ : (.fieldLink RX4 59 "ActHouseModel" "undone" "[I" : Cond) ∈ wsX4_told := by decide +kernel
set_option maxRecDepth 100000 in
theorem kw_X4_told__fieldLink_RX4_62_ActHouseModel_by_I_ : (.fieldLink RX4 62 "ActHouseModel" "by" "[I" : Cond) ∈ wsX4_told := by decide +kernel
set_option maxRecDepth 100000 in
theorem kw_X4_told__fieldLink_RX4_65_ActHouseModel_begunIn_I_ : (.fieldLink RX4 65 "ActHouseModel" "begunIn" "[I" : Cond) ∈ wsX4_told := by decide +kernel
def f_X4_told_25  (v1 : Int32) (v2 : Int32) (s0 : Int32)  (M : MS) : Option (Int32 × MS) := (if v2.toInt = 0 then (if 0 ≤ v1.toInt ∧ v1.toInt < 80 then some (((M.2.1 11) v1.toNatClampNeg), M) else none) else (if v2.toInt = 1 then (if 0 ≤ v1.toInt ∧ v1.toInt < 80 then some (((M.2.1 8) v1.toNatClampNeg), M) else none) else (if v2.toInt = 2 then (if 0 ≤ v1.toInt ∧ v1.toInt < 80 then some (((M.2.1 9) v1.toNatClampNeg), M) else none) else (if v2.toInt = 3 then (if 0 ≤ v1.toInt ∧ v1.toInt < 80 then some (((M.2.1 10) v1.toNatClampNeg), M) else none) else (if v2.toInt = 4 then (if s0 = 0 then some (((-1) : Int32), M) else (if 0 ≤ v1.toInt ∧ v1.toInt < 80 then some (((M.2.1 14) v1.toNatClampNeg), M) else none)) else (if v2.toInt = 5 then (if s0 = 0 then some ((0 : Int32), M) else (if 0 ≤ v1.toInt ∧ v1.toInt < 80 then (if ((M.2.1 16) v1.toNatClampNeg) = 0 then some ((0 : Int32), M) else some ((1 : Int32), M)) else none)) else (if v2.toInt = 6 then (if 0 ≤ v1.toInt ∧ v1.toInt < 80 then some (((M.2.1 17) v1.toNatClampNeg), M) else none) else (if v2.toInt = 7 then (if 0 ≤ v1.toInt ∧ v1.toInt < 80 then some (((M.2.1 18) v1.toNatClampNeg), M) else none) else (if v2.toInt = 8 then (if 0 ≤ v1.toInt ∧ v1.toInt < 80 then some (((M.2.1 19) v1.toNatClampNeg), M) else none) else (if v2.toInt = 9 then (if 0 ≤ v1.toInt ∧ v1.toInt < 80 then some (((M.2.1 20) v1.toNatClampNeg), M) else none) else some (((-1) : Int32), M)))))))))))
def f_X4_told (x1 : Int32) (x2 : Int32) (M0 : MS) : Option (Int32 × MS) := (k_bind (f_X4_isAct x1 M0) fun r1 M1 => (if r1 = 0 then some (((-1) : Int32), M1) else (if 0 ≤ x1.toInt ∧ x1.toInt < 80 then (if ((M1.2.1 11) x1.toNatClampNeg) = 1 then f_X4_told_25  x1 x2 (1 : Int32) M1 else f_X4_told_25  x1 x2 (0 : Int32) M1) else none)))
set_option maxHeartbeats 4000000 in
set_option maxRecDepth 100000 in
theorem c_X4_told {l : Launch} {D : va_G} {sz : Nat} {cI cZ : ClassId} {h : Nat} {ad : Nat → Nat} {M0 M' : MS} {x1 x2 r' : Int32} (hf : f_X4_told x1 x2 M0 = some (r', M')) : Met l yX4_told wsX4_told ({ frames := 2, cells := 0, slots := 0, locals := 43 }) (va_Pc [.ref h, .int x1, .int x2] (k_Pre D [(cI, .int), (cZ, .boolean)] (mW cI cZ h ad M0) sz)) (va_Qi (fun (r0 : Int32) (u : va_W × List (ClassId × FieldType)) => r0 = r' ∧ u = (mW cI cZ h ad M', [(cI, .int), (cZ, .boolean)]) ∧ M'.2.2 = M0.2.2) (k_B D (va_A (mW cI cZ h ad M0) sz)) (va_A (mW cI cZ h ad M0) sz)) (0) (0) (va_A (mW cI cZ h ad M0) sz) := by
  refine Met.ofW (cc := cX4_told) (maxL := 4) (ret := (some .int)) (by decide) rfl ?_
  intro p e s m args below meth c s₁ B hml hv
  obtain ⟨rfl, hsz, hP, hK, hD0⟩ := hv
  have hx := B.exec
  have hb := B.bytes
  have hr := B.returns
  have hts := atoms_spec (ws := wsX4_told) B.pre
  have hown : s.vm.findClass RX4 = some m.cls := findClass_of_methodNamed B.named
  have hlocks := B.notSynchronized
  subst hsz
  have hD := hD0.self (sz := s.heap.size)
  generalize hAe : va_A (mW cI cZ h ad M0) s.heap.size = A at hD ⊢
  have hA : ∀ q : Nat, s.heap.size ≤ q → A q := fun q h => by rw [← hAe]; exact Or.inr h
  have hS : va_S A s.heap s.heap [] := va_S.rf
  have hl := lv_entry ([.ref h, .int x1, .int x2]) (n := 4) (Nat.le_of_ble_eq_true rfl)
  rw [lg_entry_eq]
  generalize (lg_sl ([.ref h, .int x1, .int x2]) ++ List.replicate (4 - (lg_sl ([.ref h, .int x1, .int x2])).length) Slot.unset).toArray = ls at hl ⊢
  have hl : lv_has ls 4 [(0, .ref h), (1, .int x1), (2, .int x2)] := hl
  refine k_Q (fun Q hQ => ?_)
  have B25 : ∀ (v1 : Int32) (v2 : Int32) (s0 : Int32)  (M : MS)  (H : Heap) (locs : List Loc) (ls : Array Slot), f_X4_told_25 v1 v2 s0 M = some (r', M') → M.2.2 = M0.2.2 → va_P D vwCl (mW cI cZ h ad M) H → va_D A (mW cI cZ h ad M) → va_S A s.heap H locs → lv_has ls 4 [(0, .ref h), (1, .int v1), (2, .int v2)] → W p l e (headSpec wsX4_told ({ frames := 2, cells := 0, slots := 0, locals := 43 })).room s m ([.ref h, .int x1, .int x2] : List Value).toArray below meth c H locs (0) (0) Q (F0 m 25 ls [.int s0]) := by
    intro v1 v2 s0  M  H locs ls hq hg hP hD hS hl
    rw [f_X4_told_25] at hq
    refine lv_istore_n (lv' := [(3, .int s0), (0, .ref h), (1, .int v1), (2, .int v2)]) hx hb dX4_told_25 rfl hl (by decide) rfl (fun ls hl => ?_)
    refine lv_iload_n hx hb dX4_told_26 rfl (lv_at hl 3 rfl) ?_
    by_cases hs5_0 : v2.toInt = 0
    · skip
      rw [if_pos hs5_0] at hq
      refine lv_tableIn (off := 53) (tgt := 80) hx hb dX4_told_27 (by rw [hs5_0]; decide) (by rw [hs5_0]; decide) (by rw [hs5_0]; rfl) (by decide) ?_
      refine lv_aload_n hx hb dX4_told_80 rfl (lv_at hl 1 rfl) ?_
      refine va_get (D := D) (ci := 4) (v := .ref (ad 11)) (C := RX4) (T := TX4) (N := 39) hx hb hts kin_X4_told_X4 hown hK hP 0 rfl rfl 11 (by decide) (hts _ kw_X4_told__fieldLink_RX4_37_ActHouseModel_state_I_) (fun _ h9 => h9) rfl dX4_told_81 ?_
      refine lv_iload_n hx hb dX4_told_84 rfl (lv_at hl 2 rfl) ?_
      obtain ⟨b6, hq⟩ := k_if hq
      refine va_iald hx hb hK hP 10 0 (f := (M.2.1 11)) rfl rfl (k_in b6.1 b6.2) dX4_told_85 ?_
      obtain ⟨e2, e3⟩ := k_so hq
      subst hQ
      have hP : va_P D vwCl (mW cI cZ h ad M) _ := hP
      have hD : va_D A (mW cI cZ h ad M) := hD
      refine W.widen (k := 0) (n := 0) (by decide) (by decide) ?_
      have hgE := congrArg (fun X : MS => X.2.2) e3
      have hgE : M.2.2 = M'.2.2 := hgE
      exact W.iret (v := (M.2.1 11) v1.toNatClampNeg) hx hb hr (fun t ht hW => ⟨⟨(M.2.1 11) v1.toNatClampNeg, (mW cI cZ h ad M, [(cI, .int), (cZ, .boolean)]), rfl, ⟨e2, (congrArg (fun X : MS => ((mW cI cZ h ad X, [(cI, .int), (cZ, .boolean)]) : va_W × List (ClassId × FieldType))) e3), by omega⟩, ⟨by rw [ht]; exact hP, va_K.moved hW.alike hK, hD⟩⟩, hS.F ht⟩) hS.2.2 dX4_told_86
    rw [if_neg hs5_0] at hq
    by_cases hs5_1 : v2.toInt = 1
    · skip
      rw [if_pos hs5_1] at hq
      refine lv_tableIn (off := 60) (tgt := 87) hx hb dX4_told_27 (by rw [hs5_1]; decide) (by rw [hs5_1]; decide) (by rw [hs5_1]; rfl) (by decide) ?_
      refine lv_aload_n hx hb dX4_told_87 rfl (lv_at hl 1 rfl) ?_
      refine va_get (D := D) (ci := 4) (v := .ref (ad 8)) (C := RX4) (T := TX4) (N := 39) hx hb hts kin_X4_told_X4 hown hK hP 0 rfl rfl 8 (by decide) (hts _ kw_X4_told__fieldLink_RX4_28_ActHouseModel_program_I_) (fun _ h9 => h9) rfl dX4_told_88 ?_
      refine lv_iload_n hx hb dX4_told_91 rfl (lv_at hl 2 rfl) ?_
      obtain ⟨b7, hq⟩ := k_if hq
      refine va_iald hx hb hK hP 7 0 (f := (M.2.1 8)) rfl rfl (k_in b7.1 b7.2) dX4_told_92 ?_
      obtain ⟨e2, e3⟩ := k_so hq
      subst hQ
      have hP : va_P D vwCl (mW cI cZ h ad M) _ := hP
      have hD : va_D A (mW cI cZ h ad M) := hD
      refine W.widen (k := 0) (n := 0) (by decide) (by decide) ?_
      have hgE := congrArg (fun X : MS => X.2.2) e3
      have hgE : M.2.2 = M'.2.2 := hgE
      exact W.iret (v := (M.2.1 8) v1.toNatClampNeg) hx hb hr (fun t ht hW => ⟨⟨(M.2.1 8) v1.toNatClampNeg, (mW cI cZ h ad M, [(cI, .int), (cZ, .boolean)]), rfl, ⟨e2, (congrArg (fun X : MS => ((mW cI cZ h ad X, [(cI, .int), (cZ, .boolean)]) : va_W × List (ClassId × FieldType))) e3), by omega⟩, ⟨by rw [ht]; exact hP, va_K.moved hW.alike hK, hD⟩⟩, hS.F ht⟩) hS.2.2 dX4_told_93
    rw [if_neg hs5_1] at hq
    by_cases hs5_2 : v2.toInt = 2
    · skip
      rw [if_pos hs5_2] at hq
      refine lv_tableIn (off := 67) (tgt := 94) hx hb dX4_told_27 (by rw [hs5_2]; decide) (by rw [hs5_2]; decide) (by rw [hs5_2]; rfl) (by decide) ?_
      refine lv_aload_n hx hb dX4_told_94 rfl (lv_at hl 1 rfl) ?_
      refine va_get (D := D) (ci := 4) (v := .ref (ad 9)) (C := RX4) (T := TX4) (N := 39) hx hb hts kin_X4_told_X4 hown hK hP 0 rfl rfl 9 (by decide) (hts _ kw_X4_told__fieldLink_RX4_31_ActHouseModel_kind_I_) (fun _ h9 => h9) rfl dX4_told_95 ?_
      refine lv_iload_n hx hb dX4_told_98 rfl (lv_at hl 2 rfl) ?_
      obtain ⟨b8, hq⟩ := k_if hq
      refine va_iald hx hb hK hP 8 0 (f := (M.2.1 9)) rfl rfl (k_in b8.1 b8.2) dX4_told_99 ?_
      obtain ⟨e2, e3⟩ := k_so hq
      subst hQ
      have hP : va_P D vwCl (mW cI cZ h ad M) _ := hP
      have hD : va_D A (mW cI cZ h ad M) := hD
      refine W.widen (k := 0) (n := 0) (by decide) (by decide) ?_
      have hgE := congrArg (fun X : MS => X.2.2) e3
      have hgE : M.2.2 = M'.2.2 := hgE
      exact W.iret (v := (M.2.1 9) v1.toNatClampNeg) hx hb hr (fun t ht hW => ⟨⟨(M.2.1 9) v1.toNatClampNeg, (mW cI cZ h ad M, [(cI, .int), (cZ, .boolean)]), rfl, ⟨e2, (congrArg (fun X : MS => ((mW cI cZ h ad X, [(cI, .int), (cZ, .boolean)]) : va_W × List (ClassId × FieldType))) e3), by omega⟩, ⟨by rw [ht]; exact hP, va_K.moved hW.alike hK, hD⟩⟩, hS.F ht⟩) hS.2.2 dX4_told_100
    rw [if_neg hs5_2] at hq
    by_cases hs5_3 : v2.toInt = 3
    · skip
      rw [if_pos hs5_3] at hq
      refine lv_tableIn (off := 74) (tgt := 101) hx hb dX4_told_27 (by rw [hs5_3]; decide) (by rw [hs5_3]; decide) (by rw [hs5_3]; rfl) (by decide) ?_
      refine lv_aload_n hx hb dX4_told_101 rfl (lv_at hl 1 rfl) ?_
      refine va_get (D := D) (ci := 4) (v := .ref (ad 10)) (C := RX4) (T := TX4) (N := 39) hx hb hts kin_X4_told_X4 hown hK hP 0 rfl rfl 10 (by decide) (hts _ kw_X4_told__fieldLink_RX4_34_ActHouseModel_rank_I_) (fun _ h9 => h9) rfl dX4_told_102 ?_
      refine lv_iload_n hx hb dX4_told_105 rfl (lv_at hl 2 rfl) ?_
      obtain ⟨b9, hq⟩ := k_if hq
      refine va_iald hx hb hK hP 9 0 (f := (M.2.1 10)) rfl rfl (k_in b9.1 b9.2) dX4_told_106 ?_
      obtain ⟨e2, e3⟩ := k_so hq
      subst hQ
      have hP : va_P D vwCl (mW cI cZ h ad M) _ := hP
      have hD : va_D A (mW cI cZ h ad M) := hD
      refine W.widen (k := 0) (n := 0) (by decide) (by decide) ?_
      have hgE := congrArg (fun X : MS => X.2.2) e3
      have hgE : M.2.2 = M'.2.2 := hgE
      exact W.iret (v := (M.2.1 10) v1.toNatClampNeg) hx hb hr (fun t ht hW => ⟨⟨(M.2.1 10) v1.toNatClampNeg, (mW cI cZ h ad M, [(cI, .int), (cZ, .boolean)]), rfl, ⟨e2, (congrArg (fun X : MS => ((mW cI cZ h ad X, [(cI, .int), (cZ, .boolean)]) : va_W × List (ClassId × FieldType))) e3), by omega⟩, ⟨by rw [ht]; exact hP, va_K.moved hW.alike hK, hD⟩⟩, hS.F ht⟩) hS.2.2 dX4_told_107
    rw [if_neg hs5_3] at hq
    by_cases hs5_4 : v2.toInt = 4
    · skip
      rw [if_pos hs5_4] at hq
      refine lv_tableIn (off := 81) (tgt := 108) hx hb dX4_told_27 (by rw [hs5_4]; decide) (by rw [hs5_4]; decide) (by rw [hs5_4]; rfl) (by decide) ?_
      refine lv_iload_n hx hb dX4_told_108 rfl (lv_at hl 0 rfl) ?_
      refine lv_if_eq (tgt := 121) hx hb dX4_told_109 (by decide) (fun c10 => ?_) (fun c10 => ?_)
      · skip
        rw [if_pos c10] at hq
        refine lv_iconst (v := (-1)) hx hb dX4_told_121 (by decide) ?_
        obtain ⟨e2, e3⟩ := k_so hq
        subst hQ
        have hP : va_P D vwCl (mW cI cZ h ad M) _ := hP
        have hD : va_D A (mW cI cZ h ad M) := hD
        refine W.widen (k := 0) (n := 0) (by decide) (by decide) ?_
        have hgE := congrArg (fun X : MS => X.2.2) e3
        have hgE : M.2.2 = M'.2.2 := hgE
        exact W.iret (v := (-1)) hx hb hr (fun t ht hW => ⟨⟨(-1), (mW cI cZ h ad M, [(cI, .int), (cZ, .boolean)]), rfl, ⟨e2, (congrArg (fun X : MS => ((mW cI cZ h ad X, [(cI, .int), (cZ, .boolean)]) : va_W × List (ClassId × FieldType))) e3), by omega⟩, ⟨by rw [ht]; exact hP, va_K.moved hW.alike hK, hD⟩⟩, hS.F ht⟩) hS.2.2 dX4_told_122
      · skip
        rw [if_neg c10] at hq
        refine lv_aload_n hx hb dX4_told_112 rfl (lv_at hl 1 rfl) ?_
        refine va_get (D := D) (ci := 4) (v := .ref (ad 14)) (C := RX4) (T := TX4) (N := 39) hx hb hts kin_X4_told_X4 hown hK hP 0 rfl rfl 14 (by decide) (hts _ kw_X4_told__fieldLink_RX4_46_ActHouseModel_at_I_) (fun _ h9 => h9) rfl dX4_told_113 ?_
        refine lv_iload_n hx hb dX4_told_116 rfl (lv_at hl 2 rfl) ?_
        obtain ⟨b11, hq⟩ := k_if hq
        refine va_iald hx hb hK hP 13 0 (f := (M.2.1 14)) rfl rfl (k_in b11.1 b11.2) dX4_told_117 ?_
        refine lv_goto (tgt := 122) hx hb dX4_told_118 (by decide) ?_
        obtain ⟨e2, e3⟩ := k_so hq
        subst hQ
        have hP : va_P D vwCl (mW cI cZ h ad M) _ := hP
        have hD : va_D A (mW cI cZ h ad M) := hD
        refine W.widen (k := 0) (n := 0) (by decide) (by decide) ?_
        have hgE := congrArg (fun X : MS => X.2.2) e3
        have hgE : M.2.2 = M'.2.2 := hgE
        exact W.iret (v := (M.2.1 14) v1.toNatClampNeg) hx hb hr (fun t ht hW => ⟨⟨(M.2.1 14) v1.toNatClampNeg, (mW cI cZ h ad M, [(cI, .int), (cZ, .boolean)]), rfl, ⟨e2, (congrArg (fun X : MS => ((mW cI cZ h ad X, [(cI, .int), (cZ, .boolean)]) : va_W × List (ClassId × FieldType))) e3), by omega⟩, ⟨by rw [ht]; exact hP, va_K.moved hW.alike hK, hD⟩⟩, hS.F ht⟩) hS.2.2 dX4_told_122
    rw [if_neg hs5_4] at hq
    by_cases hs5_5 : v2.toInt = 5
    · skip
      rw [if_pos hs5_5] at hq
      refine lv_tableIn (off := 96) (tgt := 123) hx hb dX4_told_27 (by rw [hs5_5]; decide) (by rw [hs5_5]; decide) (by rw [hs5_5]; rfl) (by decide) ?_
      refine lv_iload_n hx hb dX4_told_123 rfl (lv_at hl 0 rfl) ?_
      refine lv_if_eq (tgt := 140) hx hb dX4_told_124 (by decide) (fun c12 => ?_) (fun c12 => ?_)
      · skip
        rw [if_pos c12] at hq
        refine lv_iconst (v := 0) hx hb dX4_told_140 (by decide) ?_
        obtain ⟨e2, e3⟩ := k_so hq
        subst hQ
        have hP : va_P D vwCl (mW cI cZ h ad M) _ := hP
        have hD : va_D A (mW cI cZ h ad M) := hD
        refine W.widen (k := 0) (n := 0) (by decide) (by decide) ?_
        have hgE := congrArg (fun X : MS => X.2.2) e3
        have hgE : M.2.2 = M'.2.2 := hgE
        exact W.iret (v := 0) hx hb hr (fun t ht hW => ⟨⟨0, (mW cI cZ h ad M, [(cI, .int), (cZ, .boolean)]), rfl, ⟨e2, (congrArg (fun X : MS => ((mW cI cZ h ad X, [(cI, .int), (cZ, .boolean)]) : va_W × List (ClassId × FieldType))) e3), by omega⟩, ⟨by rw [ht]; exact hP, va_K.moved hW.alike hK, hD⟩⟩, hS.F ht⟩) hS.2.2 dX4_told_141
      · skip
        rw [if_neg c12] at hq
        refine lv_aload_n hx hb dX4_told_127 rfl (lv_at hl 1 rfl) ?_
        refine va_get (D := D) (ci := 4) (v := .ref (ad 16)) (C := RX4) (T := TX4) (N := 39) hx hb hts kin_X4_told_X4 hown hK hP 0 rfl rfl 16 (by decide) (hts _ kw_X4_told__fieldLink_RX4_52_ActHouseModel_isHeld_Z_) (fun _ h9 => h9) rfl dX4_told_128 ?_
        refine lv_iload_n hx hb dX4_told_131 rfl (lv_at hl 2 rfl) ?_
        obtain ⟨b13, hq⟩ := k_if hq
        refine va_zald hx hb hK hP 15 1 (f := (M.2.1 16)) rfl rfl (k_in b13.1 b13.2) dX4_told_132 ?_
        refine lv_if_eq (tgt := 140) hx hb dX4_told_133 (by decide) (fun c14 => ?_) (fun c14 => ?_)
        · skip
          rw [if_pos c14] at hq
          refine lv_iconst (v := 0) hx hb dX4_told_140 (by decide) ?_
          obtain ⟨e2, e3⟩ := k_so hq
          subst hQ
          have hP : va_P D vwCl (mW cI cZ h ad M) _ := hP
          have hD : va_D A (mW cI cZ h ad M) := hD
          refine W.widen (k := 0) (n := 0) (by decide) (by decide) ?_
          have hgE := congrArg (fun X : MS => X.2.2) e3
          have hgE : M.2.2 = M'.2.2 := hgE
          exact W.iret (v := 0) hx hb hr (fun t ht hW => ⟨⟨0, (mW cI cZ h ad M, [(cI, .int), (cZ, .boolean)]), rfl, ⟨e2, (congrArg (fun X : MS => ((mW cI cZ h ad X, [(cI, .int), (cZ, .boolean)]) : va_W × List (ClassId × FieldType))) e3), by omega⟩, ⟨by rw [ht]; exact hP, va_K.moved hW.alike hK, hD⟩⟩, hS.F ht⟩) hS.2.2 dX4_told_141
        · skip
          rw [if_neg c14] at hq
          refine lv_iconst (v := 1) hx hb dX4_told_136 (by decide) ?_
          refine lv_goto (tgt := 141) hx hb dX4_told_137 (by decide) ?_
          obtain ⟨e2, e3⟩ := k_so hq
          subst hQ
          have hP : va_P D vwCl (mW cI cZ h ad M) _ := hP
          have hD : va_D A (mW cI cZ h ad M) := hD
          refine W.widen (k := 0) (n := 0) (by decide) (by decide) ?_
          have hgE := congrArg (fun X : MS => X.2.2) e3
          have hgE : M.2.2 = M'.2.2 := hgE
          exact W.iret (v := 1) hx hb hr (fun t ht hW => ⟨⟨1, (mW cI cZ h ad M, [(cI, .int), (cZ, .boolean)]), rfl, ⟨e2, (congrArg (fun X : MS => ((mW cI cZ h ad X, [(cI, .int), (cZ, .boolean)]) : va_W × List (ClassId × FieldType))) e3), by omega⟩, ⟨by rw [ht]; exact hP, va_K.moved hW.alike hK, hD⟩⟩, hS.F ht⟩) hS.2.2 dX4_told_141
    rw [if_neg hs5_5] at hq
    by_cases hs5_6 : v2.toInt = 6
    · skip
      rw [if_pos hs5_6] at hq
      refine lv_tableIn (off := 115) (tgt := 142) hx hb dX4_told_27 (by rw [hs5_6]; decide) (by rw [hs5_6]; decide) (by rw [hs5_6]; rfl) (by decide) ?_
      refine lv_aload_n hx hb dX4_told_142 rfl (lv_at hl 1 rfl) ?_
      refine va_get (D := D) (ci := 4) (v := .ref (ad 17)) (C := RX4) (T := TX4) (N := 39) hx hb hts kin_X4_told_X4 hown hK hP 0 rfl rfl 17 (by decide) (hts _ kw_X4_told__fieldLink_RX4_56_ActHouseModel_doneIn_I_) (fun _ h9 => h9) rfl dX4_told_143 ?_
      refine lv_iload_n hx hb dX4_told_146 rfl (lv_at hl 2 rfl) ?_
      obtain ⟨b15, hq⟩ := k_if hq
      refine va_iald hx hb hK hP 16 0 (f := (M.2.1 17)) rfl rfl (k_in b15.1 b15.2) dX4_told_147 ?_
      obtain ⟨e2, e3⟩ := k_so hq
      subst hQ
      have hP : va_P D vwCl (mW cI cZ h ad M) _ := hP
      have hD : va_D A (mW cI cZ h ad M) := hD
      refine W.widen (k := 0) (n := 0) (by decide) (by decide) ?_
      have hgE := congrArg (fun X : MS => X.2.2) e3
      have hgE : M.2.2 = M'.2.2 := hgE
      exact W.iret (v := (M.2.1 17) v1.toNatClampNeg) hx hb hr (fun t ht hW => ⟨⟨(M.2.1 17) v1.toNatClampNeg, (mW cI cZ h ad M, [(cI, .int), (cZ, .boolean)]), rfl, ⟨e2, (congrArg (fun X : MS => ((mW cI cZ h ad X, [(cI, .int), (cZ, .boolean)]) : va_W × List (ClassId × FieldType))) e3), by omega⟩, ⟨by rw [ht]; exact hP, va_K.moved hW.alike hK, hD⟩⟩, hS.F ht⟩) hS.2.2 dX4_told_148
    rw [if_neg hs5_6] at hq
    by_cases hs5_7 : v2.toInt = 7
    · skip
      rw [if_pos hs5_7] at hq
      refine lv_tableIn (off := 122) (tgt := 149) hx hb dX4_told_27 (by rw [hs5_7]; decide) (by rw [hs5_7]; decide) (by rw [hs5_7]; rfl) (by decide) ?_
      refine lv_aload_n hx hb dX4_told_149 rfl (lv_at hl 1 rfl) ?_
      refine va_get (D := D) (ci := 4) (v := .ref (ad 18)) (C := RX4) (T := TX4) (N := 39) hx hb hts kin_X4_told_X4 hown hK hP 0 rfl rfl 18 (by decide) (hts _ kw_X4_told__fieldLink_RX4_59_ActHouseModel_undone_I_) (fun _ h9 => h9) rfl dX4_told_150 ?_
      refine lv_iload_n hx hb dX4_told_153 rfl (lv_at hl 2 rfl) ?_
      obtain ⟨b16, hq⟩ := k_if hq
      refine va_iald hx hb hK hP 17 0 (f := (M.2.1 18)) rfl rfl (k_in b16.1 b16.2) dX4_told_154 ?_
      obtain ⟨e2, e3⟩ := k_so hq
      subst hQ
      have hP : va_P D vwCl (mW cI cZ h ad M) _ := hP
      have hD : va_D A (mW cI cZ h ad M) := hD
      refine W.widen (k := 0) (n := 0) (by decide) (by decide) ?_
      have hgE := congrArg (fun X : MS => X.2.2) e3
      have hgE : M.2.2 = M'.2.2 := hgE
      exact W.iret (v := (M.2.1 18) v1.toNatClampNeg) hx hb hr (fun t ht hW => ⟨⟨(M.2.1 18) v1.toNatClampNeg, (mW cI cZ h ad M, [(cI, .int), (cZ, .boolean)]), rfl, ⟨e2, (congrArg (fun X : MS => ((mW cI cZ h ad X, [(cI, .int), (cZ, .boolean)]) : va_W × List (ClassId × FieldType))) e3), by omega⟩, ⟨by rw [ht]; exact hP, va_K.moved hW.alike hK, hD⟩⟩, hS.F ht⟩) hS.2.2 dX4_told_155
    rw [if_neg hs5_7] at hq
    by_cases hs5_8 : v2.toInt = 8
    · skip
      rw [if_pos hs5_8] at hq
      refine lv_tableIn (off := 129) (tgt := 156) hx hb dX4_told_27 (by rw [hs5_8]; decide) (by rw [hs5_8]; decide) (by rw [hs5_8]; rfl) (by decide) ?_
      refine lv_aload_n hx hb dX4_told_156 rfl (lv_at hl 1 rfl) ?_
      refine va_get (D := D) (ci := 4) (v := .ref (ad 19)) (C := RX4) (T := TX4) (N := 39) hx hb hts kin_X4_told_X4 hown hK hP 0 rfl rfl 19 (by decide) (hts _ kw_X4_told__fieldLink_RX4_62_ActHouseModel_by_I_) (fun _ h9 => h9) rfl dX4_told_157 ?_
      refine lv_iload_n hx hb dX4_told_160 rfl (lv_at hl 2 rfl) ?_
      obtain ⟨b17, hq⟩ := k_if hq
      refine va_iald hx hb hK hP 18 0 (f := (M.2.1 19)) rfl rfl (k_in b17.1 b17.2) dX4_told_161 ?_
      obtain ⟨e2, e3⟩ := k_so hq
      subst hQ
      have hP : va_P D vwCl (mW cI cZ h ad M) _ := hP
      have hD : va_D A (mW cI cZ h ad M) := hD
      refine W.widen (k := 0) (n := 0) (by decide) (by decide) ?_
      have hgE := congrArg (fun X : MS => X.2.2) e3
      have hgE : M.2.2 = M'.2.2 := hgE
      exact W.iret (v := (M.2.1 19) v1.toNatClampNeg) hx hb hr (fun t ht hW => ⟨⟨(M.2.1 19) v1.toNatClampNeg, (mW cI cZ h ad M, [(cI, .int), (cZ, .boolean)]), rfl, ⟨e2, (congrArg (fun X : MS => ((mW cI cZ h ad X, [(cI, .int), (cZ, .boolean)]) : va_W × List (ClassId × FieldType))) e3), by omega⟩, ⟨by rw [ht]; exact hP, va_K.moved hW.alike hK, hD⟩⟩, hS.F ht⟩) hS.2.2 dX4_told_162
    rw [if_neg hs5_8] at hq
    by_cases hs5_9 : v2.toInt = 9
    · skip
      rw [if_pos hs5_9] at hq
      refine lv_tableIn (off := 136) (tgt := 163) hx hb dX4_told_27 (by rw [hs5_9]; decide) (by rw [hs5_9]; decide) (by rw [hs5_9]; rfl) (by decide) ?_
      refine lv_aload_n hx hb dX4_told_163 rfl (lv_at hl 1 rfl) ?_
      refine va_get (D := D) (ci := 4) (v := .ref (ad 20)) (C := RX4) (T := TX4) (N := 39) hx hb hts kin_X4_told_X4 hown hK hP 0 rfl rfl 20 (by decide) (hts _ kw_X4_told__fieldLink_RX4_65_ActHouseModel_begunIn_I_) (fun _ h9 => h9) rfl dX4_told_164 ?_
      refine lv_iload_n hx hb dX4_told_167 rfl (lv_at hl 2 rfl) ?_
      obtain ⟨b18, hq⟩ := k_if hq
      refine va_iald hx hb hK hP 19 0 (f := (M.2.1 20)) rfl rfl (k_in b18.1 b18.2) dX4_told_168 ?_
      obtain ⟨e2, e3⟩ := k_so hq
      subst hQ
      have hP : va_P D vwCl (mW cI cZ h ad M) _ := hP
      have hD : va_D A (mW cI cZ h ad M) := hD
      refine W.widen (k := 0) (n := 0) (by decide) (by decide) ?_
      have hgE := congrArg (fun X : MS => X.2.2) e3
      have hgE : M.2.2 = M'.2.2 := hgE
      exact W.iret (v := (M.2.1 20) v1.toNatClampNeg) hx hb hr (fun t ht hW => ⟨⟨(M.2.1 20) v1.toNatClampNeg, (mW cI cZ h ad M, [(cI, .int), (cZ, .boolean)]), rfl, ⟨e2, (congrArg (fun X : MS => ((mW cI cZ h ad X, [(cI, .int), (cZ, .boolean)]) : va_W × List (ClassId × FieldType))) e3), by omega⟩, ⟨by rw [ht]; exact hP, va_K.moved hW.alike hK, hD⟩⟩, hS.F ht⟩) hS.2.2 dX4_told_169
    rw [if_neg hs5_9] at hq
    refine lv_tableOut (tgt := 170) hx hb dX4_told_27 (by omega) (by decide) ?_
    refine lv_iconst (v := (-1)) hx hb dX4_told_170 (by decide) ?_
    obtain ⟨e2, e3⟩ := k_so hq
    subst hQ
    have hP : va_P D vwCl (mW cI cZ h ad M) _ := hP
    have hD : va_D A (mW cI cZ h ad M) := hD
    refine W.widen (k := 0) (n := 0) (by decide) (by decide) ?_
    have hgE := congrArg (fun X : MS => X.2.2) e3
    have hgE : M.2.2 = M'.2.2 := hgE
    exact W.iret (v := (-1)) hx hb hr (fun t ht hW => ⟨⟨(-1), (mW cI cZ h ad M, [(cI, .int), (cZ, .boolean)]), rfl, ⟨e2, (congrArg (fun X : MS => ((mW cI cZ h ad X, [(cI, .int), (cZ, .boolean)]) : va_W × List (ClassId × FieldType))) e3), by omega⟩, ⟨by rw [ht]; exact hP, va_K.moved hW.alike hK, hD⟩⟩, hS.F ht⟩) hS.2.2 dX4_told_171
  have hq := hf
  rw [f_X4_told] at hq
  refine lv_aload_n hx hb dX4_told_0 rfl (lv_at hl 0 rfl) ?_
  refine lv_iload_n hx hb dX4_told_1 rfl (lv_at hl 1 rfl) ?_
  obtain ⟨q1, M1, h1, hq⟩ := k_bd hq
  have hFc := k_free hD hS hA
  refine va_calli (va_runV (As := [.int x1]) (rest := []) ⟨hx, hb, hml, hown, hts⟩ (c_X4_isAct (l := l) (D := D) (cI := cI) (cZ := cZ) (h := h) (ad := ad)  (hf := h1)) (cwV 1 hts gX4_told_X4_isAct rfl rfl rfl (by decide +kernel) ⟨Nat.le_of_ble_eq_true rfl, Nat.le_of_ble_eq_true rfl⟩) ⟨k_blind, va_recv hK hP (ci := 4) (q0 := 0) rfl rfl, fun U hU hW => ⟨rfl, k_pre hU hW hP hK hD⟩⟩ rfl rfl hl.1 rfl (lv_room (Nat.le_of_ble_eq_true rfl)) dX4_told_2 ⟨by decide, by decide⟩) hS (fun q _ h => hFc q h) hFc (fun r1 u t H1 locs ht hvm hw hB hz1 hk1 hS => ?_)
  obtain ⟨rfl, rfl, hg1⟩ := hw
  have hg1 : M1.2.2 = M0.2.2 := hg1
  refine W.widen (k := 0) (n := 0) (Nat.le_refl _) (Nat.le_refl _) ?_
  obtain ⟨hP1, hK1, hD1⟩ := hB
  rw [ht] at hP1
  have hP := hP1
  have hD := k_weak hD1 hFc
  generalize H1 = H at hP hS ⊢
  have hP : va_P D vwCl (mW cI cZ h ad M1) _ := hP
  have hD : va_D A (mW cI cZ h ad M1) := hD
  refine lv_if_ne (tgt := 10) hx hb dX4_told_5 (by decide) (fun c2 => ?_) (fun c2 => ?_)
  · skip
    rw [if_neg c2] at hq
    refine lv_aload_n hx hb dX4_told_10 rfl (lv_at hl 0 rfl) ?_
    refine va_get (D := D) (ci := 4) (v := .ref (ad 11)) (C := RX4) (T := TX4) (N := 39) hx hb hts kin_X4_told_X4 hown hK hP 0 rfl rfl 11 (by decide) (hts _ kw_X4_told__fieldLink_RX4_37_ActHouseModel_state_I_) (fun _ h9 => h9) rfl dX4_told_11 ?_
    refine lv_iload_n hx hb dX4_told_14 rfl (lv_at hl 1 rfl) ?_
    obtain ⟨b3, hq⟩ := k_if hq
    refine va_iald hx hb hK hP 10 0 (f := (M1.2.1 11)) rfl rfl (k_in b3.1 b3.2) dX4_told_15 ?_
    refine lv_iconst (v := 1) hx hb dX4_told_16 (by decide) ?_
    refine lv_icmp_ne (tgt := 24) hx hb dX4_told_17 (by decide) (fun c4 => ?_) (fun c4 => ?_)
    · skip
      rw [if_neg c4] at hq
      refine lv_iconst (v := 0) hx hb dX4_told_24 (by decide) ?_
      exact B25  x1 x2 (0 : Int32) M1  _ _ _ hq (by show M1.2.2 = M0.2.2; omega) hP hD hS (lv_sub hl [0, 1, 2] rfl)
    · skip
      rw [if_pos c4] at hq
      refine lv_iconst (v := 1) hx hb dX4_told_20 (by decide) ?_
      refine lv_goto (tgt := 25) hx hb dX4_told_21 (by decide) ?_
      exact B25  x1 x2 (1 : Int32) M1  _ _ _ hq (by show M1.2.2 = M0.2.2; omega) hP hD hS (lv_sub hl [0, 1, 2] rfl)
  · skip
    rw [if_pos c2] at hq
    refine lv_iconst (v := (-1)) hx hb dX4_told_8 (by decide) ?_
    obtain ⟨e2, e3⟩ := k_so hq
    subst hQ
    have hP : va_P D vwCl (mW cI cZ h ad M1) _ := hP
    have hD : va_D A (mW cI cZ h ad M1) := hD
    refine W.widen (k := 0) (n := 0) (by decide) (by decide) ?_
    have hgE := congrArg (fun X : MS => X.2.2) e3
    have hgE : M1.2.2 = M'.2.2 := hgE
    exact W.iret (v := (-1)) hx hb hr (fun t ht hW => ⟨⟨(-1), (mW cI cZ h ad M1, [(cI, .int), (cZ, .boolean)]), rfl, ⟨e2, (congrArg (fun X : MS => ((mW cI cZ h ad X, [(cI, .int), (cZ, .boolean)]) : va_W × List (ClassId × FieldType))) e3), by omega⟩, ⟨by rw [ht]; exact hP, va_K.moved hW.alike hK, hD⟩⟩, hS.F ht⟩) hS.2.2 dX4_told_9
set_option maxRecDepth 100000 in
theorem kw_X4_register__constant_RX4_211_2147483648_ : (.constant RX4 211 (-2147483648) : Cond) ∈ wsX4_register := by decide +kernel
set_option maxRecDepth 100000 in
theorem kw_X4_register__fieldLink_RX4_37_ActHouseModel_state_I_ : (.fieldLink RX4 37 "ActHouseModel" "state" "[I" : Cond) ∈ wsX4_register := by decide +kernel
set_option maxRecDepth 100000 in
theorem kin_X4_register_X4 : ∀ w ∈ u_ws RX4 TX4 39, w ∈ wsX4_register := by decide +kernel
set_option maxRecDepth 100000 in
theorem kw_X4_register__fieldLink_RX4_49_ActHouseModel_register_I_ : (.fieldLink RX4 49 "ActHouseModel" "register" "[I" : Cond) ∈ wsX4_register := by decide +kernel
def f_X4_register (x1 : Int32) (M0 : MS) : Option (Int32 × MS) := (k_bind (f_X4_isAct x1 M0) fun r1 M1 => (if r1 = 0 then some (((-2147483648) : Int32), M1) else (if 0 ≤ x1.toInt ∧ x1.toInt < 80 then (if ((M1.2.1 11) x1.toNatClampNeg) = 1 then some (((M1.2.1 15) x1.toNatClampNeg), M1) else some (((-2147483648) : Int32), M1)) else none)))
set_option maxHeartbeats 4000000 in
set_option maxRecDepth 100000 in
theorem c_X4_register {l : Launch} {D : va_G} {sz : Nat} {cI cZ : ClassId} {h : Nat} {ad : Nat → Nat} {M0 M' : MS} {x1 r' : Int32} (hf : f_X4_register x1 M0 = some (r', M')) : Met l yX4_register wsX4_register ({ frames := 2, cells := 0, slots := 0, locals := 43 }) (va_Pc [.ref h, .int x1] (k_Pre D [(cI, .int), (cZ, .boolean)] (mW cI cZ h ad M0) sz)) (va_Qi (fun (r0 : Int32) (u : va_W × List (ClassId × FieldType)) => r0 = r' ∧ u = (mW cI cZ h ad M', [(cI, .int), (cZ, .boolean)]) ∧ M'.2.2 = M0.2.2) (k_B D (va_A (mW cI cZ h ad M0) sz)) (va_A (mW cI cZ h ad M0) sz)) (0) (0) (va_A (mW cI cZ h ad M0) sz) := by
  refine Met.ofW (cc := cX4_register) (maxL := 2) (ret := (some .int)) (by decide) rfl ?_
  intro p e s m args below meth c s₁ B hml hv
  obtain ⟨rfl, hsz, hP, hK, hD0⟩ := hv
  have hx := B.exec
  have hb := B.bytes
  have hr := B.returns
  have hts := atoms_spec (ws := wsX4_register) B.pre
  have hown : s.vm.findClass RX4 = some m.cls := findClass_of_methodNamed B.named
  have hlocks := B.notSynchronized
  subst hsz
  have hD := hD0.self (sz := s.heap.size)
  generalize hAe : va_A (mW cI cZ h ad M0) s.heap.size = A at hD ⊢
  have hA : ∀ q : Nat, s.heap.size ≤ q → A q := fun q h => by rw [← hAe]; exact Or.inr h
  have hS : va_S A s.heap s.heap [] := va_S.rf
  have hl := lv_entry ([.ref h, .int x1]) (n := 2) (Nat.le_of_ble_eq_true rfl)
  rw [lg_entry_eq]
  generalize (lg_sl ([.ref h, .int x1]) ++ List.replicate (2 - (lg_sl ([.ref h, .int x1])).length) Slot.unset).toArray = ls at hl ⊢
  have hl : lv_has ls 2 [(0, .ref h), (1, .int x1)] := hl
  refine k_Q (fun Q hQ => ?_)
  have hq := hf
  rw [f_X4_register] at hq
  refine lv_aload_n hx hb dX4_register_0 rfl (lv_at hl 0 rfl) ?_
  refine lv_iload_n hx hb dX4_register_1 rfl (lv_at hl 1 rfl) ?_
  obtain ⟨q1, M1, h1, hq⟩ := k_bd hq
  have hFc := k_free hD hS hA
  refine va_calli (va_runV (As := [.int x1]) (rest := []) ⟨hx, hb, hml, hown, hts⟩ (c_X4_isAct (l := l) (D := D) (cI := cI) (cZ := cZ) (h := h) (ad := ad)  (hf := h1)) (cwV 1 hts gX4_register_X4_isAct rfl rfl rfl (by decide +kernel) ⟨Nat.le_of_ble_eq_true rfl, Nat.le_of_ble_eq_true rfl⟩) ⟨k_blind, va_recv hK hP (ci := 4) (q0 := 0) rfl rfl, fun U hU hW => ⟨rfl, k_pre hU hW hP hK hD⟩⟩ rfl rfl hl.1 rfl (lv_room (Nat.le_of_ble_eq_true rfl)) dX4_register_2 ⟨by decide, by decide⟩) hS (fun q _ h => hFc q h) hFc (fun r1 u t H1 locs ht hvm hw hB hz1 hk1 hS => ?_)
  obtain ⟨rfl, rfl, hg1⟩ := hw
  have hg1 : M1.2.2 = M0.2.2 := hg1
  refine W.widen (k := 0) (n := 0) (Nat.le_refl _) (Nat.le_refl _) ?_
  obtain ⟨hP1, hK1, hD1⟩ := hB
  rw [ht] at hP1
  have hP := hP1
  have hD := k_weak hD1 hFc
  generalize H1 = H at hP hS ⊢
  have hP : va_P D vwCl (mW cI cZ h ad M1) _ := hP
  have hD : va_D A (mW cI cZ h ad M1) := hD
  refine lv_if_eq (tgt := 27) hx hb dX4_register_5 (by decide) (fun c2 => ?_) (fun c2 => ?_)
  · skip
    rw [if_pos c2] at hq
    refine lv_ldc (v := (-2147483648)) hx hb hown (hts _ kw_X4_register__constant_RX4_211_2147483648_) dX4_register_27 ?_
    obtain ⟨e2, e3⟩ := k_so hq
    subst hQ
    have hP : va_P D vwCl (mW cI cZ h ad M1) _ := hP
    have hD : va_D A (mW cI cZ h ad M1) := hD
    refine W.widen (k := 0) (n := 0) (by decide) (by decide) ?_
    have hgE := congrArg (fun X : MS => X.2.2) e3
    have hgE : M1.2.2 = M'.2.2 := hgE
    exact W.iret (v := (-2147483648)) hx hb hr (fun t ht hW => ⟨⟨(-2147483648), (mW cI cZ h ad M1, [(cI, .int), (cZ, .boolean)]), rfl, ⟨e2, (congrArg (fun X : MS => ((mW cI cZ h ad X, [(cI, .int), (cZ, .boolean)]) : va_W × List (ClassId × FieldType))) e3), by omega⟩, ⟨by rw [ht]; exact hP, va_K.moved hW.alike hK, hD⟩⟩, hS.F ht⟩) hS.2.2 dX4_register_29
  · skip
    rw [if_neg c2] at hq
    refine lv_aload_n hx hb dX4_register_8 rfl (lv_at hl 0 rfl) ?_
    refine va_get (D := D) (ci := 4) (v := .ref (ad 11)) (C := RX4) (T := TX4) (N := 39) hx hb hts kin_X4_register_X4 hown hK hP 0 rfl rfl 11 (by decide) (hts _ kw_X4_register__fieldLink_RX4_37_ActHouseModel_state_I_) (fun _ h9 => h9) rfl dX4_register_9 ?_
    refine lv_iload_n hx hb dX4_register_12 rfl (lv_at hl 1 rfl) ?_
    obtain ⟨b3, hq⟩ := k_if hq
    refine va_iald hx hb hK hP 10 0 (f := (M1.2.1 11)) rfl rfl (k_in b3.1 b3.2) dX4_register_13 ?_
    refine lv_iconst (v := 1) hx hb dX4_register_14 (by decide) ?_
    refine lv_icmp_ne (tgt := 27) hx hb dX4_register_15 (by decide) (fun c4 => ?_) (fun c4 => ?_)
    · skip
      rw [if_neg c4] at hq
      refine lv_ldc (v := (-2147483648)) hx hb hown (hts _ kw_X4_register__constant_RX4_211_2147483648_) dX4_register_27 ?_
      obtain ⟨e2, e3⟩ := k_so hq
      subst hQ
      have hP : va_P D vwCl (mW cI cZ h ad M1) _ := hP
      have hD : va_D A (mW cI cZ h ad M1) := hD
      refine W.widen (k := 0) (n := 0) (by decide) (by decide) ?_
      have hgE := congrArg (fun X : MS => X.2.2) e3
      have hgE : M1.2.2 = M'.2.2 := hgE
      exact W.iret (v := (-2147483648)) hx hb hr (fun t ht hW => ⟨⟨(-2147483648), (mW cI cZ h ad M1, [(cI, .int), (cZ, .boolean)]), rfl, ⟨e2, (congrArg (fun X : MS => ((mW cI cZ h ad X, [(cI, .int), (cZ, .boolean)]) : va_W × List (ClassId × FieldType))) e3), by omega⟩, ⟨by rw [ht]; exact hP, va_K.moved hW.alike hK, hD⟩⟩, hS.F ht⟩) hS.2.2 dX4_register_29
    · skip
      rw [if_pos c4] at hq
      refine lv_aload_n hx hb dX4_register_18 rfl (lv_at hl 0 rfl) ?_
      refine va_get (D := D) (ci := 4) (v := .ref (ad 15)) (C := RX4) (T := TX4) (N := 39) hx hb hts kin_X4_register_X4 hown hK hP 0 rfl rfl 15 (by decide) (hts _ kw_X4_register__fieldLink_RX4_49_ActHouseModel_register_I_) (fun _ h9 => h9) rfl dX4_register_19 ?_
      refine lv_iload_n hx hb dX4_register_22 rfl (lv_at hl 1 rfl) ?_
      refine va_iald hx hb hK hP 14 0 (f := (M1.2.1 15)) rfl rfl (k_in b3.1 b3.2) dX4_register_23 ?_
      refine lv_goto (tgt := 29) hx hb dX4_register_24 (by decide) ?_
      obtain ⟨e2, e3⟩ := k_so hq
      subst hQ
      have hP : va_P D vwCl (mW cI cZ h ad M1) _ := hP
      have hD : va_D A (mW cI cZ h ad M1) := hD
      refine W.widen (k := 0) (n := 0) (by decide) (by decide) ?_
      have hgE := congrArg (fun X : MS => X.2.2) e3
      have hgE : M1.2.2 = M'.2.2 := hgE
      exact W.iret (v := (M1.2.1 15) x1.toNatClampNeg) hx hb hr (fun t ht hW => ⟨⟨(M1.2.1 15) x1.toNatClampNeg, (mW cI cZ h ad M1, [(cI, .int), (cZ, .boolean)]), rfl, ⟨e2, (congrArg (fun X : MS => ((mW cI cZ h ad X, [(cI, .int), (cZ, .boolean)]) : va_W × List (ClassId × FieldType))) e3), by omega⟩, ⟨by rw [ht]; exact hP, va_K.moved hW.alike hK, hD⟩⟩, hS.F ht⟩) hS.2.2 dX4_register_29
set_option maxRecDepth 100000 in
theorem kw_X4_holds__fieldLink_RX4_37_ActHouseModel_state_I_ : (.fieldLink RX4 37 "ActHouseModel" "state" "[I" : Cond) ∈ wsX4_holds := by decide +kernel
set_option maxRecDepth 100000 in
theorem kin_X4_holds_X4 : ∀ w ∈ u_ws RX4 TX4 39, w ∈ wsX4_holds := by decide +kernel
set_option maxRecDepth 100000 in
theorem kw_X4_holds__fieldLink_RX4_74_ActHouseModel_holds_I_ : (.fieldLink RX4 74 "ActHouseModel" "holds" "[I" : Cond) ∈ wsX4_holds := by decide +kernel
def f_X4_holds (x1 : Int32) (x2 : Int32) (M0 : MS) : Option (Int32 × MS) := (k_bind (f_X4_isAct x1 M0) fun r1 M1 => (if r1 = 0 then some (((-1) : Int32), M1) else (if (f_X4_in x2 (0 : Int32) (23 : Int32)) = 0 then some (((-1) : Int32), M1) else (if 0 ≤ x1.toInt ∧ x1.toInt < 80 then (if ((M1.2.1 11) x1.toNatClampNeg) = 1 then (if 0 ≤ ((24 * x1) + x2).toInt ∧ ((24 * x1) + x2).toInt < 1920 then some (((M1.2.1 23) ((24 * x1) + x2).toNatClampNeg), M1) else none) else some ((0 : Int32), M1)) else none))))
set_option maxHeartbeats 4000000 in
set_option maxRecDepth 100000 in
theorem c_X4_holds {l : Launch} {D : va_G} {sz : Nat} {cI cZ : ClassId} {h : Nat} {ad : Nat → Nat} {M0 M' : MS} {x1 x2 r' : Int32} (hf : f_X4_holds x1 x2 M0 = some (r', M')) : Met l yX4_holds wsX4_holds ({ frames := 2, cells := 0, slots := 0, locals := 43 }) (va_Pc [.ref h, .int x1, .int x2] (k_Pre D [(cI, .int), (cZ, .boolean)] (mW cI cZ h ad M0) sz)) (va_Qi (fun (r0 : Int32) (u : va_W × List (ClassId × FieldType)) => r0 = r' ∧ u = (mW cI cZ h ad M', [(cI, .int), (cZ, .boolean)]) ∧ M'.2.2 = M0.2.2) (k_B D (va_A (mW cI cZ h ad M0) sz)) (va_A (mW cI cZ h ad M0) sz)) (0) (0) (va_A (mW cI cZ h ad M0) sz) := by
  refine Met.ofW (cc := cX4_holds) (maxL := 3) (ret := (some .int)) (by decide) rfl ?_
  intro p e s m args below meth c s₁ B hml hv
  obtain ⟨rfl, hsz, hP, hK, hD0⟩ := hv
  have hx := B.exec
  have hb := B.bytes
  have hr := B.returns
  have hts := atoms_spec (ws := wsX4_holds) B.pre
  have hown : s.vm.findClass RX4 = some m.cls := findClass_of_methodNamed B.named
  have hlocks := B.notSynchronized
  subst hsz
  have hD := hD0.self (sz := s.heap.size)
  generalize hAe : va_A (mW cI cZ h ad M0) s.heap.size = A at hD ⊢
  have hA : ∀ q : Nat, s.heap.size ≤ q → A q := fun q h => by rw [← hAe]; exact Or.inr h
  have hS : va_S A s.heap s.heap [] := va_S.rf
  have hl := lv_entry ([.ref h, .int x1, .int x2]) (n := 3) (Nat.le_of_ble_eq_true rfl)
  rw [lg_entry_eq]
  generalize (lg_sl ([.ref h, .int x1, .int x2]) ++ List.replicate (3 - (lg_sl ([.ref h, .int x1, .int x2])).length) Slot.unset).toArray = ls at hl ⊢
  have hl : lv_has ls 3 [(0, .ref h), (1, .int x1), (2, .int x2)] := hl
  refine k_Q (fun Q hQ => ?_)
  have hq := hf
  rw [f_X4_holds] at hq
  refine lv_aload_n hx hb dX4_holds_0 rfl (lv_at hl 0 rfl) ?_
  refine lv_iload_n hx hb dX4_holds_1 rfl (lv_at hl 1 rfl) ?_
  obtain ⟨q1, M1, h1, hq⟩ := k_bd hq
  have hFc := k_free hD hS hA
  refine va_calli (va_runV (As := [.int x1]) (rest := []) ⟨hx, hb, hml, hown, hts⟩ (c_X4_isAct (l := l) (D := D) (cI := cI) (cZ := cZ) (h := h) (ad := ad)  (hf := h1)) (cwV 1 hts gX4_holds_X4_isAct rfl rfl rfl (by decide +kernel) ⟨Nat.le_of_ble_eq_true rfl, Nat.le_of_ble_eq_true rfl⟩) ⟨k_blind, va_recv hK hP (ci := 4) (q0 := 0) rfl rfl, fun U hU hW => ⟨rfl, k_pre hU hW hP hK hD⟩⟩ rfl rfl hl.1 rfl (lv_room (Nat.le_of_ble_eq_true rfl)) dX4_holds_2 ⟨by decide, by decide⟩) hS (fun q _ h => hFc q h) hFc (fun r1 u t H1 locs ht hvm hw hB hz1 hk1 hS => ?_)
  obtain ⟨rfl, rfl, hg1⟩ := hw
  have hg1 : M1.2.2 = M0.2.2 := hg1
  refine W.widen (k := 0) (n := 0) (Nat.le_refl _) (Nat.le_refl _) ?_
  obtain ⟨hP1, hK1, hD1⟩ := hB
  rw [ht] at hP1
  have hP := hP1
  have hD := k_weak hD1 hFc
  generalize H1 = H at hP hS ⊢
  have hP : va_P D vwCl (mW cI cZ h ad M1) _ := hP
  have hD : va_D A (mW cI cZ h ad M1) := hD
  refine lv_if_eq (tgt := 18) hx hb dX4_holds_5 (by decide) (fun c2 => ?_) (fun c2 => ?_)
  · skip
    rw [if_pos c2] at hq
    refine lv_iconst (v := (-1)) hx hb dX4_holds_18 (by decide) ?_
    obtain ⟨e2, e3⟩ := k_so hq
    subst hQ
    have hP : va_P D vwCl (mW cI cZ h ad M1) _ := hP
    have hD : va_D A (mW cI cZ h ad M1) := hD
    refine W.widen (k := 0) (n := 0) (by decide) (by decide) ?_
    have hgE := congrArg (fun X : MS => X.2.2) e3
    have hgE : M1.2.2 = M'.2.2 := hgE
    exact W.iret (v := (-1)) hx hb hr (fun t ht hW => ⟨⟨(-1), (mW cI cZ h ad M1, [(cI, .int), (cZ, .boolean)]), rfl, ⟨e2, (congrArg (fun X : MS => ((mW cI cZ h ad X, [(cI, .int), (cZ, .boolean)]) : va_W × List (ClassId × FieldType))) e3), by omega⟩, ⟨by rw [ht]; exact hP, va_K.moved hW.alike hK, hD⟩⟩, hS.F ht⟩) hS.2.2 dX4_holds_19
  · skip
    rw [if_neg c2] at hq
    refine lv_iload_n hx hb dX4_holds_8 rfl (lv_at hl 2 rfl) ?_
    refine lv_iconst (v := 0) hx hb dX4_holds_9 (by decide) ?_
    refine lv_bipush (v := 23) hx hb dX4_holds_10 (by decide) ?_
    have hFc := k_free hD hS hA
    refine va_calli (va_runS (As := [.int x2, .int 0, .int 23]) (rest := []) ⟨hx, hb, hml, hown, hts⟩ (c_X4_in (l := l) (D := D) (cI := cI) (cZ := cZ) (h := h) (ad := ad) (M0 := M1) (hf := rfl)) (va_cwS 3 hts gX4_holds_X4_in rfl rfl rfl (by decide +kernel) ⟨Nat.le_of_ble_eq_true rfl, Nat.le_of_ble_eq_true rfl⟩) ⟨k_blind, fun U hU hW => ⟨rfl, k_pre hU hW hP hK hD⟩⟩ rfl rfl hl.1 rfl (lv_room (Nat.le_of_ble_eq_true rfl)) dX4_holds_12 ⟨by decide, by decide⟩) hS (fun q _ h => hFc q h) hFc (fun r3 u t H1 locs ht hvm hw hB hz1 hk1 hS => ?_)
    obtain ⟨rfl, rfl⟩ := hw
    refine W.widen (k := 0) (n := 0) (Nat.le_refl _) (Nat.le_refl _) ?_
    obtain ⟨hP1, hK1, hD1⟩ := hB
    rw [ht] at hP1
    have hP := hP1
    have hD := k_weak hD1 hFc
    generalize H1 = H at hP hS ⊢
    have hP : va_P D vwCl (mW cI cZ h ad M1) _ := hP
    have hD : va_D A (mW cI cZ h ad M1) := hD
    refine lv_if_ne (tgt := 20) hx hb dX4_holds_15 (by decide) (fun c4 => ?_) (fun c4 => ?_)
    · skip
      rw [if_neg c4] at hq
      refine lv_aload_n hx hb dX4_holds_20 rfl (lv_at hl 0 rfl) ?_
      refine va_get (D := D) (ci := 4) (v := .ref (ad 11)) (C := RX4) (T := TX4) (N := 39) hx hb hts kin_X4_holds_X4 hown hK hP 0 rfl rfl 11 (by decide) (hts _ kw_X4_holds__fieldLink_RX4_37_ActHouseModel_state_I_) (fun _ h9 => h9) rfl dX4_holds_21 ?_
      refine lv_iload_n hx hb dX4_holds_24 rfl (lv_at hl 1 rfl) ?_
      obtain ⟨b5, hq⟩ := k_if hq
      refine va_iald hx hb hK hP 10 0 (f := (M1.2.1 11)) rfl rfl (k_in b5.1 b5.2) dX4_holds_25 ?_
      refine lv_iconst (v := 1) hx hb dX4_holds_26 (by decide) ?_
      refine lv_icmp_ne (tgt := 44) hx hb dX4_holds_27 (by decide) (fun c6 => ?_) (fun c6 => ?_)
      · skip
        rw [if_neg c6] at hq
        refine lv_iconst (v := 0) hx hb dX4_holds_44 (by decide) ?_
        obtain ⟨e2, e3⟩ := k_so hq
        subst hQ
        have hP : va_P D vwCl (mW cI cZ h ad M1) _ := hP
        have hD : va_D A (mW cI cZ h ad M1) := hD
        refine W.widen (k := 0) (n := 0) (by decide) (by decide) ?_
        have hgE := congrArg (fun X : MS => X.2.2) e3
        have hgE : M1.2.2 = M'.2.2 := hgE
        exact W.iret (v := 0) hx hb hr (fun t ht hW => ⟨⟨0, (mW cI cZ h ad M1, [(cI, .int), (cZ, .boolean)]), rfl, ⟨e2, (congrArg (fun X : MS => ((mW cI cZ h ad X, [(cI, .int), (cZ, .boolean)]) : va_W × List (ClassId × FieldType))) e3), by omega⟩, ⟨by rw [ht]; exact hP, va_K.moved hW.alike hK, hD⟩⟩, hS.F ht⟩) hS.2.2 dX4_holds_45
      · skip
        rw [if_pos c6] at hq
        refine lv_aload_n hx hb dX4_holds_30 rfl (lv_at hl 0 rfl) ?_
        refine va_get (D := D) (ci := 4) (v := .ref (ad 23)) (C := RX4) (T := TX4) (N := 39) hx hb hts kin_X4_holds_X4 hown hK hP 0 rfl rfl 23 (by decide) (hts _ kw_X4_holds__fieldLink_RX4_74_ActHouseModel_holds_I_) (fun _ h9 => h9) rfl dX4_holds_31 ?_
        refine lv_bipush (v := 24) hx hb dX4_holds_34 (by decide) ?_
        refine lv_iload_n hx hb dX4_holds_36 rfl (lv_at hl 1 rfl) ?_
        refine lv_imul hx hb dX4_holds_37 ?_
        refine lv_iload_n hx hb dX4_holds_38 rfl (lv_at hl 2 rfl) ?_
        refine lv_iadd hx hb dX4_holds_39 ?_
        obtain ⟨b7, hq⟩ := k_if hq
        refine va_iald hx hb hK hP 22 0 (f := (M1.2.1 23)) rfl rfl (k_in b7.1 b7.2) dX4_holds_40 ?_
        refine lv_goto (tgt := 45) hx hb dX4_holds_41 (by decide) ?_
        obtain ⟨e2, e3⟩ := k_so hq
        subst hQ
        have hP : va_P D vwCl (mW cI cZ h ad M1) _ := hP
        have hD : va_D A (mW cI cZ h ad M1) := hD
        refine W.widen (k := 0) (n := 0) (by decide) (by decide) ?_
        have hgE := congrArg (fun X : MS => X.2.2) e3
        have hgE : M1.2.2 = M'.2.2 := hgE
        exact W.iret (v := (M1.2.1 23) ((24 * x1) + x2).toNatClampNeg) hx hb hr (fun t ht hW => ⟨⟨(M1.2.1 23) ((24 * x1) + x2).toNatClampNeg, (mW cI cZ h ad M1, [(cI, .int), (cZ, .boolean)]), rfl, ⟨e2, (congrArg (fun X : MS => ((mW cI cZ h ad X, [(cI, .int), (cZ, .boolean)]) : va_W × List (ClassId × FieldType))) e3), by omega⟩, ⟨by rw [ht]; exact hP, va_K.moved hW.alike hK, hD⟩⟩, hS.F ht⟩) hS.2.2 dX4_holds_45
    · skip
      rw [if_pos c4] at hq
      refine lv_iconst (v := (-1)) hx hb dX4_holds_18 (by decide) ?_
      obtain ⟨e2, e3⟩ := k_so hq
      subst hQ
      have hP : va_P D vwCl (mW cI cZ h ad M1) _ := hP
      have hD : va_D A (mW cI cZ h ad M1) := hD
      refine W.widen (k := 0) (n := 0) (by decide) (by decide) ?_
      have hgE := congrArg (fun X : MS => X.2.2) e3
      have hgE : M1.2.2 = M'.2.2 := hgE
      exact W.iret (v := (-1)) hx hb hr (fun t ht hW => ⟨⟨(-1), (mW cI cZ h ad M1, [(cI, .int), (cZ, .boolean)]), rfl, ⟨e2, (congrArg (fun X : MS => ((mW cI cZ h ad X, [(cI, .int), (cZ, .boolean)]) : va_W × List (ClassId × FieldType))) e3), by omega⟩, ⟨by rw [ht]; exact hP, va_K.moved hW.alike hK, hD⟩⟩, hS.F ht⟩) hS.2.2 dX4_holds_19
set_option maxRecDepth 100000 in
theorem kw_X4_value__constant_RX4_211_2147483648_ : (.constant RX4 211 (-2147483648) : Cond) ∈ wsX4_value := by decide +kernel
set_option maxRecDepth 100000 in
theorem kw_X4_value__fieldLink_RX4_130_ActHouseModel_now_I_ : (.fieldLink RX4 130 "ActHouseModel" "now" "I" : Cond) ∈ wsX4_value := by decide +kernel
set_option maxRecDepth 100000 in
theorem kin_X4_value_X4 : ∀ w ∈ u_ws RX4 TX4 39, w ∈ wsX4_value := by decide +kernel
set_option maxRecDepth 100000 in
theorem kw_X4_value__fieldLink_RX4_168_ActHouseModel_dones_I_ : (.fieldLink RX4 168 "ActHouseModel" "dones" "I" : Cond) ∈ wsX4_value := by decide +kernel
set_option maxRecDepth 100000 in
theorem kw_X4_value__fieldLink_RX4_92_ActHouseModel_done_I_ : (.fieldLink RX4 92 "ActHouseModel" "done" "[I" : Cond) ∈ wsX4_value := by decide +kernel
set_option maxRecDepth 100000 in
theorem kw_X4_value__fieldLink_RX4_56_ActHouseModel_doneIn_I_ : (.fieldLink RX4 56 "ActHouseModel" "doneIn" "[I" : Cond) ∈ wsX4_value := by decide +kernel
set_option maxRecDepth 100000 in
theorem kw_X4_value__fieldLink_RX4_74_ActHouseModel_holds_I_ : (.fieldLink RX4 74 "ActHouseModel" "holds" "[I" : Cond) ∈ wsX4_value := by decide +kernel
set_option maxRecDepth 100000 in
theorem kw_X4_value__fieldLink_RX4_77_ActHouseModel_writes_I_ : (.fieldLink RX4 77 "ActHouseModel" "writes" "[I" : Cond) ∈ wsX4_value := by decide +kernel
set_option maxRecDepth 100000 in
theorem kw_X4_value__fieldLink_RX4_80_ActHouseModel_gives_I_ : (.fieldLink RX4 80 "ActHouseModel" "gives" "[I" : Cond) ∈ wsX4_value := by decide +kernel
def f_X4_value_118 (K30 : Int32 → Int32 → Int32 → Int32 → MS → Option (Int32 × MS)) (v1 : Int32) (v2 : Int32) (v3 : Int32) (v4 : Int32)  (M : MS) : Option (Int32 × MS) := K30 v1 v2 v3 (v4 + 1) M
def f_X4_value_30  : Nat → Int32 → Int32 → Int32 → Int32 → MS → Option (Int32 × MS)
  | 0, _, _, _, _, _ => none
  | k + 1, v1, v2, v3, v4, M => (if (M.1 29) ≤ v4 then some (v3, M) else (if 0 ≤ v4.toInt ∧ v4.toInt < 80 then (if 0 ≤ ((M.2.1 30) v4.toNatClampNeg).toInt ∧ ((M.2.1 30) v4.toNatClampNeg).toInt < 80 then (if ((M.2.1 17) ((M.2.1 30) v4.toNatClampNeg).toNatClampNeg) ≤ v2 then (if v1 < 24 then (if 0 ≤ ((24 * ((M.2.1 30) v4.toNatClampNeg)) + v1).toInt ∧ ((24 * ((M.2.1 30) v4.toNatClampNeg)) + v1).toInt < 1920 then (if ((M.2.1 23) ((24 * ((M.2.1 30) v4.toNatClampNeg)) + v1).toNatClampNeg) = 3 then f_X4_value_118 (fun (v1 : Int32) (v2 : Int32) (v3 : Int32) (v4 : Int32) (M : MS) => f_X4_value_30  k v1 v2 v3 v4 M) v1 v2 ((M.2.1 24) ((24 * ((M.2.1 30) v4.toNatClampNeg)) + v1).toNatClampNeg) v4 M else f_X4_value_118 (fun (v1 : Int32) (v2 : Int32) (v3 : Int32) (v4 : Int32) (M : MS) => f_X4_value_30  k v1 v2 v3 v4 M) v1 v2 v3 v4 M) else none) else (if 0 ≤ (((8 * ((M.2.1 30) v4.toNatClampNeg)) + v1) - 24).toInt ∧ (((8 * ((M.2.1 30) v4.toNatClampNeg)) + v1) - 24).toInt < 640 then f_X4_value_118 (fun (v1 : Int32) (v2 : Int32) (v3 : Int32) (v4 : Int32) (M : MS) => f_X4_value_30  k v1 v2 v3 v4 M) v1 v2 (v3 + ((M.2.1 25) (((8 * ((M.2.1 30) v4.toNatClampNeg)) + v1) - 24).toNatClampNeg)) v4 M else none)) else f_X4_value_118 (fun (v1 : Int32) (v2 : Int32) (v3 : Int32) (v4 : Int32) (M : MS) => f_X4_value_30  k v1 v2 v3 v4 M) v1 v2 v3 v4 M) else none) else none))
def f_X4_value (x1 : Int32) (x2 : Int32) (M0 : MS) : Option (Int32 × MS) := (if (f_X4_in x1 (0 : Int32) (31 : Int32)) = 0 then some (((-2147483648) : Int32), M0) else (if (f_X4_in x2 (0 : Int32) (M0.1 0)) = 0 then some (((-2147483648) : Int32), M0) else f_X4_value_30  200 x1 x2 (0 : Int32) (0 : Int32) M0))
set_option maxHeartbeats 4000000 in
set_option maxRecDepth 100000 in
theorem c_X4_value {l : Launch} {D : va_G} {sz : Nat} {cI cZ : ClassId} {h : Nat} {ad : Nat → Nat} {M0 M' : MS} {x1 x2 r' : Int32} (hf : f_X4_value x1 x2 M0 = some (r', M')) : Met l yX4_value wsX4_value ({ frames := 1, cells := 0, slots := 0, locals := 22 }) (va_Pc [.ref h, .int x1, .int x2] (k_Pre D [(cI, .int), (cZ, .boolean)] (mW cI cZ h ad M0) sz)) (va_Qi (fun (r0 : Int32) (u : va_W × List (ClassId × FieldType)) => r0 = r' ∧ u = (mW cI cZ h ad M', [(cI, .int), (cZ, .boolean)]) ∧ M'.2.2 = M0.2.2) (k_B D (va_A (mW cI cZ h ad M0) sz)) (va_A (mW cI cZ h ad M0) sz)) (0) (0) (va_A (mW cI cZ h ad M0) sz) := by
  refine Met.ofW (cc := cX4_value) (maxL := 6) (ret := (some .int)) (by decide) rfl ?_
  intro p e s m args below meth c s₁ B hml hv
  obtain ⟨rfl, hsz, hP, hK, hD0⟩ := hv
  have hx := B.exec
  have hb := B.bytes
  have hr := B.returns
  have hts := atoms_spec (ws := wsX4_value) B.pre
  have hown : s.vm.findClass RX4 = some m.cls := findClass_of_methodNamed B.named
  have hlocks := B.notSynchronized
  subst hsz
  have hD := hD0.self (sz := s.heap.size)
  generalize hAe : va_A (mW cI cZ h ad M0) s.heap.size = A at hD ⊢
  have hA : ∀ q : Nat, s.heap.size ≤ q → A q := fun q h => by rw [← hAe]; exact Or.inr h
  have hS : va_S A s.heap s.heap [] := va_S.rf
  have hl := lv_entry ([.ref h, .int x1, .int x2]) (n := 6) (Nat.le_of_ble_eq_true rfl)
  rw [lg_entry_eq]
  generalize (lg_sl ([.ref h, .int x1, .int x2]) ++ List.replicate (6 - (lg_sl ([.ref h, .int x1, .int x2])).length) Slot.unset).toArray = ls at hl ⊢
  have hl : lv_has ls 6 [(0, .ref h), (1, .int x1), (2, .int x2)] := hl
  refine k_Q (fun Q hQ => ?_)
  have B118 : ∀ (K30 : Int32 → Int32 → Int32 → Int32 → MS → Option (Int32 × MS)) (hK30 : ∀ (v1 : Int32) (v2 : Int32) (v3 : Int32) (v4 : Int32)  (M : MS)  (H : Heap) (locs : List Loc) (ls : Array Slot), K30 v1 v2 v3 v4 M = some (r', M') → M.2.2 = M0.2.2 → va_P D vwCl (mW cI cZ h ad M) H → va_D A (mW cI cZ h ad M) → va_S A s.heap H locs → lv_has ls 6 [(0, .ref h), (1, .int v1), (2, .int v2), (3, .int v3), (4, .int v4)] → W p l e (headSpec wsX4_value ({ frames := 1, cells := 0, slots := 0, locals := 22 })).room s m ([.ref h, .int x1, .int x2] : List Value).toArray below meth c H locs (0) (0) Q (F0 m 30 ls [])), ∀ (v1 : Int32) (v2 : Int32) (v3 : Int32) (v4 : Int32)  (M : MS)  (H : Heap) (locs : List Loc) (ls : Array Slot), f_X4_value_118 K30 v1 v2 v3 v4 M = some (r', M') → M.2.2 = M0.2.2 → va_P D vwCl (mW cI cZ h ad M) H → va_D A (mW cI cZ h ad M) → va_S A s.heap H locs → lv_has ls 6 [(0, .ref h), (1, .int v1), (2, .int v2), (3, .int v3), (4, .int v4)] → W p l e (headSpec wsX4_value ({ frames := 1, cells := 0, slots := 0, locals := 22 })).room s m ([.ref h, .int x1, .int x2] : List Value).toArray below meth c H locs (0) (0) Q (F0 m 118 ls []) := by
    intro K30 hK30
    intro v1 v2 v3 v4  M  H locs ls hq hg hP hD hS hl
    rw [f_X4_value_118] at hq
    refine lv_iinc (v := v4 + 1) (lv' := [(4, .int (v4 + 1)), (0, .ref h), (1, .int v1), (2, .int v2), (3, .int v3)]) hx hb dX4_value_118 hl (k := 4) rfl (by rfl) (by decide) rfl (fun ls hl => ?_)
    refine lv_goto (tgt := 30) hx hb dX4_value_121 (by decide) ?_
    exact hK30 v1 v2 v3 (v4 + 1) M  _ _ _ hq (by show M.2.2 = M0.2.2; omega) hP hD hS (lv_sub hl [1, 2, 3, 4, 0] rfl)
  have B30 : ∀  (k : Nat), ∀ (v1 : Int32) (v2 : Int32) (v3 : Int32) (v4 : Int32)  (M : MS)  (H : Heap) (locs : List Loc) (ls : Array Slot), f_X4_value_30  k v1 v2 v3 v4 M = some (r', M') → M.2.2 = M0.2.2 → va_P D vwCl (mW cI cZ h ad M) H → va_D A (mW cI cZ h ad M) → va_S A s.heap H locs → lv_has ls 6 [(0, .ref h), (1, .int v1), (2, .int v2), (3, .int v3), (4, .int v4)] → W p l e (headSpec wsX4_value ({ frames := 1, cells := 0, slots := 0, locals := 22 })).room s m ([.ref h, .int x1, .int x2] : List Value).toArray below meth c H locs (0) (0) Q (F0 m 30 ls []) := by
    intro  k
    induction k with
    | zero =>
      intro v1 v2 v3 v4  M  H locs ls hq hg hP hD hS hl
      exact absurd hq (by rw [f_X4_value_30]; exact k_non)
    | succ k ih =>
      intro v1 v2 v3 v4  M  H locs ls hq hg hP hD hS hl
      rw [f_X4_value_30] at hq
      refine lv_iload hx hb dX4_value_30 (lv_at hl 4 rfl) ?_
      refine lv_aload_n hx hb dX4_value_32 rfl (lv_at hl 0 rfl) ?_
      refine va_get (D := D) (ci := 4) (v := .int (M.1 29)) (C := RX4) (T := TX4) (N := 39) hx hb hts kin_X4_value_X4 hown hK hP 0 rfl rfl 29 (by decide) (hts _ kw_X4_value__fieldLink_RX4_168_ActHouseModel_dones_I_) (fun _ h9 => h9) rfl dX4_value_33 ?_
      refine lv_icmp_ge (tgt := 124) hx hb dX4_value_36 (by decide) (fun c5 => ?_) (fun c5 => ?_)
      · skip
        rw [if_pos c5] at hq
        refine lv_iload_n hx hb dX4_value_124 rfl (lv_at hl 3 rfl) ?_
        obtain ⟨e2, e3⟩ := k_so hq
        subst hQ
        have hP : va_P D vwCl (mW cI cZ h ad M) _ := hP
        have hD : va_D A (mW cI cZ h ad M) := hD
        refine W.widen (k := 0) (n := 0) (by decide) (by decide) ?_
        have hgE := congrArg (fun X : MS => X.2.2) e3
        have hgE : M.2.2 = M'.2.2 := hgE
        exact W.iret (v := v3) hx hb hr (fun t ht hW => ⟨⟨v3, (mW cI cZ h ad M, [(cI, .int), (cZ, .boolean)]), rfl, ⟨e2, (congrArg (fun X : MS => ((mW cI cZ h ad X, [(cI, .int), (cZ, .boolean)]) : va_W × List (ClassId × FieldType))) e3), by omega⟩, ⟨by rw [ht]; exact hP, va_K.moved hW.alike hK, hD⟩⟩, hS.F ht⟩) hS.2.2 dX4_value_125
      · skip
        rw [if_neg c5] at hq
        refine lv_aload_n hx hb dX4_value_39 rfl (lv_at hl 0 rfl) ?_
        refine va_get (D := D) (ci := 4) (v := .ref (ad 30)) (C := RX4) (T := TX4) (N := 39) hx hb hts kin_X4_value_X4 hown hK hP 0 rfl rfl 30 (by decide) (hts _ kw_X4_value__fieldLink_RX4_92_ActHouseModel_done_I_) (fun _ h9 => h9) rfl dX4_value_40 ?_
        refine lv_iload hx hb dX4_value_43 (lv_at hl 4 rfl) ?_
        obtain ⟨b6, hq⟩ := k_if hq
        refine va_iald hx hb hK hP 28 0 (f := (M.2.1 30)) rfl rfl (k_in b6.1 b6.2) dX4_value_45 ?_
        refine lv_istore (lv' := [(5, .int ((M.2.1 30) v4.toNatClampNeg)), (0, .ref h), (1, .int v1), (2, .int v2), (3, .int v3), (4, .int v4)]) hx hb dX4_value_46 hl (by decide) rfl (fun ls hl => ?_)
        refine lv_aload_n hx hb dX4_value_48 rfl (lv_at hl 1 rfl) ?_
        refine va_get (D := D) (ci := 4) (v := .ref (ad 17)) (C := RX4) (T := TX4) (N := 39) hx hb hts kin_X4_value_X4 hown hK hP 0 rfl rfl 17 (by decide) (hts _ kw_X4_value__fieldLink_RX4_56_ActHouseModel_doneIn_I_) (fun _ h9 => h9) rfl dX4_value_49 ?_
        refine lv_iload hx hb dX4_value_52 (lv_at hl 0 rfl) ?_
        obtain ⟨b7, hq⟩ := k_if hq
        refine va_iald hx hb hK hP 16 0 (f := (M.2.1 17)) rfl rfl (k_in b7.1 b7.2) dX4_value_54 ?_
        refine lv_iload_n hx hb dX4_value_55 rfl (lv_at hl 3 rfl) ?_
        refine lv_icmp_le (tgt := 62) hx hb dX4_value_56 (by decide) (fun c8 => ?_) (fun c8 => ?_)
        · skip
          rw [if_pos c8] at hq
          refine lv_iload_n hx hb dX4_value_62 rfl (lv_at hl 2 rfl) ?_
          refine lv_bipush (v := 24) hx hb dX4_value_63 (by decide) ?_
          refine lv_icmp_lt (tgt := 89) hx hb dX4_value_65 (by decide) (fun c9 => ?_) (fun c9 => ?_)
          · skip
            rw [if_pos c9] at hq
            refine lv_aload_n hx hb dX4_value_89 rfl (lv_at hl 1 rfl) ?_
            refine va_get (D := D) (ci := 4) (v := .ref (ad 23)) (C := RX4) (T := TX4) (N := 39) hx hb hts kin_X4_value_X4 hown hK hP 0 rfl rfl 23 (by decide) (hts _ kw_X4_value__fieldLink_RX4_74_ActHouseModel_holds_I_) (fun _ h9 => h9) rfl dX4_value_90 ?_
            refine lv_bipush (v := 24) hx hb dX4_value_93 (by decide) ?_
            refine lv_iload hx hb dX4_value_95 (lv_at hl 0 rfl) ?_
            refine lv_imul hx hb dX4_value_97 ?_
            refine lv_iload_n hx hb dX4_value_98 rfl (lv_at hl 2 rfl) ?_
            refine lv_iadd hx hb dX4_value_99 ?_
            obtain ⟨b10, hq⟩ := k_if hq
            refine va_iald hx hb hK hP 22 0 (f := (M.2.1 23)) rfl rfl (k_in b10.1 b10.2) dX4_value_100 ?_
            refine lv_iconst (v := 3) hx hb dX4_value_101 (by decide) ?_
            refine lv_icmp_ne (tgt := 118) hx hb dX4_value_102 (by decide) (fun c11 => ?_) (fun c11 => ?_)
            · skip
              rw [if_neg c11] at hq
              exact B118 (fun (v1 : Int32) (v2 : Int32) (v3 : Int32) (v4 : Int32) (M : MS) => f_X4_value_30  k v1 v2 v3 v4 M) ih v1 v2 v3 v4 M  _ _ _ hq (by show M.2.2 = M0.2.2; omega) hP hD hS (lv_sub hl [1, 2, 3, 4, 5] rfl)
            · skip
              rw [if_pos c11] at hq
              refine lv_aload_n hx hb dX4_value_105 rfl (lv_at hl 1 rfl) ?_
              refine va_get (D := D) (ci := 4) (v := .ref (ad 24)) (C := RX4) (T := TX4) (N := 39) hx hb hts kin_X4_value_X4 hown hK hP 0 rfl rfl 24 (by decide) (hts _ kw_X4_value__fieldLink_RX4_77_ActHouseModel_writes_I_) (fun _ h9 => h9) rfl dX4_value_106 ?_
              refine lv_bipush (v := 24) hx hb dX4_value_109 (by decide) ?_
              refine lv_iload hx hb dX4_value_111 (lv_at hl 0 rfl) ?_
              refine lv_imul hx hb dX4_value_113 ?_
              refine lv_iload_n hx hb dX4_value_114 rfl (lv_at hl 2 rfl) ?_
              refine lv_iadd hx hb dX4_value_115 ?_
              refine va_iald hx hb hK hP 23 0 (f := (M.2.1 24)) rfl rfl (k_in b10.1 b10.2) dX4_value_116 ?_
              refine lv_istore_n (lv' := [(3, .int ((M.2.1 24) ((24 * ((M.2.1 30) v4.toNatClampNeg)) + v1).toNatClampNeg)), (5, .int ((M.2.1 30) v4.toNatClampNeg)), (0, .ref h), (1, .int v1), (2, .int v2), (4, .int v4)]) hx hb dX4_value_117 rfl hl (by decide) rfl (fun ls hl => ?_)
              exact B118 (fun (v1 : Int32) (v2 : Int32) (v3 : Int32) (v4 : Int32) (M : MS) => f_X4_value_30  k v1 v2 v3 v4 M) ih v1 v2 ((M.2.1 24) ((24 * ((M.2.1 30) v4.toNatClampNeg)) + v1).toNatClampNeg) v4 M  _ _ _ hq (by show M.2.2 = M0.2.2; omega) hP hD hS (lv_sub hl [2, 3, 4, 0, 5] rfl)
          · skip
            rw [if_neg c9] at hq
            refine lv_iload_n hx hb dX4_value_68 rfl (lv_at hl 4 rfl) ?_
            refine lv_aload_n hx hb dX4_value_69 rfl (lv_at hl 1 rfl) ?_
            refine va_get (D := D) (ci := 4) (v := .ref (ad 25)) (C := RX4) (T := TX4) (N := 39) hx hb hts kin_X4_value_X4 hown hK hP 0 rfl rfl 25 (by decide) (hts _ kw_X4_value__fieldLink_RX4_80_ActHouseModel_gives_I_) (fun _ h9 => h9) rfl dX4_value_70 ?_
            refine lv_bipush (v := 8) hx hb dX4_value_73 (by decide) ?_
            refine lv_iload hx hb dX4_value_75 (lv_at hl 0 rfl) ?_
            refine lv_imul hx hb dX4_value_77 ?_
            refine lv_iload_n hx hb dX4_value_78 rfl (lv_at hl 2 rfl) ?_
            refine lv_iadd hx hb dX4_value_79 ?_
            refine lv_bipush (v := 24) hx hb dX4_value_80 (by decide) ?_
            refine lv_isub hx hb dX4_value_82 ?_
            obtain ⟨b12, hq⟩ := k_if hq
            refine va_iald hx hb hK hP 24 0 (f := (M.2.1 25)) rfl rfl (k_in b12.1 b12.2) dX4_value_83 ?_
            refine lv_iadd hx hb dX4_value_84 ?_
            refine lv_istore_n (lv' := [(3, .int (v3 + ((M.2.1 25) (((8 * ((M.2.1 30) v4.toNatClampNeg)) + v1) - 24).toNatClampNeg))), (5, .int ((M.2.1 30) v4.toNatClampNeg)), (0, .ref h), (1, .int v1), (2, .int v2), (4, .int v4)]) hx hb dX4_value_85 rfl hl (by decide) rfl (fun ls hl => ?_)
            refine lv_goto (tgt := 118) hx hb dX4_value_86 (by decide) ?_
            exact B118 (fun (v1 : Int32) (v2 : Int32) (v3 : Int32) (v4 : Int32) (M : MS) => f_X4_value_30  k v1 v2 v3 v4 M) ih v1 v2 (v3 + ((M.2.1 25) (((8 * ((M.2.1 30) v4.toNatClampNeg)) + v1) - 24).toNatClampNeg)) v4 M  _ _ _ hq (by show M.2.2 = M0.2.2; omega) hP hD hS (lv_sub hl [2, 3, 4, 0, 5] rfl)
        · skip
          rw [if_neg c8] at hq
          refine lv_goto (tgt := 118) hx hb dX4_value_59 (by decide) ?_
          exact B118 (fun (v1 : Int32) (v2 : Int32) (v3 : Int32) (v4 : Int32) (M : MS) => f_X4_value_30  k v1 v2 v3 v4 M) ih v1 v2 v3 v4 M  _ _ _ hq (by show M.2.2 = M0.2.2; omega) hP hD hS (lv_sub hl [1, 2, 3, 4, 5] rfl)
  have hq := hf
  rw [f_X4_value] at hq
  refine lv_iload_n hx hb dX4_value_0 rfl (lv_at hl 1 rfl) ?_
  refine lv_iconst (v := 0) hx hb dX4_value_1 (by decide) ?_
  refine lv_bipush (v := 31) hx hb dX4_value_2 (by decide) ?_
  have hFc := k_free hD hS hA
  refine va_calli (va_runS (As := [.int x1, .int 0, .int 31]) (rest := []) ⟨hx, hb, hml, hown, hts⟩ (c_X4_in (l := l) (D := D) (cI := cI) (cZ := cZ) (h := h) (ad := ad) (M0 := M0) (hf := rfl)) (va_cwS 3 hts gX4_value_X4_in rfl rfl rfl (by decide +kernel) ⟨Nat.le_of_ble_eq_true rfl, Nat.le_of_ble_eq_true rfl⟩) ⟨k_blind, fun U hU hW => ⟨rfl, k_pre hU hW hP hK hD⟩⟩ rfl rfl hl.1 rfl (lv_room (Nat.le_of_ble_eq_true rfl)) dX4_value_4 ⟨by decide, by decide⟩) hS (fun q _ h => hFc q h) hFc (fun r1 u t H1 locs ht hvm hw hB hz1 hk1 hS => ?_)
  obtain ⟨rfl, rfl⟩ := hw
  refine W.widen (k := 0) (n := 0) (Nat.le_refl _) (Nat.le_refl _) ?_
  obtain ⟨hP1, hK1, hD1⟩ := hB
  rw [ht] at hP1
  have hP := hP1
  have hD := k_weak hD1 hFc
  generalize H1 = H at hP hS ⊢
  have hP : va_P D vwCl (mW cI cZ h ad M0) _ := hP
  have hD : va_D A (mW cI cZ h ad M0) := hD
  refine lv_if_eq (tgt := 22) hx hb dX4_value_7 (by decide) (fun c2 => ?_) (fun c2 => ?_)
  · skip
    rw [if_pos c2] at hq
    refine lv_ldc (v := (-2147483648)) hx hb hown (hts _ kw_X4_value__constant_RX4_211_2147483648_) dX4_value_22 ?_
    obtain ⟨e2, e3⟩ := k_so hq
    subst hQ
    have hP : va_P D vwCl (mW cI cZ h ad M0) _ := hP
    have hD : va_D A (mW cI cZ h ad M0) := hD
    refine W.widen (k := 0) (n := 0) (by decide) (by decide) ?_
    have hgE := congrArg (fun X : MS => X.2.2) e3
    have hgE : M0.2.2 = M'.2.2 := hgE
    exact W.iret (v := (-2147483648)) hx hb hr (fun t ht hW => ⟨⟨(-2147483648), (mW cI cZ h ad M0, [(cI, .int), (cZ, .boolean)]), rfl, ⟨e2, (congrArg (fun X : MS => ((mW cI cZ h ad X, [(cI, .int), (cZ, .boolean)]) : va_W × List (ClassId × FieldType))) e3), by omega⟩, ⟨by rw [ht]; exact hP, va_K.moved hW.alike hK, hD⟩⟩, hS.F ht⟩) hS.2.2 dX4_value_24
  · skip
    rw [if_neg c2] at hq
    refine lv_iload_n hx hb dX4_value_10 rfl (lv_at hl 2 rfl) ?_
    refine lv_iconst (v := 0) hx hb dX4_value_11 (by decide) ?_
    refine lv_aload_n hx hb dX4_value_12 rfl (lv_at hl 0 rfl) ?_
    refine va_get (D := D) (ci := 4) (v := .int (M0.1 0)) (C := RX4) (T := TX4) (N := 39) hx hb hts kin_X4_value_X4 hown hK hP 0 rfl rfl 0 (by decide) (hts _ kw_X4_value__fieldLink_RX4_130_ActHouseModel_now_I_) (fun _ h9 => h9) rfl dX4_value_13 ?_
    have hFc := k_free hD hS hA
    refine va_calli (va_runS (As := [.int x2, .int 0, .int (M0.1 0)]) (rest := []) ⟨hx, hb, hml, hown, hts⟩ (c_X4_in (l := l) (D := D) (cI := cI) (cZ := cZ) (h := h) (ad := ad) (M0 := M0) (hf := rfl)) (va_cwS 3 hts gX4_value_X4_in rfl rfl rfl (by decide +kernel) ⟨Nat.le_of_ble_eq_true rfl, Nat.le_of_ble_eq_true rfl⟩) ⟨k_blind, fun U hU hW => ⟨rfl, k_pre hU hW hP hK hD⟩⟩ rfl rfl hl.1 rfl (lv_room (Nat.le_of_ble_eq_true rfl)) dX4_value_16 ⟨by decide, by decide⟩) hS (fun q _ h => hFc q h) hFc (fun r3 u t H1 locs ht hvm hw hB hz1 hk1 hS => ?_)
    obtain ⟨rfl, rfl⟩ := hw
    refine W.widen (k := 0) (n := 0) (Nat.le_refl _) (Nat.le_refl _) ?_
    obtain ⟨hP1, hK1, hD1⟩ := hB
    rw [ht] at hP1
    have hP := hP1
    have hD := k_weak hD1 hFc
    generalize H1 = H at hP hS ⊢
    have hP : va_P D vwCl (mW cI cZ h ad M0) _ := hP
    have hD : va_D A (mW cI cZ h ad M0) := hD
    refine lv_if_ne (tgt := 25) hx hb dX4_value_19 (by decide) (fun c4 => ?_) (fun c4 => ?_)
    · skip
      rw [if_neg c4] at hq
      refine lv_iconst (v := 0) hx hb dX4_value_25 (by decide) ?_
      refine lv_istore_n (lv' := [(3, .int 0), (0, .ref h), (1, .int x1), (2, .int x2)]) hx hb dX4_value_26 rfl hl (by decide) rfl (fun ls hl => ?_)
      refine lv_iconst (v := 0) hx hb dX4_value_27 (by decide) ?_
      refine lv_istore (lv' := [(4, .int 0), (3, .int 0), (0, .ref h), (1, .int x1), (2, .int x2)]) hx hb dX4_value_28 hl (by decide) rfl (fun ls hl => ?_)
      exact B30  200 x1 x2 (0 : Int32) (0 : Int32) M0  _ _ _ hq (by show M0.2.2 = M0.2.2; omega) hP hD hS (lv_sub hl [2, 3, 4, 1, 0] rfl)
    · skip
      rw [if_pos c4] at hq
      refine lv_ldc (v := (-2147483648)) hx hb hown (hts _ kw_X4_value__constant_RX4_211_2147483648_) dX4_value_22 ?_
      obtain ⟨e2, e3⟩ := k_so hq
      subst hQ
      have hP : va_P D vwCl (mW cI cZ h ad M0) _ := hP
      have hD : va_D A (mW cI cZ h ad M0) := hD
      refine W.widen (k := 0) (n := 0) (by decide) (by decide) ?_
      have hgE := congrArg (fun X : MS => X.2.2) e3
      have hgE : M0.2.2 = M'.2.2 := hgE
      exact W.iret (v := (-2147483648)) hx hb hr (fun t ht hW => ⟨⟨(-2147483648), (mW cI cZ h ad M0, [(cI, .int), (cZ, .boolean)]), rfl, ⟨e2, (congrArg (fun X : MS => ((mW cI cZ h ad X, [(cI, .int), (cZ, .boolean)]) : va_W × List (ClassId × FieldType))) e3), by omega⟩, ⟨by rw [ht]; exact hP, va_K.moved hW.alike hK, hD⟩⟩, hS.F ht⟩) hS.2.2 dX4_value_24
set_option maxRecDepth 100000 in
theorem kw_X4_done__fieldLink_RX4_168_ActHouseModel_dones_I_ : (.fieldLink RX4 168 "ActHouseModel" "dones" "I" : Cond) ∈ wsX4_done := by decide +kernel
set_option maxRecDepth 100000 in
theorem kin_X4_done_X4 : ∀ w ∈ u_ws RX4 TX4 39, w ∈ wsX4_done := by decide +kernel
set_option maxRecDepth 100000 in
theorem kw_X4_done__fieldLink_RX4_92_ActHouseModel_done_I_ : (.fieldLink RX4 92 "ActHouseModel" "done" "[I" : Cond) ∈ wsX4_done := by decide +kernel
def f_X4_done (x1 : Int32) (M0 : MS) : Option (Int32 × MS) := (if (f_X4_in x1 (0 : Int32) ((M0.1 29) - 1)) = 0 then some (((-1) : Int32), M0) else (if 0 ≤ x1.toInt ∧ x1.toInt < 80 then some (((M0.2.1 30) x1.toNatClampNeg), M0) else none))
set_option maxHeartbeats 4000000 in
set_option maxRecDepth 100000 in
theorem c_X4_done {l : Launch} {D : va_G} {sz : Nat} {cI cZ : ClassId} {h : Nat} {ad : Nat → Nat} {M0 M' : MS} {x1 r' : Int32} (hf : f_X4_done x1 M0 = some (r', M')) : Met l yX4_done wsX4_done ({ frames := 1, cells := 0, slots := 0, locals := 22 }) (va_Pc [.ref h, .int x1] (k_Pre D [(cI, .int), (cZ, .boolean)] (mW cI cZ h ad M0) sz)) (va_Qi (fun (r0 : Int32) (u : va_W × List (ClassId × FieldType)) => r0 = r' ∧ u = (mW cI cZ h ad M', [(cI, .int), (cZ, .boolean)]) ∧ M'.2.2 = M0.2.2) (k_B D (va_A (mW cI cZ h ad M0) sz)) (va_A (mW cI cZ h ad M0) sz)) (0) (0) (va_A (mW cI cZ h ad M0) sz) := by
  refine Met.ofW (cc := cX4_done) (maxL := 2) (ret := (some .int)) (by decide) rfl ?_
  intro p e s m args below meth c s₁ B hml hv
  obtain ⟨rfl, hsz, hP, hK, hD0⟩ := hv
  have hx := B.exec
  have hb := B.bytes
  have hr := B.returns
  have hts := atoms_spec (ws := wsX4_done) B.pre
  have hown : s.vm.findClass RX4 = some m.cls := findClass_of_methodNamed B.named
  have hlocks := B.notSynchronized
  subst hsz
  have hD := hD0.self (sz := s.heap.size)
  generalize hAe : va_A (mW cI cZ h ad M0) s.heap.size = A at hD ⊢
  have hA : ∀ q : Nat, s.heap.size ≤ q → A q := fun q h => by rw [← hAe]; exact Or.inr h
  have hS : va_S A s.heap s.heap [] := va_S.rf
  have hl := lv_entry ([.ref h, .int x1]) (n := 2) (Nat.le_of_ble_eq_true rfl)
  rw [lg_entry_eq]
  generalize (lg_sl ([.ref h, .int x1]) ++ List.replicate (2 - (lg_sl ([.ref h, .int x1])).length) Slot.unset).toArray = ls at hl ⊢
  have hl : lv_has ls 2 [(0, .ref h), (1, .int x1)] := hl
  refine k_Q (fun Q hQ => ?_)
  have hq := hf
  rw [f_X4_done] at hq
  refine lv_iload_n hx hb dX4_done_0 rfl (lv_at hl 1 rfl) ?_
  refine lv_iconst (v := 0) hx hb dX4_done_1 (by decide) ?_
  refine lv_aload_n hx hb dX4_done_2 rfl (lv_at hl 0 rfl) ?_
  refine va_get (D := D) (ci := 4) (v := .int (M0.1 29)) (C := RX4) (T := TX4) (N := 39) hx hb hts kin_X4_done_X4 hown hK hP 0 rfl rfl 29 (by decide) (hts _ kw_X4_done__fieldLink_RX4_168_ActHouseModel_dones_I_) (fun _ h9 => h9) rfl dX4_done_3 ?_
  refine lv_iconst (v := 1) hx hb dX4_done_6 (by decide) ?_
  refine lv_isub hx hb dX4_done_7 ?_
  have hFc := k_free hD hS hA
  refine va_calli (va_runS (As := [.int x1, .int 0, .int ((M0.1 29) - 1)]) (rest := []) ⟨hx, hb, hml, hown, hts⟩ (c_X4_in (l := l) (D := D) (cI := cI) (cZ := cZ) (h := h) (ad := ad) (M0 := M0) (hf := rfl)) (va_cwS 3 hts gX4_done_X4_in rfl rfl rfl (by decide +kernel) ⟨Nat.le_of_ble_eq_true rfl, Nat.le_of_ble_eq_true rfl⟩) ⟨k_blind, fun U hU hW => ⟨rfl, k_pre hU hW hP hK hD⟩⟩ rfl rfl hl.1 rfl (lv_room (Nat.le_of_ble_eq_true rfl)) dX4_done_8 ⟨by decide, by decide⟩) hS (fun q _ h => hFc q h) hFc (fun r1 u t H1 locs ht hvm hw hB hz1 hk1 hS => ?_)
  obtain ⟨rfl, rfl⟩ := hw
  refine W.widen (k := 0) (n := 0) (Nat.le_refl _) (Nat.le_refl _) ?_
  obtain ⟨hP1, hK1, hD1⟩ := hB
  rw [ht] at hP1
  have hP := hP1
  have hD := k_weak hD1 hFc
  generalize H1 = H at hP hS ⊢
  have hP : va_P D vwCl (mW cI cZ h ad M0) _ := hP
  have hD : va_D A (mW cI cZ h ad M0) := hD
  refine lv_if_eq (tgt := 23) hx hb dX4_done_11 (by decide) (fun c2 => ?_) (fun c2 => ?_)
  · skip
    rw [if_pos c2] at hq
    refine lv_iconst (v := (-1)) hx hb dX4_done_23 (by decide) ?_
    obtain ⟨e2, e3⟩ := k_so hq
    subst hQ
    have hP : va_P D vwCl (mW cI cZ h ad M0) _ := hP
    have hD : va_D A (mW cI cZ h ad M0) := hD
    refine W.widen (k := 0) (n := 0) (by decide) (by decide) ?_
    have hgE := congrArg (fun X : MS => X.2.2) e3
    have hgE : M0.2.2 = M'.2.2 := hgE
    exact W.iret (v := (-1)) hx hb hr (fun t ht hW => ⟨⟨(-1), (mW cI cZ h ad M0, [(cI, .int), (cZ, .boolean)]), rfl, ⟨e2, (congrArg (fun X : MS => ((mW cI cZ h ad X, [(cI, .int), (cZ, .boolean)]) : va_W × List (ClassId × FieldType))) e3), by omega⟩, ⟨by rw [ht]; exact hP, va_K.moved hW.alike hK, hD⟩⟩, hS.F ht⟩) hS.2.2 dX4_done_24
  · skip
    rw [if_neg c2] at hq
    refine lv_aload_n hx hb dX4_done_14 rfl (lv_at hl 0 rfl) ?_
    refine va_get (D := D) (ci := 4) (v := .ref (ad 30)) (C := RX4) (T := TX4) (N := 39) hx hb hts kin_X4_done_X4 hown hK hP 0 rfl rfl 30 (by decide) (hts _ kw_X4_done__fieldLink_RX4_92_ActHouseModel_done_I_) (fun _ h9 => h9) rfl dX4_done_15 ?_
    refine lv_iload_n hx hb dX4_done_18 rfl (lv_at hl 1 rfl) ?_
    obtain ⟨b3, hq⟩ := k_if hq
    refine va_iald hx hb hK hP 28 0 (f := (M0.2.1 30)) rfl rfl (k_in b3.1 b3.2) dX4_done_19 ?_
    refine lv_goto (tgt := 24) hx hb dX4_done_20 (by decide) ?_
    obtain ⟨e2, e3⟩ := k_so hq
    subst hQ
    have hP : va_P D vwCl (mW cI cZ h ad M0) _ := hP
    have hD : va_D A (mW cI cZ h ad M0) := hD
    refine W.widen (k := 0) (n := 0) (by decide) (by decide) ?_
    have hgE := congrArg (fun X : MS => X.2.2) e3
    have hgE : M0.2.2 = M'.2.2 := hgE
    exact W.iret (v := (M0.2.1 30) x1.toNatClampNeg) hx hb hr (fun t ht hW => ⟨⟨(M0.2.1 30) x1.toNatClampNeg, (mW cI cZ h ad M0, [(cI, .int), (cZ, .boolean)]), rfl, ⟨e2, (congrArg (fun X : MS => ((mW cI cZ h ad X, [(cI, .int), (cZ, .boolean)]) : va_W × List (ClassId × FieldType))) e3), by omega⟩, ⟨by rw [ht]; exact hP, va_K.moved hW.alike hK, hD⟩⟩, hS.F ht⟩) hS.2.2 dX4_done_24
set_option maxRecDepth 100000 in
theorem kw_X4_log__fieldLink_RX4_127_ActHouseModel_entries_I_ : (.fieldLink RX4 127 "ActHouseModel" "entries" "I" : Cond) ∈ wsX4_log := by decide +kernel
set_option maxRecDepth 100000 in
theorem kin_X4_log_X4 : ∀ w ∈ u_ws RX4 TX4 39, w ∈ wsX4_log := by decide +kernel
set_option maxRecDepth 100000 in
theorem kw_X4_log__fieldLink_RX4_95_ActHouseModel_log_I_ : (.fieldLink RX4 95 "ActHouseModel" "log" "[I" : Cond) ∈ wsX4_log := by decide +kernel
def f_X4_log (x1 : Int32) (x2 : Int32) (M0 : MS) : Option (Int32 × MS) := (if (f_X4_in x1 (0 : Int32) ((M0.1 31) - 1)) = 0 then some (((-1) : Int32), M0) else (if (f_X4_in x2 (0 : Int32) (3 : Int32)) = 0 then some (((-1) : Int32), M0) else (if 0 ≤ ((4 * x1) + x2).toInt ∧ ((4 * x1) + x2).toInt < M0.2.2 then some (((M0.2.1 33) ((4 * x1) + x2).toNatClampNeg), M0) else none)))
set_option maxHeartbeats 4000000 in
set_option maxRecDepth 100000 in
theorem c_X4_log {l : Launch} {D : va_G} {sz : Nat} {cI cZ : ClassId} {h : Nat} {ad : Nat → Nat} {M0 M' : MS} {x1 x2 r' : Int32} (hf : f_X4_log x1 x2 M0 = some (r', M')) : Met l yX4_log wsX4_log ({ frames := 1, cells := 0, slots := 0, locals := 22 }) (va_Pc [.ref h, .int x1, .int x2] (k_Pre D [(cI, .int), (cZ, .boolean)] (mW cI cZ h ad M0) sz)) (va_Qi (fun (r0 : Int32) (u : va_W × List (ClassId × FieldType)) => r0 = r' ∧ u = (mW cI cZ h ad M', [(cI, .int), (cZ, .boolean)]) ∧ M'.2.2 = M0.2.2) (k_B D (va_A (mW cI cZ h ad M0) sz)) (va_A (mW cI cZ h ad M0) sz)) (0) (0) (va_A (mW cI cZ h ad M0) sz) := by
  refine Met.ofW (cc := cX4_log) (maxL := 3) (ret := (some .int)) (by decide) rfl ?_
  intro p e s m args below meth c s₁ B hml hv
  obtain ⟨rfl, hsz, hP, hK, hD0⟩ := hv
  have hx := B.exec
  have hb := B.bytes
  have hr := B.returns
  have hts := atoms_spec (ws := wsX4_log) B.pre
  have hown : s.vm.findClass RX4 = some m.cls := findClass_of_methodNamed B.named
  have hlocks := B.notSynchronized
  subst hsz
  have hD := hD0.self (sz := s.heap.size)
  generalize hAe : va_A (mW cI cZ h ad M0) s.heap.size = A at hD ⊢
  have hA : ∀ q : Nat, s.heap.size ≤ q → A q := fun q h => by rw [← hAe]; exact Or.inr h
  have hS : va_S A s.heap s.heap [] := va_S.rf
  have hl := lv_entry ([.ref h, .int x1, .int x2]) (n := 3) (Nat.le_of_ble_eq_true rfl)
  rw [lg_entry_eq]
  generalize (lg_sl ([.ref h, .int x1, .int x2]) ++ List.replicate (3 - (lg_sl ([.ref h, .int x1, .int x2])).length) Slot.unset).toArray = ls at hl ⊢
  have hl : lv_has ls 3 [(0, .ref h), (1, .int x1), (2, .int x2)] := hl
  refine k_Q (fun Q hQ => ?_)
  have hq := hf
  rw [f_X4_log] at hq
  refine lv_iload_n hx hb dX4_log_0 rfl (lv_at hl 1 rfl) ?_
  refine lv_iconst (v := 0) hx hb dX4_log_1 (by decide) ?_
  refine lv_aload_n hx hb dX4_log_2 rfl (lv_at hl 0 rfl) ?_
  refine va_get (D := D) (ci := 4) (v := .int (M0.1 31)) (C := RX4) (T := TX4) (N := 39) hx hb hts kin_X4_log_X4 hown hK hP 0 rfl rfl 31 (by decide) (hts _ kw_X4_log__fieldLink_RX4_127_ActHouseModel_entries_I_) (fun _ h9 => h9) rfl dX4_log_3 ?_
  refine lv_iconst (v := 1) hx hb dX4_log_6 (by decide) ?_
  refine lv_isub hx hb dX4_log_7 ?_
  have hFc := k_free hD hS hA
  refine va_calli (va_runS (As := [.int x1, .int 0, .int ((M0.1 31) - 1)]) (rest := []) ⟨hx, hb, hml, hown, hts⟩ (c_X4_in (l := l) (D := D) (cI := cI) (cZ := cZ) (h := h) (ad := ad) (M0 := M0) (hf := rfl)) (va_cwS 3 hts gX4_log_X4_in rfl rfl rfl (by decide +kernel) ⟨Nat.le_of_ble_eq_true rfl, Nat.le_of_ble_eq_true rfl⟩) ⟨k_blind, fun U hU hW => ⟨rfl, k_pre hU hW hP hK hD⟩⟩ rfl rfl hl.1 rfl (lv_room (Nat.le_of_ble_eq_true rfl)) dX4_log_8 ⟨by decide, by decide⟩) hS (fun q _ h => hFc q h) hFc (fun r1 u t H1 locs ht hvm hw hB hz1 hk1 hS => ?_)
  obtain ⟨rfl, rfl⟩ := hw
  refine W.widen (k := 0) (n := 0) (Nat.le_refl _) (Nat.le_refl _) ?_
  obtain ⟨hP1, hK1, hD1⟩ := hB
  rw [ht] at hP1
  have hP := hP1
  have hD := k_weak hD1 hFc
  generalize H1 = H at hP hS ⊢
  have hP : va_P D vwCl (mW cI cZ h ad M0) _ := hP
  have hD : va_D A (mW cI cZ h ad M0) := hD
  refine lv_if_eq (tgt := 36) hx hb dX4_log_11 (by decide) (fun c2 => ?_) (fun c2 => ?_)
  · skip
    rw [if_pos c2] at hq
    refine lv_iconst (v := (-1)) hx hb dX4_log_36 (by decide) ?_
    obtain ⟨e2, e3⟩ := k_so hq
    subst hQ
    have hP : va_P D vwCl (mW cI cZ h ad M0) _ := hP
    have hD : va_D A (mW cI cZ h ad M0) := hD
    refine W.widen (k := 0) (n := 0) (by decide) (by decide) ?_
    have hgE := congrArg (fun X : MS => X.2.2) e3
    have hgE : M0.2.2 = M'.2.2 := hgE
    exact W.iret (v := (-1)) hx hb hr (fun t ht hW => ⟨⟨(-1), (mW cI cZ h ad M0, [(cI, .int), (cZ, .boolean)]), rfl, ⟨e2, (congrArg (fun X : MS => ((mW cI cZ h ad X, [(cI, .int), (cZ, .boolean)]) : va_W × List (ClassId × FieldType))) e3), by omega⟩, ⟨by rw [ht]; exact hP, va_K.moved hW.alike hK, hD⟩⟩, hS.F ht⟩) hS.2.2 dX4_log_37
  · skip
    rw [if_neg c2] at hq
    refine lv_iload_n hx hb dX4_log_14 rfl (lv_at hl 2 rfl) ?_
    refine lv_iconst (v := 0) hx hb dX4_log_15 (by decide) ?_
    refine lv_iconst (v := 3) hx hb dX4_log_16 (by decide) ?_
    have hFc := k_free hD hS hA
    refine va_calli (va_runS (As := [.int x2, .int 0, .int 3]) (rest := []) ⟨hx, hb, hml, hown, hts⟩ (c_X4_in (l := l) (D := D) (cI := cI) (cZ := cZ) (h := h) (ad := ad) (M0 := M0) (hf := rfl)) (va_cwS 3 hts gX4_log_X4_in rfl rfl rfl (by decide +kernel) ⟨Nat.le_of_ble_eq_true rfl, Nat.le_of_ble_eq_true rfl⟩) ⟨k_blind, fun U hU hW => ⟨rfl, k_pre hU hW hP hK hD⟩⟩ rfl rfl hl.1 rfl (lv_room (Nat.le_of_ble_eq_true rfl)) dX4_log_17 ⟨by decide, by decide⟩) hS (fun q _ h => hFc q h) hFc (fun r3 u t H1 locs ht hvm hw hB hz1 hk1 hS => ?_)
    obtain ⟨rfl, rfl⟩ := hw
    refine W.widen (k := 0) (n := 0) (Nat.le_refl _) (Nat.le_refl _) ?_
    obtain ⟨hP1, hK1, hD1⟩ := hB
    rw [ht] at hP1
    have hP := hP1
    have hD := k_weak hD1 hFc
    generalize H1 = H at hP hS ⊢
    have hP : va_P D vwCl (mW cI cZ h ad M0) _ := hP
    have hD : va_D A (mW cI cZ h ad M0) := hD
    refine lv_if_eq (tgt := 36) hx hb dX4_log_20 (by decide) (fun c4 => ?_) (fun c4 => ?_)
    · skip
      rw [if_pos c4] at hq
      refine lv_iconst (v := (-1)) hx hb dX4_log_36 (by decide) ?_
      obtain ⟨e2, e3⟩ := k_so hq
      subst hQ
      have hP : va_P D vwCl (mW cI cZ h ad M0) _ := hP
      have hD : va_D A (mW cI cZ h ad M0) := hD
      refine W.widen (k := 0) (n := 0) (by decide) (by decide) ?_
      have hgE := congrArg (fun X : MS => X.2.2) e3
      have hgE : M0.2.2 = M'.2.2 := hgE
      exact W.iret (v := (-1)) hx hb hr (fun t ht hW => ⟨⟨(-1), (mW cI cZ h ad M0, [(cI, .int), (cZ, .boolean)]), rfl, ⟨e2, (congrArg (fun X : MS => ((mW cI cZ h ad X, [(cI, .int), (cZ, .boolean)]) : va_W × List (ClassId × FieldType))) e3), by omega⟩, ⟨by rw [ht]; exact hP, va_K.moved hW.alike hK, hD⟩⟩, hS.F ht⟩) hS.2.2 dX4_log_37
    · skip
      rw [if_neg c4] at hq
      refine lv_aload_n hx hb dX4_log_23 rfl (lv_at hl 0 rfl) ?_
      refine va_get (D := D) (ci := 4) (v := .ref (ad 33)) (C := RX4) (T := TX4) (N := 39) hx hb hts kin_X4_log_X4 hown hK hP 0 rfl rfl 33 (by decide) (hts _ kw_X4_log__fieldLink_RX4_95_ActHouseModel_log_I_) (fun _ h9 => h9) rfl dX4_log_24 ?_
      refine lv_iconst (v := 4) hx hb dX4_log_27 (by decide) ?_
      refine lv_iload_n hx hb dX4_log_28 rfl (lv_at hl 1 rfl) ?_
      refine lv_imul hx hb dX4_log_29 ?_
      refine lv_iload_n hx hb dX4_log_30 rfl (lv_at hl 2 rfl) ?_
      refine lv_iadd hx hb dX4_log_31 ?_
      obtain ⟨b5, hq⟩ := k_if hq
      refine va_iald hx hb hK hP 29 0 (f := (M0.2.1 33)) rfl rfl (k_in b5.1 b5.2) dX4_log_32 ?_
      refine lv_goto (tgt := 37) hx hb dX4_log_33 (by decide) ?_
      obtain ⟨e2, e3⟩ := k_so hq
      subst hQ
      have hP : va_P D vwCl (mW cI cZ h ad M0) _ := hP
      have hD : va_D A (mW cI cZ h ad M0) := hD
      refine W.widen (k := 0) (n := 0) (by decide) (by decide) ?_
      have hgE := congrArg (fun X : MS => X.2.2) e3
      have hgE : M0.2.2 = M'.2.2 := hgE
      exact W.iret (v := (M0.2.1 33) ((4 * x1) + x2).toNatClampNeg) hx hb hr (fun t ht hW => ⟨⟨(M0.2.1 33) ((4 * x1) + x2).toNatClampNeg, (mW cI cZ h ad M0, [(cI, .int), (cZ, .boolean)]), rfl, ⟨e2, (congrArg (fun X : MS => ((mW cI cZ h ad X, [(cI, .int), (cZ, .boolean)]) : va_W × List (ClassId × FieldType))) e3), by omega⟩, ⟨by rw [ht]; exact hP, va_K.moved hW.alike hK, hD⟩⟩, hS.F ht⟩) hS.2.2 dX4_log_37
set_option maxRecDepth 100000 in
theorem kw_X4_count__fieldLink_RX4_130_ActHouseModel_now_I_ : (.fieldLink RX4 130 "ActHouseModel" "now" "I" : Cond) ∈ wsX4_count := by decide +kernel
set_option maxRecDepth 100000 in
theorem kin_X4_count_X4 : ∀ w ∈ u_ws RX4 TX4 39, w ∈ wsX4_count := by decide +kernel
set_option maxRecDepth 100000 in
theorem kw_X4_count__fieldLink_RX4_111_ActHouseModel_acts_I_ : (.fieldLink RX4 111 "ActHouseModel" "acts" "I" : Cond) ∈ wsX4_count := by decide +kernel
set_option maxRecDepth 100000 in
theorem kw_X4_count__fieldLink_RX4_127_ActHouseModel_entries_I_ : (.fieldLink RX4 127 "ActHouseModel" "entries" "I" : Cond) ∈ wsX4_count := by decide +kernel
set_option maxRecDepth 100000 in
theorem kw_X4_count__fieldLink_RX4_190_ActHouseModel_kept_I_ : (.fieldLink RX4 190 "ActHouseModel" "kept" "I" : Cond) ∈ wsX4_count := by decide +kernel
set_option maxRecDepth 100000 in
theorem kw_X4_count__fieldLink_RX4_184_ActHouseModel_rings_I_ : (.fieldLink RX4 184 "ActHouseModel" "rings" "I" : Cond) ∈ wsX4_count := by decide +kernel
set_option maxRecDepth 100000 in
theorem kw_X4_count__fieldLink_RX4_205_ActHouseModel_falls_I_ : (.fieldLink RX4 205 "ActHouseModel" "falls" "I" : Cond) ∈ wsX4_count := by decide +kernel
def f_X4_count (x1 : Int32) (M0 : MS) : Option (Int32 × MS) := (if x1.toInt = 0 then some ((M0.1 0), M0) else (if x1.toInt = 1 then some ((M0.1 7), M0) else (if x1.toInt = 2 then some ((M0.1 31), M0) else (if x1.toInt = 3 then some ((M0.1 32), M0) else (if x1.toInt = 4 then (k_bind (f_X4_countOf (0 : Int32) M0) fun r2 M2 => some (r2, M2)) else (if x1.toInt = 5 then (k_bind (f_X4_countOf (1 : Int32) M0) fun r3 M3 => some (r3, M3)) else (if x1.toInt = 6 then (k_bind (f_X4_countOf (2 : Int32) M0) fun r4 M4 => (k_bind (f_X4_countOf (3 : Int32) M4) fun r5 M5 => some ((r4 + r5), M5))) else (if x1.toInt = 7 then some ((M0.1 34), M0) else (if x1.toInt = 8 then some ((M0.1 35), M0) else some (((-1) : Int32), M0))))))))))
set_option maxHeartbeats 4000000 in
set_option maxRecDepth 100000 in
theorem c_X4_count {l : Launch} {D : va_G} {sz : Nat} {cI cZ : ClassId} {h : Nat} {ad : Nat → Nat} {M0 M' : MS} {x1 r' : Int32} (hf : f_X4_count x1 M0 = some (r', M')) : Met l yX4_count wsX4_count ({ frames := 1, cells := 0, slots := 0, locals := 23 }) (va_Pc [.ref h, .int x1] (k_Pre D [(cI, .int), (cZ, .boolean)] (mW cI cZ h ad M0) sz)) (va_Qi (fun (r0 : Int32) (u : va_W × List (ClassId × FieldType)) => r0 = r' ∧ u = (mW cI cZ h ad M', [(cI, .int), (cZ, .boolean)]) ∧ M'.2.2 = M0.2.2) (k_B D (va_A (mW cI cZ h ad M0) sz)) (va_A (mW cI cZ h ad M0) sz)) (0) (0) (va_A (mW cI cZ h ad M0) sz) := by
  refine Met.ofW (cc := cX4_count) (maxL := 2) (ret := (some .int)) (by decide) rfl ?_
  intro p e s m args below meth c s₁ B hml hv
  obtain ⟨rfl, hsz, hP, hK, hD0⟩ := hv
  have hx := B.exec
  have hb := B.bytes
  have hr := B.returns
  have hts := atoms_spec (ws := wsX4_count) B.pre
  have hown : s.vm.findClass RX4 = some m.cls := findClass_of_methodNamed B.named
  have hlocks := B.notSynchronized
  subst hsz
  have hD := hD0.self (sz := s.heap.size)
  generalize hAe : va_A (mW cI cZ h ad M0) s.heap.size = A at hD ⊢
  have hA : ∀ q : Nat, s.heap.size ≤ q → A q := fun q h => by rw [← hAe]; exact Or.inr h
  have hS : va_S A s.heap s.heap [] := va_S.rf
  have hl := lv_entry ([.ref h, .int x1]) (n := 2) (Nat.le_of_ble_eq_true rfl)
  rw [lg_entry_eq]
  generalize (lg_sl ([.ref h, .int x1]) ++ List.replicate (2 - (lg_sl ([.ref h, .int x1])).length) Slot.unset).toArray = ls at hl ⊢
  have hl : lv_has ls 2 [(0, .ref h), (1, .int x1)] := hl
  refine k_Q (fun Q hQ => ?_)
  have hq := hf
  rw [f_X4_count] at hq
  refine lv_iload_n hx hb dX4_count_0 rfl (lv_at hl 1 rfl) ?_
  by_cases hs1_0 : x1.toInt = 0
  · skip
    rw [if_pos hs1_0] at hq
    refine lv_tableIn (off := 51) (tgt := 52) hx hb dX4_count_1 (by rw [hs1_0]; decide) (by rw [hs1_0]; decide) (by rw [hs1_0]; rfl) (by decide) ?_
    refine lv_aload_n hx hb dX4_count_52 rfl (lv_at hl 0 rfl) ?_
    refine va_get (D := D) (ci := 4) (v := .int (M0.1 0)) (C := RX4) (T := TX4) (N := 39) hx hb hts kin_X4_count_X4 hown hK hP 0 rfl rfl 0 (by decide) (hts _ kw_X4_count__fieldLink_RX4_130_ActHouseModel_now_I_) (fun _ h9 => h9) rfl dX4_count_53 ?_
    obtain ⟨e2, e3⟩ := k_so hq
    subst hQ
    have hP : va_P D vwCl (mW cI cZ h ad M0) _ := hP
    have hD : va_D A (mW cI cZ h ad M0) := hD
    refine W.widen (k := 0) (n := 0) (by decide) (by decide) ?_
    have hgE := congrArg (fun X : MS => X.2.2) e3
    have hgE : M0.2.2 = M'.2.2 := hgE
    exact W.iret (v := M0.1 0) hx hb hr (fun t ht hW => ⟨⟨M0.1 0, (mW cI cZ h ad M0, [(cI, .int), (cZ, .boolean)]), rfl, ⟨e2, (congrArg (fun X : MS => ((mW cI cZ h ad X, [(cI, .int), (cZ, .boolean)]) : va_W × List (ClassId × FieldType))) e3), by omega⟩, ⟨by rw [ht]; exact hP, va_K.moved hW.alike hK, hD⟩⟩, hS.F ht⟩) hS.2.2 dX4_count_56
  rw [if_neg hs1_0] at hq
  by_cases hs1_1 : x1.toInt = 1
  · skip
    rw [if_pos hs1_1] at hq
    refine lv_tableIn (off := 56) (tgt := 57) hx hb dX4_count_1 (by rw [hs1_1]; decide) (by rw [hs1_1]; decide) (by rw [hs1_1]; rfl) (by decide) ?_
    refine lv_aload_n hx hb dX4_count_57 rfl (lv_at hl 0 rfl) ?_
    refine va_get (D := D) (ci := 4) (v := .int (M0.1 7)) (C := RX4) (T := TX4) (N := 39) hx hb hts kin_X4_count_X4 hown hK hP 0 rfl rfl 7 (by decide) (hts _ kw_X4_count__fieldLink_RX4_111_ActHouseModel_acts_I_) (fun _ h9 => h9) rfl dX4_count_58 ?_
    obtain ⟨e2, e3⟩ := k_so hq
    subst hQ
    have hP : va_P D vwCl (mW cI cZ h ad M0) _ := hP
    have hD : va_D A (mW cI cZ h ad M0) := hD
    refine W.widen (k := 0) (n := 0) (by decide) (by decide) ?_
    have hgE := congrArg (fun X : MS => X.2.2) e3
    have hgE : M0.2.2 = M'.2.2 := hgE
    exact W.iret (v := M0.1 7) hx hb hr (fun t ht hW => ⟨⟨M0.1 7, (mW cI cZ h ad M0, [(cI, .int), (cZ, .boolean)]), rfl, ⟨e2, (congrArg (fun X : MS => ((mW cI cZ h ad X, [(cI, .int), (cZ, .boolean)]) : va_W × List (ClassId × FieldType))) e3), by omega⟩, ⟨by rw [ht]; exact hP, va_K.moved hW.alike hK, hD⟩⟩, hS.F ht⟩) hS.2.2 dX4_count_61
  rw [if_neg hs1_1] at hq
  by_cases hs1_2 : x1.toInt = 2
  · skip
    rw [if_pos hs1_2] at hq
    refine lv_tableIn (off := 61) (tgt := 62) hx hb dX4_count_1 (by rw [hs1_2]; decide) (by rw [hs1_2]; decide) (by rw [hs1_2]; rfl) (by decide) ?_
    refine lv_aload_n hx hb dX4_count_62 rfl (lv_at hl 0 rfl) ?_
    refine va_get (D := D) (ci := 4) (v := .int (M0.1 31)) (C := RX4) (T := TX4) (N := 39) hx hb hts kin_X4_count_X4 hown hK hP 0 rfl rfl 31 (by decide) (hts _ kw_X4_count__fieldLink_RX4_127_ActHouseModel_entries_I_) (fun _ h9 => h9) rfl dX4_count_63 ?_
    obtain ⟨e2, e3⟩ := k_so hq
    subst hQ
    have hP : va_P D vwCl (mW cI cZ h ad M0) _ := hP
    have hD : va_D A (mW cI cZ h ad M0) := hD
    refine W.widen (k := 0) (n := 0) (by decide) (by decide) ?_
    have hgE := congrArg (fun X : MS => X.2.2) e3
    have hgE : M0.2.2 = M'.2.2 := hgE
    exact W.iret (v := M0.1 31) hx hb hr (fun t ht hW => ⟨⟨M0.1 31, (mW cI cZ h ad M0, [(cI, .int), (cZ, .boolean)]), rfl, ⟨e2, (congrArg (fun X : MS => ((mW cI cZ h ad X, [(cI, .int), (cZ, .boolean)]) : va_W × List (ClassId × FieldType))) e3), by omega⟩, ⟨by rw [ht]; exact hP, va_K.moved hW.alike hK, hD⟩⟩, hS.F ht⟩) hS.2.2 dX4_count_66
  rw [if_neg hs1_2] at hq
  by_cases hs1_3 : x1.toInt = 3
  · skip
    rw [if_pos hs1_3] at hq
    refine lv_tableIn (off := 66) (tgt := 67) hx hb dX4_count_1 (by rw [hs1_3]; decide) (by rw [hs1_3]; decide) (by rw [hs1_3]; rfl) (by decide) ?_
    refine lv_aload_n hx hb dX4_count_67 rfl (lv_at hl 0 rfl) ?_
    refine va_get (D := D) (ci := 4) (v := .int (M0.1 32)) (C := RX4) (T := TX4) (N := 39) hx hb hts kin_X4_count_X4 hown hK hP 0 rfl rfl 32 (by decide) (hts _ kw_X4_count__fieldLink_RX4_190_ActHouseModel_kept_I_) (fun _ h9 => h9) rfl dX4_count_68 ?_
    obtain ⟨e2, e3⟩ := k_so hq
    subst hQ
    have hP : va_P D vwCl (mW cI cZ h ad M0) _ := hP
    have hD : va_D A (mW cI cZ h ad M0) := hD
    refine W.widen (k := 0) (n := 0) (by decide) (by decide) ?_
    have hgE := congrArg (fun X : MS => X.2.2) e3
    have hgE : M0.2.2 = M'.2.2 := hgE
    exact W.iret (v := M0.1 32) hx hb hr (fun t ht hW => ⟨⟨M0.1 32, (mW cI cZ h ad M0, [(cI, .int), (cZ, .boolean)]), rfl, ⟨e2, (congrArg (fun X : MS => ((mW cI cZ h ad X, [(cI, .int), (cZ, .boolean)]) : va_W × List (ClassId × FieldType))) e3), by omega⟩, ⟨by rw [ht]; exact hP, va_K.moved hW.alike hK, hD⟩⟩, hS.F ht⟩) hS.2.2 dX4_count_71
  rw [if_neg hs1_3] at hq
  by_cases hs1_4 : x1.toInt = 4
  · skip
    rw [if_pos hs1_4] at hq
    refine lv_tableIn (off := 71) (tgt := 72) hx hb dX4_count_1 (by rw [hs1_4]; decide) (by rw [hs1_4]; decide) (by rw [hs1_4]; rfl) (by decide) ?_
    refine lv_aload_n hx hb dX4_count_72 rfl (lv_at hl 0 rfl) ?_
    refine lv_iconst (v := 0) hx hb dX4_count_73 (by decide) ?_
    obtain ⟨q2, M2, h2, hq⟩ := k_bd hq
    have hFc := k_free hD hS hA
    refine va_calli (va_runV (As := [.int 0]) (rest := []) ⟨hx, hb, hml, hown, hts⟩ (c_X4_countOf (l := l) (D := D) (cI := cI) (cZ := cZ) (h := h) (ad := ad)  (hf := h2)) (cwV 1 hts gX4_count_X4_countOf rfl rfl rfl (by decide +kernel) ⟨Nat.le_of_ble_eq_true rfl, Nat.le_of_ble_eq_true rfl⟩) ⟨k_blind, va_recv hK hP (ci := 4) (q0 := 0) rfl rfl, fun U hU hW => ⟨rfl, k_pre hU hW hP hK hD⟩⟩ rfl rfl hl.1 rfl (lv_room (Nat.le_of_ble_eq_true rfl)) dX4_count_74 ⟨by decide, by decide⟩) hS (fun q _ h => hFc q h) hFc (fun r2 u t H1 locs ht hvm hw hB hz1 hk1 hS => ?_)
    obtain ⟨rfl, rfl, hg2⟩ := hw
    have hg2 : M2.2.2 = M0.2.2 := hg2
    refine W.widen (k := 0) (n := 0) (Nat.le_refl _) (Nat.le_refl _) ?_
    obtain ⟨hP1, hK1, hD1⟩ := hB
    rw [ht] at hP1
    have hP := hP1
    have hD := k_weak hD1 hFc
    generalize H1 = H at hP hS ⊢
    have hP : va_P D vwCl (mW cI cZ h ad M2) _ := hP
    have hD : va_D A (mW cI cZ h ad M2) := hD
    obtain ⟨e2, e3⟩ := k_so hq
    subst hQ
    have hP : va_P D vwCl (mW cI cZ h ad M2) _ := hP
    have hD : va_D A (mW cI cZ h ad M2) := hD
    refine W.widen (k := 0) (n := 0) (by decide) (by decide) ?_
    have hgE := congrArg (fun X : MS => X.2.2) e3
    have hgE : M2.2.2 = M'.2.2 := hgE
    exact W.iret (v := r2) hx hb hr (fun t ht hW => ⟨⟨r2, (mW cI cZ h ad M2, [(cI, .int), (cZ, .boolean)]), rfl, ⟨e2, (congrArg (fun X : MS => ((mW cI cZ h ad X, [(cI, .int), (cZ, .boolean)]) : va_W × List (ClassId × FieldType))) e3), by omega⟩, ⟨by rw [ht]; exact hP, va_K.moved hW.alike hK, hD⟩⟩, hS.F ht⟩) hS.2.2 dX4_count_77
  rw [if_neg hs1_4] at hq
  by_cases hs1_5 : x1.toInt = 5
  · skip
    rw [if_pos hs1_5] at hq
    refine lv_tableIn (off := 77) (tgt := 78) hx hb dX4_count_1 (by rw [hs1_5]; decide) (by rw [hs1_5]; decide) (by rw [hs1_5]; rfl) (by decide) ?_
    refine lv_aload_n hx hb dX4_count_78 rfl (lv_at hl 0 rfl) ?_
    refine lv_iconst (v := 1) hx hb dX4_count_79 (by decide) ?_
    obtain ⟨q3, M3, h3, hq⟩ := k_bd hq
    have hFc := k_free hD hS hA
    refine va_calli (va_runV (As := [.int 1]) (rest := []) ⟨hx, hb, hml, hown, hts⟩ (c_X4_countOf (l := l) (D := D) (cI := cI) (cZ := cZ) (h := h) (ad := ad)  (hf := h3)) (cwV 1 hts gX4_count_X4_countOf rfl rfl rfl (by decide +kernel) ⟨Nat.le_of_ble_eq_true rfl, Nat.le_of_ble_eq_true rfl⟩) ⟨k_blind, va_recv hK hP (ci := 4) (q0 := 0) rfl rfl, fun U hU hW => ⟨rfl, k_pre hU hW hP hK hD⟩⟩ rfl rfl hl.1 rfl (lv_room (Nat.le_of_ble_eq_true rfl)) dX4_count_80 ⟨by decide, by decide⟩) hS (fun q _ h => hFc q h) hFc (fun r3 u t H1 locs ht hvm hw hB hz1 hk1 hS => ?_)
    obtain ⟨rfl, rfl, hg3⟩ := hw
    have hg3 : M3.2.2 = M0.2.2 := hg3
    refine W.widen (k := 0) (n := 0) (Nat.le_refl _) (Nat.le_refl _) ?_
    obtain ⟨hP1, hK1, hD1⟩ := hB
    rw [ht] at hP1
    have hP := hP1
    have hD := k_weak hD1 hFc
    generalize H1 = H at hP hS ⊢
    have hP : va_P D vwCl (mW cI cZ h ad M3) _ := hP
    have hD : va_D A (mW cI cZ h ad M3) := hD
    obtain ⟨e2, e3⟩ := k_so hq
    subst hQ
    have hP : va_P D vwCl (mW cI cZ h ad M3) _ := hP
    have hD : va_D A (mW cI cZ h ad M3) := hD
    refine W.widen (k := 0) (n := 0) (by decide) (by decide) ?_
    have hgE := congrArg (fun X : MS => X.2.2) e3
    have hgE : M3.2.2 = M'.2.2 := hgE
    exact W.iret (v := r3) hx hb hr (fun t ht hW => ⟨⟨r3, (mW cI cZ h ad M3, [(cI, .int), (cZ, .boolean)]), rfl, ⟨e2, (congrArg (fun X : MS => ((mW cI cZ h ad X, [(cI, .int), (cZ, .boolean)]) : va_W × List (ClassId × FieldType))) e3), by omega⟩, ⟨by rw [ht]; exact hP, va_K.moved hW.alike hK, hD⟩⟩, hS.F ht⟩) hS.2.2 dX4_count_83
  rw [if_neg hs1_5] at hq
  by_cases hs1_6 : x1.toInt = 6
  · skip
    rw [if_pos hs1_6] at hq
    refine lv_tableIn (off := 83) (tgt := 84) hx hb dX4_count_1 (by rw [hs1_6]; decide) (by rw [hs1_6]; decide) (by rw [hs1_6]; rfl) (by decide) ?_
    refine lv_aload_n hx hb dX4_count_84 rfl (lv_at hl 0 rfl) ?_
    refine lv_iconst (v := 2) hx hb dX4_count_85 (by decide) ?_
    obtain ⟨q4, M4, h4, hq⟩ := k_bd hq
    have hFc := k_free hD hS hA
    refine va_calli (va_runV (As := [.int 2]) (rest := []) ⟨hx, hb, hml, hown, hts⟩ (c_X4_countOf (l := l) (D := D) (cI := cI) (cZ := cZ) (h := h) (ad := ad)  (hf := h4)) (cwV 1 hts gX4_count_X4_countOf rfl rfl rfl (by decide +kernel) ⟨Nat.le_of_ble_eq_true rfl, Nat.le_of_ble_eq_true rfl⟩) ⟨k_blind, va_recv hK hP (ci := 4) (q0 := 0) rfl rfl, fun U hU hW => ⟨rfl, k_pre hU hW hP hK hD⟩⟩ rfl rfl hl.1 rfl (lv_room (Nat.le_of_ble_eq_true rfl)) dX4_count_86 ⟨by decide, by decide⟩) hS (fun q _ h => hFc q h) hFc (fun r4 u t H1 locs ht hvm hw hB hz1 hk1 hS => ?_)
    obtain ⟨rfl, rfl, hg4⟩ := hw
    have hg4 : M4.2.2 = M0.2.2 := hg4
    refine W.widen (k := 0) (n := 0) (Nat.le_refl _) (Nat.le_refl _) ?_
    obtain ⟨hP1, hK1, hD1⟩ := hB
    rw [ht] at hP1
    have hP := hP1
    have hD := k_weak hD1 hFc
    generalize H1 = H at hP hS ⊢
    have hP : va_P D vwCl (mW cI cZ h ad M4) _ := hP
    have hD : va_D A (mW cI cZ h ad M4) := hD
    refine lv_aload_n hx hb dX4_count_89 rfl (lv_at hl 0 rfl) ?_
    refine lv_iconst (v := 3) hx hb dX4_count_90 (by decide) ?_
    obtain ⟨q5, M5, h5, hq⟩ := k_bd hq
    have hFc := k_free hD hS hA
    refine va_calli (va_runV (As := [.int 3]) (rest := [.int r4]) ⟨hx, hb, hml, hown, hts⟩ (c_X4_countOf (l := l) (D := D) (cI := cI) (cZ := cZ) (h := h) (ad := ad)  (hf := h5)) (cwV 1 hts gX4_count_X4_countOf rfl rfl rfl (by decide +kernel) ⟨Nat.le_of_ble_eq_true rfl, Nat.le_of_ble_eq_true rfl⟩) ⟨k_blind, va_recv hK hP (ci := 4) (q0 := 0) rfl rfl, fun U hU hW => ⟨rfl, k_pre hU hW hP hK hD⟩⟩ rfl rfl hl.1 rfl (lv_room (Nat.le_of_ble_eq_true rfl)) dX4_count_91 ⟨by decide, by decide⟩) hS (fun q _ h => hFc q h) hFc (fun r5 u t H1 locs ht hvm hw hB hz1 hk1 hS => ?_)
    obtain ⟨rfl, rfl, hg5⟩ := hw
    have hg5 : M5.2.2 = M4.2.2 := hg5
    refine W.widen (k := 0) (n := 0) (Nat.le_refl _) (Nat.le_refl _) ?_
    obtain ⟨hP1, hK1, hD1⟩ := hB
    rw [ht] at hP1
    have hP := hP1
    have hD := k_weak hD1 hFc
    generalize H1 = H at hP hS ⊢
    have hP : va_P D vwCl (mW cI cZ h ad M5) _ := hP
    have hD : va_D A (mW cI cZ h ad M5) := hD
    refine lv_iadd hx hb dX4_count_94 ?_
    obtain ⟨e2, e3⟩ := k_so hq
    subst hQ
    have hP : va_P D vwCl (mW cI cZ h ad M5) _ := hP
    have hD : va_D A (mW cI cZ h ad M5) := hD
    refine W.widen (k := 0) (n := 0) (by decide) (by decide) ?_
    have hgE := congrArg (fun X : MS => X.2.2) e3
    have hgE : M5.2.2 = M'.2.2 := hgE
    exact W.iret (v := r4 + r5) hx hb hr (fun t ht hW => ⟨⟨r4 + r5, (mW cI cZ h ad M5, [(cI, .int), (cZ, .boolean)]), rfl, ⟨e2, (congrArg (fun X : MS => ((mW cI cZ h ad X, [(cI, .int), (cZ, .boolean)]) : va_W × List (ClassId × FieldType))) e3), by omega⟩, ⟨by rw [ht]; exact hP, va_K.moved hW.alike hK, hD⟩⟩, hS.F ht⟩) hS.2.2 dX4_count_95
  rw [if_neg hs1_6] at hq
  by_cases hs1_7 : x1.toInt = 7
  · skip
    rw [if_pos hs1_7] at hq
    refine lv_tableIn (off := 95) (tgt := 96) hx hb dX4_count_1 (by rw [hs1_7]; decide) (by rw [hs1_7]; decide) (by rw [hs1_7]; rfl) (by decide) ?_
    refine lv_aload_n hx hb dX4_count_96 rfl (lv_at hl 0 rfl) ?_
    refine va_get (D := D) (ci := 4) (v := .int (M0.1 34)) (C := RX4) (T := TX4) (N := 39) hx hb hts kin_X4_count_X4 hown hK hP 0 rfl rfl 34 (by decide) (hts _ kw_X4_count__fieldLink_RX4_184_ActHouseModel_rings_I_) (fun _ h9 => h9) rfl dX4_count_97 ?_
    obtain ⟨e2, e3⟩ := k_so hq
    subst hQ
    have hP : va_P D vwCl (mW cI cZ h ad M0) _ := hP
    have hD : va_D A (mW cI cZ h ad M0) := hD
    refine W.widen (k := 0) (n := 0) (by decide) (by decide) ?_
    have hgE := congrArg (fun X : MS => X.2.2) e3
    have hgE : M0.2.2 = M'.2.2 := hgE
    exact W.iret (v := M0.1 34) hx hb hr (fun t ht hW => ⟨⟨M0.1 34, (mW cI cZ h ad M0, [(cI, .int), (cZ, .boolean)]), rfl, ⟨e2, (congrArg (fun X : MS => ((mW cI cZ h ad X, [(cI, .int), (cZ, .boolean)]) : va_W × List (ClassId × FieldType))) e3), by omega⟩, ⟨by rw [ht]; exact hP, va_K.moved hW.alike hK, hD⟩⟩, hS.F ht⟩) hS.2.2 dX4_count_100
  rw [if_neg hs1_7] at hq
  by_cases hs1_8 : x1.toInt = 8
  · skip
    rw [if_pos hs1_8] at hq
    refine lv_tableIn (off := 100) (tgt := 101) hx hb dX4_count_1 (by rw [hs1_8]; decide) (by rw [hs1_8]; decide) (by rw [hs1_8]; rfl) (by decide) ?_
    refine lv_aload_n hx hb dX4_count_101 rfl (lv_at hl 0 rfl) ?_
    refine va_get (D := D) (ci := 4) (v := .int (M0.1 35)) (C := RX4) (T := TX4) (N := 39) hx hb hts kin_X4_count_X4 hown hK hP 0 rfl rfl 35 (by decide) (hts _ kw_X4_count__fieldLink_RX4_205_ActHouseModel_falls_I_) (fun _ h9 => h9) rfl dX4_count_102 ?_
    obtain ⟨e2, e3⟩ := k_so hq
    subst hQ
    have hP : va_P D vwCl (mW cI cZ h ad M0) _ := hP
    have hD : va_D A (mW cI cZ h ad M0) := hD
    refine W.widen (k := 0) (n := 0) (by decide) (by decide) ?_
    have hgE := congrArg (fun X : MS => X.2.2) e3
    have hgE : M0.2.2 = M'.2.2 := hgE
    exact W.iret (v := M0.1 35) hx hb hr (fun t ht hW => ⟨⟨M0.1 35, (mW cI cZ h ad M0, [(cI, .int), (cZ, .boolean)]), rfl, ⟨e2, (congrArg (fun X : MS => ((mW cI cZ h ad X, [(cI, .int), (cZ, .boolean)]) : va_W × List (ClassId × FieldType))) e3), by omega⟩, ⟨by rw [ht]; exact hP, va_K.moved hW.alike hK, hD⟩⟩, hS.F ht⟩) hS.2.2 dX4_count_105
  rw [if_neg hs1_8] at hq
  refine lv_tableOut (tgt := 106) hx hb dX4_count_1 (by omega) (by decide) ?_
  refine lv_iconst (v := (-1)) hx hb dX4_count_106 (by decide) ?_
  obtain ⟨e2, e3⟩ := k_so hq
  subst hQ
  have hP : va_P D vwCl (mW cI cZ h ad M0) _ := hP
  have hD : va_D A (mW cI cZ h ad M0) := hD
  refine W.widen (k := 0) (n := 0) (by decide) (by decide) ?_
  have hgE := congrArg (fun X : MS => X.2.2) e3
  have hgE : M0.2.2 = M'.2.2 := hgE
  exact W.iret (v := (-1)) hx hb hr (fun t ht hW => ⟨⟨(-1), (mW cI cZ h ad M0, [(cI, .int), (cZ, .boolean)]), rfl, ⟨e2, (congrArg (fun X : MS => ((mW cI cZ h ad X, [(cI, .int), (cZ, .boolean)]) : va_W × List (ClassId × FieldType))) e3), by omega⟩, ⟨by rw [ht]; exact hP, va_K.moved hW.alike hK, hD⟩⟩, hS.F ht⟩) hS.2.2 dX4_count_107
